set_option maxRecDepth 100000 in
theorem pt_d350 : ∀ c ∈ pt_c350, ∀ q ∈ c, decode (px_b pt_r350) q.1 = .ok q.2 := by decide +kernel
set_option maxRecDepth 100000 in
theorem pt_d351 : ∀ c ∈ pt_c351, ∀ q ∈ c, decode (px_b pt_r351) q.1 = .ok q.2 := by decide +kernel
set_option maxRecDepth 100000 in
theorem pt_d352 : ∀ c ∈ pt_c352, ∀ q ∈ c, decode (px_b pt_r352) q.1 = .ok q.2 := by decide +kernel
set_option maxRecDepth 100000 in
theorem pt_d353 : ∀ c ∈ pt_c353, ∀ q ∈ c, decode (px_b pt_r353) q.1 = .ok q.2 := by decide +kernel
set_option maxRecDepth 100000 in
theorem pt_d354 : ∀ c ∈ pt_c354, ∀ q ∈ c, decode (px_b pt_r354) q.1 = .ok q.2 := by decide +kernel
set_option maxRecDepth 100000 in
theorem pt_d355 : ∀ c ∈ pt_c355, ∀ q ∈ c, decode (px_b pt_r355) q.1 = .ok q.2 := by decide +kernel
set_option maxRecDepth 100000 in
theorem pt_d356 : ∀ c ∈ pt_c356, ∀ q ∈ c, decode (px_b pt_r356) q.1 = .ok q.2 := by decide +kernel
set_option maxRecDepth 100000 in
theorem pt_d357 : ∀ c ∈ pt_c357, ∀ q ∈ c, decode (px_b pt_r357) q.1 = .ok q.2 := by decide +kernel
set_option maxRecDepth 100000 in
theorem pt_d358 : ∀ c ∈ pt_c358, ∀ q ∈ c, decode (px_b pt_r358) q.1 = .ok q.2 := by decide +kernel
set_option maxRecDepth 100000 in
theorem pt_d359 : ∀ c ∈ pt_c359, ∀ q ∈ c, decode (px_b pt_r359) q.1 = .ok q.2 := by decide +kernel
set_option maxRecDepth 100000 in
theorem pt_d360 : ∀ c ∈ pt_c360, ∀ q ∈ c, decode (px_b pt_r360) q.1 = .ok q.2 := by decide +kernel
set_option maxRecDepth 100000 in
theorem pt_d361 : ∀ c ∈ pt_c361, ∀ q ∈ c, decode (px_b pt_r361) q.1 = .ok q.2 := by decide +kernel
set_option maxRecDepth 100000 in
theorem pt_d362 : ∀ c ∈ pt_c362, ∀ q ∈ c, decode (px_b pt_r362) q.1 = .ok q.2 := by decide +kernel
set_option maxRecDepth 100000 in
theorem pt_d363 : ∀ c ∈ pt_c363, ∀ q ∈ c, decode (px_b pt_r363) q.1 = .ok q.2 := by decide +kernel
set_option maxRecDepth 100000 in
theorem pt_d364 : ∀ c ∈ pt_c364, ∀ q ∈ c, decode (px_b pt_r364) q.1 = .ok q.2 := by decide +kernel
set_option maxRecDepth 100000 in
theorem pt_d365 : ∀ c ∈ pt_c365, ∀ q ∈ c, decode (px_b pt_r365) q.1 = .ok q.2 := by decide +kernel
set_option maxRecDepth 100000 in
theorem pt_d366 : ∀ c ∈ pt_c366, ∀ q ∈ c, decode (px_b pt_r366) q.1 = .ok q.2 := by decide +kernel
set_option maxRecDepth 100000 in
theorem pt_d367 : ∀ c ∈ pt_c367, ∀ q ∈ c, decode (px_b pt_r367) q.1 = .ok q.2 := by decide +kernel
set_option maxRecDepth 100000 in
theorem pt_d368 : ∀ c ∈ pt_c368, ∀ q ∈ c, decode (px_b pt_r368) q.1 = .ok q.2 := by decide +kernel
set_option maxRecDepth 100000 in
theorem pt_d369 : ∀ c ∈ pt_c369, ∀ q ∈ c, decode (px_b pt_r369) q.1 = .ok q.2 := by decide +kernel
set_option maxRecDepth 100000 in
theorem pt_d370 : ∀ c ∈ pt_c370, ∀ q ∈ c, decode (px_b pt_r370) q.1 = .ok q.2 := by decide +kernel
set_option maxRecDepth 100000 in
theorem pt_d371 : ∀ c ∈ pt_c371, ∀ q ∈ c, decode (px_b pt_r371) q.1 = .ok q.2 := by decide +kernel
set_option maxRecDepth 100000 in
theorem pt_d372 : ∀ c ∈ pt_c372, ∀ q ∈ c, decode (px_b pt_r372) q.1 = .ok q.2 := by decide +kernel
set_option maxRecDepth 100000 in
theorem pt_d373 : ∀ c ∈ pt_c373, ∀ q ∈ c, decode (px_b pt_r373) q.1 = .ok q.2 := by decide +kernel
set_option maxRecDepth 100000 in
theorem pt_d374 : ∀ c ∈ pt_c374, ∀ q ∈ c, decode (px_b pt_r374) q.1 = .ok q.2 := by decide +kernel
set_option maxRecDepth 100000 in
theorem pt_d375 : ∀ c ∈ pt_c375, ∀ q ∈ c, decode (px_b pt_r375) q.1 = .ok q.2 := by decide +kernel
set_option maxRecDepth 100000 in
theorem pt_d376 : ∀ c ∈ pt_c376, ∀ q ∈ c, decode (px_b pt_r376) q.1 = .ok q.2 := by decide +kernel
set_option maxRecDepth 100000 in
theorem pt_d377 : ∀ c ∈ pt_c377, ∀ q ∈ c, decode (px_b pt_r377) q.1 = .ok q.2 := by decide +kernel
set_option maxRecDepth 100000 in
theorem pt_d378 : ∀ c ∈ pt_c378, ∀ q ∈ c, decode (px_b pt_r378) q.1 = .ok q.2 := by decide +kernel
set_option maxRecDepth 100000 in
theorem pt_d379 : ∀ c ∈ pt_c379, ∀ q ∈ c, decode (px_b pt_r379) q.1 = .ok q.2 := by decide +kernel
set_option maxRecDepth 100000 in
theorem pt_d380 : ∀ c ∈ pt_c380, ∀ q ∈ c, decode (px_b pt_r380) q.1 = .ok q.2 := by decide +kernel
set_option maxRecDepth 100000 in
theorem pt_d381 : ∀ c ∈ pt_c381, ∀ q ∈ c, decode (px_b pt_r381) q.1 = .ok q.2 := by decide +kernel
set_option maxRecDepth 100000 in
theorem pt_d382 : ∀ c ∈ pt_c382, ∀ q ∈ c, decode (px_b pt_r382) q.1 = .ok q.2 := by decide +kernel
set_option maxRecDepth 100000 in
theorem pt_d383 : ∀ c ∈ pt_c383, ∀ q ∈ c, decode (px_b pt_r383) q.1 = .ok q.2 := by decide +kernel
set_option maxRecDepth 100000 in
theorem pt_d384 : ∀ c ∈ pt_c384, ∀ q ∈ c, decode (px_b pt_r384) q.1 = .ok q.2 := by decide +kernel
set_option maxRecDepth 100000 in
theorem pt_d385 : ∀ c ∈ pt_c385, ∀ q ∈ c, decode (px_b pt_r385) q.1 = .ok q.2 := by decide +kernel
set_option maxRecDepth 100000 in
theorem pt_d386 : ∀ c ∈ pt_c386, ∀ q ∈ c, decode (px_b pt_r386) q.1 = .ok q.2 := by decide +kernel
set_option maxRecDepth 100000 in
theorem pt_d387 : ∀ c ∈ pt_c387, ∀ q ∈ c, decode (px_b pt_r387) q.1 = .ok q.2 := by decide +kernel
set_option maxRecDepth 100000 in
theorem pt_d388 : ∀ c ∈ pt_c388, ∀ q ∈ c, decode (px_b pt_r388) q.1 = .ok q.2 := by decide +kernel
set_option maxRecDepth 100000 in
theorem pt_d389 : ∀ c ∈ pt_c389, ∀ q ∈ c, decode (px_b pt_r389) q.1 = .ok q.2 := by decide +kernel
set_option maxRecDepth 100000 in
theorem pt_d390 : ∀ c ∈ pt_c390, ∀ q ∈ c, decode (px_b pt_r390) q.1 = .ok q.2 := by decide +kernel
set_option maxRecDepth 100000 in
theorem pt_d391 : ∀ c ∈ pt_c391, ∀ q ∈ c, decode (px_b pt_r391) q.1 = .ok q.2 := by decide +kernel
set_option maxRecDepth 100000 in
theorem pt_d392 : ∀ c ∈ pt_c392, ∀ q ∈ c, decode (px_b pt_r392) q.1 = .ok q.2 := by decide +kernel
set_option maxRecDepth 100000 in
theorem pt_d393 : ∀ c ∈ pt_c393, ∀ q ∈ c, decode (px_b pt_r393) q.1 = .ok q.2 := by decide +kernel
set_option maxRecDepth 100000 in
theorem pt_d394 : ∀ c ∈ pt_c394, ∀ q ∈ c, decode (px_b pt_r394) q.1 = .ok q.2 := by decide +kernel
set_option maxRecDepth 100000 in
theorem pt_d395 : ∀ c ∈ pt_c395, ∀ q ∈ c, decode (px_b pt_r395) q.1 = .ok q.2 := by decide +kernel
set_option maxRecDepth 100000 in
theorem pt_d396 : ∀ c ∈ pt_c396, ∀ q ∈ c, decode (px_b pt_r396) q.1 = .ok q.2 := by decide +kernel
set_option maxRecDepth 100000 in
theorem pt_d397 : ∀ c ∈ pt_c397, ∀ q ∈ c, decode (px_b pt_r397) q.1 = .ok q.2 := by decide +kernel
set_option maxRecDepth 100000 in
theorem pt_d398 : ∀ c ∈ pt_c398, ∀ q ∈ c, decode (px_b pt_r398) q.1 = .ok q.2 := by decide +kernel
set_option maxRecDepth 100000 in
theorem pt_d399 : ∀ c ∈ pt_c399, ∀ q ∈ c, decode (px_b pt_r399) q.1 = .ok q.2 := by decide +kernel
set_option maxRecDepth 100000 in
theorem pt_d400 : ∀ c ∈ pt_c400, ∀ q ∈ c, decode (px_b pt_r400) q.1 = .ok q.2 := by decide +kernel
set_option maxRecDepth 100000 in
theorem pt_d401 : ∀ c ∈ pt_c401, ∀ q ∈ c, decode (px_b pt_r401) q.1 = .ok q.2 := by decide +kernel
set_option maxRecDepth 100000 in
theorem pt_d402 : ∀ c ∈ pt_c402, ∀ q ∈ c, decode (px_b pt_r402) q.1 = .ok q.2 := by decide +kernel
set_option maxRecDepth 100000 in
theorem pt_d403 : ∀ c ∈ pt_c403, ∀ q ∈ c, decode (px_b pt_r403) q.1 = .ok q.2 := by decide +kernel
set_option maxRecDepth 100000 in
theorem pt_d404 : ∀ c ∈ pt_c404, ∀ q ∈ c, decode (px_b pt_r404) q.1 = .ok q.2 := by decide +kernel
set_option maxRecDepth 100000 in
theorem pt_d405 : ∀ c ∈ pt_c405, ∀ q ∈ c, decode (px_b pt_r405) q.1 = .ok q.2 := by decide +kernel
set_option maxRecDepth 100000 in
theorem pt_d406 : ∀ c ∈ pt_c406, ∀ q ∈ c, decode (px_b pt_r406) q.1 = .ok q.2 := by decide +kernel
set_option maxRecDepth 100000 in
theorem pt_d407 : ∀ c ∈ pt_c407, ∀ q ∈ c, decode (px_b pt_r407) q.1 = .ok q.2 := by decide +kernel
set_option maxRecDepth 100000 in
theorem pt_d408 : ∀ c ∈ pt_c408, ∀ q ∈ c, decode (px_b pt_r408) q.1 = .ok q.2 := by decide +kernel
set_option maxRecDepth 100000 in
theorem pt_d409 : ∀ c ∈ pt_c409, ∀ q ∈ c, decode (px_b pt_r409) q.1 = .ok q.2 := by decide +kernel
set_option maxRecDepth 100000 in
theorem pt_d410 : ∀ c ∈ pt_c410, ∀ q ∈ c, decode (px_b pt_r410) q.1 = .ok q.2 := by decide +kernel
set_option maxRecDepth 100000 in
theorem pt_d411 : ∀ c ∈ pt_c411, ∀ q ∈ c, decode (px_b pt_r411) q.1 = .ok q.2 := by decide +kernel
set_option maxRecDepth 100000 in
theorem pt_d412_0 : ∀ q ∈ pt_c412_0, decode (px_b pt_r412) q.1 = .ok q.2 := by decide +kernel
set_option maxRecDepth 100000 in
theorem pt_d412_1 : ∀ q ∈ pt_c412_1, decode (px_b pt_r412) q.1 = .ok q.2 := by decide +kernel
set_option maxRecDepth 100000 in
theorem pt_d412_2 : ∀ q ∈ pt_c412_2, decode (px_b pt_r412) q.1 = .ok q.2 := by decide +kernel
set_option maxRecDepth 100000 in
theorem pt_d412_3 : ∀ q ∈ pt_c412_3, decode (px_b pt_r412) q.1 = .ok q.2 := by decide +kernel
set_option maxRecDepth 100000 in
theorem pt_d412_4 : ∀ q ∈ pt_c412_4, decode (px_b pt_r412) q.1 = .ok q.2 := by decide +kernel
set_option maxRecDepth 100000 in
theorem pt_d412_5 : ∀ q ∈ pt_c412_5, decode (px_b pt_r412) q.1 = .ok q.2 := by decide +kernel
set_option maxRecDepth 100000 in
theorem pt_d412_6 : ∀ q ∈ pt_c412_6, decode (px_b pt_r412) q.1 = .ok q.2 := by decide +kernel
set_option maxRecDepth 100000 in
theorem pt_d412_7 : ∀ q ∈ pt_c412_7, decode (px_b pt_r412) q.1 = .ok q.2 := by decide +kernel
set_option maxRecDepth 100000 in
theorem pt_d412_8 : ∀ q ∈ pt_c412_8, decode (px_b pt_r412) q.1 = .ok q.2 := by decide +kernel
set_option maxRecDepth 100000 in
theorem pt_d412_9 : ∀ q ∈ pt_c412_9, decode (px_b pt_r412) q.1 = .ok q.2 := by decide +kernel
set_option maxRecDepth 100000 in
theorem pt_d412_10 : ∀ q ∈ pt_c412_10, decode (px_b pt_r412) q.1 = .ok q.2 := by decide +kernel
set_option maxRecDepth 100000 in
theorem pt_d412_11 : ∀ q ∈ pt_c412_11, decode (px_b pt_r412) q.1 = .ok q.2 := by decide +kernel
set_option maxRecDepth 100000 in
theorem pt_d412_12 : ∀ q ∈ pt_c412_12, decode (px_b pt_r412) q.1 = .ok q.2 := by decide +kernel
set_option maxRecDepth 100000 in
theorem pt_d412_13 : ∀ q ∈ pt_c412_13, decode (px_b pt_r412) q.1 = .ok q.2 := by decide +kernel
set_option maxRecDepth 100000 in
theorem pt_d412_14 : ∀ q ∈ pt_c412_14, decode (px_b pt_r412) q.1 = .ok q.2 := by decide +kernel
set_option maxRecDepth 100000 in
theorem pt_d412_15 : ∀ q ∈ pt_c412_15, decode (px_b pt_r412) q.1 = .ok q.2 := by decide +kernel
set_option maxRecDepth 100000 in
theorem pt_d412_16 : ∀ q ∈ pt_c412_16, decode (px_b pt_r412) q.1 = .ok q.2 := by decide +kernel
set_option maxRecDepth 100000 in
theorem pt_d412_17 : ∀ q ∈ pt_c412_17, decode (px_b pt_r412) q.1 = .ok q.2 := by decide +kernel
set_option maxRecDepth 100000 in
theorem pt_d412_18 : ∀ q ∈ pt_c412_18, decode (px_b pt_r412) q.1 = .ok q.2 := by decide +kernel
set_option maxRecDepth 100000 in
theorem pt_d412_19 : ∀ q ∈ pt_c412_19, decode (px_b pt_r412) q.1 = .ok q.2 := by decide +kernel
set_option maxRecDepth 100000 in
theorem pt_d412_20 : ∀ q ∈ pt_c412_20, decode (px_b pt_r412) q.1 = .ok q.2 := by decide +kernel
set_option maxRecDepth 100000 in
theorem pt_d412_21 : ∀ q ∈ pt_c412_21, decode (px_b pt_r412) q.1 = .ok q.2 := by decide +kernel
set_option maxRecDepth 100000 in
theorem pt_d412_22 : ∀ q ∈ pt_c412_22, decode (px_b pt_r412) q.1 = .ok q.2 := by decide +kernel
set_option maxRecDepth 100000 in
theorem pt_d412_23 : ∀ q ∈ pt_c412_23, decode (px_b pt_r412) q.1 = .ok q.2 := by decide +kernel
set_option maxRecDepth 100000 in
theorem pt_d412_24 : ∀ q ∈ pt_c412_24, decode (px_b pt_r412) q.1 = .ok q.2 := by decide +kernel
set_option maxRecDepth 100000 in
theorem pt_d412_25 : ∀ q ∈ pt_c412_25, decode (px_b pt_r412) q.1 = .ok q.2 := by decide +kernel
set_option maxRecDepth 100000 in
theorem pt_d412_26 : ∀ q ∈ pt_c412_26, decode (px_b pt_r412) q.1 = .ok q.2 := by decide +kernel
set_option maxRecDepth 100000 in
theorem pt_d412_27 : ∀ q ∈ pt_c412_27, decode (px_b pt_r412) q.1 = .ok q.2 := by decide +kernel
set_option maxRecDepth 100000 in
theorem pt_d412_28 : ∀ q ∈ pt_c412_28, decode (px_b pt_r412) q.1 = .ok q.2 := by decide +kernel
set_option maxRecDepth 100000 in
theorem pt_d412_29 : ∀ q ∈ pt_c412_29, decode (px_b pt_r412) q.1 = .ok q.2 := by decide +kernel
set_option maxRecDepth 100000 in
theorem pt_d412_30 : ∀ q ∈ pt_c412_30, decode (px_b pt_r412) q.1 = .ok q.2 := by decide +kernel
set_option maxRecDepth 100000 in
theorem pt_d412_31 : ∀ q ∈ pt_c412_31, decode (px_b pt_r412) q.1 = .ok q.2 := by decide +kernel
set_option maxRecDepth 100000 in
theorem pt_d412_32 : ∀ q ∈ pt_c412_32, decode (px_b pt_r412) q.1 = .ok q.2 := by decide +kernel
set_option maxRecDepth 100000 in
theorem pt_d412_33 : ∀ q ∈ pt_c412_33, decode (px_b pt_r412) q.1 = .ok q.2 := by decide +kernel
set_option maxRecDepth 100000 in
theorem pt_d412_34 : ∀ q ∈ pt_c412_34, decode (px_b pt_r412) q.1 = .ok q.2 := by decide +kernel
set_option maxRecDepth 100000 in
theorem pt_d412_35 : ∀ q ∈ pt_c412_35, decode (px_b pt_r412) q.1 = .ok q.2 := by decide +kernel
set_option maxRecDepth 100000 in
theorem pt_d412_36 : ∀ q ∈ pt_c412_36, decode (px_b pt_r412) q.1 = .ok q.2 := by decide +kernel
set_option maxRecDepth 100000 in
theorem pt_d412_37 : ∀ q ∈ pt_c412_37, decode (px_b pt_r412) q.1 = .ok q.2 := by decide +kernel
set_option maxRecDepth 100000 in
theorem pt_d412_38 : ∀ q ∈ pt_c412_38, decode (px_b pt_r412) q.1 = .ok q.2 := by decide +kernel
set_option maxRecDepth 100000 in
theorem pt_d412_39 : ∀ q ∈ pt_c412_39, decode (px_b pt_r412) q.1 = .ok q.2 := by decide +kernel
set_option maxRecDepth 100000 in
theorem pt_d412_40 : ∀ q ∈ pt_c412_40, decode (px_b pt_r412) q.1 = .ok q.2 := by decide +kernel
set_option maxRecDepth 100000 in
theorem pt_d412_41 : ∀ q ∈ pt_c412_41, decode (px_b pt_r412) q.1 = .ok q.2 := by decide +kernel
set_option maxRecDepth 100000 in
theorem pt_d412_42 : ∀ q ∈ pt_c412_42, decode (px_b pt_r412) q.1 = .ok q.2 := by decide +kernel
set_option maxRecDepth 100000 in
theorem pt_d412_43 : ∀ q ∈ pt_c412_43, decode (px_b pt_r412) q.1 = .ok q.2 := by decide +kernel
set_option maxRecDepth 100000 in
theorem pt_d412_44 : ∀ q ∈ pt_c412_44, decode (px_b pt_r412) q.1 = .ok q.2 := by decide +kernel
set_option maxRecDepth 100000 in
theorem pt_d412_45 : ∀ q ∈ pt_c412_45, decode (px_b pt_r412) q.1 = .ok q.2 := by decide +kernel
set_option maxRecDepth 100000 in
theorem pt_d412_46 : ∀ q ∈ pt_c412_46, decode (px_b pt_r412) q.1 = .ok q.2 := by decide +kernel
set_option maxRecDepth 100000 in
theorem pt_d412_47 : ∀ q ∈ pt_c412_47, decode (px_b pt_r412) q.1 = .ok q.2 := by decide +kernel
set_option maxRecDepth 100000 in
theorem pt_d412_48 : ∀ q ∈ pt_c412_48, decode (px_b pt_r412) q.1 = .ok q.2 := by decide +kernel
set_option maxRecDepth 100000 in
theorem pt_d412_49 : ∀ q ∈ pt_c412_49, decode (px_b pt_r412) q.1 = .ok q.2 := by decide +kernel
set_option maxRecDepth 100000 in
theorem pt_d412_50 : ∀ q ∈ pt_c412_50, decode (px_b pt_r412) q.1 = .ok q.2 := by decide +kernel
set_option maxRecDepth 100000 in
theorem pt_d412_51 : ∀ q ∈ pt_c412_51, decode (px_b pt_r412) q.1 = .ok q.2 := by decide +kernel
set_option maxRecDepth 100000 in
theorem pt_d412_52 : ∀ q ∈ pt_c412_52, decode (px_b pt_r412) q.1 = .ok q.2 := by decide +kernel
set_option maxRecDepth 100000 in
theorem pt_d412_53 : ∀ q ∈ pt_c412_53, decode (px_b pt_r412) q.1 = .ok q.2 := by decide +kernel
set_option maxRecDepth 100000 in
theorem pt_d412_54 : ∀ q ∈ pt_c412_54, decode (px_b pt_r412) q.1 = .ok q.2 := by decide +kernel
set_option maxRecDepth 100000 in
theorem pt_d412_55 : ∀ q ∈ pt_c412_55, decode (px_b pt_r412) q.1 = .ok q.2 := by decide +kernel
set_option maxRecDepth 100000 in
theorem pt_d412_56 : ∀ q ∈ pt_c412_56, decode (px_b pt_r412) q.1 = .ok q.2 := by decide +kernel
set_option maxRecDepth 100000 in
theorem pt_d412_57 : ∀ q ∈ pt_c412_57, decode (px_b pt_r412) q.1 = .ok q.2 := by decide +kernel
set_option maxRecDepth 100000 in
theorem pt_d412_58 : ∀ q ∈ pt_c412_58, decode (px_b pt_r412) q.1 = .ok q.2 := by decide +kernel
set_option maxRecDepth 100000 in
theorem pt_d412_59 : ∀ q ∈ pt_c412_59, decode (px_b pt_r412) q.1 = .ok q.2 := by decide +kernel
set_option maxRecDepth 100000 in
theorem pt_d412_60 : ∀ q ∈ pt_c412_60, decode (px_b pt_r412) q.1 = .ok q.2 := by decide +kernel
set_option maxRecDepth 100000 in
theorem pt_d412_61 : ∀ q ∈ pt_c412_61, decode (px_b pt_r412) q.1 = .ok q.2 := by decide +kernel
set_option maxRecDepth 100000 in
theorem pt_d412_62 : ∀ q ∈ pt_c412_62, decode (px_b pt_r412) q.1 = .ok q.2 := by decide +kernel
set_option maxRecDepth 100000 in
theorem pt_d412_63 : ∀ q ∈ pt_c412_63, decode (px_b pt_r412) q.1 = .ok q.2 := by decide +kernel
set_option maxRecDepth 100000 in
theorem pt_d412_64 : ∀ q ∈ pt_c412_64, decode (px_b pt_r412) q.1 = .ok q.2 := by decide +kernel
set_option maxRecDepth 100000 in
theorem pt_d412_65 : ∀ q ∈ pt_c412_65, decode (px_b pt_r412) q.1 = .ok q.2 := by decide +kernel
set_option maxRecDepth 100000 in
theorem pt_d412_66 : ∀ q ∈ pt_c412_66, decode (px_b pt_r412) q.1 = .ok q.2 := by decide +kernel
set_option maxRecDepth 100000 in
theorem pt_d412_67 : ∀ q ∈ pt_c412_67, decode (px_b pt_r412) q.1 = .ok q.2 := by decide +kernel
set_option maxRecDepth 100000 in
theorem pt_d412_68 : ∀ q ∈ pt_c412_68, decode (px_b pt_r412) q.1 = .ok q.2 := by decide +kernel
set_option maxRecDepth 100000 in
theorem pt_d412_69 : ∀ q ∈ pt_c412_69, decode (px_b pt_r412) q.1 = .ok q.2 := by decide +kernel
set_option maxRecDepth 100000 in
theorem pt_d412_70 : ∀ q ∈ pt_c412_70, decode (px_b pt_r412) q.1 = .ok q.2 := by decide +kernel
set_option maxRecDepth 100000 in
theorem pt_d412_71 : ∀ q ∈ pt_c412_71, decode (px_b pt_r412) q.1 = .ok q.2 := by decide +kernel
set_option maxRecDepth 100000 in
theorem pt_d412_72 : ∀ q ∈ pt_c412_72, decode (px_b pt_r412) q.1 = .ok q.2 := by decide +kernel
set_option maxRecDepth 100000 in
theorem pt_d412_73 : ∀ q ∈ pt_c412_73, decode (px_b pt_r412) q.1 = .ok q.2 := by decide +kernel
set_option maxRecDepth 100000 in
theorem pt_d412_74 : ∀ q ∈ pt_c412_74, decode (px_b pt_r412) q.1 = .ok q.2 := by decide +kernel
set_option maxRecDepth 100000 in
theorem pt_d412_75 : ∀ q ∈ pt_c412_75, decode (px_b pt_r412) q.1 = .ok q.2 := by decide +kernel
set_option maxRecDepth 100000 in
theorem pt_d412_76 : ∀ q ∈ pt_c412_76, decode (px_b pt_r412) q.1 = .ok q.2 := by decide +kernel
set_option maxRecDepth 100000 in
theorem pt_d412_77 : ∀ q ∈ pt_c412_77, decode (px_b pt_r412) q.1 = .ok q.2 := by decide +kernel
set_option maxRecDepth 100000 in
theorem pt_d412_78 : ∀ q ∈ pt_c412_78, decode (px_b pt_r412) q.1 = .ok q.2 := by decide +kernel
set_option maxRecDepth 100000 in
theorem pt_d412_79 : ∀ q ∈ pt_c412_79, decode (px_b pt_r412) q.1 = .ok q.2 := by decide +kernel
set_option maxRecDepth 100000 in
theorem pt_d412_80 : ∀ q ∈ pt_c412_80, decode (px_b pt_r412) q.1 = .ok q.2 := by decide +kernel
set_option maxRecDepth 100000 in
theorem pt_d412_81 : ∀ q ∈ pt_c412_81, decode (px_b pt_r412) q.1 = .ok q.2 := by decide +kernel
set_option maxRecDepth 100000 in
theorem pt_d412_82 : ∀ q ∈ pt_c412_82, decode (px_b pt_r412) q.1 = .ok q.2 := by decide +kernel
set_option maxRecDepth 100000 in
theorem pt_d412_83 : ∀ q ∈ pt_c412_83, decode (px_b pt_r412) q.1 = .ok q.2 := by decide +kernel
set_option maxRecDepth 100000 in
theorem pt_d412_84 : ∀ q ∈ pt_c412_84, decode (px_b pt_r412) q.1 = .ok q.2 := by decide +kernel
set_option maxRecDepth 100000 in
theorem pt_d412_85 : ∀ q ∈ pt_c412_85, decode (px_b pt_r412) q.1 = .ok q.2 := by decide +kernel
set_option maxRecDepth 100000 in
theorem pt_d412_86 : ∀ q ∈ pt_c412_86, decode (px_b pt_r412) q.1 = .ok q.2 := by decide +kernel
set_option maxRecDepth 100000 in
theorem pt_d412_87 : ∀ q ∈ pt_c412_87, decode (px_b pt_r412) q.1 = .ok q.2 := by decide +kernel
set_option maxRecDepth 100000 in
theorem pt_d412_88 : ∀ q ∈ pt_c412_88, decode (px_b pt_r412) q.1 = .ok q.2 := by decide +kernel
set_option maxRecDepth 100000 in
theorem pt_d412_89 : ∀ q ∈ pt_c412_89, decode (px_b pt_r412) q.1 = .ok q.2 := by decide +kernel
set_option maxRecDepth 100000 in
theorem pt_d412_90 : ∀ q ∈ pt_c412_90, decode (px_b pt_r412) q.1 = .ok q.2 := by decide +kernel
set_option maxRecDepth 100000 in
theorem pt_d412_91 : ∀ q ∈ pt_c412_91, decode (px_b pt_r412) q.1 = .ok q.2 := by decide +kernel
set_option maxRecDepth 100000 in
theorem pt_d412_92 : ∀ q ∈ pt_c412_92, decode (px_b pt_r412) q.1 = .ok q.2 := by decide +kernel
set_option maxRecDepth 100000 in
theorem pt_d412_93 : ∀ q ∈ pt_c412_93, decode (px_b pt_r412) q.1 = .ok q.2 := by decide +kernel
set_option maxRecDepth 100000 in
theorem pt_d412_94 : ∀ q ∈ pt_c412_94, decode (px_b pt_r412) q.1 = .ok q.2 := by decide +kernel
set_option maxRecDepth 100000 in
theorem pt_d412_95 : ∀ q ∈ pt_c412_95, decode (px_b pt_r412) q.1 = .ok q.2 := by decide +kernel
set_option maxRecDepth 100000 in
theorem pt_d412_96 : ∀ q ∈ pt_c412_96, decode (px_b pt_r412) q.1 = .ok q.2 := by decide +kernel
set_option maxRecDepth 100000 in
theorem pt_d412_97 : ∀ q ∈ pt_c412_97, decode (px_b pt_r412) q.1 = .ok q.2 := by decide +kernel
set_option maxRecDepth 100000 in
theorem pt_d412_98 : ∀ q ∈ pt_c412_98, decode (px_b pt_r412) q.1 = .ok q.2 := by decide +kernel
set_option maxRecDepth 100000 in
theorem pt_d412_99 : ∀ q ∈ pt_c412_99, decode (px_b pt_r412) q.1 = .ok q.2 := by decide +kernel
set_option maxRecDepth 100000 in
theorem pt_d412 : ∀ c ∈ pt_c412, ∀ q ∈ c, decode (px_b pt_r412) q.1 = .ok q.2 := List.forall_mem_cons.mpr ⟨pt_d412_0, List.forall_mem_cons.mpr ⟨pt_d412_1, List.forall_mem_cons.mpr ⟨pt_d412_2, List.forall_mem_cons.mpr ⟨pt_d412_3, List.forall_mem_cons.mpr ⟨pt_d412_4, List.forall_mem_cons.mpr ⟨pt_d412_5, List.forall_mem_cons.mpr ⟨pt_d412_6, List.forall_mem_cons.mpr ⟨pt_d412_7, List.forall_mem_cons.mpr ⟨pt_d412_8, List.forall_mem_cons.mpr ⟨pt_d412_9, List.forall_mem_cons.mpr ⟨pt_d412_10, List.forall_mem_cons.mpr ⟨pt_d412_11, List.forall_mem_cons.mpr ⟨pt_d412_12, List.forall_mem_cons.mpr ⟨pt_d412_13, List.forall_mem_cons.mpr ⟨pt_d412_14, List.forall_mem_cons.mpr ⟨pt_d412_15, List.forall_mem_cons.mpr ⟨pt_d412_16, List.forall_mem_cons.mpr ⟨pt_d412_17, List.forall_mem_cons.mpr ⟨pt_d412_18, List.forall_mem_cons.mpr ⟨pt_d412_19, List.forall_mem_cons.mpr ⟨pt_d412_20, List.forall_mem_cons.mpr ⟨pt_d412_21, List.forall_mem_cons.mpr ⟨pt_d412_22, List.forall_mem_cons.mpr ⟨pt_d412_23, List.forall_mem_cons.mpr ⟨pt_d412_24, List.forall_mem_cons.mpr ⟨pt_d412_25, List.forall_mem_cons.mpr ⟨pt_d412_26, List.forall_mem_cons.mpr ⟨pt_d412_27, List.forall_mem_cons.mpr ⟨pt_d412_28, List.forall_mem_cons.mpr ⟨pt_d412_29, List.forall_mem_cons.mpr ⟨pt_d412_30, List.forall_mem_cons.mpr ⟨pt_d412_31, List.forall_mem_cons.mpr ⟨pt_d412_32, List.forall_mem_cons.mpr ⟨pt_d412_33, List.forall_mem_cons.mpr ⟨pt_d412_34, List.forall_mem_cons.mpr ⟨pt_d412_35, List.forall_mem_cons.mpr ⟨pt_d412_36, List.forall_mem_cons.mpr ⟨pt_d412_37, List.forall_mem_cons.mpr ⟨pt_d412_38, List.forall_mem_cons.mpr ⟨pt_d412_39, List.forall_mem_cons.mpr ⟨pt_d412_40, List.forall_mem_cons.mpr ⟨pt_d412_41, List.forall_mem_cons.mpr ⟨pt_d412_42, List.forall_mem_cons.mpr ⟨pt_d412_43, List.forall_mem_cons.mpr ⟨pt_d412_44, List.forall_mem_cons.mpr ⟨pt_d412_45, List.forall_mem_cons.mpr ⟨pt_d412_46, List.forall_mem_cons.mpr ⟨pt_d412_47, List.forall_mem_cons.mpr ⟨pt_d412_48, List.forall_mem_cons.mpr ⟨pt_d412_49, List.forall_mem_cons.mpr ⟨pt_d412_50, List.forall_mem_cons.mpr ⟨pt_d412_51, List.forall_mem_cons.mpr ⟨pt_d412_52, List.forall_mem_cons.mpr ⟨pt_d412_53, List.forall_mem_cons.mpr ⟨pt_d412_54, List.forall_mem_cons.mpr ⟨pt_d412_55, List.forall_mem_cons.mpr ⟨pt_d412_56, List.forall_mem_cons.mpr ⟨pt_d412_57, List.forall_mem_cons.mpr ⟨pt_d412_58, List.forall_mem_cons.mpr ⟨pt_d412_59, List.forall_mem_cons.mpr ⟨pt_d412_60, List.forall_mem_cons.mpr ⟨pt_d412_61, List.forall_mem_cons.mpr ⟨pt_d412_62, List.forall_mem_cons.mpr ⟨pt_d412_63, List.forall_mem_cons.mpr ⟨pt_d412_64, List.forall_mem_cons.mpr ⟨pt_d412_65, List.forall_mem_cons.mpr ⟨pt_d412_66, List.forall_mem_cons.mpr ⟨pt_d412_67, List.forall_mem_cons.mpr ⟨pt_d412_68, List.forall_mem_cons.mpr ⟨pt_d412_69, List.forall_mem_cons.mpr ⟨pt_d412_70, List.forall_mem_cons.mpr ⟨pt_d412_71, List.forall_mem_cons.mpr ⟨pt_d412_72, List.forall_mem_cons.mpr ⟨pt_d412_73, List.forall_mem_cons.mpr ⟨pt_d412_74, List.forall_mem_cons.mpr ⟨pt_d412_75, List.forall_mem_cons.mpr ⟨pt_d412_76, List.forall_mem_cons.mpr ⟨pt_d412_77, List.forall_mem_cons.mpr ⟨pt_d412_78, List.forall_mem_cons.mpr ⟨pt_d412_79, List.forall_mem_cons.mpr ⟨pt_d412_80, List.forall_mem_cons.mpr ⟨pt_d412_81, List.forall_mem_cons.mpr ⟨pt_d412_82, List.forall_mem_cons.mpr ⟨pt_d412_83, List.forall_mem_cons.mpr ⟨pt_d412_84, List.forall_mem_cons.mpr ⟨pt_d412_85, List.forall_mem_cons.mpr ⟨pt_d412_86, List.forall_mem_cons.mpr ⟨pt_d412_87, List.forall_mem_cons.mpr ⟨pt_d412_88, List.forall_mem_cons.mpr ⟨pt_d412_89, List.forall_mem_cons.mpr ⟨pt_d412_90, List.forall_mem_cons.mpr ⟨pt_d412_91, List.forall_mem_cons.mpr ⟨pt_d412_92, List.forall_mem_cons.mpr ⟨pt_d412_93, List.forall_mem_cons.mpr ⟨pt_d412_94, List.forall_mem_cons.mpr ⟨pt_d412_95, List.forall_mem_cons.mpr ⟨pt_d412_96, List.forall_mem_cons.mpr ⟨pt_d412_97, List.forall_mem_cons.mpr ⟨pt_d412_98, List.forall_mem_cons.mpr ⟨pt_d412_99, fun _ h => absurd h List.not_mem_nil⟩⟩⟩⟩⟩⟩⟩⟩⟩⟩⟩⟩⟩⟩⟩⟩⟩⟩⟩⟩⟩⟩⟩⟩⟩⟩⟩⟩⟩⟩⟩⟩⟩⟩⟩⟩⟩⟩⟩⟩⟩⟩⟩⟩⟩⟩⟩⟩⟩⟩⟩⟩⟩⟩⟩⟩⟩⟩⟩⟩⟩⟩⟩⟩⟩⟩⟩⟩⟩⟩⟩⟩⟩⟩⟩⟩⟩⟩⟩⟩⟩⟩⟩⟩⟩⟩⟩⟩⟩⟩⟩⟩⟩⟩⟩⟩⟩⟩⟩⟩

/-! THE TABLES SAY WHAT IS SO: each entry by its word, each row by its bytes -/
set_option maxRecDepth 100000 in
theorem pt_okF_0 : (pt_F 0).all (px_okF 0) = true := by decide +kernel
set_option maxRecDepth 100000 in
theorem pt_okF_1 : (pt_F 1).all (px_okF 1) = true := by decide +kernel
set_option maxRecDepth 100000 in
theorem pt_okF_2 : (pt_F 2).all (px_okF 2) = true := by decide +kernel
set_option maxRecDepth 100000 in
theorem pt_okF_3 : (pt_F 3).all (px_okF 3) = true := by decide +kernel
set_option maxRecDepth 100000 in
theorem pt_okF_4 : (pt_F 4).all (px_okF 4) = true := by decide +kernel
set_option maxRecDepth 100000 in
theorem pt_okF_5 : (pt_F 5).all (px_okF 5) = true := by decide +kernel
set_option maxRecDepth 100000 in
theorem pt_okF_6 : (pt_F 6).all (px_okF 6) = true := by decide +kernel
set_option maxRecDepth 100000 in
theorem pt_okF_7 : (pt_F 7).all (px_okF 7) = true := by decide +kernel
set_option maxRecDepth 100000 in
theorem pt_okF_8 : (pt_F 8).all (px_okF 8) = true := by decide +kernel
set_option maxRecDepth 100000 in
theorem pt_okF_9 : (pt_F 9).all (px_okF 9) = true := by decide +kernel
set_option maxRecDepth 100000 in
theorem pt_okF_10 : (pt_F 10).all (px_okF 10) = true := by decide +kernel
set_option maxRecDepth 100000 in
theorem pt_okF_11 : (pt_F 11).all (px_okF 11) = true := by decide +kernel
set_option maxRecDepth 100000 in
theorem pt_okF_12 : (pt_F 12).all (px_okF 12) = true := by decide +kernel
theorem pt_okF (c : Nat) : (pt_F c).all (px_okF c) = true := match c with
  | 0 => pt_okF_0
  | 1 => pt_okF_1
  | 2 => pt_okF_2
  | 3 => pt_okF_3
  | 4 => pt_okF_4
  | 5 => pt_okF_5
  | 6 => pt_okF_6
  | 7 => pt_okF_7
  | 8 => pt_okF_8
  | 9 => pt_okF_9
  | 10 => pt_okF_10
  | 11 => pt_okF_11
  | 12 => pt_okF_12
  | n + 13 => rfl
set_option maxRecDepth 100000 in
theorem pt_okN_0 : (pt_N 0).all (px_okN 0) = true := by decide +kernel
set_option maxRecDepth 100000 in
theorem pt_okN_1 : (pt_N 1).all (px_okN 1) = true := by decide +kernel
set_option maxRecDepth 100000 in
theorem pt_okN_2 : (pt_N 2).all (px_okN 2) = true := by decide +kernel
set_option maxRecDepth 100000 in
theorem pt_okN_3 : (pt_N 3).all (px_okN 3) = true := by decide +kernel
set_option maxRecDepth 100000 in
theorem pt_okN_4 : (pt_N 4).all (px_okN 4) = true := by decide +kernel
set_option maxRecDepth 100000 in
theorem pt_okN_5 : (pt_N 5).all (px_okN 5) = true := by decide +kernel
set_option maxRecDepth 100000 in
theorem pt_okN_6 : (pt_N 6).all (px_okN 6) = true := by decide +kernel
set_option maxRecDepth 100000 in
theorem pt_okN_7 : (pt_N 7).all (px_okN 7) = true := by decide +kernel
set_option maxRecDepth 100000 in
theorem pt_okN_8 : (pt_N 8).all (px_okN 8) = true := by decide +kernel
set_option maxRecDepth 100000 in
theorem pt_okN_9 : (pt_N 9).all (px_okN 9) = true := by decide +kernel
set_option maxRecDepth 100000 in
theorem pt_okN_10 : (pt_N 10).all (px_okN 10) = true := by decide +kernel
set_option maxRecDepth 100000 in
theorem pt_okN_11 : (pt_N 11).all (px_okN 11) = true := by decide +kernel
set_option maxRecDepth 100000 in
theorem pt_okN_12 : (pt_N 12).all (px_okN 12) = true := by decide +kernel
theorem pt_okN (c : Nat) : (pt_N c).all (px_okN c) = true := match c with
  | 0 => pt_okN_0
  | 1 => pt_okN_1
  | 2 => pt_okN_2
  | 3 => pt_okN_3
  | 4 => pt_okN_4
  | 5 => pt_okN_5
  | 6 => pt_okN_6
  | 7 => pt_okN_7
  | 8 => pt_okN_8
  | 9 => pt_okN_9
  | 10 => pt_okN_10
  | 11 => pt_okN_11
  | 12 => pt_okN_12
  | n + 13 => rfl
set_option maxRecDepth 100000 in
theorem pt_okK_0 : (pt_K 0).all (px_okK 0) = true := by decide +kernel
set_option maxRecDepth 100000 in
theorem pt_okK_1 : (pt_K 1).all (px_okK 1) = true := by decide +kernel
set_option maxRecDepth 100000 in
theorem pt_okK_2 : (pt_K 2).all (px_okK 2) = true := by decide +kernel
set_option maxRecDepth 100000 in
theorem pt_okK_3 : (pt_K 3).all (px_okK 3) = true := by decide +kernel
set_option maxRecDepth 100000 in
theorem pt_okK_4 : (pt_K 4).all (px_okK 4) = true := by decide +kernel
set_option maxRecDepth 100000 in
theorem pt_okK_5 : (pt_K 5).all (px_okK 5) = true := by decide +kernel
set_option maxRecDepth 100000 in
theorem pt_okK_6 : (pt_K 6).all (px_okK 6) = true := by decide +kernel
set_option maxRecDepth 100000 in
theorem pt_okK_7 : (pt_K 7).all (px_okK 7) = true := by decide +kernel
set_option maxRecDepth 100000 in
theorem pt_okK_8 : (pt_K 8).all (px_okK 8) = true := by decide +kernel
set_option maxRecDepth 100000 in
theorem pt_okK_9 : (pt_K 9).all (px_okK 9) = true := by decide +kernel
set_option maxRecDepth 100000 in
theorem pt_okK_10 : (pt_K 10).all (px_okK 10) = true := by decide +kernel
set_option maxRecDepth 100000 in
theorem pt_okK_11 : (pt_K 11).all (px_okK 11) = true := by decide +kernel
set_option maxRecDepth 100000 in
theorem pt_okK_12 : (pt_K 12).all (px_okK 12) = true := by decide +kernel
theorem pt_okK (c : Nat) : (pt_K c).all (px_okK c) = true := match c with
  | 0 => pt_okK_0
  | 1 => pt_okK_1
  | 2 => pt_okK_2
  | 3 => pt_okK_3
  | 4 => pt_okK_4
  | 5 => pt_okK_5
  | 6 => pt_okK_6
  | 7 => pt_okK_7
  | 8 => pt_okK_8
  | 9 => pt_okK_9
  | 10 => pt_okK_10
  | 11 => pt_okK_11
  | 12 => pt_okK_12
  | n + 13 => rfl
set_option maxRecDepth 100000 in
theorem pt_okE_0 : (pt_E 0).all (px_okE 0) = true := by decide +kernel
set_option maxRecDepth 100000 in
theorem pt_okE_1 : (pt_E 1).all (px_okE 1) = true := by decide +kernel
set_option maxRecDepth 100000 in
theorem pt_okE_2 : (pt_E 2).all (px_okE 2) = true := by decide +kernel
set_option maxRecDepth 100000 in
theorem pt_okE_3 : (pt_E 3).all (px_okE 3) = true := by decide +kernel
set_option maxRecDepth 100000 in
theorem pt_okE_4 : (pt_E 4).all (px_okE 4) = true := by decide +kernel
set_option maxRecDepth 100000 in
theorem pt_okE_5 : (pt_E 5).all (px_okE 5) = true := by decide +kernel
set_option maxRecDepth 100000 in
theorem pt_okE_6 : (pt_E 6).all (px_okE 6) = true := by decide +kernel
set_option maxRecDepth 100000 in
theorem pt_okE_7 : (pt_E 7).all (px_okE 7) = true := by decide +kernel
set_option maxRecDepth 100000 in
theorem pt_okE_8 : (pt_E 8).all (px_okE 8) = true := by decide +kernel
set_option maxRecDepth 100000 in
theorem pt_okE_9 : (pt_E 9).all (px_okE 9) = true := by decide +kernel
set_option maxRecDepth 100000 in
theorem pt_okE_10 : (pt_E 10).all (px_okE 10) = true := by decide +kernel
set_option maxRecDepth 100000 in
theorem pt_okE_11 : (pt_E 11).all (px_okE 11) = true := by decide +kernel
set_option maxRecDepth 100000 in
theorem pt_okE_12 : (pt_E 12).all (px_okE 12) = true := by decide +kernel
theorem pt_okE (c : Nat) : (pt_E c).all (px_okE c) = true := match c with
  | 0 => pt_okE_0
  | 1 => pt_okE_1
  | 2 => pt_okE_2
  | 3 => pt_okE_3
  | 4 => pt_okE_4
  | 5 => pt_okE_5
  | 6 => pt_okE_6
  | 7 => pt_okE_7
  | 8 => pt_okE_8
  | 9 => pt_okE_9
  | 10 => pt_okE_10
  | 11 => pt_okE_11
  | 12 => pt_okE_12
  | n + 13 => rfl
theorem pt_okE2_0 : (pt_E 0).all px_okE2 = true := by decide +kernel
theorem pt_okT_0 : (pt_T 0).all (px_okT 0) = true := by decide +kernel
theorem pt_okE2_1 : (pt_E 1).all px_okE2 = true := by decide +kernel
theorem pt_okT_1 : (pt_T 1).all (px_okT 1) = true := by decide +kernel
theorem pt_okE2_2 : (pt_E 2).all px_okE2 = true := by decide +kernel
theorem pt_okT_2 : (pt_T 2).all (px_okT 2) = true := by decide +kernel
theorem pt_okE2_3 : (pt_E 3).all px_okE2 = true := by decide +kernel
theorem pt_okT_3 : (pt_T 3).all (px_okT 3) = true := by decide +kernel
theorem pt_okE2_4 : (pt_E 4).all px_okE2 = true := by decide +kernel
theorem pt_okT_4 : (pt_T 4).all (px_okT 4) = true := by decide +kernel
theorem pt_okE2_5 : (pt_E 5).all px_okE2 = true := by decide +kernel
theorem pt_okT_5 : (pt_T 5).all (px_okT 5) = true := by decide +kernel
theorem pt_okE2_6 : (pt_E 6).all px_okE2 = true := by decide +kernel
theorem pt_okT_6 : (pt_T 6).all (px_okT 6) = true := by decide +kernel
theorem pt_okE2_7 : (pt_E 7).all px_okE2 = true := by decide +kernel
theorem pt_okT_7 : (pt_T 7).all (px_okT 7) = true := by decide +kernel
theorem pt_okE2_8 : (pt_E 8).all px_okE2 = true := by decide +kernel
theorem pt_okT_8 : (pt_T 8).all (px_okT 8) = true := by decide +kernel
theorem pt_okE2_9 : (pt_E 9).all px_okE2 = true := by decide +kernel
theorem pt_okT_9 : (pt_T 9).all (px_okT 9) = true := by decide +kernel
theorem pt_okE2_10 : (pt_E 10).all px_okE2 = true := by decide +kernel
theorem pt_okT_10 : (pt_T 10).all (px_okT 10) = true := by decide +kernel
theorem pt_okE2_11 : (pt_E 11).all px_okE2 = true := by decide +kernel
theorem pt_okT_11 : (pt_T 11).all (px_okT 11) = true := by decide +kernel
theorem pt_okE2_12 : (pt_E 12).all px_okE2 = true := by decide +kernel
theorem pt_okT_12 : (pt_T 12).all (px_okT 12) = true := by decide +kernel
theorem pt_okE2 (c : Nat) : (pt_E c).all px_okE2 = true := match c with
  | 0 => pt_okE2_0
  | 1 => pt_okE2_1
  | 2 => pt_okE2_2
  | 3 => pt_okE2_3
  | 4 => pt_okE2_4
  | 5 => pt_okE2_5
  | 6 => pt_okE2_6
  | 7 => pt_okE2_7
  | 8 => pt_okE2_8
  | 9 => pt_okE2_9
  | 10 => pt_okE2_10
  | 11 => pt_okE2_11
  | 12 => pt_okE2_12
  | n + 13 => rfl
theorem pt_okT (c : Nat) : (pt_T c).all (px_okT c) = true := match c with
  | 0 => pt_okT_0
  | 1 => pt_okT_1
  | 2 => pt_okT_2
  | 3 => pt_okT_3
  | 4 => pt_okT_4
  | 5 => pt_okT_5
  | 6 => pt_okT_6
  | 7 => pt_okT_7
  | 8 => pt_okT_8
  | 9 => pt_okT_9
  | 10 => pt_okT_10
  | 11 => pt_okT_11
  | 12 => pt_okT_12
  | n + 13 => rfl
theorem pt_cn : ∀ c, pt_ob c < 9 → px_Cn (pt_ob c) = pt_own c
  | 0, h => rfl
  | 1, h => absurd h (by decide)
  | 2, h => rfl
  | 3, h => rfl
  | 4, h => rfl
  | 5, h => rfl
  | 6, h => rfl
  | 7, h => rfl
  | 8, h => absurd h (by decide)
  | 9, h => rfl
  | 10, h => rfl
  | 11, h => absurd h (by decide)
  | 12, h => absurd h (by decide)
  | n + 13, h => absurd h (by simp [pt_ob])
theorem pt_iniS : px_wd 342 (.initialized "java/lang/IllegalStateException") = true := by decide +kernel
theorem pt_iniA : px_wd 463 (.initialized "java/lang/IllegalArgumentException") = true := by decide +kernel
theorem pt_iniI : px_wd 2944 (.initialized "java/lang/IndexOutOfBoundsException") = true := by decide +kernel
theorem pt_arr_int : px_wd 87 (.arrayClass .int) = true := by decide +kernel
theorem pt_arr_byte : px_wd 73 (.arrayClass .byte) = true := by decide +kernel
theorem pt_arr_long : px_wd 6 (.arrayClass .long) = true := by decide +kernel
theorem pt_arr_double : px_wd 7 (.arrayClass .double) = true := by decide +kernel

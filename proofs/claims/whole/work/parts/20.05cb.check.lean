set_option maxRecDepth 100000 in
theorem pt_okM_0 : (pt_M 0).all (px_okM 0) = true := by decide +kernel
set_option maxRecDepth 100000 in
theorem pt_okM_1 : (pt_M 1).all (px_okM 1) = true := by decide +kernel
set_option maxRecDepth 100000 in
theorem pt_okM_2 : (pt_M 2).all (px_okM 2) = true := by decide +kernel
set_option maxRecDepth 100000 in
theorem pt_okM_3 : (pt_M 3).all (px_okM 3) = true := by decide +kernel
set_option maxRecDepth 100000 in
theorem pt_okM_4 : (pt_M 4).all (px_okM 4) = true := by decide +kernel
set_option maxRecDepth 100000 in
theorem pt_okM_5 : (pt_M 5).all (px_okM 5) = true := by decide +kernel
set_option maxRecDepth 100000 in
theorem pt_okM_6 : (pt_M 6).all (px_okM 6) = true := by decide +kernel
set_option maxRecDepth 100000 in
theorem pt_okM_7 : (pt_M 7).all (px_okM 7) = true := by decide +kernel
set_option maxRecDepth 100000 in
theorem pt_okM_8 : (pt_M 8).all (px_okM 8) = true := by decide +kernel
set_option maxRecDepth 100000 in
theorem pt_okM_9 : (pt_M 9).all (px_okM 9) = true := by decide +kernel
set_option maxRecDepth 100000 in
theorem pt_okM_10 : (pt_M 10).all (px_okM 10) = true := by decide +kernel
set_option maxRecDepth 100000 in
theorem pt_okM_11 : (pt_M 11).all (px_okM 11) = true := by decide +kernel
set_option maxRecDepth 100000 in
theorem pt_okM_12 : (pt_M 12).all (px_okM 12) = true := by decide +kernel
theorem pt_okM (c : Nat) : (pt_M c).all (px_okM c) = true := match c with
  | 0 => pt_okM_0
  | 1 => pt_okM_1
  | 2 => pt_okM_2
  | 3 => pt_okM_3
  | 4 => pt_okM_4
  | 5 => pt_okM_5
  | 6 => pt_okM_6
  | 7 => pt_okM_7
  | 8 => pt_okM_8
  | 9 => pt_okM_9
  | 10 => pt_okM_10
  | 11 => pt_okM_11
  | 12 => pt_okM_12
  | n + 13 => rfl

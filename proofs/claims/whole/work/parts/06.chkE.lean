set_option maxRecDepth 100000 in
theorem q_ok_26 : [208, 209, 210, 211, 212, 213, 214, 215].all (fun y => q_okm y (q_bd y)) = true := by decide +kernel
set_option maxRecDepth 100000 in
theorem q_ok_27 : [216, 217, 218, 219, 220, 221, 222, 223].all (fun y => q_okm y (q_bd y)) = true := by decide +kernel
set_option maxRecDepth 100000 in
theorem q_ok_28 : [224, 225, 226, 227, 228, 229, 230, 231].all (fun y => q_okm y (q_bd y)) = true := by decide +kernel
set_option maxRecDepth 100000 in
theorem q_ok_29 : [232, 233, 234, 235, 236, 237, 238, 239].all (fun y => q_okm y (q_bd y)) = true := by decide +kernel
set_option maxRecDepth 100000 in
theorem q_ok_30 : [240, 241, 242, 243, 244, 245, 246, 247].all (fun y => q_okm y (q_bd y)) = true := by decide +kernel

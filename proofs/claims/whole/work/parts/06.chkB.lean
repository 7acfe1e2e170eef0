set_option maxRecDepth 100000 in
theorem q_ok_13 : [104, 105, 106, 107, 108, 109, 110, 111].all (fun y => q_okm y (q_bd y)) = true := by decide +kernel
set_option maxRecDepth 100000 in
theorem q_ok_14 : [112, 113, 114, 115, 116, 117, 118, 119].all (fun y => q_okm y (q_bd y)) = true := by decide +kernel
set_option maxRecDepth 100000 in
theorem q_ok_15 : [120, 121, 122, 123, 124, 125, 126, 127].all (fun y => q_okm y (q_bd y)) = true := by decide +kernel
set_option maxRecDepth 100000 in
theorem q_ok_16 : [128, 129, 130, 131, 132, 133, 134, 135].all (fun y => q_okm y (q_bd y)) = true := by decide +kernel
set_option maxRecDepth 100000 in
theorem q_ok_17 : [136, 137, 138, 139, 140, 141, 142, 143].all (fun y => q_okm y (q_bd y)) = true := by decide +kernel

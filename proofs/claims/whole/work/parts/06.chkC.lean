set_option maxRecDepth 100000 in
theorem q_ok_18 : [144, 145, 146, 147, 148, 149, 150, 151].all (fun y => q_okm y (q_bd y)) = true := by decide +kernel
set_option maxRecDepth 100000 in
theorem q_ok_19 : [152, 153, 154, 155, 156, 157, 158, 159].all (fun y => q_okm y (q_bd y)) = true := by decide +kernel
set_option maxRecDepth 100000 in
theorem q_ok_20 : [160, 161, 162, 163, 164, 165, 166, 167].all (fun y => q_okm y (q_bd y)) = true := by decide +kernel
set_option maxRecDepth 100000 in
theorem q_ok_21 : [168, 169, 170, 171, 172, 173, 174, 175].all (fun y => q_okm y (q_bd y)) = true := by decide +kernel
set_option maxRecDepth 100000 in
theorem q_ok_22 : [176, 177, 178, 179, 180, 181, 182, 183].all (fun y => q_okm y (q_bd y)) = true := by decide +kernel

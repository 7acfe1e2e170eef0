set_option maxRecDepth 100000 in
theorem q_ok_23 : [184, 185, 186, 187, 188, 189, 190, 191].all (fun y => q_okm y (q_bd y)) = true := by decide +kernel
set_option maxRecDepth 100000 in
theorem q_ok_24 : [192, 193, 194, 195, 196, 197, 198, 199].all (fun y => q_okm y (q_bd y)) = true := by decide +kernel
set_option maxRecDepth 100000 in
theorem q_ok_25 : [200, 201, 202, 203, 204, 205, 206, 207].all (fun y => q_okm y (q_bd y)) = true := by decide +kernel

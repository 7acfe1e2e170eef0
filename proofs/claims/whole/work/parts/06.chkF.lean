set_option maxRecDepth 100000 in
theorem q_ok_31 : [248, 249, 250, 251, 252, 253, 254, 255].all (fun y => q_okm y (q_bd y)) = true := by decide +kernel
set_option maxRecDepth 100000 in
theorem q_ok_32 : [256, 257, 258, 259, 260, 261, 262, 263].all (fun y => q_okm y (q_bd y)) = true := by decide +kernel
set_option maxRecDepth 100000 in
theorem q_ok_33 : [264, 265, 266, 267, 268, 269, 270, 271].all (fun y => q_okm y (q_bd y)) = true := by decide +kernel
set_option maxRecDepth 100000 in
theorem q_ok_34 : [272, 273, 274, 275, 276, 277, 278, 279].all (fun y => q_okm y (q_bd y)) = true := by decide +kernel
set_option maxRecDepth 100000 in
theorem q_ok_35 : [280, 281, 282, 283, 284, 285, 286, 287].all (fun y => q_okm y (q_bd y)) = true := by decide +kernel

set_option maxRecDepth 100000 in
theorem q_ok_0 : [0, 1, 2, 3, 4, 5, 6, 7].all (fun y => q_okm y (q_bd y)) = true := by decide +kernel
set_option maxRecDepth 100000 in
theorem q_ok_1 : [8, 9, 10, 11, 12, 13, 14, 15].all (fun y => q_okm y (q_bd y)) = true := by decide +kernel
set_option maxRecDepth 100000 in
theorem q_ok_2 : [16, 17, 18, 19, 20, 21, 22, 23].all (fun y => q_okm y (q_bd y)) = true := by decide +kernel
set_option maxRecDepth 100000 in
theorem q_ok_3 : [24, 25, 26, 27, 28, 29, 30, 31].all (fun y => q_okm y (q_bd y)) = true := by decide +kernel
set_option maxRecDepth 100000 in
theorem q_ok_4 : [32, 33, 34, 35, 36, 37, 38, 39].all (fun y => q_okm y (q_bd y)) = true := by decide +kernel
set_option maxRecDepth 100000 in
theorem q_ok_5 : [40, 41, 42, 43, 44, 45, 46, 47].all (fun y => q_okm y (q_bd y)) = true := by decide +kernel
set_option maxRecDepth 100000 in
theorem q_ok_6 : [48, 49, 50, 51, 52, 53, 54, 55].all (fun y => q_okm y (q_bd y)) = true := by decide +kernel
set_option maxRecDepth 100000 in
theorem q_ok_7 : [56, 57, 58, 59, 60, 61, 62, 63].all (fun y => q_okm y (q_bd y)) = true := by decide +kernel
set_option maxRecDepth 100000 in
theorem q_ok_8 : [64, 65, 66, 67, 68, 69, 70, 71].all (fun y => q_okm y (q_bd y)) = true := by decide +kernel
set_option maxRecDepth 100000 in
theorem q_ok_9 : [72, 73, 74, 75, 76, 77, 78, 79].all (fun y => q_okm y (q_bd y)) = true := by decide +kernel
set_option maxRecDepth 100000 in
theorem q_ok_10 : [80, 81, 82, 83, 84, 85, 86, 87].all (fun y => q_okm y (q_bd y)) = true := by decide +kernel
set_option maxRecDepth 100000 in
theorem q_ok_11 : [88, 89, 90, 91, 92, 93, 94, 95].all (fun y => q_okm y (q_bd y)) = true := by decide +kernel
set_option maxRecDepth 100000 in
theorem q_ok_12 : [96, 97, 98, 99, 100, 101, 102, 103].all (fun y => q_okm y (q_bd y)) = true := by decide +kernel

set_option maxRecDepth 100000 in
theorem q_ok_36 : [288, 289, 290, 291, 292, 293, 294, 295].all (fun y => q_okm y (q_bd y)) = true := by decide +kernel
set_option maxRecDepth 100000 in
theorem q_ok_37 : [296, 297, 298, 299, 300, 301, 302, 303].all (fun y => q_okm y (q_bd y)) = true := by decide +kernel

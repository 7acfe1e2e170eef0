set_option maxRecDepth 100000 in
theorem q_ok_42 : [(184, 60, 60), (184, 120, 5), (185, 0, 19), (186, 0, 18), (187, 0, 18), (188, 0, 60), (188, 60, 60)].all (fun q => q_okr q.1 q.2.1 q.2.2) = true := by decide +kernel
set_option maxRecDepth 100000 in
theorem q_ok_43 : [(188, 120, 60), (188, 180, 60), (188, 240, 2), (189, 0, 24), (190, 0, 60), (190, 60, 12), (191, 0, 16)].all (fun q => q_okr q.1 q.2.1 q.2.2) = true := by decide +kernel
set_option maxRecDepth 100000 in
theorem q_ok_44 : [(192, 0, 25), (193, 0, 54), (194, 0, 60), (194, 60, 44)].all (fun q => q_okr q.1 q.2.1 q.2.2) = true := by decide +kernel
set_option maxRecDepth 100000 in
theorem q_ok_45 : [(195, 0, 60), (195, 60, 37), (196, 0, 53), (197, 0, 12), (198, 0, 60), (198, 60, 6)].all (fun q => q_okr q.1 q.2.1 q.2.2) = true := by decide +kernel
set_option maxRecDepth 100000 in
theorem q_ok_46 : [(199, 0, 13), (200, 0, 12), (201, 0, 60), (201, 60, 60), (201, 120, 60)].all (fun q => q_okr q.1 q.2.1 q.2.2) = true := by decide +kernel
set_option maxRecDepth 100000 in
theorem q_ok_47 : [(201, 180, 60), (201, 240, 28), (202, 0, 46), (203, 0, 60), (203, 60, 46)].all (fun q => q_okr q.1 q.2.1 q.2.2) = true := by decide +kernel
set_option maxRecDepth 100000 in
theorem q_ok_48 : [(204, 0, 60), (204, 60, 15), (205, 0, 60), (205, 60, 60)].all (fun q => q_okr q.1 q.2.1 q.2.2) = true := by decide +kernel
set_option maxRecDepth 100000 in
theorem q_ok_49 : [(205, 120, 60), (205, 180, 60), (205, 240, 1), (206, 0, 60), (206, 60, 53)].all (fun q => q_okr q.1 q.2.1 q.2.2) = true := by decide +kernel
set_option maxRecDepth 100000 in
theorem q_ok_50 : [(207, 0, 60), (207, 60, 60), (207, 120, 53), (208, 0, 10), (209, 0, 22), (210, 0, 29)].all (fun q => q_okr q.1 q.2.1 q.2.2) = true := by decide +kernel
set_option maxRecDepth 100000 in
theorem q_ok_51 : [(211, 0, 27), (212, 0, 18), (213, 0, 60), (213, 60, 8), (214, 0, 24), (215, 0, 26), (216, 0, 15), (217, 0, 60)].all (fun q => q_okr q.1 q.2.1 q.2.2) = true := by decide +kernel
set_option maxRecDepth 100000 in
theorem q_ok_52 : [(217, 60, 17), (218, 0, 60), (218, 60, 11), (219, 0, 60), (219, 60, 54), (220, 0, 19)].all (fun q => q_okr q.1 q.2.1 q.2.2) = true := by decide +kernel
set_option maxRecDepth 100000 in
theorem q_ok_53 : [(221, 0, 36), (222, 0, 35), (223, 0, 60), (223, 60, 60), (223, 120, 9)].all (fun q => q_okr q.1 q.2.1 q.2.2) = true := by decide +kernel
set_option maxRecDepth 100000 in
theorem q_ok_54 : [(224, 0, 53), (225, 0, 25), (226, 0, 32), (227, 0, 18), (228, 0, 36), (229, 0, 34)].all (fun q => q_okr q.1 q.2.1 q.2.2) = true := by decide +kernel
set_option maxRecDepth 100000 in
theorem q_ok_55 : [(230, 0, 55), (231, 0, 35), (232, 0, 60), (232, 60, 58), (233, 0, 28)].all (fun q => q_okr q.1 q.2.1 q.2.2) = true := by decide +kernel

set_option maxRecDepth 100000 in
theorem q_ok_70 : [(274, 0, 41), (275, 0, 55), (276, 0, 24), (277, 0, 37), (278, 0, 25), (279, 0, 27), (280, 0, 26)].all (fun q => q_okr q.1 q.2.1 q.2.2) = true := by decide +kernel
set_option maxRecDepth 100000 in
theorem q_ok_71 : [(281, 0, 55), (282, 0, 60), (282, 60, 60), (282, 120, 5), (283, 0, 38)].all (fun q => q_okr q.1 q.2.1 q.2.2) = true := by decide +kernel
set_option maxRecDepth 100000 in
theorem q_ok_72 : [(284, 0, 41), (285, 0, 60), (285, 60, 60), (285, 120, 57)].all (fun q => q_okr q.1 q.2.1 q.2.2) = true := by decide +kernel
set_option maxRecDepth 100000 in
theorem q_ok_73 : [(286, 0, 60), (286, 60, 14), (287, 0, 55), (288, 0, 60)].all (fun q => q_okr q.1 q.2.1 q.2.2) = true := by decide +kernel
set_option maxRecDepth 100000 in
theorem q_ok_74 : [(288, 60, 60), (288, 120, 11), (289, 0, 60), (289, 60, 24), (290, 0, 60)].all (fun q => q_okr q.1 q.2.1 q.2.2) = true := by decide +kernel
set_option maxRecDepth 100000 in
theorem q_ok_75 : [(290, 60, 60), (290, 120, 11), (291, 0, 60), (291, 60, 47), (292, 0, 35)].all (fun q => q_okr q.1 q.2.1 q.2.2) = true := by decide +kernel
set_option maxRecDepth 100000 in
theorem q_ok_76 : [(293, 0, 60), (293, 60, 14), (294, 0, 60), (294, 60, 41), (295, 0, 53)].all (fun q => q_okr q.1 q.2.1 q.2.2) = true := by decide +kernel
set_option maxRecDepth 100000 in
theorem q_ok_77 : [(296, 0, 60), (296, 60, 11), (297, 0, 51), (298, 0, 60), (299, 0, 49)].all (fun q => q_okr q.1 q.2.1 q.2.2) = true := by decide +kernel
set_option maxRecDepth 100000 in
theorem q_ok_78 : [(300, 0, 60), (300, 60, 52), (301, 0, 10), (303, 0, 60)].all (fun q => q_okr q.1 q.2.1 q.2.2) = true := by decide +kernel
set_option maxRecDepth 100000 in
theorem q_ok_79 : [(303, 60, 60), (303, 120, 60), (303, 180, 60), (303, 240, 60)].all (fun q => q_okr q.1 q.2.1 q.2.2) = true := by decide +kernel
set_option maxRecDepth 100000 in
theorem q_ok_80 : [(303, 300, 60), (303, 360, 60), (303, 420, 60), (303, 480, 60)].all (fun q => q_okr q.1 q.2.1 q.2.2) = true := by decide +kernel
set_option maxRecDepth 100000 in
theorem q_ok_81 : [(303, 540, 60), (303, 600, 60), (303, 660, 60), (303, 720, 60)].all (fun q => q_okr q.1 q.2.1 q.2.2) = true := by decide +kernel
set_option maxRecDepth 100000 in
theorem q_ok_82 : [(303, 780, 60)].all (fun q => q_okr q.1 q.2.1 q.2.2) = true := by decide +kernel
set_option maxRecDepth 100000 in
theorem q_ok_83 : [(303, 840, 60)].all (fun q => q_okr q.1 q.2.1 q.2.2) = true := by decide +kernel

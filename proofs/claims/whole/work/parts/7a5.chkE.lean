set_option maxRecDepth 100000 in
theorem q_ok_56 : [(234, 0, 28), (235, 0, 60), (235, 60, 27), (236, 0, 60), (236, 60, 54)].all (fun q => q_okr q.1 q.2.1 q.2.2) = true := by decide +kernel
set_option maxRecDepth 100000 in
theorem q_ok_57 : [(237, 0, 44), (238, 0, 40), (239, 0, 49), (240, 0, 60), (240, 60, 29)].all (fun q => q_okr q.1 q.2.1 q.2.2) = true := by decide +kernel
set_option maxRecDepth 100000 in
theorem q_ok_58 : [(241, 0, 43), (242, 0, 25), (243, 0, 60), (243, 60, 9), (244, 0, 44)].all (fun q => q_okr q.1 q.2.1 q.2.2) = true := by decide +kernel
set_option maxRecDepth 100000 in
theorem q_ok_59 : [(245, 0, 60), (245, 60, 60), (245, 120, 60), (245, 180, 3)].all (fun q => q_okr q.1 q.2.1 q.2.2) = true := by decide +kernel
set_option maxRecDepth 100000 in
theorem q_ok_60 : [(246, 0, 60), (246, 60, 31), (247, 0, 60), (247, 60, 4), (248, 0, 60), (248, 60, 24)].all (fun q => q_okr q.1 q.2.1 q.2.2) = true := by decide +kernel
set_option maxRecDepth 100000 in
theorem q_ok_61 : [(249, 0, 60), (249, 60, 7), (250, 0, 60), (250, 60, 60), (250, 120, 2)].all (fun q => q_okr q.1 q.2.1 q.2.2) = true := by decide +kernel
set_option maxRecDepth 100000 in
theorem q_ok_62 : [(251, 0, 60), (251, 60, 60), (251, 120, 26), (252, 0, 60)].all (fun q => q_okr q.1 q.2.1 q.2.2) = true := by decide +kernel
set_option maxRecDepth 100000 in
theorem q_ok_63 : [(252, 60, 52), (253, 0, 34), (254, 0, 60), (255, 0, 37)].all (fun q => q_okr q.1 q.2.1 q.2.2) = true := by decide +kernel
set_option maxRecDepth 100000 in
theorem q_ok_64 : [(256, 0, 60), (256, 60, 46), (257, 0, 34), (258, 0, 58), (259, 0, 28)].all (fun q => q_okr q.1 q.2.1 q.2.2) = true := by decide +kernel
set_option maxRecDepth 100000 in
theorem q_ok_65 : [(260, 0, 32), (261, 0, 26), (262, 0, 40), (263, 0, 60), (263, 60, 38)].all (fun q => q_okr q.1 q.2.1 q.2.2) = true := by decide +kernel
set_option maxRecDepth 100000 in
theorem q_ok_66 : [(264, 0, 60), (264, 60, 60), (264, 120, 9), (265, 0, 60)].all (fun q => q_okr q.1 q.2.1 q.2.2) = true := by decide +kernel
set_option maxRecDepth 100000 in
theorem q_ok_67 : [(265, 60, 57), (266, 0, 60), (267, 0, 57), (268, 0, 60)].all (fun q => q_okr q.1 q.2.1 q.2.2) = true := by decide +kernel
set_option maxRecDepth 100000 in
theorem q_ok_68 : [(268, 60, 60), (268, 120, 60), (268, 180, 16), (269, 0, 60)].all (fun q => q_okr q.1 q.2.1 q.2.2) = true := by decide +kernel
set_option maxRecDepth 100000 in
theorem q_ok_69 : [(269, 60, 60), (269, 120, 49), (270, 0, 28), (271, 0, 41), (272, 0, 28), (273, 0, 28)].all (fun q => q_okr q.1 q.2.1 q.2.2) = true := by decide +kernel

set_option maxRecDepth 100000 in
theorem q_ok_26 : [(208, 10), (209, 22), (210, 29), (211, 27), (212, 18), (213, 68), (214, 24), (215, 26)].all (fun q => q_okm q.1 q.2) = true := by decide +kernel
set_option maxRecDepth 100000 in
theorem q_ok_27 : [(216, 15), (217, 77), (218, 71), (219, 114), (220, 19), (221, 36), (222, 35), (223, 129)].all (fun q => q_okm q.1 q.2) = true := by decide +kernel
set_option maxRecDepth 100000 in
theorem q_ok_28 : [(224, 53), (225, 25), (226, 32), (227, 18), (228, 36), (229, 34), (230, 55), (231, 35)].all (fun q => q_okm q.1 q.2) = true := by decide +kernel
set_option maxRecDepth 100000 in
theorem q_ok_29 : [(232, 118), (233, 28), (234, 28), (235, 87), (236, 114), (237, 44), (238, 40), (239, 49)].all (fun q => q_okm q.1 q.2) = true := by decide +kernel
set_option maxRecDepth 100000 in
theorem q_ok_30 : [(240, 89), (241, 43), (242, 25), (243, 69), (244, 44), (245, 183), (246, 91), (247, 64)].all (fun q => q_okm q.1 q.2) = true := by decide +kernel
set_option maxRecDepth 100000 in
theorem q_ok_31 : [(248, 84), (249, 67), (250, 122), (251, 146), (252, 112), (253, 34), (254, 60), (255, 37)].all (fun q => q_okm q.1 q.2) = true := by decide +kernel
set_option maxRecDepth 100000 in
theorem q_ok_32 : [(256, 106), (257, 34), (258, 58), (259, 28), (260, 32), (261, 26), (262, 40), (263, 98)].all (fun q => q_okm q.1 q.2) = true := by decide +kernel
set_option maxRecDepth 100000 in
theorem q_ok_33 : [(264, 129), (265, 117), (266, 60), (267, 57), (268, 196), (269, 169), (270, 28), (271, 41)].all (fun q => q_okm q.1 q.2) = true := by decide +kernel
set_option maxRecDepth 100000 in
theorem q_ok_34 : [(272, 28), (273, 28), (274, 41), (275, 55), (276, 24), (277, 37), (278, 25), (279, 27)].all (fun q => q_okm q.1 q.2) = true := by decide +kernel
set_option maxRecDepth 100000 in
theorem q_ok_35 : [(280, 26), (281, 55), (282, 125), (283, 38), (284, 41), (285, 177), (286, 74), (287, 55)].all (fun q => q_okm q.1 q.2) = true := by decide +kernel
set_option maxRecDepth 100000 in
theorem q_ok_36 : [(288, 131), (289, 84), (290, 131), (291, 107), (292, 35), (293, 74), (294, 101), (295, 53)].all (fun q => q_okm q.1 q.2) = true := by decide +kernel
set_option maxRecDepth 100000 in
theorem q_ok_37 : [(296, 71), (297, 51), (298, 60), (299, 49), (300, 112), (301, 10), (302, 17), (303, 2136)].all (fun q => q_okm q.1 q.2) = true := by decide +kernel

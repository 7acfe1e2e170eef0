set_option maxRecDepth 100000 in
theorem q_ok_28 : [(116, 0, 60), (116, 60, 50), (117, 0, 34), (118, 0, 23), (119, 0, 23), (120, 0, 39)].all (fun q => q_okr q.1 q.2.1 q.2.2) = true := by decide +kernel
set_option maxRecDepth 100000 in
theorem q_ok_29 : [(121, 0, 60), (122, 0, 59), (123, 0, 53), (124, 0, 60), (124, 60, 1)].all (fun q => q_okr q.1 q.2.1 q.2.2) = true := by decide +kernel
set_option maxRecDepth 100000 in
theorem q_ok_30 : [(125, 0, 23), (126, 0, 60), (126, 60, 8), (127, 0, 29), (128, 0, 50), (129, 0, 28), (130, 0, 31)].all (fun q => q_okr q.1 q.2.1 q.2.2) = true := by decide +kernel
set_option maxRecDepth 100000 in
theorem q_ok_31 : [(131, 0, 51), (132, 0, 56), (133, 0, 27), (134, 0, 23), (135, 0, 38), (136, 0, 27), (137, 0, 17)].all (fun q => q_okr q.1 q.2.1 q.2.2) = true := by decide +kernel
set_option maxRecDepth 100000 in
theorem q_ok_32 : [(138, 0, 47), (139, 0, 17), (140, 0, 17), (141, 0, 24), (142, 0, 44), (143, 0, 17), (144, 0, 40)].all (fun q => q_okr q.1 q.2.1 q.2.2) = true := by decide +kernel
set_option maxRecDepth 100000 in
theorem q_ok_33 : [(145, 0, 60), (145, 60, 8), (146, 0, 60), (146, 60, 20), (147, 0, 60), (147, 60, 9)].all (fun q => q_okr q.1 q.2.1 q.2.2) = true := by decide +kernel
set_option maxRecDepth 100000 in
theorem q_ok_34 : [(148, 0, 57), (149, 0, 60), (149, 60, 47), (150, 0, 60)].all (fun q => q_okr q.1 q.2.1 q.2.2) = true := by decide +kernel
set_option maxRecDepth 100000 in
theorem q_ok_35 : [(150, 60, 60), (150, 120, 18), (151, 0, 60), (151, 60, 44)].all (fun q => q_okr q.1 q.2.1 q.2.2) = true := by decide +kernel
set_option maxRecDepth 100000 in
theorem q_ok_36 : [(152, 0, 60), (152, 60, 2), (153, 0, 60), (153, 60, 38), (154, 0, 39)].all (fun q => q_okr q.1 q.2.1 q.2.2) = true := by decide +kernel
set_option maxRecDepth 100000 in
theorem q_ok_37 : [(155, 0, 45), (156, 0, 44), (157, 0, 40), (158, 0, 60)].all (fun q => q_okr q.1 q.2.1 q.2.2) = true := by decide +kernel
set_option maxRecDepth 100000 in
theorem q_ok_38 : [(158, 60, 60), (158, 120, 18), (159, 0, 5), (160, 0, 15), (161, 0, 18), (162, 0, 19), (163, 0, 20), (164, 0, 16), (165, 0, 21), (166, 0, 34)].all (fun q => q_okr q.1 q.2.1 q.2.2) = true := by decide +kernel
set_option maxRecDepth 100000 in
theorem q_ok_39 : [(167, 0, 30), (168, 0, 25), (169, 0, 17), (170, 0, 17), (171, 0, 60), (171, 60, 33), (172, 0, 25), (173, 0, 24)].all (fun q => q_okr q.1 q.2.1 q.2.2) = true := by decide +kernel
set_option maxRecDepth 100000 in
theorem q_ok_40 : [(174, 0, 50), (175, 0, 60), (175, 60, 60), (175, 120, 33), (176, 0, 5), (177, 0, 11), (178, 0, 7), (179, 0, 7)].all (fun q => q_okr q.1 q.2.1 q.2.2) = true := by decide +kernel
set_option maxRecDepth 100000 in
theorem q_ok_41 : [(180, 0, 16), (181, 0, 15), (182, 0, 29), (183, 0, 45), (184, 0, 60), (184, 60, 60), (184, 120, 5)].all (fun q => q_okr q.1 q.2.1 q.2.2) = true := by decide +kernel

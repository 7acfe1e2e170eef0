set_option maxRecDepth 100000 in
theorem q_ok_28 : [(114, 0, 34), (115, 0, 60), (115, 60, 36), (116, 0, 60), (116, 60, 50)].all (fun q => q_okr q.1 q.2.1 q.2.2) = true := by decide +kernel
set_option maxRecDepth 100000 in
theorem q_ok_29 : [(117, 0, 34), (118, 0, 23), (119, 0, 23), (120, 0, 39), (121, 0, 60), (122, 0, 59)].all (fun q => q_okr q.1 q.2.1 q.2.2) = true := by decide +kernel
set_option maxRecDepth 100000 in
theorem q_ok_30 : [(123, 0, 53), (124, 0, 60), (124, 60, 1), (125, 0, 23), (126, 0, 60), (126, 60, 8), (127, 0, 29)].all (fun q => q_okr q.1 q.2.1 q.2.2) = true := by decide +kernel
set_option maxRecDepth 100000 in
theorem q_ok_31 : [(128, 0, 50), (129, 0, 28), (130, 0, 31), (131, 0, 51), (132, 0, 56)].all (fun q => q_okr q.1 q.2.1 q.2.2) = true := by decide +kernel
set_option maxRecDepth 100000 in
theorem q_ok_32 : [(133, 0, 27), (134, 0, 23), (135, 0, 38), (136, 0, 27), (137, 0, 17), (138, 0, 47), (139, 0, 17), (140, 0, 17), (141, 0, 24)].all (fun q => q_okr q.1 q.2.1 q.2.2) = true := by decide +kernel
set_option maxRecDepth 100000 in
theorem q_ok_33 : [(142, 0, 44), (143, 0, 17), (144, 0, 40), (145, 0, 60), (145, 60, 8), (146, 0, 60)].all (fun q => q_okr q.1 q.2.1 q.2.2) = true := by decide +kernel
set_option maxRecDepth 100000 in
theorem q_ok_34 : [(146, 60, 20), (147, 0, 60), (147, 60, 9), (148, 0, 57), (149, 0, 60)].all (fun q => q_okr q.1 q.2.1 q.2.2) = true := by decide +kernel
set_option maxRecDepth 100000 in
theorem q_ok_35 : [(149, 60, 47), (150, 0, 60), (150, 60, 60), (150, 120, 18)].all (fun q => q_okr q.1 q.2.1 q.2.2) = true := by decide +kernel
set_option maxRecDepth 100000 in
theorem q_ok_36 : [(151, 0, 60), (151, 60, 44), (152, 0, 60), (152, 60, 2), (153, 0, 60)].all (fun q => q_okr q.1 q.2.1 q.2.2) = true := by decide +kernel
set_option maxRecDepth 100000 in
theorem q_ok_37 : [(153, 60, 38), (154, 0, 39), (155, 0, 45), (156, 0, 44), (157, 0, 40)].all (fun q => q_okr q.1 q.2.1 q.2.2) = true := by decide +kernel
set_option maxRecDepth 100000 in
theorem q_ok_38 : [(158, 0, 60), (158, 60, 60), (158, 120, 18), (159, 0, 5), (160, 0, 15), (161, 0, 18), (162, 0, 19), (163, 0, 20), (164, 0, 16)].all (fun q => q_okr q.1 q.2.1 q.2.2) = true := by decide +kernel
set_option maxRecDepth 100000 in
theorem q_ok_39 : [(165, 0, 21), (166, 0, 34), (167, 0, 30), (168, 0, 25), (169, 0, 17), (170, 0, 17), (171, 0, 60), (171, 60, 33)].all (fun q => q_okr q.1 q.2.1 q.2.2) = true := by decide +kernel
set_option maxRecDepth 100000 in
theorem q_ok_40 : [(172, 0, 25), (173, 0, 24), (174, 0, 50), (175, 0, 60), (175, 60, 60)].all (fun q => q_okr q.1 q.2.1 q.2.2) = true := by decide +kernel
set_option maxRecDepth 100000 in
theorem q_ok_41 : [(175, 120, 33), (176, 0, 5), (177, 0, 11), (178, 0, 7), (179, 0, 7), (180, 0, 16), (181, 0, 15), (182, 0, 29), (183, 0, 45), (184, 0, 60)].all (fun q => q_okr q.1 q.2.1 q.2.2) = true := by decide +kernel

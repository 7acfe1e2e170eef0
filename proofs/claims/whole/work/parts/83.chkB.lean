set_option maxRecDepth 100000 in
theorem q_ok_13 : [(104, 5), (105, 17), (106, 103), (107, 38), (108, 24), (109, 31), (110, 32), (111, 42)].all (fun q => q_okm q.1 q.2) = true := by decide +kernel
set_option maxRecDepth 100000 in
theorem q_ok_14 : [(112, 31), (113, 21), (114, 34), (115, 96), (116, 110), (117, 34), (118, 23), (119, 23)].all (fun q => q_okm q.1 q.2) = true := by decide +kernel
set_option maxRecDepth 100000 in
theorem q_ok_15 : [(120, 39), (121, 60), (122, 59), (123, 53), (124, 61), (125, 23), (126, 68), (127, 29)].all (fun q => q_okm q.1 q.2) = true := by decide +kernel
set_option maxRecDepth 100000 in
theorem q_ok_16 : [(128, 50), (129, 28), (130, 31), (131, 51), (132, 56), (133, 27), (134, 23), (135, 38)].all (fun q => q_okm q.1 q.2) = true := by decide +kernel
set_option maxRecDepth 100000 in
theorem q_ok_17 : [(136, 27), (137, 17), (138, 47), (139, 17), (140, 17), (141, 24), (142, 44), (143, 17)].all (fun q => q_okm q.1 q.2) = true := by decide +kernel
set_option maxRecDepth 100000 in
theorem q_ok_18 : [(144, 40), (145, 68), (146, 80), (147, 69), (148, 57), (149, 107), (150, 138), (151, 104)].all (fun q => q_okm q.1 q.2) = true := by decide +kernel
set_option maxRecDepth 100000 in
theorem q_ok_19 : [(152, 62), (153, 98), (154, 39), (155, 45), (156, 44), (157, 40), (158, 138), (159, 5)].all (fun q => q_okm q.1 q.2) = true := by decide +kernel
set_option maxRecDepth 100000 in
theorem q_ok_20 : [(160, 15), (161, 18), (162, 19), (163, 20), (164, 16), (165, 21), (166, 34), (167, 30)].all (fun q => q_okm q.1 q.2) = true := by decide +kernel
set_option maxRecDepth 100000 in
theorem q_ok_21 : [(168, 25), (169, 17), (170, 17), (171, 93), (172, 25), (173, 24), (174, 50), (175, 153)].all (fun q => q_okm q.1 q.2) = true := by decide +kernel
set_option maxRecDepth 100000 in
theorem q_ok_22 : [(176, 5), (177, 11), (178, 7), (179, 7), (180, 16), (181, 15), (182, 29), (183, 45)].all (fun q => q_okm q.1 q.2) = true := by decide +kernel
set_option maxRecDepth 100000 in
theorem q_ok_23 : [(184, 125), (185, 19), (186, 18), (187, 18), (188, 242), (189, 24), (190, 72), (191, 16)].all (fun q => q_okm q.1 q.2) = true := by decide +kernel
set_option maxRecDepth 100000 in
theorem q_ok_24 : [(192, 25), (193, 54), (194, 104), (195, 97), (196, 53), (197, 12), (198, 66), (199, 13)].all (fun q => q_okm q.1 q.2) = true := by decide +kernel
set_option maxRecDepth 100000 in
theorem q_ok_25 : [(200, 12), (201, 268), (202, 46), (203, 106), (204, 75), (205, 241), (206, 113), (207, 173)].all (fun q => q_okm q.1 q.2) = true := by decide +kernel

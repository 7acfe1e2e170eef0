set_option maxRecDepth 100000 in
theorem q_ok_0 : [(0, 39), (1, 28), (2, 37), (3, 29), (4, 49), (5, 43), (6, 23), (7, 33)].all (fun q => q_okm q.1 q.2) = true := by decide +kernel
set_option maxRecDepth 100000 in
theorem q_ok_1 : [(8, 24), (9, 30), (10, 48), (11, 31), (12, 173), (13, 76), (14, 87), (15, 45)].all (fun q => q_okm q.1 q.2) = true := by decide +kernel
set_option maxRecDepth 100000 in
theorem q_ok_2 : [(16, 29), (17, 45), (18, 42), (19, 46), (20, 13), (21, 11), (22, 34), (23, 48)].all (fun q => q_okm q.1 q.2) = true := by decide +kernel
set_option maxRecDepth 100000 in
theorem q_ok_3 : [(24, 25), (25, 23), (26, 28), (27, 29), (28, 10), (29, 76), (30, 65), (31, 97)].all (fun q => q_okm q.1 q.2) = true := by decide +kernel
set_option maxRecDepth 100000 in
theorem q_ok_4 : [(32, 50), (33, 91), (34, 79), (35, 75), (36, 11), (37, 67), (38, 39), (39, 40)].all (fun q => q_okm q.1 q.2) = true := by decide +kernel
set_option maxRecDepth 100000 in
theorem q_ok_5 : [(40, 28), (41, 35), (42, 114), (43, 12), (44, 7), (45, 171), (46, 36), (47, 73)].all (fun q => q_okm q.1 q.2) = true := by decide +kernel
set_option maxRecDepth 100000 in
theorem q_ok_6 : [(48, 142), (49, 107), (50, 113), (51, 184), (52, 65), (53, 45), (54, 43), (55, 60)].all (fun q => q_okm q.1 q.2) = true := by decide +kernel
set_option maxRecDepth 100000 in
theorem q_ok_7 : [(56, 26), (57, 59), (58, 13), (59, 27), (60, 31), (61, 25), (62, 18), (63, 145)].all (fun q => q_okm q.1 q.2) = true := by decide +kernel
set_option maxRecDepth 100000 in
theorem q_ok_8 : [(64, 58), (65, 36), (66, 47), (67, 28), (68, 40), (69, 47), (70, 44), (71, 24)].all (fun q => q_okm q.1 q.2) = true := by decide +kernel
set_option maxRecDepth 100000 in
theorem q_ok_9 : [(72, 75), (73, 66), (74, 25), (75, 24), (76, 30), (77, 52), (78, 81), (79, 85)].all (fun q => q_okm q.1 q.2) = true := by decide +kernel
set_option maxRecDepth 100000 in
theorem q_ok_10 : [(80, 11), (81, 34), (82, 106), (83, 14), (84, 49), (85, 22), (86, 200), (87, 40)].all (fun q => q_okm q.1 q.2) = true := by decide +kernel
set_option maxRecDepth 100000 in
theorem q_ok_11 : [(88, 38), (89, 10), (90, 65), (91, 62), (92, 61), (93, 33), (94, 30), (95, 40)].all (fun q => q_okm q.1 q.2) = true := by decide +kernel
set_option maxRecDepth 100000 in
theorem q_ok_12 : [(96, 27), (97, 37), (98, 80), (99, 68), (100, 30), (101, 119), (102, 68), (103, 142)].all (fun q => q_okm q.1 q.2) = true := by decide +kernel

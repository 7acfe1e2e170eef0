set_option maxRecDepth 100000 in
theorem q_ok_0 : [(0, 0, 39), (1, 0, 28), (2, 0, 37), (3, 0, 29), (4, 0, 49), (5, 0, 43)].all (fun q => q_okr q.1 q.2.1 q.2.2) = true := by decide +kernel
set_option maxRecDepth 100000 in
theorem q_ok_1 : [(6, 0, 23), (7, 0, 33), (8, 0, 24), (9, 0, 30), (10, 0, 48), (11, 0, 31)].all (fun q => q_okr q.1 q.2.1 q.2.2) = true := by decide +kernel
set_option maxRecDepth 100000 in
theorem q_ok_2 : [(12, 0, 60), (12, 60, 60), (12, 120, 53), (13, 0, 60)].all (fun q => q_okr q.1 q.2.1 q.2.2) = true := by decide +kernel
set_option maxRecDepth 100000 in
theorem q_ok_3 : [(13, 60, 16), (14, 0, 60), (14, 60, 27), (15, 0, 45), (16, 0, 29), (17, 0, 45)].all (fun q => q_okr q.1 q.2.1 q.2.2) = true := by decide +kernel
set_option maxRecDepth 100000 in
theorem q_ok_4 : [(18, 0, 42), (19, 0, 46), (20, 0, 13), (21, 0, 11), (22, 0, 34), (23, 0, 48), (24, 0, 25)].all (fun q => q_okr q.1 q.2.1 q.2.2) = true := by decide +kernel
set_option maxRecDepth 100000 in
theorem q_ok_5 : [(25, 0, 23), (26, 0, 28), (27, 0, 29), (28, 0, 10), (29, 0, 60), (29, 60, 16), (30, 0, 60), (30, 60, 5)].all (fun q => q_okr q.1 q.2.1 q.2.2) = true := by decide +kernel
set_option maxRecDepth 100000 in
theorem q_ok_6 : [(31, 0, 60), (31, 60, 37), (32, 0, 50), (33, 0, 60), (33, 60, 31)].all (fun q => q_okr q.1 q.2.1 q.2.2) = true := by decide +kernel
set_option maxRecDepth 100000 in
theorem q_ok_7 : [(34, 0, 60), (34, 60, 19), (35, 0, 60), (35, 60, 15), (36, 0, 11), (37, 0, 60), (37, 60, 7)].all (fun q => q_okr q.1 q.2.1 q.2.2) = true := by decide +kernel
set_option maxRecDepth 100000 in
theorem q_ok_8 : [(38, 0, 39), (39, 0, 40), (40, 0, 28), (41, 0, 41), (42, 0, 60)].all (fun q => q_okr q.1 q.2.1 q.2.2) = true := by decide +kernel
set_option maxRecDepth 100000 in
theorem q_ok_9 : [(42, 60, 54), (43, 0, 12), (44, 0, 7), (45, 0, 60), (45, 60, 60)].all (fun q => q_okr q.1 q.2.1 q.2.2) = true := by decide +kernel
set_option maxRecDepth 100000 in
theorem q_ok_10 : [(45, 120, 51), (46, 0, 36), (47, 0, 60), (47, 60, 13), (48, 0, 60)].all (fun q => q_okr q.1 q.2.1 q.2.2) = true := by decide +kernel
set_option maxRecDepth 100000 in
theorem q_ok_11 : [(48, 60, 60), (48, 120, 22), (49, 0, 60), (49, 60, 47)].all (fun q => q_okr q.1 q.2.1 q.2.2) = true := by decide +kernel
set_option maxRecDepth 100000 in
theorem q_ok_12 : [(50, 0, 60), (50, 60, 53), (51, 0, 60), (51, 60, 60)].all (fun q => q_okr q.1 q.2.1 q.2.2) = true := by decide +kernel
set_option maxRecDepth 100000 in
theorem q_ok_13 : [(51, 120, 60), (51, 180, 4), (52, 0, 60), (52, 60, 5), (53, 0, 45), (54, 0, 43)].all (fun q => q_okr q.1 q.2.1 q.2.2) = true := by decide +kernel

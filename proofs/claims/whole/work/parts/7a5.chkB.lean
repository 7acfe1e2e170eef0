set_option maxRecDepth 100000 in
theorem q_ok_14 : [(55, 0, 60), (56, 0, 26), (57, 0, 59), (58, 0, 13), (59, 0, 27), (60, 0, 31)].all (fun q => q_okr q.1 q.2.1 q.2.2) = true := by decide +kernel
set_option maxRecDepth 100000 in
theorem q_ok_15 : [(61, 0, 25), (62, 0, 18), (63, 0, 60), (63, 60, 60), (63, 120, 25)].all (fun q => q_okr q.1 q.2.1 q.2.2) = true := by decide +kernel
set_option maxRecDepth 100000 in
theorem q_ok_16 : [(64, 0, 58), (65, 0, 36), (66, 0, 47), (67, 0, 28), (68, 0, 40)].all (fun q => q_okr q.1 q.2.1 q.2.2) = true := by decide +kernel
set_option maxRecDepth 100000 in
theorem q_ok_17 : [(69, 0, 47), (70, 0, 44), (71, 0, 24), (72, 0, 60), (72, 60, 15)].all (fun q => q_okr q.1 q.2.1 q.2.2) = true := by decide +kernel
set_option maxRecDepth 100000 in
theorem q_ok_18 : [(73, 0, 60), (73, 60, 6), (74, 0, 25), (75, 0, 24), (76, 0, 30), (77, 0, 52)].all (fun q => q_okr q.1 q.2.1 q.2.2) = true := by decide +kernel
set_option maxRecDepth 100000 in
theorem q_ok_19 : [(78, 0, 60), (78, 60, 21), (79, 0, 60), (79, 60, 25), (80, 0, 11), (81, 0, 34)].all (fun q => q_okr q.1 q.2.1 q.2.2) = true := by decide +kernel
set_option maxRecDepth 100000 in
theorem q_ok_20 : [(82, 0, 60), (82, 60, 46), (83, 0, 14), (84, 0, 49), (85, 0, 22)].all (fun q => q_okr q.1 q.2.1 q.2.2) = true := by decide +kernel
set_option maxRecDepth 100000 in
theorem q_ok_21 : [(86, 0, 60), (86, 60, 60), (86, 120, 60), (86, 180, 20), (87, 0, 40)].all (fun q => q_okr q.1 q.2.1 q.2.2) = true := by decide +kernel
set_option maxRecDepth 100000 in
theorem q_ok_22 : [(88, 0, 38), (89, 0, 10), (90, 0, 60), (90, 60, 5), (91, 0, 60), (91, 60, 17)].all (fun q => q_okr q.1 q.2.1 q.2.2) = true := by decide +kernel
set_option maxRecDepth 100000 in
theorem q_ok_23 : [(92, 0, 60), (92, 60, 1), (93, 0, 33), (94, 0, 30), (95, 0, 40), (96, 0, 27), (97, 0, 37)].all (fun q => q_okr q.1 q.2.1 q.2.2) = true := by decide +kernel
set_option maxRecDepth 100000 in
theorem q_ok_24 : [(98, 0, 60), (98, 60, 20), (99, 0, 60), (99, 60, 8), (100, 0, 30), (101, 0, 60)].all (fun q => q_okr q.1 q.2.1 q.2.2) = true := by decide +kernel
set_option maxRecDepth 100000 in
theorem q_ok_25 : [(101, 60, 55), (102, 0, 60), (102, 60, 8), (103, 0, 60)].all (fun q => q_okr q.1 q.2.1 q.2.2) = true := by decide +kernel
set_option maxRecDepth 100000 in
theorem q_ok_26 : [(103, 60, 60), (103, 120, 22), (104, 0, 5), (105, 0, 17), (106, 0, 60), (106, 60, 43)].all (fun q => q_okr q.1 q.2.1 q.2.2) = true := by decide +kernel
set_option maxRecDepth 100000 in
theorem q_ok_27 : [(107, 0, 38), (108, 0, 24), (109, 0, 31), (110, 0, 32), (111, 0, 42), (112, 0, 31), (113, 0, 21)].all (fun q => q_okr q.1 q.2.1 q.2.2) = true := by decide +kernel

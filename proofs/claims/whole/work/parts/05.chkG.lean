set_option maxRecDepth 100000 in
theorem q_ok_84 : [(303, 1500, 60), (303, 1560, 60), (303, 1620, 60), (303, 1680, 60)].all (fun q => q_okr q.1 q.2.1 q.2.2) = true := by decide +kernel
set_option maxRecDepth 100000 in
theorem q_ok_85 : [(303, 1740, 60), (303, 1800, 60), (303, 1860, 60), (303, 1920, 60)].all (fun q => q_okr q.1 q.2.1 q.2.2) = true := by decide +kernel
set_option maxRecDepth 100000 in
theorem q_ok_86 : [(303, 1980, 60), (303, 2040, 60), (303, 2100, 36)].all (fun q => q_okr q.1 q.2.1 q.2.2) = true := by decide +kernel

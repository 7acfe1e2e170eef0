set_option maxRecDepth 100000 in
theorem q_ok_98 : [(303, 1740, 60)].all (fun q => q_okr q.1 q.2.1 q.2.2) = true := by decide +kernel
set_option maxRecDepth 100000 in
theorem q_ok_99 : [(303, 1800, 60)].all (fun q => q_okr q.1 q.2.1 q.2.2) = true := by decide +kernel
set_option maxRecDepth 100000 in
theorem q_ok_100 : [(303, 1860, 60)].all (fun q => q_okr q.1 q.2.1 q.2.2) = true := by decide +kernel
set_option maxRecDepth 100000 in
theorem q_ok_101 : [(303, 1920, 60)].all (fun q => q_okr q.1 q.2.1 q.2.2) = true := by decide +kernel
set_option maxRecDepth 100000 in
theorem q_ok_102 : [(303, 1980, 60)].all (fun q => q_okr q.1 q.2.1 q.2.2) = true := by decide +kernel
set_option maxRecDepth 100000 in
theorem q_ok_103 : [(303, 2040, 60)].all (fun q => q_okr q.1 q.2.1 q.2.2) = true := by decide +kernel
set_option maxRecDepth 100000 in
theorem q_ok_104 : [(303, 2100, 36)].all (fun q => q_okr q.1 q.2.1 q.2.2) = true := by decide +kernel

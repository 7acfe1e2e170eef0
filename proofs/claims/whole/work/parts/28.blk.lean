/-! joins reached with more kept nearby -/
set_option maxRecDepth 20000 in
theorem e31_96_9 (t u : Nat) (I J : Nat → Nat → Int) (x0 : Nat) (x1 : Int) (x2 : Int) : q_E (31, 96, [vr x0, vi x1, vi x2], []) (qk t u I J) = some (vu, (qk t u I J)) := q_it_eq 400 [17, 20, 37, 41, 58, 81, 84, 93, 96] _ _
set_option maxRecDepth 20000 in
theorem e38_38_9 (t u : Nat) (I J : Nat → Nat → Int) (x1 : Nat) : q_E (38, 38, [vr 34, vr x1], []) (qk t u I J) = some (vu, (qk t u I J)) := q_it_eq 400 [38] _ _
set_option maxRecDepth 20000 in
theorem e192_24_9 (t u : Nat) (I J : Nat → Nat → Int) (x1 : Nat) : q_E (192, 24, [vr 265, vr x1], []) (qk t u I J) = some (vu, (qk t u I J)) := q_it_eq 400 [12, 24] _ _
set_option maxRecDepth 20000 in
theorem e193_53_9 (t u : Nat) (I J : Nat → Nat → Int) : q_E (193, 53, [vr 265], []) (qk t u I J) = some (vu, (qk t u I J)) := q_it_eq 400 [14, 23, 32, 41, 53] _ _
set_option maxRecDepth 20000 in
theorem e197_11_9 (t u : Nat) (I J : Nat → Nat → Int) : q_E (197, 11, [vr 265], []) (qk t u I J) = some (vu, (qk t u I J)) := q_it_eq 400 [11] _ _
set_option maxRecDepth 20000 in
theorem e198_50_9 (t u : Nat) (I J : Nat → Nat → Int) (x1 : Int) (x2 : Int) : q_E (198, 50, [vr 265, vi x1, vi x2], []) (qk t u I J) = (if I 265 13 = 0 then some (vi (I 265 7), (qk t u I J)) else some (vi x1, (qk t u I J))) := q_it_eq 400 [26, 38, 50] _ _
set_option maxRecDepth 20000 in
theorem e202_23_9 (t u : Nat) (I J : Nat → Nat → Int) (x1 : Nat) (x2 : Int) : q_E (202, 23, [vr 265, vr x1, vi x2], []) (qk t u I J) = (if I 265 24 = 0 then (q_bv (q_E (189, 0, [vr 265, vi 6, vi (I 265 4)], []) (qk t u I J)) fun M1 => q_E (202, 40, [vr 265, vr x1, vi x2], []) M1) else q_E (202, 40, [vr 265, vr x1, vi x2], []) (qk t u I J)) := q_it_eq 400 [5, 23, 40, 44] _ _
set_option maxRecDepth 20000 in
theorem e203_105_9 (t u : Nat) (I J : Nat → Nat → Int) : q_E (203, 105, [vr 265], []) (qk t u I J) = some (vu, (qk t u I J)) := q_it_eq 400 [6, 13, 37, 44, 54, 61, 86, 93, 105] _ _
set_option maxRecDepth 20000 in
theorem e219_108_9 (t u : Nat) (I J : Nat → Nat → Int) (x1 : Nat) (x2 : Int) (x4 : Int) : q_E (219, 108, [vr 265, vr x1, vi x2, vu, vi x4], []) (qk t u I J) = (q_bv (q_E (213, 0, [vr x1, vi x2, vu, vu, vu], []) (qk t u I J)) fun M1 => q_E (219, 113, [vr 265, vr x1, vi x2, vu, vi x4], []) M1) := q_it_eq 400 [18, 38, 41, 63, 105, 108, 113] _ _
set_option maxRecDepth 20000 in
theorem e219_108_10 (t u : Nat) (I J : Nat → Nat → Int) (x1 : Nat) (x2 : Int) (x3 : Int) : q_E (219, 108, [vr 265, vr x1, vi x2, vi x3, vu], []) (qk t u I J) = (q_bv (q_E (213, 0, [vr x1, vi x2, vu, vu, vu], []) (qk t u I J)) fun M1 => q_E (219, 113, [vr 265, vr x1, vi x2, vi x3, vu], []) M1) := q_it_eq 400 [18, 38, 41, 63, 105, 108, 113] _ _
set_option maxRecDepth 20000 in
theorem e31_96_10 (t u : Nat) (I J : Nat → Nat → Int) (x0 : Nat) (x2 : Int) : q_E (31, 96, [vr x0, vu, vi x2], []) (qk t u I J) = some (vu, (qk t u I J)) := q_it_eq 400 [17, 20, 37, 41, 58, 81, 84, 93, 96] _ _
set_option maxRecDepth 20000 in
theorem e202_40_9 (t u : Nat) (I J : Nat → Nat → Int) (x1 : Nat) (x2 : Int) : q_E (202, 40, [vr 265, vr x1, vi x2], []) (qk t u I J) = (q_bv (q_E (197, 0, [vr 265], []) (qk t u I J)) fun M1 => q_E (202, 44, [vr 265, vr x1, vi x2], []) M1) := q_it_eq 400 [5, 23, 40, 44] _ _
set_option maxRecDepth 20000 in
theorem e202_44_9 (t u : Nat) (I J : Nat → Nat → Int) (x1 : Nat) (x2 : Int) : q_E (202, 44, [vr 265, vr x1, vi x2], []) (qk t u I J) = some (vi 1, (qk t u I J)) := q_it_eq 400 [5, 23, 40, 44] _ _
set_option maxRecDepth 20000 in
theorem e219_113_9 (t u : Nat) (I J : Nat → Nat → Int) (x1 : Nat) (x2 : Int) (x4 : Int) : q_E (219, 113, [vr 265, vr x1, vi x2, vu, vi x4], []) (qk t u I J) = some (vu, (qk t u I J)) := q_it_eq 400 [18, 38, 41, 63, 105, 108, 113] _ _
set_option maxRecDepth 20000 in
theorem e219_113_10 (t u : Nat) (I J : Nat → Nat → Int) (x1 : Nat) (x2 : Int) (x3 : Int) : q_E (219, 113, [vr 265, vr x1, vi x2, vi x3, vu], []) (qk t u I J) = some (vu, (qk t u I J)) := q_it_eq 400 [18, 38, 41, 63, 105, 108, 113] _ _

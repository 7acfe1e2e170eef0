/-! 42: StewardHeaps$Reader.read(I)I -/
set_option maxRecDepth 20000 in
theorem e42_0 (t u : Nat) (I J : Nat → Nat → Int) (x1 : Int) : q_E (42, 0, [vr 2, vi x1, vu, vu], []) (qk t u I J) = (if kd u = 18 then (q_bv (q_E (93, 0, [vr u], []) (qk t u I J)) fun M1 => q_E (42, 7, [vr 2, vi x1, vu, vu], []) M1) else none) := q_it_eq 400 [7, 20, 24, 27, 56, 60, 67, 89, 109] _ _
set_option maxRecDepth 20000 in
theorem e42_27 (t u : Nat) (I J : Nat → Nat → Int) (x2 : Int) (x3 : Int) : q_E (42, 27, [vr 2, vu, vi x2, vi x3], []) (qk t u I J) = (if x3 < 900 then (if x2 = 0 then q_E (42, 67, [vr 2, vu, vi x2, vu], []) (qk t u I J) else (if I 3 3 = 3 then (q_bv (q_E (86, 0, [vr 3, vu, vu], []) (qk t u I J)) fun M1 => q_E (42, 56, [vr 2, vu, vi x2, vi x3], []) M1) else q_E (42, 67, [vr 2, vu, vi x2, vu], []) (qk t u I J))) else q_E (42, 67, [vr 2, vu, vi x2, vu], []) (qk t u I J)) := q_it_eq 400 [7, 20, 24, 27, 56, 60, 67, 89, 109] _ _
set_option maxRecDepth 20000 in
theorem e42_67 (t u : Nat) (I J : Nat → Nat → Int) (x2 : Int) : q_E (42, 67, [vr 2, vu, vi x2, vu], []) (qk t u I J) = (if x2 = 0 then q_E (42, 89, [vr 2, vu, vi x2, vu], []) (qk t u I J) else (if I 3 3 = 0 then q_E (42, 89, [vr 2, vu, vi x2, vu], []) (qk t u I J) else q_E (42, 109, [vr 2, vu, vu, vu], []) (qk t u (uI I 2 6 1) J))) := q_it_eq 400 [7, 20, 24, 27, 56, 60, 67, 89, 109] _ _
set_option maxRecDepth 20000 in
theorem e42_89 (t u : Nat) (I J : Nat → Nat → Int) (x2 : Int) : q_E (42, 89, [vr 2, vu, vi x2, vu], []) (qk t u I J) = (if x2 = 0 then q_E (42, 109, [vr 2, vu, vu, vu], []) (qk t u I J) else (if kd u = 18 then (if I u 9 = 0 then q_E (42, 109, [vr 2, vu, vu, vu], []) (qk t u (uI I 2 6 6) J) else q_E (42, 109, [vr 2, vu, vu, vu], []) (qk t u I J)) else none)) := q_it_eq 400 [7, 20, 24, 27, 56, 60, 67, 89, 109] _ _
set_option maxRecDepth 20000 in
theorem e42_109 (t u : Nat) (I J : Nat → Nat → Int) : q_E (42, 109, [vr 2, vu, vu, vu], []) (qk t u I J) = some (vi (I 2 6), (qk t u I J)) := q_it_eq 400 [7, 20, 24, 27, 56, 60, 67, 89, 109] _ _
set_option maxRecDepth 20000 in
theorem e42_7 (t u : Nat) (I J : Nat → Nat → Int) (x1 : Int) : q_E (42, 7, [vr 2, vi x1, vu, vu], []) (qk t u I J) = (q_bv (q_E (85, 0, [vr 3, vi x1], []) (qk t u (uI I 2 6 0) J)) fun M1 => q_E (42, 20, [vr 2, vi x1, vu, vu], []) M1) := q_it_eq 400 [7, 20, 24, 27, 56, 60, 67, 89, 109] _ _
set_option maxRecDepth 20000 in
theorem e42_56 (t u : Nat) (I J : Nat → Nat → Int) (x2 : Int) (x3 : Int) : q_E (42, 56, [vr 2, vu, vi x2, vi x3], []) (qk t u I J) = (q_bi (q_E (45, 0, [vr 2], []) (qk t u I J)) fun z M1 => q_E (42, 60, [vr 2, vu, vi x2, vi x3], [vi z]) M1) := q_it_eq 400 [7, 20, 24, 27, 56, 60, 67, 89, 109] _ _
set_option maxRecDepth 20000 in
theorem e42_20 (t u : Nat) (I J : Nat → Nat → Int) (x1 : Int) : q_E (42, 20, [vr 2, vi x1, vu, vu], []) (qk t u I J) = (q_bi (q_E (45, 0, [vr 2], []) (qk t u I J)) fun z M1 => q_E (42, 24, [vr 2, vi x1, vu, vu], [vi z]) M1) := q_it_eq 400 [7, 20, 24, 27, 56, 60, 67, 89, 109] _ _
set_option maxRecDepth 20000 in
theorem e42_60 (t u : Nat) (I J : Nat → Nat → Int) (x2 : Int) (x3 : Int) (y0 : Int) : q_E (42, 60, [vr 2, vu, vi x2, vi x3], [vi y0]) (qk t u I J) = q_E (42, 27, [vr 2, vu, vi y0, vi (wr (x3 + 1))], []) (qk t u I J) := q_it_eq 400 [7, 20, 24, 27, 56, 60, 67, 89, 109] _ _
set_option maxRecDepth 20000 in
theorem e42_24 (t u : Nat) (I J : Nat → Nat → Int) (x1 : Int) (y0 : Int) : q_E (42, 24, [vr 2, vi x1, vu, vu], [vi y0]) (qk t u I J) = q_E (42, 27, [vr 2, vu, vi y0, vi 0], []) (qk t u I J) := q_it_eq 400 [7, 20, 24, 27, 56, 60, 67, 89, 109] _ _
/-! 43: StewardHeaps$Reader.handOver(LStewardHeaps$Told;)LStewardHeaps$Told; -/
set_option maxRecDepth 20000 in
theorem e43_0 (t u : Nat) (I J : Nat → Nat → Int) (x1 : Nat) : q_E (43, 0, [vr 2, vr x1, vu], []) (qk t u I J) = (if x1 ≤ 998 then some (vr u, (sR (qk t u I J) 2 3 x1)) else none) := q_it_eq 400 [] _ _
/-! 44: StewardHeaps$Reader.fail(I)Z -/
set_option maxRecDepth 20000 in
theorem e44_0 (t u : Nat) (I J : Nat → Nat → Int) (x1 : Int) : q_E (44, 0, [vr 2, vi x1], []) (qk t u I J) = some (vi 0, (qk t u (uI I 2 6 x1) J)) := q_it_eq 400 [] _ _
/-! 45: StewardHeaps$Reader.readLine()Z -/
set_option maxRecDepth 20000 in
theorem e45_0 (t u : Nat) (I J : Nat → Nat → Int) : q_E (45, 0, [vr 2], []) (qk t u I J) = (q_bi (q_E (90, 0, [vr 3, vr 1000, vu], []) (qk t u I J)) fun z M1 => q_E (45, 9, [vr 2], [vi z]) M1) := q_it_eq 400 [9, 26, 34, 44, 67, 74, 81, 92, 100, 107, 114, 125, 149, 156, 163, 170] _ _
set_option maxRecDepth 20000 in
theorem e45_81 (t u : Nat) (I J : Nat → Nat → Int) : q_E (45, 81, [vu], []) (qk t u I J) = some (vi 0, (qk t u I J)) := q_it_eq 400 [9, 26, 34, 44, 67, 74, 81, 92, 100, 107, 114, 125, 149, 156, 163, 170] _ _
set_option maxRecDepth 20000 in
theorem e45_114 (t u : Nat) (I J : Nat → Nat → Int) : q_E (45, 114, [vu], []) (qk t u I J) = some (vi 0, (qk t u I J)) := q_it_eq 400 [9, 26, 34, 44, 67, 74, 81, 92, 100, 107, 114, 125, 149, 156, 163, 170] _ _
set_option maxRecDepth 20000 in
theorem e45_163 (t u : Nat) (I J : Nat → Nat → Int) : q_E (45, 163, [vu], []) (qk t u I J) = some (vi 0, (qk t u I J)) := q_it_eq 400 [9, 26, 34, 44, 67, 74, 81, 92, 100, 107, 114, 125, 149, 156, 163, 170] _ _
set_option maxRecDepth 20000 in
theorem e45_9 (t u : Nat) (I J : Nat → Nat → Int) (y0 : Int) : q_E (45, 9, [vr 2], [vi y0]) (qk t u I J) = (if y0 = 0 then (q_bi (q_E (90, 0, [vr 3, vr 1003, vu], []) (qk t u I J)) fun z M1 => q_E (45, 44, [vr 2], [vi z]) M1) else (if kd u = 18 then (if I u 7 = 0 then (q_bi (q_E (47, 0, [vr 2], []) (qk t u I J)) fun z M1 => q_E (45, 26, [vr 2], [vi z]) M1) else (q_bi (q_E (44, 0, [vr 2, vi 3], []) (qk t u I J)) fun z M1 => q_E (45, 34, [vr 2], [vi z]) M1)) else none)) := q_it_eq 400 [9, 26, 34, 44, 67, 74, 81, 92, 100, 107, 114, 125, 149, 156, 163, 170] _ _
set_option maxRecDepth 20000 in
theorem e45_44 (t u : Nat) (I J : Nat → Nat → Int) (y0 : Int) : q_E (45, 44, [vr 2], [vi y0]) (qk t u I J) = (if y0 = 0 then (q_bi (q_E (90, 0, [vr 3, vr 1004, vu], []) (qk t u I J)) fun z M1 => q_E (45, 92, [vr 2], [vi z]) M1) else (if kd u = 18 then (if I u 9 < 4 then (q_bi (q_E (46, 0, [vr 2, vi 1], []) (qk t u I J)) fun z M1 => q_E (45, 67, [vr 2], [vi z]) M1) else (q_bi (q_E (46, 0, [vr 2, vi 0], []) (qk t u I J)) fun z M1 => q_E (45, 67, [vr 2], [vi z]) M1)) else none)) := q_it_eq 400 [9, 26, 34, 44, 67, 74, 81, 92, 100, 107, 114, 125, 149, 156, 163, 170] _ _
set_option maxRecDepth 20000 in
theorem e45_26 (t u : Nat) (I J : Nat → Nat → Int) (y0 : Int) : q_E (45, 26, [vr 2], [vi y0]) (qk t u I J) = q_E (45, 34, [vr 2], [vi y0]) (qk t u I J) := q_it_eq 400 [9, 26, 34, 44, 67, 74, 81, 92, 100, 107, 114, 125, 149, 156, 163, 170] _ _
set_option maxRecDepth 20000 in
theorem e45_34 (t u : Nat) (I J : Nat → Nat → Int) (y0 : Int) : q_E (45, 34, [vr 2], [vi y0]) (qk t u I J) = (if y0 = 0 ∨ y0 = 1 then some (vi y0, (qk t u I J)) else none) := q_it_eq 400 [9, 26, 34, 44, 67, 74, 81, 92, 100, 107, 114, 125, 149, 156, 163, 170] _ _
set_option maxRecDepth 20000 in
theorem e45_92 (t u : Nat) (I J : Nat → Nat → Int) (y0 : Int) : q_E (45, 92, [vr 2], [vi y0]) (qk t u I J) = (if y0 = 0 then (q_bi (q_E (90, 0, [vr 3, vr 1005, vu], []) (qk t u I J)) fun z M1 => q_E (45, 125, [vr 2], [vi z]) M1) else (q_bi (q_E (46, 0, [vr 2, vi 1], []) (qk t u I J)) fun z M1 => q_E (45, 100, [vr 2], [vi z]) M1)) := q_it_eq 400 [9, 26, 34, 44, 67, 74, 81, 92, 100, 107, 114, 125, 149, 156, 163, 170] _ _
set_option maxRecDepth 20000 in
theorem e45_67 (t u : Nat) (I J : Nat → Nat → Int) (y0 : Int) : q_E (45, 67, [vr 2], [vi y0]) (qk t u I J) = (if y0 = 0 then q_E (45, 81, [vu], []) (qk t u I J) else (q_bi (q_E (48, 0, [vr 2, vu, vu], []) (qk t u I J)) fun z M1 => q_E (45, 74, [vr 2], [vi z]) M1)) := q_it_eq 400 [9, 26, 34, 44, 67, 74, 81, 92, 100, 107, 114, 125, 149, 156, 163, 170] _ _
set_option maxRecDepth 20000 in
theorem e45_125 (t u : Nat) (I J : Nat → Nat → Int) (y0 : Int) : q_E (45, 125, [vr 2], [vi y0]) (qk t u I J) = (if y0 = 0 then (q_bi (q_E (44, 0, [vr 2, vi 1], []) (qk t u I J)) fun z M1 => q_E (45, 170, [vr 2], [vi z]) M1) else (if kd u = 18 then (if I u 11 < 6 then (q_bi (q_E (46, 0, [vr 2, vi 1], []) (qk t u I J)) fun z M1 => q_E (45, 149, [vr 2], [vi z]) M1) else (q_bi (q_E (46, 0, [vr 2, vi 0], []) (qk t u I J)) fun z M1 => q_E (45, 149, [vr 2], [vi z]) M1)) else none)) := q_it_eq 400 [9, 26, 34, 44, 67, 74, 81, 92, 100, 107, 114, 125, 149, 156, 163, 170] _ _
set_option maxRecDepth 20000 in
theorem e45_100 (t u : Nat) (I J : Nat → Nat → Int) (y0 : Int) : q_E (45, 100, [vr 2], [vi y0]) (qk t u I J) = (if y0 = 0 then q_E (45, 114, [vu], []) (qk t u I J) else (q_bi (q_E (50, 0, [vr 2], []) (qk t u I J)) fun z M1 => q_E (45, 107, [vr 2], [vi z]) M1)) := q_it_eq 400 [9, 26, 34, 44, 67, 74, 81, 92, 100, 107, 114, 125, 149, 156, 163, 170] _ _
set_option maxRecDepth 20000 in
theorem e45_74 (t u : Nat) (I J : Nat → Nat → Int) (y0 : Int) : q_E (45, 74, [vr 2], [vi y0]) (qk t u I J) = (if y0 = 0 then q_E (45, 81, [vu], []) (qk t u I J) else some (vi 1, (qk t u I J))) := q_it_eq 400 [9, 26, 34, 44, 67, 74, 81, 92, 100, 107, 114, 125, 149, 156, 163, 170] _ _
set_option maxRecDepth 20000 in
theorem e45_170 (t u : Nat) (I J : Nat → Nat → Int) (y0 : Int) : q_E (45, 170, [vr 2], [vi y0]) (qk t u I J) = (if y0 = 0 ∨ y0 = 1 then some (vi y0, (qk t u I J)) else none) := q_it_eq 400 [9, 26, 34, 44, 67, 74, 81, 92, 100, 107, 114, 125, 149, 156, 163, 170] _ _
set_option maxRecDepth 20000 in
theorem e45_149 (t u : Nat) (I J : Nat → Nat → Int) (y0 : Int) : q_E (45, 149, [vr 2], [vi y0]) (qk t u I J) = (if y0 = 0 then q_E (45, 163, [vu], []) (qk t u I J) else (q_bi (q_E (51, 0, [vr 2, vu], []) (qk t u I J)) fun z M1 => q_E (45, 156, [vr 2], [vi z]) M1)) := q_it_eq 400 [9, 26, 34, 44, 67, 74, 81, 92, 100, 107, 114, 125, 149, 156, 163, 170] _ _
set_option maxRecDepth 20000 in
theorem e45_107 (t u : Nat) (I J : Nat → Nat → Int) (y0 : Int) : q_E (45, 107, [vr 2], [vi y0]) (qk t u I J) = (if y0 = 0 then q_E (45, 114, [vu], []) (qk t u I J) else some (vi 1, (qk t u I J))) := q_it_eq 400 [9, 26, 34, 44, 67, 74, 81, 92, 100, 107, 114, 125, 149, 156, 163, 170] _ _
set_option maxRecDepth 20000 in
theorem e45_156 (t u : Nat) (I J : Nat → Nat → Int) (y0 : Int) : q_E (45, 156, [vr 2], [vi y0]) (qk t u I J) = (if y0 = 0 then q_E (45, 163, [vu], []) (qk t u I J) else some (vi 1, (qk t u I J))) := q_it_eq 400 [9, 26, 34, 44, 67, 74, 81, 92, 100, 107, 114, 125, 149, 156, 163, 170] _ _
/-! 46: StewardHeaps$Reader.opensLine(Z)Z -/
set_option maxRecDepth 20000 in
theorem e46_0 (t u : Nat) (I J : Nat → Nat → Int) (x1 : Int) : q_E (46, 0, [vr 2, vi x1], []) (qk t u I J) = (if x1 = 0 then (q_bi (q_E (44, 0, [vr 2, vi 5], []) (qk t u I J)) fun z M1 => q_E (46, 9, [vr 2, vi x1], [vi z]) M1) else (if kd u = 18 then (if I u 7 = 0 then (q_bi (q_E (44, 0, [vr 2, vi 6], []) (qk t u I J)) fun z M1 => q_E (46, 26, [vr 2, vi x1], [vi z]) M1) else (q_bv (q_E (86, 0, [vr 3, vu, vu], []) (qk t u I J)) fun M1 => q_E (46, 34, [vr 2, vi x1], []) M1)) else none)) := q_it_eq 400 [9, 26, 34] _ _
set_option maxRecDepth 20000 in
theorem e46_9 (t u : Nat) (I J : Nat → Nat → Int) (x1 : Int) (y0 : Int) : q_E (46, 9, [vr 2, vi x1], [vi y0]) (qk t u I J) = (if y0 = 0 ∨ y0 = 1 then some (vi y0, (qk t u I J)) else none) := q_it_eq 400 [9, 26, 34] _ _
set_option maxRecDepth 20000 in
theorem e46_26 (t u : Nat) (I J : Nat → Nat → Int) (x1 : Int) (y0 : Int) : q_E (46, 26, [vr 2, vi x1], [vi y0]) (qk t u I J) = (if y0 = 0 ∨ y0 = 1 then some (vi y0, (qk t u I J)) else none) := q_it_eq 400 [9, 26, 34] _ _
set_option maxRecDepth 20000 in
theorem e46_34 (t u : Nat) (I J : Nat → Nat → Int) (x1 : Int) : q_E (46, 34, [vr 2, vi x1], []) (qk t u I J) = some (vi 1, (qk t u I J)) := q_it_eq 400 [9, 26, 34] _ _
/-! 47: StewardHeaps$Reader.readStore()Z -/
set_option maxRecDepth 20000 in
theorem e47_0 (t u : Nat) (I J : Nat → Nat → Int) : q_E (47, 0, [vr 2], []) (qk t u I J) = (q_bv (q_E (86, 0, [vr 3, vu, vu], []) (qk t u I J)) fun M1 => q_E (47, 7, [vr 2], []) M1) := q_it_eq 400 [7, 13, 23, 45, 55] _ _
set_option maxRecDepth 20000 in
theorem e47_7 (t u : Nat) (I J : Nat → Nat → Int) : q_E (47, 7, [vr 2], []) (qk t u I J) = (q_bi (q_E (56, 0, [vr 2, vr 1001], []) (qk t u I J)) fun z M1 => q_E (47, 13, [vr 2], [vi z]) M1) := q_it_eq 400 [7, 13, 23, 45, 55] _ _
set_option maxRecDepth 20000 in
theorem e47_13 (t u : Nat) (I J : Nat → Nat → Int) (y0 : Int) : q_E (47, 13, [vr 2], [vi y0]) (qk t u I J) = (if y0 = 0 then some (vi 0, (qk t u I J)) else (q_bi (q_E (57, 0, [vr 2, vi 2, vi 9], []) (qk t u I J)) fun z M1 => q_E (47, 23, [vr 2], [vi z]) M1)) := q_it_eq 400 [7, 13, 23, 45, 55] _ _
set_option maxRecDepth 20000 in
theorem e47_23 (t u : Nat) (I J : Nat → Nat → Int) (y0 : Int) : q_E (47, 23, [vr 2], [vi y0]) (qk t u I J) = (if y0 = 0 then some (vi 0, (qk t u I J)) else (if kd u = 18 then (q_bi (q_E (56, 0, [vr 2, vr 1002], []) (qk t u (uI I u 7 (I 2 4)) J)) fun z M1 => q_E (47, 45, [vr 2], [vi z]) M1) else none)) := q_it_eq 400 [7, 13, 23, 45, 55] _ _
set_option maxRecDepth 20000 in
theorem e47_45 (t u : Nat) (I J : Nat → Nat → Int) (y0 : Int) : q_E (47, 45, [vr 2], [vi y0]) (qk t u I J) = (if y0 = 0 then some (vi 0, (qk t u I J)) else (q_bi (q_E (57, 0, [vr 2, vi 0, vi 100], []) (qk t u I J)) fun z M1 => q_E (47, 55, [vr 2], [vi z]) M1)) := q_it_eq 400 [7, 13, 23, 45, 55] _ _
set_option maxRecDepth 20000 in
theorem e47_55 (t u : Nat) (I J : Nat → Nat → Int) (y0 : Int) : q_E (47, 55, [vr 2], [vi y0]) (qk t u I J) = (if y0 = 0 then some (vi 0, (qk t u I J)) else (if kd u = 18 then some (vi 1, (qk t u (uI I u 8 (I 2 4)) J)) else none)) := q_it_eq 400 [7, 13, 23, 45, 55] _ _
/-! 48: StewardHeaps$Reader.readCellar()Z -/
set_option maxRecDepth 20000 in
theorem e48_0 (t u : Nat) (I J : Nat → Nat → Int) : q_E (48, 0, [vr 2, vu, vu], []) (qk t u I J) = (if kd u = 18 then (q_bi (q_E (52, 0, [vr 2], []) (qk t u I J)) fun z M1 => q_E (48, 12, [vr 2, vi (I u 9), vu], [vi z]) M1) else none) := q_it_eq 400 [12, 25, 30, 39, 65, 73, 77, 88, 106, 122] _ _
set_option maxRecDepth 20000 in
theorem e48_12 (t u : Nat) (I J : Nat → Nat → Int) (x1 : Int) (y0 : Int) : q_E (48, 12, [vr 2, vi x1, vu], [vi y0]) (qk t u I J) = (if y0 = 0 then (q_bi (q_E (44, 0, [vr 2, vi 1], []) (qk t u I J)) fun z M1 => q_E (48, 25, [vr 2, vi x1, vu], [vi z]) M1) else (if x1 < 4 then (q_bi (q_E (53, 0, [vr 2, vu], []) (qk t u I J)) fun z M1 => q_E (48, 30, [vr 2, vi x1, vu], [vi z]) M1) else (q_bi (q_E (44, 0, [vr 2, vi 1], []) (qk t u I J)) fun z M1 => q_E (48, 25, [vr 2, vi x1, vu], [vi z]) M1))) := q_it_eq 400 [12, 25, 30, 39, 65, 73, 77, 88, 106, 122] _ _
set_option maxRecDepth 20000 in
theorem e48_25 (t u : Nat) (I J : Nat → Nat → Int) (x1 : Int) (y0 : Int) : q_E (48, 25, [vr 2, vi x1, vu], [vi y0]) (qk t u I J) = (if y0 = 0 ∨ y0 = 1 then some (vi y0, (qk t u I J)) else none) := q_it_eq 400 [12, 25, 30, 39, 65, 73, 77, 88, 106, 122] _ _
set_option maxRecDepth 20000 in
theorem e48_30 (t u : Nat) (I J : Nat → Nat → Int) (x1 : Int) (y0 : Int) : q_E (48, 30, [vr 2, vi x1, vu], [vi y0]) (qk t u I J) = (if y0 = (-1) then (if (0 : Int) ≤ x1 ∧ x1 < 4 then (q_bi (q_E (89, 0, [vr 3], []) (qk t u (uI I 5 (Int.toNat x1) (I 3 2)) J)) fun z M1 => q_E (48, 65, [vr 2, vi x1, vu], [vi z, vi x1, vr 6]) M1) else none) else (q_bi (q_E (44, 0, [vr 2, vi 3], []) (qk t u I J)) fun z M1 => q_E (48, 39, [vr 2, vi x1, vu], [vi z]) M1)) := q_it_eq 400 [12, 25, 30, 39, 65, 73, 77, 88, 106, 122] _ _
set_option maxRecDepth 20000 in
theorem e48_65 (t u : Nat) (I J : Nat → Nat → Int) (x1 : Int) (y0 : Int) (y1 : Int) (y2 : Nat) : q_E (48, 65, [vr 2, vi x1, vu], [vi y0, vi y1, vr y2]) (qk t u I J) = (if kd y2 = 1 then (if (0 : Int) ≤ y1 ∧ y1 < ln y2 then (q_bv (q_E (86, 0, [vr 3, vu, vu], []) (qk t u (uI I y2 (Int.toNat y1) y0) J)) fun M1 => q_E (48, 73, [vr 2, vi x1, vu], []) M1) else none) else none) := q_it_eq 400 [12, 25, 30, 39, 65, 73, 77, 88, 106, 122] _ _
set_option maxRecDepth 20000 in
theorem e48_39 (t u : Nat) (I J : Nat → Nat → Int) (x1 : Int) (y0 : Int) : q_E (48, 39, [vr 2, vi x1, vu], [vi y0]) (qk t u I J) = (if y0 = 0 ∨ y0 = 1 then some (vi y0, (qk t u I J)) else none) := q_it_eq 400 [12, 25, 30, 39, 65, 73, 77, 88, 106, 122] _ _
set_option maxRecDepth 20000 in
theorem e48_73 (t u : Nat) (I J : Nat → Nat → Int) (x1 : Int) : q_E (48, 73, [vr 2, vi x1, vu], []) (qk t u I J) = (q_bi (q_E (55, 0, [vr 2], []) (qk t u I J)) fun z M1 => q_E (48, 77, [vr 2, vi x1, vu], [vi z]) M1) := q_it_eq 400 [12, 25, 30, 39, 65, 73, 77, 88, 106, 122] _ _
set_option maxRecDepth 20000 in
theorem e48_77 (t u : Nat) (I J : Nat → Nat → Int) (x1 : Int) (y0 : Int) : q_E (48, 77, [vr 2, vi x1, vu], [vi y0]) (qk t u I J) = (if y0 = (-1) then (q_bi (q_E (44, 0, [vr 2, vi 1], []) (qk t u I J)) fun z M1 => q_E (48, 88, [vr 2, vi x1, vi y0], [vi z]) M1) else (if kd u = 18 then (if kd (q_R t u u 1) = 1 then (if (0 : Int) ≤ x1 ∧ x1 < ln (q_R t u u 1) then (q_bv (q_E (86, 0, [vr 3, vu, vu], []) (qk t u (uI I (q_R t u u 1) (Int.toNat x1) y0) J)) fun M1 => q_E (48, 106, [vr 2, vi x1, vi y0], []) M1) else none) else none) else none)) := q_it_eq 400 [12, 25, 30, 39, 65, 73, 77, 88, 106, 122] _ _
set_option maxRecDepth 20000 in
theorem e48_88 (t u : Nat) (I J : Nat → Nat → Int) (x1 : Int) (x2 : Int) (y0 : Int) : q_E (48, 88, [vr 2, vi x1, vi x2], [vi y0]) (qk t u I J) = (if y0 = 0 ∨ y0 = 1 then some (vi y0, (qk t u I J)) else none) := q_it_eq 400 [12, 25, 30, 39, 65, 73, 77, 88, 106, 122] _ _
set_option maxRecDepth 20000 in
theorem e48_106 (t u : Nat) (I J : Nat → Nat → Int) (x1 : Int) (x2 : Int) : q_E (48, 106, [vr 2, vi x1, vi x2], []) (qk t u I J) = (if kd u = 18 then (if kd (q_R t u u 0) = 10 then (if kd (q_R t u (q_R t u u 0) 0) = 4 then (if (0 : Int) ≤ x1 ∧ x1 < ln (q_R t u (q_R t u u 0) 0) then (q_bi (q_E (49, 0, [vr 2, vr (q_R t u (q_R t u (q_R t u u 0) 0) (Int.toNat x1)), vu, vu], []) (qk t u I J)) fun z M1 => q_E (48, 122, [vr 2, vi x1, vi x2], [vi z]) M1) else none) else none) else none) else none) := q_it_eq 400 [12, 25, 30, 39, 65, 73, 77, 88, 106, 122] _ _
set_option maxRecDepth 20000 in
theorem e48_122 (t u : Nat) (I J : Nat → Nat → Int) (x1 : Int) (x2 : Int) (y0 : Int) : q_E (48, 122, [vr 2, vi x1, vi x2], [vi y0]) (qk t u I J) = (if y0 = 0 then some (vi 0, (qk t u I J)) else (if kd u = 18 then (if kd u = 18 then some (vi 1, (qk t u (uI I u 9 (wr ((I u 9) + 1))) J)) else none) else none)) := q_it_eq 400 [12, 25, 30, 39, 65, 73, 77, 88, 106, 122] _ _
/-! 49: StewardHeaps$Reader.readHeaps(LStewardHeaps$Heaps;)Z -/
set_option maxRecDepth 20000 in
theorem e49_0 (t u : Nat) (I J : Nat → Nat → Int) (x1 : Nat) : q_E (49, 0, [vr 2, vr x1, vu, vu], []) (qk t u I J) = (if I 3 3 = 2 then q_E (49, 19, [vr 2, vr x1, vi 0, vu], []) (qk t u I J) else (q_bi (q_E (44, 0, [vr 2, vi 1], []) (qk t u I J)) fun z M1 => q_E (49, 16, [vr 2, vr x1, vu, vu], [vi z]) M1)) := q_it_eq 400 [16, 19, 43, 59, 71, 86, 92, 99] _ _
set_option maxRecDepth 20000 in
theorem e49_19 (t u : Nat) (I J : Nat → Nat → Int) (x1 : Nat) (x2 : Int) : q_E (49, 19, [vr 2, vr x1, vi x2, vu], []) (qk t u I J) = (if (8 : Int) < x2 then some (vi 1, (qk t u I J)) else (if I 3 3 = 2 then (q_bi (q_E (88, 0, [vr 3, vu, vu], []) (qk t u I J)) fun z M1 => q_E (49, 43, [vr 2, vr x1, vi x2, vu], [vi z]) M1) else some (vi 1, (qk t u I J)))) := q_it_eq 400 [16, 19, 43, 59, 71, 86, 92, 99] _ _
set_option maxRecDepth 20000 in
theorem e49_16 (t u : Nat) (I J : Nat → Nat → Int) (x1 : Nat) (y0 : Int) : q_E (49, 16, [vr 2, vr x1, vu, vu], [vi y0]) (qk t u I J) = (if y0 = 0 ∨ y0 = 1 then some (vi y0, (qk t u I J)) else none) := q_it_eq 400 [16, 19, 43, 59, 71, 86, 92, 99] _ _
set_option maxRecDepth 20000 in
theorem e49_43 (t u : Nat) (I J : Nat → Nat → Int) (x1 : Nat) (x2 : Int) (y0 : Int) : q_E (49, 43, [vr 2, vr x1, vi x2, vu], [vi y0]) (qk t u I J) = (if y0 < 1 then (q_bi (q_E (44, 0, [vr 2, vi 4], []) (qk t u I J)) fun z M1 => q_E (49, 71, [vr 2, vr x1, vi x2, vi y0], [vi z]) M1) else (if (30 : Int) < y0 then (q_bi (q_E (44, 0, [vr 2, vi 4], []) (qk t u I J)) fun z M1 => q_E (49, 71, [vr 2, vr x1, vi x2, vi y0], [vi z]) M1) else (if kd x1 = 12 then (q_bi (q_E (27, 0, [vr x1, vu, vu], []) (qk t u I J)) fun z M1 => q_E (49, 59, [vr 2, vr x1, vi x2, vi y0], [vi z]) M1) else none))) := q_it_eq 400 [16, 19, 43, 59, 71, 86, 92, 99] _ _
set_option maxRecDepth 20000 in
theorem e49_71 (t u : Nat) (I J : Nat → Nat → Int) (x1 : Nat) (x2 : Int) (x3 : Int) (y0 : Int) : q_E (49, 71, [vr 2, vr x1, vi x2, vi x3], [vi y0]) (qk t u I J) = (if y0 = 0 ∨ y0 = 1 then some (vi y0, (qk t u I J)) else none) := q_it_eq 400 [16, 19, 43, 59, 71, 86, 92, 99] _ _
set_option maxRecDepth 20000 in
theorem e49_59 (t u : Nat) (I J : Nat → Nat → Int) (x1 : Nat) (x2 : Int) (x3 : Int) (y0 : Int) : q_E (49, 59, [vr 2, vr x1, vi x2, vi x3], [vi y0]) (qk t u I J) = (if (40 : Int) < wr (y0 + x3) then (q_bi (q_E (44, 0, [vr 2, vi 4], []) (qk t u I J)) fun z M1 => q_E (49, 71, [vr 2, vr x1, vi x2, vi x3], [vi z]) M1) else (if kd x1 = 12 then (if I x1 1 < 8 then (if kd x1 = 12 then (q_bv (q_E (29, 0, [vr x1, vi x3, vu], []) (qk t u I J)) fun M1 => q_E (49, 92, [vr 2, vr x1, vi x2, vi x3], []) M1) else none) else (q_bi (q_E (44, 0, [vr 2, vi 5], []) (qk t u I J)) fun z M1 => q_E (49, 86, [vr 2, vr x1, vi x2, vi x3], [vi z]) M1)) else none)) := q_it_eq 400 [16, 19, 43, 59, 71, 86, 92, 99] _ _
set_option maxRecDepth 20000 in
theorem e49_92 (t u : Nat) (I J : Nat → Nat → Int) (x1 : Nat) (x2 : Int) (x3 : Int) : q_E (49, 92, [vr 2, vr x1, vi x2, vi x3], []) (qk t u I J) = (q_bv (q_E (86, 0, [vr 3, vu, vu], []) (qk t u I J)) fun M1 => q_E (49, 99, [vr 2, vr x1, vi x2, vi x3], []) M1) := q_it_eq 400 [16, 19, 43, 59, 71, 86, 92, 99] _ _
set_option maxRecDepth 20000 in
theorem e49_86 (t u : Nat) (I J : Nat → Nat → Int) (x1 : Nat) (x2 : Int) (x3 : Int) (y0 : Int) : q_E (49, 86, [vr 2, vr x1, vi x2, vi x3], [vi y0]) (qk t u I J) = (if y0 = 0 ∨ y0 = 1 then some (vi y0, (qk t u I J)) else none) := q_it_eq 400 [16, 19, 43, 59, 71, 86, 92, 99] _ _
set_option maxRecDepth 20000 in
theorem e49_99 (t u : Nat) (I J : Nat → Nat → Int) (x1 : Nat) (x2 : Int) (x3 : Int) : q_E (49, 99, [vr 2, vr x1, vi x2, vi x3], []) (qk t u I J) = q_E (49, 19, [vr 2, vr x1, vi (wr (x2 + 1)), vu], []) (qk t u I J) := q_it_eq 400 [16, 19, 43, 59, 71, 86, 92, 99] _ _
/-! 50: StewardHeaps$Reader.readUnsure()Z -/
set_option maxRecDepth 20000 in
theorem e50_0 (t u : Nat) (I J : Nat → Nat → Int) : q_E (50, 0, [vr 2], []) (qk t u I J) = (q_bi (q_E (54, 0, [vr 2], []) (qk t u I J)) fun z M1 => q_E (50, 4, [vr 2], [vi z]) M1) := q_it_eq 400 [4, 20, 35, 40, 48, 55, 79, 98, 111] _ _
set_option maxRecDepth 20000 in
theorem e50_35 (t u : Nat) (I J : Nat → Nat → Int) : q_E (50, 35, [vr 2], []) (qk t u I J) = (q_bi (q_E (44, 0, [vr 2, vi 3], []) (qk t u I J)) fun z M1 => q_E (50, 40, [vr 2], [vi z]) M1) := q_it_eq 400 [4, 20, 35, 40, 48, 55, 79, 98, 111] _ _
set_option maxRecDepth 20000 in
theorem e50_48 (t u : Nat) (I J : Nat → Nat → Int) : q_E (50, 48, [vr 2], []) (qk t u I J) = (q_bi (q_E (57, 0, [vr 2, vi 1, vi 9], []) (qk t u I J)) fun z M1 => q_E (50, 55, [vr 2], [vi z]) M1) := q_it_eq 400 [4, 20, 35, 40, 48, 55, 79, 98, 111] _ _
set_option maxRecDepth 20000 in
theorem e50_79 (t u : Nat) (I J : Nat → Nat → Int) : q_E (50, 79, [vr 2], []) (qk t u I J) = (if kd u = 18 then (if kd u = 18 then (if kd (q_R t u u 3) = 1 then (if (0 : Int) ≤ I u 10 ∧ I u 10 < ln (q_R t u u 3) then q_E (50, 98, [vr 2], []) (qk t u (uI I (q_R t u u 3) (Int.toNat (I u 10)) (I 2 4)) J) else none) else none) else none) else none) := q_it_eq 400 [4, 20, 35, 40, 48, 55, 79, 98, 111] _ _
set_option maxRecDepth 20000 in
theorem e50_98 (t u : Nat) (I J : Nat → Nat → Int) : q_E (50, 98, [vr 2], []) (qk t u I J) = (if kd u = 18 then (if kd u = 18 then q_E (50, 111, [vu], []) (qk t u (uI I u 10 (wr ((I u 10) + 1))) J) else none) else none) := q_it_eq 400 [4, 20, 35, 40, 48, 55, 79, 98, 111] _ _
set_option maxRecDepth 20000 in
theorem e50_111 (t u : Nat) (I J : Nat → Nat → Int) : q_E (50, 111, [vu], []) (qk t u I J) = some (vi 1, (qk t u I J)) := q_it_eq 400 [4, 20, 35, 40, 48, 55, 79, 98, 111] _ _
set_option maxRecDepth 20000 in
theorem e50_4 (t u : Nat) (I J : Nat → Nat → Int) (y0 : Int) : q_E (50, 4, [vr 2], [vi y0]) (qk t u I J) = (if y0 = 0 then some (vi 0, (qk t u I J)) else (if kd u = 18 then (q_bi (q_E (94, 0, [vr u, vi (I 2 5), vu], []) (qk t u I J)) fun z M1 => q_E (50, 20, [vr 2], [vi z]) M1) else none)) := q_it_eq 400 [4, 20, 35, 40, 48, 55, 79, 98, 111] _ _
set_option maxRecDepth 20000 in
theorem e50_40 (t u : Nat) (I J : Nat → Nat → Int) (y0 : Int) : q_E (50, 40, [vr 2], [vi y0]) (qk t u I J) = (if y0 = 0 ∨ y0 = 1 then some (vi y0, (qk t u I J)) else none) := q_it_eq 400 [4, 20, 35, 40, 48, 55, 79, 98, 111] _ _
set_option maxRecDepth 20000 in
theorem e50_55 (t u : Nat) (I J : Nat → Nat → Int) (y0 : Int) : q_E (50, 55, [vr 2], [vi y0]) (qk t u I J) = (if y0 = 0 then some (vi 0, (qk t u I J)) else (if kd u = 18 then (if kd u = 18 then (if kd (q_R t u u 2) = 1 then (if (0 : Int) ≤ I u 10 ∧ I u 10 < ln (q_R t u u 2) then q_E (50, 79, [vr 2], []) (qk t u (uI I (q_R t u u 2) (Int.toNat (I u 10)) (I 2 5)) J) else none) else none) else none) else none)) := q_it_eq 400 [4, 20, 35, 40, 48, 55, 79, 98, 111] _ _
set_option maxRecDepth 20000 in
theorem e50_20 (t u : Nat) (I J : Nat → Nat → Int) (y0 : Int) : q_E (50, 20, [vr 2], [vi y0]) (qk t u I J) = (if y0 = (-1) then (if kd u = 18 then (if I u 10 < 4 then (q_bv (q_E (86, 0, [vr 3, vu, vu], []) (qk t u I J)) fun M1 => q_E (50, 48, [vr 2], []) M1) else q_E (50, 35, [vr 2], []) (qk t u I J)) else none) else q_E (50, 35, [vr 2], []) (qk t u I J)) := q_it_eq 400 [4, 20, 35, 40, 48, 55, 79, 98, 111] _ _
/-! 51: StewardHeaps$Reader.readSeen()Z -/
set_option maxRecDepth 20000 in
theorem e51_0 (t u : Nat) (I J : Nat → Nat → Int) : q_E (51, 0, [vr 2, vu], []) (qk t u I J) = (q_bi (q_E (54, 0, [vr 2], []) (qk t u I J)) fun z M1 => q_E (51, 4, [vr 2, vu], [vi z]) M1) := q_it_eq 400 [4, 16, 22, 53, 56, 64, 65, 72, 82, 88, 98, 101, 134, 150, 169, 182] _ _
set_option maxRecDepth 20000 in
theorem e51_16 (t u : Nat) (I J : Nat → Nat → Int) : q_E (51, 16, [vr 2, vu], []) (qk t u I J) = (q_bi (q_E (56, 0, [vr 2, vr 1010], []) (qk t u I J)) fun z M1 => q_E (51, 22, [vr 2, vu], [vi z]) M1) := q_it_eq 400 [4, 16, 22, 53, 56, 64, 65, 72, 82, 88, 98, 101, 134, 150, 169, 182] _ _
set_option maxRecDepth 20000 in
theorem e51_65 (t u : Nat) (I J : Nat → Nat → Int) : q_E (51, 65, [vr 2, vu], []) (qk t u I J) = (q_bi (q_E (57, 0, [vr 2, vi 0, vi 99], []) (qk t u I J)) fun z M1 => q_E (51, 72, [vr 2, vu], [vi z]) M1) := q_it_eq 400 [4, 16, 22, 53, 56, 64, 65, 72, 82, 88, 98, 101, 134, 150, 169, 182] _ _
set_option maxRecDepth 20000 in
theorem e51_82 (t u : Nat) (I J : Nat → Nat → Int) (x1 : Int) : q_E (51, 82, [vr 2, vi x1], []) (qk t u I J) = (q_bi (q_E (56, 0, [vr 2, vr 1011], []) (qk t u I J)) fun z M1 => q_E (51, 88, [vr 2, vi x1], [vi z]) M1) := q_it_eq 400 [4, 16, 22, 53, 56, 64, 65, 72, 82, 88, 98, 101, 134, 150, 169, 182] _ _
set_option maxRecDepth 20000 in
theorem e51_101 (t u : Nat) (I J : Nat → Nat → Int) : q_E (51, 101, [vu, vu], []) (qk t u I J) = some (vi 0, (qk t u I J)) := q_it_eq 400 [4, 16, 22, 53, 56, 64, 65, 72, 82, 88, 98, 101, 134, 150, 169, 182] _ _
set_option maxRecDepth 20000 in
theorem e51_134 (t u : Nat) (I J : Nat → Nat → Int) (x1 : Int) : q_E (51, 134, [vr 2, vi x1], []) (qk t u I J) = (if kd u = 18 then (if kd u = 18 then (if kd (q_R t u u 5) = 1 then (if (0 : Int) ≤ I u 11 ∧ I u 11 < ln (q_R t u u 5) then q_E (51, 150, [vr 2, vu], []) (qk t u (uI I (q_R t u u 5) (Int.toNat (I u 11)) x1) J) else none) else none) else none) else none) := q_it_eq 400 [4, 16, 22, 53, 56, 64, 65, 72, 82, 88, 98, 101, 134, 150, 169, 182] _ _
set_option maxRecDepth 20000 in
theorem e51_150 (t u : Nat) (I J : Nat → Nat → Int) : q_E (51, 150, [vr 2, vu], []) (qk t u I J) = (if kd u = 18 then (if kd u = 18 then (if kd (q_R t u u 6) = 1 then (if (0 : Int) ≤ I u 11 ∧ I u 11 < ln (q_R t u u 6) then q_E (51, 169, [vr 2, vu], []) (qk t u (uI I (q_R t u u 6) (Int.toNat (I u 11)) (I 2 4)) J) else none) else none) else none) else none) := q_it_eq 400 [4, 16, 22, 53, 56, 64, 65, 72, 82, 88, 98, 101, 134, 150, 169, 182] _ _
set_option maxRecDepth 20000 in
theorem e51_169 (t u : Nat) (I J : Nat → Nat → Int) : q_E (51, 169, [vr 2, vu], []) (qk t u I J) = (if kd u = 18 then (if kd u = 18 then q_E (51, 182, [vu, vu], []) (qk t u (uI I u 11 (wr ((I u 11) + 1))) J) else none) else none) := q_it_eq 400 [4, 16, 22, 53, 56, 64, 65, 72, 82, 88, 98, 101, 134, 150, 169, 182] _ _
set_option maxRecDepth 20000 in
theorem e51_182 (t u : Nat) (I J : Nat → Nat → Int) : q_E (51, 182, [vu, vu], []) (qk t u I J) = some (vi 1, (qk t u I J)) := q_it_eq 400 [4, 16, 22, 53, 56, 64, 65, 72, 82, 88, 98, 101, 134, 150, 169, 182] _ _
set_option maxRecDepth 20000 in
theorem e51_4 (t u : Nat) (I J : Nat → Nat → Int) (y0 : Int) : q_E (51, 4, [vr 2, vu], [vi y0]) (qk t u I J) = (if y0 = 0 then some (vi 0, (qk t u I J)) else (q_bv (q_E (86, 0, [vr 3, vu, vu], []) (qk t u I J)) fun M1 => q_E (51, 16, [vr 2, vu], []) M1)) := q_it_eq 400 [4, 16, 22, 53, 56, 64, 65, 72, 82, 88, 98, 101, 134, 150, 169, 182] _ _
set_option maxRecDepth 20000 in
theorem e51_22 (t u : Nat) (I J : Nat → Nat → Int) (y0 : Int) : q_E (51, 22, [vr 2, vu], [vi y0]) (qk t u I J) = (if y0 = 0 then some (vi 0, (qk t u I J)) else (if I 3 3 = 2 then (q_bi (q_E (88, 0, [vr 3, vu, vu], []) (qk t u I J)) fun z M1 => q_E (51, 53, [vr 2, vu], [vi z, vi (I 2 5), vr u]) M1) else q_E (51, 65, [vr 2, vu], []) (qk t u I J))) := q_it_eq 400 [4, 16, 22, 53, 56, 64, 65, 72, 82, 88, 98, 101, 134, 150, 169, 182] _ _
set_option maxRecDepth 20000 in
theorem e51_72 (t u : Nat) (I J : Nat → Nat → Int) (y0 : Int) : q_E (51, 72, [vr 2, vu], [vi y0]) (qk t u I J) = (if y0 = 0 then some (vi 0, (qk t u I J)) else q_E (51, 82, [vr 2, vi (I 2 4)], []) (qk t u I J)) := q_it_eq 400 [4, 16, 22, 53, 56, 64, 65, 72, 82, 88, 98, 101, 134, 150, 169, 182] _ _
set_option maxRecDepth 20000 in
theorem e51_88 (t u : Nat) (I J : Nat → Nat → Int) (x1 : Int) (y0 : Int) : q_E (51, 88, [vr 2, vi x1], [vi y0]) (qk t u I J) = (if y0 = 0 then q_E (51, 101, [vu, vu], []) (qk t u I J) else (q_bi (q_E (57, 0, [vr 2, vi 0, vi 60], []) (qk t u I J)) fun z M1 => q_E (51, 98, [vr 2, vi x1], [vi z]) M1)) := q_it_eq 400 [4, 16, 22, 53, 56, 64, 65, 72, 82, 88, 98, 101, 134, 150, 169, 182] _ _
set_option maxRecDepth 20000 in
theorem e51_53 (t u : Nat) (I J : Nat → Nat → Int) (y0 : Int) (y1 : Int) (y2 : Nat) : q_E (51, 53, [vr 2, vu], [vi y0, vi y1, vr y2]) (qk t u I J) = (if kd y2 = 18 then (q_bi (q_E (95, 0, [vr y2, vi y1, vi y0, vu], []) (qk t u I J)) fun z M1 => q_E (51, 56, [vr 2, vu], [vi z]) M1) else none) := q_it_eq 400 [4, 16, 22, 53, 56, 64, 65, 72, 82, 88, 98, 101, 134, 150, 169, 182] _ _
set_option maxRecDepth 20000 in
theorem e51_98 (t u : Nat) (I J : Nat → Nat → Int) (x1 : Int) (y0 : Int) : q_E (51, 98, [vr 2, vi x1], [vi y0]) (qk t u I J) = (if y0 = 0 then q_E (51, 101, [vu, vu], []) (qk t u I J) else (if kd u = 18 then (if I u 11 < 6 then (if kd u = 18 then (if kd u = 18 then (if kd (q_R t u u 4) = 1 then (if (0 : Int) ≤ I u 11 ∧ I u 11 < ln (q_R t u u 4) then q_E (51, 134, [vr 2, vi x1], []) (qk t u (uI I (q_R t u u 4) (Int.toNat (I u 11)) (I 2 5)) J) else none) else none) else none) else none) else q_E (51, 182, [vu, vu], []) (qk t u I J)) else none)) := q_it_eq 400 [4, 16, 22, 53, 56, 64, 65, 72, 82, 88, 98, 101, 134, 150, 169, 182] _ _
set_option maxRecDepth 20000 in
theorem e51_56 (t u : Nat) (I J : Nat → Nat → Int) (y0 : Int) : q_E (51, 56, [vr 2, vu], [vi y0]) (qk t u I J) = (if y0 = 0 then q_E (51, 65, [vr 2, vu], []) (qk t u I J) else (q_bi (q_E (44, 0, [vr 2, vi 3], []) (qk t u I J)) fun z M1 => q_E (51, 64, [vr 2, vu], [vi z]) M1)) := q_it_eq 400 [4, 16, 22, 53, 56, 64, 65, 72, 82, 88, 98, 101, 134, 150, 169, 182] _ _
set_option maxRecDepth 20000 in
theorem e51_64 (t u : Nat) (I J : Nat → Nat → Int) (y0 : Int) : q_E (51, 64, [vr 2, vu], [vi y0]) (qk t u I J) = (if y0 = 0 ∨ y0 = 1 then some (vi y0, (qk t u I J)) else none) := q_it_eq 400 [4, 16, 22, 53, 56, 64, 65, 72, 82, 88, 98, 101, 134, 150, 169, 182] _ _
/-! 52: StewardHeaps$Reader.isName()Z -/
set_option maxRecDepth 20000 in
theorem e52_0 (t u : Nat) (I J : Nat → Nat → Int) : q_E (52, 0, [vr 2], []) (qk t u I J) = (if I 3 3 = 1 then (q_bi (q_E (90, 0, [vr 3, vr 1000, vu], []) (qk t u I J)) fun z M1 => q_E (52, 20, [vr 2], [vi z]) M1) else some (vi 0, (qk t u I J))) := q_it_eq 400 [20, 32, 44, 56] _ _
set_option maxRecDepth 20000 in
theorem e52_20 (t u : Nat) (I J : Nat → Nat → Int) (y0 : Int) : q_E (52, 20, [vr 2], [vi y0]) (qk t u I J) = (if y0 = 0 then (q_bi (q_E (90, 0, [vr 3, vr 1003, vu], []) (qk t u I J)) fun z M1 => q_E (52, 32, [vr 2], [vi z]) M1) else some (vi 0, (qk t u I J))) := q_it_eq 400 [20, 32, 44, 56] _ _
set_option maxRecDepth 20000 in
theorem e52_32 (t u : Nat) (I J : Nat → Nat → Int) (y0 : Int) : q_E (52, 32, [vr 2], [vi y0]) (qk t u I J) = (if y0 = 0 then (q_bi (q_E (90, 0, [vr 3, vr 1004, vu], []) (qk t u I J)) fun z M1 => q_E (52, 44, [vr 2], [vi z]) M1) else some (vi 0, (qk t u I J))) := q_it_eq 400 [20, 32, 44, 56] _ _
set_option maxRecDepth 20000 in
theorem e52_44 (t u : Nat) (I J : Nat → Nat → Int) (y0 : Int) : q_E (52, 44, [vr 2], [vi y0]) (qk t u I J) = (if y0 = 0 then (q_bi (q_E (90, 0, [vr 3, vr 1005, vu], []) (qk t u I J)) fun z M1 => q_E (52, 56, [vr 2], [vi z]) M1) else some (vi 0, (qk t u I J))) := q_it_eq 400 [20, 32, 44, 56] _ _
set_option maxRecDepth 20000 in
theorem e52_56 (t u : Nat) (I J : Nat → Nat → Int) (y0 : Int) : q_E (52, 56, [vr 2], [vi y0]) (qk t u I J) = (if y0 = 0 then some (vi 1, (qk t u I J)) else some (vi 0, (qk t u I J))) := q_it_eq 400 [20, 32, 44, 56] _ _
/-! 53: StewardHeaps$Reader.findNamed()I -/
set_option maxRecDepth 20000 in
theorem e53_0 (t u : Nat) (I J : Nat → Nat → Int) : q_E (53, 0, [vr 2, vu], []) (qk t u I J) = q_E (53, 2, [vr 2, vi 0], []) (qk t u I J) := q_it_eq 400 [2, 32] _ _
set_option maxRecDepth 20000 in
theorem e53_2 (t u : Nat) (I J : Nat → Nat → Int) (x1 : Int) : q_E (53, 2, [vr 2, vi x1], []) (qk t u I J) = (if kd u = 18 then (if x1 < I u 9 then (if (0 : Int) ≤ x1 ∧ x1 < 4 then (if (0 : Int) ≤ x1 ∧ x1 < 4 then (q_bi (q_E (91, 0, [vr 3, vi (I 5 (Int.toNat x1)), vi (I 6 (Int.toNat x1)), vu], []) (qk t u I J)) fun z M1 => q_E (53, 32, [vr 2, vi x1], [vi z]) M1) else none) else none) else some (vi (-1), (qk t u I J))) else none) := q_it_eq 400 [2, 32] _ _
set_option maxRecDepth 20000 in
theorem e53_32 (t u : Nat) (I J : Nat → Nat → Int) (x1 : Int) (y0 : Int) : q_E (53, 32, [vr 2, vi x1], [vi y0]) (qk t u I J) = (if y0 = 0 then q_E (53, 2, [vr 2, vi (wr (x1 + 1))], []) (qk t u I J) else some (vi x1, (qk t u I J))) := q_it_eq 400 [2, 32] _ _
/-! 54: StewardHeaps$Reader.readNamed()Z -/
set_option maxRecDepth 20000 in
theorem e54_0 (t u : Nat) (I J : Nat → Nat → Int) : q_E (54, 0, [vr 2], []) (qk t u I J) = (q_bi (q_E (52, 0, [vr 2], []) (qk t u I J)) fun z M1 => q_E (54, 4, [vr 2], [vi z]) M1) := q_it_eq 400 [4, 12, 18, 34] _ _
set_option maxRecDepth 20000 in
theorem e54_4 (t u : Nat) (I J : Nat → Nat → Int) (y0 : Int) : q_E (54, 4, [vr 2], [vi y0]) (qk t u I J) = (if y0 = 0 then (q_bi (q_E (44, 0, [vr 2, vi 1], []) (qk t u I J)) fun z M1 => q_E (54, 12, [vr 2], [vi z]) M1) else (q_bi (q_E (53, 0, [vr 2, vu], []) (qk t u I J)) fun z M1 => q_E (54, 18, [vr 2], [vi z, vr 2]) M1)) := q_it_eq 400 [4, 12, 18, 34] _ _
set_option maxRecDepth 20000 in
theorem e54_12 (t u : Nat) (I J : Nat → Nat → Int) (y0 : Int) : q_E (54, 12, [vr 2], [vi y0]) (qk t u I J) = (if y0 = 0 ∨ y0 = 1 then some (vi y0, (qk t u I J)) else none) := q_it_eq 400 [4, 12, 18, 34] _ _
set_option maxRecDepth 20000 in
theorem e54_18 (t u : Nat) (I J : Nat → Nat → Int) (y0 : Int) (y1 : Nat) : q_E (54, 18, [vr 2], [vi y0, vr y1]) (qk t u I J) = (if kd y1 = 14 then (if (uI I y1 5 y0) 2 5 = (-1) then (q_bi (q_E (44, 0, [vr 2, vi 2], []) (qk t u (uI I y1 5 y0) J)) fun z M1 => q_E (54, 34, [vr 2], [vi z]) M1) else some (vi 1, (qk t u (uI I y1 5 y0) J))) else none) := q_it_eq 400 [4, 12, 18, 34] _ _
set_option maxRecDepth 20000 in
theorem e54_34 (t u : Nat) (I J : Nat → Nat → Int) (y0 : Int) : q_E (54, 34, [vr 2], [vi y0]) (qk t u I J) = (if y0 = 0 then some (vi 0, (qk t u I J)) else some (vi 1, (qk t u I J))) := q_it_eq 400 [4, 12, 18, 34] _ _
/-! 55: StewardHeaps$Reader.lawHere()I -/
set_option maxRecDepth 20000 in
theorem e55_0 (t u : Nat) (I J : Nat → Nat → Int) : q_E (55, 0, [vr 2], []) (qk t u I J) = (q_bi (q_E (90, 0, [vr 3, vr 1006, vu], []) (qk t u I J)) fun z M1 => q_E (55, 9, [vr 2], [vi z]) M1) := q_it_eq 400 [9, 23, 37, 51] _ _
set_option maxRecDepth 20000 in
theorem e55_9 (t u : Nat) (I J : Nat → Nat → Int) (y0 : Int) : q_E (55, 9, [vr 2], [vi y0]) (qk t u I J) = (if y0 = 0 then (q_bi (q_E (90, 0, [vr 3, vr 1007, vu], []) (qk t u I J)) fun z M1 => q_E (55, 23, [vr 2], [vi z]) M1) else some (vi 0, (qk t u I J))) := q_it_eq 400 [9, 23, 37, 51] _ _
set_option maxRecDepth 20000 in
theorem e55_23 (t u : Nat) (I J : Nat → Nat → Int) (y0 : Int) : q_E (55, 23, [vr 2], [vi y0]) (qk t u I J) = (if y0 = 0 then (q_bi (q_E (90, 0, [vr 3, vr 1008, vu], []) (qk t u I J)) fun z M1 => q_E (55, 37, [vr 2], [vi z]) M1) else some (vi 1, (qk t u I J))) := q_it_eq 400 [9, 23, 37, 51] _ _
set_option maxRecDepth 20000 in
theorem e55_37 (t u : Nat) (I J : Nat → Nat → Int) (y0 : Int) : q_E (55, 37, [vr 2], [vi y0]) (qk t u I J) = (if y0 = 0 then (q_bi (q_E (90, 0, [vr 3, vr 1009, vu], []) (qk t u I J)) fun z M1 => q_E (55, 51, [vr 2], [vi z]) M1) else some (vi 2, (qk t u I J))) := q_it_eq 400 [9, 23, 37, 51] _ _
set_option maxRecDepth 20000 in
theorem e55_51 (t u : Nat) (I J : Nat → Nat → Int) (y0 : Int) : q_E (55, 51, [vr 2], [vi y0]) (qk t u I J) = (if y0 = 0 then some (vi (-1), (qk t u I J)) else some (vi 3, (qk t u I J))) := q_it_eq 400 [9, 23, 37, 51] _ _
/-! 56: StewardHeaps$Reader.readWord(Ljava/lang/String;)Z -/
set_option maxRecDepth 20000 in
theorem e56_0 (t u : Nat) (I J : Nat → Nat → Int) (x1 : Nat) : q_E (56, 0, [vr 2, vr x1], []) (qk t u I J) = (q_bi (q_E (90, 0, [vr 3, vr x1, vu], []) (qk t u I J)) fun z M1 => q_E (56, 8, [vr 2, vr x1], [vi z]) M1) := q_it_eq 400 [8, 16, 24] _ _
set_option maxRecDepth 20000 in
theorem e56_8 (t u : Nat) (I J : Nat → Nat → Int) (x1 : Nat) (y0 : Int) : q_E (56, 8, [vr 2, vr x1], [vi y0]) (qk t u I J) = (if y0 = 0 then (q_bi (q_E (44, 0, [vr 2, vi 1], []) (qk t u I J)) fun z M1 => q_E (56, 16, [vr 2, vr x1], [vi z]) M1) else (q_bv (q_E (86, 0, [vr 3, vu, vu], []) (qk t u I J)) fun M1 => q_E (56, 24, [vr 2, vr x1], []) M1)) := q_it_eq 400 [8, 16, 24] _ _
set_option maxRecDepth 20000 in
theorem e56_16 (t u : Nat) (I J : Nat → Nat → Int) (x1 : Nat) (y0 : Int) : q_E (56, 16, [vr 2, vr x1], [vi y0]) (qk t u I J) = (if y0 = 0 ∨ y0 = 1 then some (vi y0, (qk t u I J)) else none) := q_it_eq 400 [8, 16, 24] _ _
set_option maxRecDepth 20000 in
theorem e56_24 (t u : Nat) (I J : Nat → Nat → Int) (x1 : Nat) : q_E (56, 24, [vr 2, vr x1], []) (qk t u I J) = some (vi 1, (qk t u I J)) := q_it_eq 400 [8, 16, 24] _ _
/-! 57: StewardHeaps$Reader.readWhole(II)Z -/
set_option maxRecDepth 20000 in
theorem e57_0 (t u : Nat) (I J : Nat → Nat → Int) (x1 : Int) (x2 : Int) : q_E (57, 0, [vr 2, vi x1, vi x2], []) (qk t u I J) = (if I 3 3 = 2 then (q_bi (q_E (88, 0, [vr 3, vu, vu], []) (qk t u I J)) fun z M1 => q_E (57, 25, [vr 2, vi x1, vi x2], [vi z, vr 2]) M1) else (q_bi (q_E (44, 0, [vr 2, vi 1], []) (qk t u I J)) fun z M1 => q_E (57, 16, [vr 2, vi x1, vi x2], [vi z]) M1)) := q_it_eq 400 [16, 25, 49, 57] _ _
set_option maxRecDepth 20000 in
theorem e57_25 (t u : Nat) (I J : Nat → Nat → Int) (x1 : Int) (x2 : Int) (y0 : Int) (y1 : Nat) : q_E (57, 25, [vr 2, vi x1, vi x2], [vi y0, vr y1]) (qk t u I J) = (if kd y1 = 14 then (if (uI I y1 4 y0) 2 4 < x1 then (q_bi (q_E (44, 0, [vr 2, vi 4], []) (qk t u (uI I y1 4 y0) J)) fun z M1 => q_E (57, 49, [vr 2, vi x1, vi x2], [vi z]) M1) else (if x2 < (uI I y1 4 y0) 2 4 then (q_bi (q_E (44, 0, [vr 2, vi 4], []) (qk t u (uI I y1 4 y0) J)) fun z M1 => q_E (57, 49, [vr 2, vi x1, vi x2], [vi z]) M1) else (q_bv (q_E (86, 0, [vr 3, vu, vu], []) (qk t u (uI I y1 4 y0) J)) fun M1 => q_E (57, 57, [vr 2, vi x1, vi x2], []) M1))) else none) := q_it_eq 400 [16, 25, 49, 57] _ _
set_option maxRecDepth 20000 in
theorem e57_16 (t u : Nat) (I J : Nat → Nat → Int) (x1 : Int) (x2 : Int) (y0 : Int) : q_E (57, 16, [vr 2, vi x1, vi x2], [vi y0]) (qk t u I J) = (if y0 = 0 ∨ y0 = 1 then some (vi y0, (qk t u I J)) else none) := q_it_eq 400 [16, 25, 49, 57] _ _
set_option maxRecDepth 20000 in
theorem e57_49 (t u : Nat) (I J : Nat → Nat → Int) (x1 : Int) (x2 : Int) (y0 : Int) : q_E (57, 49, [vr 2, vi x1, vi x2], [vi y0]) (qk t u I J) = (if y0 = 0 ∨ y0 = 1 then some (vi y0, (qk t u I J)) else none) := q_it_eq 400 [16, 25, 49, 57] _ _
set_option maxRecDepth 20000 in
theorem e57_57 (t u : Nat) (I J : Nat → Nat → Int) (x1 : Int) (x2 : Int) : q_E (57, 57, [vr 2, vi x1, vi x2], []) (qk t u I J) = some (vi 1, (qk t u I J)) := q_it_eq 400 [16, 25, 49, 57] _ _
/-! 84: StewardHeaps$Tape.append(I)V -/
set_option maxRecDepth 20000 in
theorem e84_0 (t u : Nat) (I J : Nat → Nat → Int) (x1 : Int) : q_E (84, 0, [vr 3, vi x1, vu], []) (qk t u I J) = q_E (84, 3, [vr 3, vi x1, vi 24], []) (qk t u I J) := q_it_eq 400 [3] _ _
set_option maxRecDepth 20000 in
theorem e84_3 (t u : Nat) (I J : Nat → Nat → Int) (x1 : Int) (x2 : Int) : q_E (84, 3, [vr 3, vi x1, vi x2], []) (qk t u I J) = (if x2 < 0 then some (vu, (qk t u I J)) else (if I 3 1 < 900 then (if (0 : Int) ≤ I 3 1 ∧ I 3 1 < 900 then q_E (84, 3, [vr 3, vi x1, vi (wr (x2 + (-8)))], []) (qk t u (uI (uI I 4 (Int.toNat (I 3 1)) (Int.bmod (Int.bmod (q_shr x1 x2) 256) 256)) 3 1 (wr (((uI I 4 (Int.toNat (I 3 1)) (Int.bmod (Int.bmod (q_shr x1 x2) 256) 256)) 3 1) + 1))) J) else none) else q_E (84, 3, [vr 3, vi x1, vi (wr (x2 + (-8)))], []) (qk t u I J))) := q_it_eq 400 [3] _ _
/-! 85: StewardHeaps$Tape.start(I)V -/
set_option maxRecDepth 20000 in
theorem e85_0 (t u : Nat) (I J : Nat → Nat → Int) (x1 : Int) : q_E (85, 0, [vr 3, vi x1], []) (qk t u I J) = (if x1 < I 3 1 then (q_bv (q_E (86, 0, [vr 3, vu, vu], []) (qk t u (uI (uI I 3 4 x1) 3 5 0) J)) fun M1 => q_E (85, 21, [vr 3, vi x1], []) M1) else (q_bv (q_E (86, 0, [vr 3, vu, vu], []) (qk t u (uI (uI I 3 4 (I 3 1)) 3 5 0) J)) fun M1 => q_E (85, 21, [vr 3, vi x1], []) M1)) := q_it_eq 400 [21] _ _
set_option maxRecDepth 20000 in
theorem e85_21 (t u : Nat) (I J : Nat → Nat → Int) (x1 : Int) : q_E (85, 21, [vr 3, vi x1], []) (qk t u I J) = some (vu, (qk t u I J)) := q_it_eq 400 [21] _ _
/-! 86: StewardHeaps$Tape.step()V -/
set_option maxRecDepth 20000 in
theorem e86_0 (t u : Nat) (I J : Nat → Nat → Int) : q_E (86, 0, [vr 3, vu, vu], []) (qk t u I J) = q_E (86, 8, [vr 3, vu, vu], []) (qk t u (uI I 3 2 (I 3 5)) J) := q_it_eq 400 [8, 84, 119, 146] _ _
set_option maxRecDepth 20000 in
theorem e86_8 (t u : Nat) (I J : Nat → Nat → Int) : q_E (86, 8, [vr 3, vu, vu], []) (qk t u I J) = (if I 3 2 < I 3 4 then (if (0 : Int) ≤ I 3 2 ∧ I 3 2 < 900 then (if I 4 (Int.toNat (I 3 2)) = 32 then q_E (86, 8, [vr 3, vu, vu], []) (qk t u (uI I 3 2 (wr ((I 3 2) + 1))) J) else (if (uI I 3 5 (I 3 2)) 3 2 < (uI I 3 5 (I 3 2)) 3 4 then (if (0 : Int) ≤ (uI I 3 5 (I 3 2)) 3 2 ∧ (uI I 3 5 (I 3 2)) 3 2 < 900 then (q_bi (q_E (87, 0, [vi ((uI I 3 5 (I 3 2)) 4 (Int.toNat ((uI I 3 5 (I 3 2)) 3 2)))], []) (qk t u (uI I 3 5 (I 3 2)) J)) fun z M1 => q_E (86, 84, [vr 3, vu, vu], [vi z, vr 3]) M1) else none) else some (vu, (qk t u (uI (uI I 3 5 (I 3 2)) 3 3 0) J)))) else none) else (if (uI I 3 5 (I 3 2)) 3 2 < (uI I 3 5 (I 3 2)) 3 4 then (if (0 : Int) ≤ (uI I 3 5 (I 3 2)) 3 2 ∧ (uI I 3 5 (I 3 2)) 3 2 < 900 then (q_bi (q_E (87, 0, [vi ((uI I 3 5 (I 3 2)) 4 (Int.toNat ((uI I 3 5 (I 3 2)) 3 2)))], []) (qk t u (uI I 3 5 (I 3 2)) J)) fun z M1 => q_E (86, 84, [vr 3, vu, vu], [vi z, vr 3]) M1) else none) else some (vu, (qk t u (uI (uI I 3 5 (I 3 2)) 3 3 0) J)))) := q_it_eq 400 [8, 84, 119, 146] _ _
set_option maxRecDepth 20000 in
theorem e86_119 (t u : Nat) (I J : Nat → Nat → Int) (x1 : Int) : q_E (86, 119, [vr 3, vi x1, vu], []) (qk t u I J) = (if x1 = 0 then (if I 3 3 = 1 then (if (8 : Int) < wr ((I 3 5) - (I 3 2)) then some (vu, (qk t u (uI I 3 3 4) J)) else some (vu, (qk t u I J))) else (if (3 : Int) < wr ((I 3 5) - (I 3 2)) then some (vu, (qk t u (uI I 3 3 4) J)) else some (vu, (qk t u I J)))) else (if I 3 5 < I 3 4 then (if (0 : Int) ≤ I 3 5 ∧ I 3 5 < 900 then (q_bi (q_E (87, 0, [vi (I 4 (Int.toNat (I 3 5)))], []) (qk t u I J)) fun z M1 => q_E (86, 146, [vr 3, vi x1, vu], [vi z]) M1) else none) else (if I 3 3 = 1 then (if (8 : Int) < wr ((I 3 5) - (I 3 2)) then some (vu, (qk t u (uI I 3 3 4) J)) else some (vu, (qk t u I J))) else (if (3 : Int) < wr ((I 3 5) - (I 3 2)) then some (vu, (qk t u (uI I 3 3 4) J)) else some (vu, (qk t u I J)))))) := q_it_eq 400 [8, 84, 119, 146] _ _
set_option maxRecDepth 20000 in
theorem e86_84 (t u : Nat) (I J : Nat → Nat → Int) (y0 : Int) (y1 : Nat) : q_E (86, 84, [vr 3, vu, vu], [vi y0, vr y1]) (qk t u I J) = (if kd y1 = 17 then (if (uI (uI I y1 3 y0) 3 5 (wr (((uI I y1 3 y0) 3 2) + 1))) 3 3 = 1 then q_E (86, 119, [vr 3, vi 1, vu], []) (qk t u (uI (uI I y1 3 y0) 3 5 (wr (((uI I y1 3 y0) 3 2) + 1))) J) else (if (uI (uI I y1 3 y0) 3 5 (wr (((uI I y1 3 y0) 3 2) + 1))) 3 3 = 2 then q_E (86, 119, [vr 3, vi 1, vu], []) (qk t u (uI (uI I y1 3 y0) 3 5 (wr (((uI I y1 3 y0) 3 2) + 1))) J) else q_E (86, 119, [vr 3, vi 0, vu], []) (qk t u (uI (uI I y1 3 y0) 3 5 (wr (((uI I y1 3 y0) 3 2) + 1))) J))) else none) := q_it_eq 400 [8, 84, 119, 146] _ _
set_option maxRecDepth 20000 in
theorem e86_146 (t u : Nat) (I J : Nat → Nat → Int) (x1 : Int) (y0 : Int) : q_E (86, 146, [vr 3, vi x1, vu], [vi y0]) (qk t u I J) = (if y0 = I 3 3 then q_E (86, 119, [vr 3, vi x1, vu], []) (qk t u (uI I 3 5 (wr ((I 3 5) + 1))) J) else (if I 3 3 = 1 then (if (8 : Int) < wr ((I 3 5) - (I 3 2)) then some (vu, (qk t u (uI I 3 3 4) J)) else some (vu, (qk t u I J))) else (if (3 : Int) < wr ((I 3 5) - (I 3 2)) then some (vu, (qk t u (uI I 3 3 4) J)) else some (vu, (qk t u I J))))) := q_it_eq 400 [8, 84, 119, 146] _ _
/-! 87: StewardHeaps$Tape.kindOf(I)I -/
set_option maxRecDepth 20000 in
theorem e87_0 (t u : Nat) (I J : Nat → Nat → Int) (x0 : Int) : q_E (87, 0, [vi x0], []) (qk t u I J) = (if x0 < 97 then (if x0 < 48 then (if x0 = 59 then some (vi 3, (qk t u I J)) else some (vi 4, (qk t u I J))) else (if (57 : Int) < x0 then (if x0 = 59 then some (vi 3, (qk t u I J)) else some (vi 4, (qk t u I J))) else some (vi 2, (qk t u I J)))) else (if (122 : Int) < x0 then (if x0 < 48 then (if x0 = 59 then some (vi 3, (qk t u I J)) else some (vi 4, (qk t u I J))) else (if (57 : Int) < x0 then (if x0 = 59 then some (vi 3, (qk t u I J)) else some (vi 4, (qk t u I J))) else some (vi 2, (qk t u I J)))) else some (vi 1, (qk t u I J)))) := q_it_eq 400 [] _ _
/-! 88: StewardHeaps$Tape.whole()I -/
set_option maxRecDepth 20000 in
theorem e88_0 (t u : Nat) (I J : Nat → Nat → Int) : q_E (88, 0, [vr 3, vu, vu], []) (qk t u I J) = q_E (88, 7, [vr 3, vi 0, vi (I 3 2)], []) (qk t u I J) := q_it_eq 400 [7] _ _
set_option maxRecDepth 20000 in
theorem e88_7 (t u : Nat) (I J : Nat → Nat → Int) (x1 : Int) (x2 : Int) : q_E (88, 7, [vr 3, vi x1, vi x2], []) (qk t u I J) = (if x2 < I 3 5 then (if (0 : Int) ≤ x2 ∧ x2 < 900 then q_E (88, 7, [vr 3, vi (wr ((wr ((wr (10 * x1)) + (I 4 (Int.toNat x2)))) - 48)), vi (wr (x2 + 1))], []) (qk t u I J) else none) else some (vi x1, (qk t u I J))) := q_it_eq 400 [7] _ _
/-! 89: StewardHeaps$Tape.length()I -/
set_option maxRecDepth 20000 in
theorem e89_0 (t u : Nat) (I J : Nat → Nat → Int) : q_E (89, 0, [vr 3], []) (qk t u I J) = some (vi (wr ((I 3 5) - (I 3 2))), (qk t u I J)) := q_it_eq 400 [] _ _
/-! 90: StewardHeaps$Tape.isWord(Ljava/lang/String;)Z -/
set_option maxRecDepth 20000 in
theorem e90_0 (t u : Nat) (I J : Nat → Nat → Int) (x1 : Nat) : q_E (90, 0, [vr 3, vr x1, vu], []) (qk t u I J) = (if I 3 3 = 1 then (if kd x1 = 7 then (if wr ((I 3 5) - (I 3 2)) = q_slen x1 then q_E (90, 28, [vr 3, vr x1, vi 0], []) (qk t u I J) else some (vi 0, (qk t u I J))) else none) else some (vi 0, (qk t u I J))) := q_it_eq 400 [28] _ _
set_option maxRecDepth 20000 in
theorem e90_28 (t u : Nat) (I J : Nat → Nat → Int) (x1 : Nat) (x2 : Int) : q_E (90, 28, [vr 3, vr x1, vi x2], []) (qk t u I J) = (if kd x1 = 7 then (if x2 < q_slen x1 then (if (0 : Int) ≤ wr ((I 3 2) + x2) ∧ wr ((I 3 2) + x2) < 900 then (if kd x1 = 7 then (if (0 : Int) ≤ x2 ∧ x2 < q_slen x1 then (if I 4 (Int.toNat (wr ((I 3 2) + x2))) = q_sat x1 (Int.toNat x2) then q_E (90, 28, [vr 3, vr x1, vi (wr (x2 + 1))], []) (qk t u I J) else some (vi 0, (qk t u I J))) else none) else none) else none) else some (vi 1, (qk t u I J))) else none) := q_it_eq 400 [28] _ _
/-! 91: StewardHeaps$Tape.isWordAt(II)Z -/
set_option maxRecDepth 20000 in
theorem e91_0 (t u : Nat) (I J : Nat → Nat → Int) (x1 : Int) (x2 : Int) : q_E (91, 0, [vr 3, vi x1, vi x2, vu], []) (qk t u I J) = (if I 3 3 = 1 then (if wr ((I 3 5) - (I 3 2)) = x2 then (if x1 < 0 then some (vi 0, (qk t u I J)) else (if (900 : Int) < wr (x1 + x2) then some (vi 0, (qk t u I J)) else q_E (91, 40, [vr 3, vi x1, vi x2, vi 0], []) (qk t u I J))) else some (vi 0, (qk t u I J))) else some (vi 0, (qk t u I J))) := q_it_eq 400 [40] _ _
set_option maxRecDepth 20000 in
theorem e91_40 (t u : Nat) (I J : Nat → Nat → Int) (x1 : Int) (x2 : Int) (x3 : Int) : q_E (91, 40, [vr 3, vi x1, vi x2, vi x3], []) (qk t u I J) = (if x3 < x2 then (if (0 : Int) ≤ wr ((I 3 2) + x3) ∧ wr ((I 3 2) + x3) < 900 then (if (0 : Int) ≤ wr (x1 + x3) ∧ wr (x1 + x3) < 900 then (if I 4 (Int.toNat (wr ((I 3 2) + x3))) = I 4 (Int.toNat (wr (x1 + x3))) then q_E (91, 40, [vr 3, vi x1, vi x2, vi (wr (x3 + 1))], []) (qk t u I J) else some (vi 0, (qk t u I J))) else none) else none) else some (vi 1, (qk t u I J))) := q_it_eq 400 [40] _ _

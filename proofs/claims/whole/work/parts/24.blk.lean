/-! 141: StewardHeaps.ask()I -/
set_option maxRecDepth 20000 in
theorem e141_0 (t u : Nat) (I J : Nat → Nat → Int) : q_E (141, 0, [vr 1], []) (qk t u I J) = (q_bi (q_E (161, 0, [vr 1], []) (qk t u I J)) fun z M1 => q_E (141, 4, [vr 1], [vi z]) M1) := q_it_eq 400 [4, 23] _ _
set_option maxRecDepth 20000 in
theorem e141_4 (t u : Nat) (I J : Nat → Nat → Int) (y0 : Int) : q_E (141, 4, [vr 1], [vi y0]) (qk t u I J) = (if y0 = 0 then (if kd t = 18 then (q_bi (q_E (19, 0, [vr 227, vi (I t 10), vu, vu], []) (qk t u I J)) fun z M1 => q_E (141, 23, [vr 1], [vi z]) M1) else none) else some (vi (-1), (qk t u I J))) := q_it_eq 400 [4, 23] _ _
set_option maxRecDepth 20000 in
theorem e141_23 (t u : Nat) (I J : Nat → Nat → Int) (y0 : Int) : q_E (141, 23, [vr 1], [vi y0]) (qk t u I J) = some (vi y0, (qk t u I J)) := q_it_eq 400 [4, 23] _ _
/-! 142: StewardHeaps.askLeaves()I -/
set_option maxRecDepth 20000 in
theorem e142_0 (t u : Nat) (I J : Nat → Nat → Int) : q_E (142, 0, [vr 1, vu], []) (qk t u I J) = (q_bi (q_E (161, 0, [vr 1], []) (qk t u I J)) fun z M1 => q_E (142, 4, [vr 1, vu], [vi z]) M1) := q_it_eq 400 [4, 23, 43] _ _
set_option maxRecDepth 20000 in
theorem e142_4 (t u : Nat) (I J : Nat → Nat → Int) (y0 : Int) : q_E (142, 4, [vr 1, vu], [vi y0]) (qk t u I J) = (if y0 = 0 then (if kd t = 18 then (q_bi (q_E (19, 0, [vr 227, vi (I t 10), vu, vu], []) (qk t u I J)) fun z M1 => q_E (142, 23, [vr 1, vu], [vi z]) M1) else none) else some (vi (-1), (qk t u I J))) := q_it_eq 400 [4, 23, 43] _ _
set_option maxRecDepth 20000 in
theorem e142_23 (t u : Nat) (I J : Nat → Nat → Int) (y0 : Int) : q_E (142, 23, [vr 1, vu], [vi y0]) (qk t u I J) = (if y0 = (-2) then q_E (142, 43, [vr 1, vi y0], [vi (-2)]) (qk t u I J) else (q_bi (q_E (18, 0, [vr 227, vi y0, vu, vu], []) (qk t u I J)) fun z M1 => q_E (142, 43, [vr 1, vi y0], [vi z]) M1)) := q_it_eq 400 [4, 23, 43] _ _
set_option maxRecDepth 20000 in
theorem e142_43 (t u : Nat) (I J : Nat → Nat → Int) (x1 : Int) (y0 : Int) : q_E (142, 43, [vr 1, vi x1], [vi y0]) (qk t u I J) = some (vi y0, (qk t u I J)) := q_it_eq 400 [4, 23, 43] _ _
/-! 143: StewardHeaps.judge()I -/
set_option maxRecDepth 20000 in
theorem e143_0 (t u : Nat) (I J : Nat → Nat → Int) : q_E (143, 0, [vr 1], []) (qk t u I J) = (q_bi (q_E (161, 0, [vr 1], []) (qk t u I J)) fun z M1 => q_E (143, 4, [vr 1], [vi z]) M1) := q_it_eq 400 [4] _ _
set_option maxRecDepth 20000 in
theorem e143_4 (t u : Nat) (I J : Nat → Nat → Int) (y0 : Int) : q_E (143, 4, [vr 1], [vi y0]) (qk t u I J) = (if y0 = 0 then some (vi (I 227 2), (qk t u I J)) else some (vi (-1), (qk t u I J))) := q_it_eq 400 [4] _ _
/-! 144: StewardHeaps.comes(IZZZ)I -/
set_option maxRecDepth 20000 in
theorem e144_0 (t u : Nat) (I J : Nat → Nat → Int) (x1 : Int) (x2 : Int) (x3 : Int) (x4 : Int) : q_E (144, 0, [vr 1, vi x1, vi x2, vi x3, vi x4], []) (qk t u I J) = (q_bi (q_E (161, 0, [vr 1], []) (qk t u I J)) fun z M1 => q_E (144, 4, [vr 1, vi x1, vi x2, vi x3, vi x4], [vi z]) M1) := q_it_eq 400 [4, 14, 30, 39] _ _
set_option maxRecDepth 20000 in
theorem e144_4 (t u : Nat) (I J : Nat → Nat → Int) (x1 : Int) (x2 : Int) (x3 : Int) (x4 : Int) (y0 : Int) : q_E (144, 4, [vr 1, vi x1, vi x2, vi x3, vi x4], [vi y0]) (qk t u I J) = (if y0 = 0 then (q_bi (q_E (163, 0, [vr 1, vi x1, vi 9], []) (qk t u I J)) fun z M1 => q_E (144, 14, [vr 1, vi x1, vi x2, vi x3, vi x4], [vi z]) M1) else some (vi (-100), (qk t u I J))) := q_it_eq 400 [4, 14, 30, 39] _ _
set_option maxRecDepth 20000 in
theorem e144_14 (t u : Nat) (I J : Nat → Nat → Int) (x1 : Int) (x2 : Int) (x3 : Int) (x4 : Int) (y0 : Int) : q_E (144, 14, [vr 1, vi x1, vi x2, vi x3, vi x4], [vi y0]) (qk t u I J) = (if y0 = 0 then (if x4 = 0 then (q_bi (q_E (172, 0, [vi x1, vi x2, vi x3], []) (qk t u I J)) fun z M1 => q_E (144, 39, [vr 1, vi x1, vi x2, vi x3, vi x4], [vi z]) M1) else (q_bi (q_E (173, 0, [vi x2, vi x3], []) (qk t u I J)) fun z M1 => q_E (144, 30, [vr 1, vi x1, vi x2, vi x3, vi x4], [vi z]) M1)) else some (vi (-100), (qk t u I J))) := q_it_eq 400 [4, 14, 30, 39] _ _
set_option maxRecDepth 20000 in
theorem e144_39 (t u : Nat) (I J : Nat → Nat → Int) (x1 : Int) (x2 : Int) (x3 : Int) (x4 : Int) (y0 : Int) : q_E (144, 39, [vr 1, vi x1, vi x2, vi x3, vi x4], [vi y0]) (qk t u I J) = some (vi y0, (qk t u I J)) := q_it_eq 400 [4, 14, 30, 39] _ _
set_option maxRecDepth 20000 in
theorem e144_30 (t u : Nat) (I J : Nat → Nat → Int) (x1 : Int) (x2 : Int) (x3 : Int) (x4 : Int) (y0 : Int) : q_E (144, 30, [vr 1, vi x1, vi x2, vi x3, vi x4], [vi y0]) (qk t u I J) = q_E (144, 39, [vr 1, vi x1, vi x2, vi x3, vi x4], [vi y0]) (qk t u I J) := q_it_eq 400 [4, 14, 30, 39] _ _
/-! 145: StewardHeaps.rests(I)I -/
set_option maxRecDepth 20000 in
theorem e145_0 (t u : Nat) (I J : Nat → Nat → Int) (x1 : Int) : q_E (145, 0, [vr 1, vi x1, vu, vu], []) (qk t u I J) = (q_bi (q_E (161, 0, [vr 1], []) (qk t u I J)) fun z M1 => q_E (145, 4, [vr 1, vi x1, vu, vu], [vi z]) M1) := q_it_eq 400 [4, 14, 23, 54] _ _
set_option maxRecDepth 20000 in
theorem e145_23 (t u : Nat) (I J : Nat → Nat → Int) (x1 : Int) (x2 : Int) (x3 : Int) : q_E (145, 23, [vu, vi x1, vi x2, vi x3], []) (qk t u I J) = (if x3 < 4 then (if x3 < 2 then (if Int.tmod x3 2 = 1 then (q_bi (q_E (174, 0, [vi x1, vi 0, vi 1], []) (qk t u I J)) fun z M1 => q_E (145, 54, [vu, vi x1, vi x2, vi x3], [vi z]) M1) else (q_bi (q_E (174, 0, [vi x1, vi 0, vi 0], []) (qk t u I J)) fun z M1 => q_E (145, 54, [vu, vi x1, vi x2, vi x3], [vi z]) M1)) else (if Int.tmod x3 2 = 1 then (q_bi (q_E (174, 0, [vi x1, vi 1, vi 1], []) (qk t u I J)) fun z M1 => q_E (145, 54, [vu, vi x1, vi x2, vi x3], [vi z]) M1) else (q_bi (q_E (174, 0, [vi x1, vi 1, vi 0], []) (qk t u I J)) fun z M1 => q_E (145, 54, [vu, vi x1, vi x2, vi x3], [vi z]) M1))) else some (vi x2, (qk t u I J))) := q_it_eq 400 [4, 14, 23, 54] _ _
set_option maxRecDepth 20000 in
theorem e145_4 (t u : Nat) (I J : Nat → Nat → Int) (x1 : Int) (y0 : Int) : q_E (145, 4, [vr 1, vi x1, vu, vu], [vi y0]) (qk t u I J) = (if y0 = 0 then (q_bi (q_E (163, 0, [vr 1, vi x1, vi 9], []) (qk t u I J)) fun z M1 => q_E (145, 14, [vr 1, vi x1, vu, vu], [vi z]) M1) else some (vi (-1), (qk t u I J))) := q_it_eq 400 [4, 14, 23, 54] _ _
set_option maxRecDepth 20000 in
theorem e145_54 (t u : Nat) (I J : Nat → Nat → Int) (x1 : Int) (x2 : Int) (x3 : Int) (y0 : Int) : q_E (145, 54, [vu, vi x1, vi x2, vi x3], [vi y0]) (qk t u I J) = (if y0 = 0 then q_E (145, 23, [vu, vi x1, vi x2, vi (wr (x3 + 1))], []) (qk t u I J) else q_E (145, 23, [vu, vi x1, vi (wr (x2 + 1)), vi (wr (x3 + 1))], []) (qk t u I J)) := q_it_eq 400 [4, 14, 23, 54] _ _
set_option maxRecDepth 20000 in
theorem e145_14 (t u : Nat) (I J : Nat → Nat → Int) (x1 : Int) (y0 : Int) : q_E (145, 14, [vr 1, vi x1, vu, vu], [vi y0]) (qk t u I J) = (if y0 = 0 then q_E (145, 23, [vu, vi x1, vi 0, vi 0], []) (qk t u I J) else some (vi (-1), (qk t u I J))) := q_it_eq 400 [4, 14, 23, 54] _ _
/-! 146: StewardHeaps.rest(I)I -/
set_option maxRecDepth 20000 in
theorem e146_0 (t u : Nat) (I J : Nat → Nat → Int) (x1 : Int) : q_E (146, 0, [vr 1, vi x1, vu], []) (qk t u I J) = (q_bi (q_E (161, 0, [vr 1], []) (qk t u I J)) fun z M1 => q_E (146, 4, [vr 1, vi x1, vu], [vi z]) M1) := q_it_eq 400 [4, 14, 21, 52] _ _
set_option maxRecDepth 20000 in
theorem e146_21 (t u : Nat) (I J : Nat → Nat → Int) (x1 : Int) (x2 : Int) : q_E (146, 21, [vu, vi x1, vi x2], []) (qk t u I J) = (if x2 < 4 then (if x2 < 2 then (if Int.tmod x2 2 = 1 then (q_bi (q_E (174, 0, [vi x1, vi 0, vi 1], []) (qk t u I J)) fun z M1 => q_E (146, 52, [vu, vi x1, vi x2], [vi z]) M1) else (q_bi (q_E (174, 0, [vi x1, vi 0, vi 0], []) (qk t u I J)) fun z M1 => q_E (146, 52, [vu, vi x1, vi x2], [vi z]) M1)) else (if Int.tmod x2 2 = 1 then (q_bi (q_E (174, 0, [vi x1, vi 1, vi 1], []) (qk t u I J)) fun z M1 => q_E (146, 52, [vu, vi x1, vi x2], [vi z]) M1) else (q_bi (q_E (174, 0, [vi x1, vi 1, vi 0], []) (qk t u I J)) fun z M1 => q_E (146, 52, [vu, vi x1, vi x2], [vi z]) M1))) else some (vi (-2), (qk t u I J))) := q_it_eq 400 [4, 14, 21, 52] _ _
set_option maxRecDepth 20000 in
theorem e146_4 (t u : Nat) (I J : Nat → Nat → Int) (x1 : Int) (y0 : Int) : q_E (146, 4, [vr 1, vi x1, vu], [vi y0]) (qk t u I J) = (if y0 = 0 then (q_bi (q_E (163, 0, [vr 1, vi x1, vi 9], []) (qk t u I J)) fun z M1 => q_E (146, 14, [vr 1, vi x1, vu], [vi z]) M1) else some (vi (-1), (qk t u I J))) := q_it_eq 400 [4, 14, 21, 52] _ _
set_option maxRecDepth 20000 in
theorem e146_52 (t u : Nat) (I J : Nat → Nat → Int) (x1 : Int) (x2 : Int) (y0 : Int) : q_E (146, 52, [vu, vi x1, vi x2], [vi y0]) (qk t u I J) = (if y0 = 0 then q_E (146, 21, [vu, vi x1, vi (wr (x2 + 1))], []) (qk t u I J) else (if x2 < 2 then some (vi (wr (0 + (Int.tmod x2 2))), (qk t u I J)) else some (vi (wr (10 + (Int.tmod x2 2))), (qk t u I J)))) := q_it_eq 400 [4, 14, 21, 52] _ _
set_option maxRecDepth 20000 in
theorem e146_14 (t u : Nat) (I J : Nat → Nat → Int) (x1 : Int) (y0 : Int) : q_E (146, 14, [vr 1, vi x1, vu], [vi y0]) (qk t u I J) = (if y0 = 0 then q_E (146, 21, [vu, vi x1, vi 0], []) (qk t u I J) else some (vi (-1), (qk t u I J))) := q_it_eq 400 [4, 14, 21, 52] _ _
/-! 147: StewardHeaps.odds(IIIZ)J -/
set_option maxRecDepth 20000 in
theorem e147_0 (t u : Nat) (I J : Nat → Nat → Int) (x1 : Int) (x2 : Int) (x3 : Int) (x4 : Int) : q_E (147, 0, [vr 1, vi x1, vi x2, vi x3, vi x4], []) (qk t u I J) = (q_bi (q_E (162, 0, [vr 1, vi x1], []) (qk t u I J)) fun z M1 => q_E (147, 5, [vr 1, vi x1, vi x2, vi x3, vi x4], [vi z]) M1) := q_it_eq 400 [5, 15, 25, 41, 57, 63, 68] _ _
set_option maxRecDepth 20000 in
theorem e147_5 (t u : Nat) (I J : Nat → Nat → Int) (x1 : Int) (x2 : Int) (x3 : Int) (x4 : Int) (y0 : Int) : q_E (147, 5, [vr 1, vi x1, vi x2, vi x3, vi x4], [vi y0]) (qk t u I J) = (if y0 = 0 then (q_bi (q_E (163, 0, [vr 1, vi x2, vi 8], []) (qk t u I J)) fun z M1 => q_E (147, 15, [vr 1, vi x1, vi x2, vi x3, vi x4], [vi z]) M1) else some (vl (-1), (qk t u I J))) := q_it_eq 400 [5, 15, 25, 41, 57, 63, 68] _ _
set_option maxRecDepth 20000 in
theorem e147_15 (t u : Nat) (I J : Nat → Nat → Int) (x1 : Int) (x2 : Int) (x3 : Int) (x4 : Int) (y0 : Int) : q_E (147, 15, [vr 1, vi x1, vi x2, vi x3, vi x4], [vi y0]) (qk t u I J) = (if y0 = 0 then (q_bi (q_E (163, 0, [vr 1, vi x3, vi 60], []) (qk t u I J)) fun z M1 => q_E (147, 25, [vr 1, vi x1, vi x2, vi x3, vi x4], [vi z]) M1) else some (vl (-1), (qk t u I J))) := q_it_eq 400 [5, 15, 25, 41, 57, 63, 68] _ _
set_option maxRecDepth 20000 in
theorem e147_25 (t u : Nat) (I J : Nat → Nat → Int) (x1 : Int) (x2 : Int) (x3 : Int) (x4 : Int) (y0 : Int) : q_E (147, 25, [vr 1, vi x1, vi x2, vi x3, vi x4], [vi y0]) (qk t u I J) = (if y0 = 0 then (q_bv (q_E (167, 0, [vr 1, vr 232, vi x1], []) (qk t u I J)) fun M1 => q_E (147, 41, [vr 1, vi x1, vi x2, vi x3, vi x4], []) M1) else some (vl (-1), (qk t u I J))) := q_it_eq 400 [5, 15, 25, 41, 57, 63, 68] _ _
set_option maxRecDepth 20000 in
theorem e147_41 (t u : Nat) (I J : Nat → Nat → Int) (x1 : Int) (x2 : Int) (x3 : Int) (x4 : Int) : q_E (147, 41, [vr 1, vi x1, vi x2, vi x3, vi x4], []) (qk t u I J) = (if kd t = 18 then (q_bl (q_E (4, 0, [vr 232, vi (I t 8), vi x2, vi x3, vu, vu, vu], []) (qk t u I J)) fun z M1 => q_E (147, 57, [vr 1, vi x1, vi x2, vi x3, vi x4], [vl z]) M1) else none) := q_it_eq 400 [5, 15, 25, 41, 57, 63, 68] _ _
set_option maxRecDepth 20000 in
theorem e147_57 (t u : Nat) (I J : Nat → Nat → Int) (x1 : Int) (x2 : Int) (x3 : Int) (x4 : Int) (y0 : Int) : q_E (147, 57, [vr 1, vi x1, vi x2, vi x3, vi x4], [vl y0]) (qk t u I J) = (q_bl (q_E (8, 0, [vi 100, vi x2, vu, vu, vu], []) (qk t u I J)) fun z M1 => q_E (147, 63, [vr 1, vi x1, vi x2, vi x3, vi x4], [vl z, vl y0]) M1) := q_it_eq 400 [5, 15, 25, 41, 57, 63, 68] _ _
set_option maxRecDepth 20000 in
theorem e147_63 (t u : Nat) (I J : Nat → Nat → Int) (x1 : Int) (x2 : Int) (x3 : Int) (x4 : Int) (y0 : Int) (y1 : Int) : q_E (147, 63, [vr 1, vi x1, vi x2, vi x3, vi x4], [vl y0, vl y1]) (qk t u I J) = (q_bl (q_E (9, 0, [vl y1, vu, vl y0, vu, vi x4, vu, vu], []) (qk t u I J)) fun z M1 => q_E (147, 68, [vr 1, vi x1, vi x2, vi x3, vi x4], [vl z]) M1) := q_it_eq 400 [5, 15, 25, 41, 57, 63, 68] _ _
set_option maxRecDepth 20000 in
theorem e147_68 (t u : Nat) (I J : Nat → Nat → Int) (x1 : Int) (x2 : Int) (x3 : Int) (x4 : Int) (y0 : Int) : q_E (147, 68, [vr 1, vi x1, vi x2, vi x3, vi x4], [vl y0]) (qk t u I J) = some (vl y0, (qk t u I J)) := q_it_eq 400 [5, 15, 25, 41, 57, 63, 68] _ _
/-! 148: StewardHeaps.mean(IIZ)J -/
set_option maxRecDepth 20000 in
theorem e148_0 (t u : Nat) (I J : Nat → Nat → Int) (x1 : Int) (x2 : Int) (x3 : Int) : q_E (148, 0, [vr 1, vi x1, vi x2, vi x3], []) (qk t u I J) = (q_bi (q_E (162, 0, [vr 1, vi x1], []) (qk t u I J)) fun z M1 => q_E (148, 5, [vr 1, vi x1, vi x2, vi x3], [vi z]) M1) := q_it_eq 400 [5, 15, 31, 46, 52, 56] _ _
set_option maxRecDepth 20000 in
theorem e148_5 (t u : Nat) (I J : Nat → Nat → Int) (x1 : Int) (x2 : Int) (x3 : Int) (y0 : Int) : q_E (148, 5, [vr 1, vi x1, vi x2, vi x3], [vi y0]) (qk t u I J) = (if y0 = 0 then (q_bi (q_E (163, 0, [vr 1, vi x2, vi 8], []) (qk t u I J)) fun z M1 => q_E (148, 15, [vr 1, vi x1, vi x2, vi x3], [vi z]) M1) else some (vl (-1), (qk t u I J))) := q_it_eq 400 [5, 15, 31, 46, 52, 56] _ _
set_option maxRecDepth 20000 in
theorem e148_15 (t u : Nat) (I J : Nat → Nat → Int) (x1 : Int) (x2 : Int) (x3 : Int) (y0 : Int) : q_E (148, 15, [vr 1, vi x1, vi x2, vi x3], [vi y0]) (qk t u I J) = (if y0 = 0 then (q_bv (q_E (167, 0, [vr 1, vr 232, vi x1], []) (qk t u I J)) fun M1 => q_E (148, 31, [vr 1, vi x1, vi x2, vi x3], []) M1) else some (vl (-1), (qk t u I J))) := q_it_eq 400 [5, 15, 31, 46, 52, 56] _ _
set_option maxRecDepth 20000 in
theorem e148_31 (t u : Nat) (I J : Nat → Nat → Int) (x1 : Int) (x2 : Int) (x3 : Int) : q_E (148, 31, [vr 1, vi x1, vi x2, vi x3], []) (qk t u I J) = (if kd t = 18 then (q_bl (q_E (5, 0, [vr 232, vi (I t 8), vi x2, vu, vu, vu], []) (qk t u I J)) fun z M1 => q_E (148, 46, [vr 1, vi x1, vi x2, vi x3], [vl z]) M1) else none) := q_it_eq 400 [5, 15, 31, 46, 52, 56] _ _
set_option maxRecDepth 20000 in
theorem e148_46 (t u : Nat) (I J : Nat → Nat → Int) (x1 : Int) (x2 : Int) (x3 : Int) (y0 : Int) : q_E (148, 46, [vr 1, vi x1, vi x2, vi x3], [vl y0]) (qk t u I J) = (q_bl (q_E (8, 0, [vi 100, vi x2, vu, vu, vu], []) (qk t u I J)) fun z M1 => q_E (148, 52, [vr 1, vi x1, vi x2, vi x3], [vl z, vl y0]) M1) := q_it_eq 400 [5, 15, 31, 46, 52, 56] _ _
set_option maxRecDepth 20000 in
theorem e148_52 (t u : Nat) (I J : Nat → Nat → Int) (x1 : Int) (x2 : Int) (x3 : Int) (y0 : Int) (y1 : Int) : q_E (148, 52, [vr 1, vi x1, vi x2, vi x3], [vl y0, vl y1]) (qk t u I J) = (q_bl (q_E (9, 0, [vl y1, vu, vl y0, vu, vi x3, vu, vu], []) (qk t u I J)) fun z M1 => q_E (148, 56, [vr 1, vi x1, vi x2, vi x3], [vl z]) M1) := q_it_eq 400 [5, 15, 31, 46, 52, 56] _ _
set_option maxRecDepth 20000 in
theorem e148_56 (t u : Nat) (I J : Nat → Nat → Int) (x1 : Int) (x2 : Int) (x3 : Int) (y0 : Int) : q_E (148, 56, [vr 1, vi x1, vi x2, vi x3], [vl y0]) (qk t u I J) = some (vl y0, (qk t u I J)) := q_it_eq 400 [5, 15, 31, 46, 52, 56] _ _
/-! 149: StewardHeaps.drawn(III)I -/
set_option maxRecDepth 20000 in
theorem e149_0 (t u : Nat) (I J : Nat → Nat → Int) (x1 : Int) (x2 : Int) (x3 : Int) : q_E (149, 0, [vr 1, vi x1, vi x2, vi x3, vu, vu], []) (qk t u I J) = (q_bi (q_E (162, 0, [vr 1, vi x1], []) (qk t u I J)) fun z M1 => q_E (149, 5, [vr 1, vi x1, vi x2, vi x3, vu, vu], [vi z]) M1) := q_it_eq 400 [5, 16, 27, 41, 47, 89] _ _
set_option maxRecDepth 20000 in
theorem e149_47 (t u : Nat) (I J : Nat → Nat → Int) (x3 : Int) (x4 : Int) (x5 : Int) : q_E (149, 47, [vr 1, vu, vu, vi x3, vi x4, vi x5], []) (qk t u I J) = (if x5 < x3 then (if kd t = 18 then (if Int.tmod (Int.tmod (wr ((wr (75 * x4)) + 74)) 65537) 100 < I t 8 then q_E (149, 47, [vr 1, vu, vu, vi x3, vi (Int.tmod (wr ((wr (75 * x4)) + 74)) 65537), vi (wr (x5 + 1))], []) (qk t u I J) else (q_bi (q_E (98, 0, [vr 232], []) (qk t u I J)) fun z M1 => q_E (149, 89, [vr 1, vu, vu, vi x3, vi (Int.tmod (wr ((wr (75 * x4)) + 74)) 65537), vi x5], [vi z]) M1)) else none) else some (vi (I 233 1), (qk t u I J))) := q_it_eq 400 [5, 16, 27, 41, 47, 89] _ _
set_option maxRecDepth 20000 in
theorem e149_5 (t u : Nat) (I J : Nat → Nat → Int) (x1 : Int) (x2 : Int) (x3 : Int) (y0 : Int) : q_E (149, 5, [vr 1, vi x1, vi x2, vi x3, vu, vu], [vi y0]) (qk t u I J) = (if y0 = 0 then (q_bi (q_E (163, 0, [vr 1, vi x2, vi 65536], []) (qk t u I J)) fun z M1 => q_E (149, 16, [vr 1, vi x1, vi x2, vi x3, vu, vu], [vi z]) M1) else some (vi (-1), (qk t u I J))) := q_it_eq 400 [5, 16, 27, 41, 47, 89] _ _
set_option maxRecDepth 20000 in
theorem e149_89 (t u : Nat) (I J : Nat → Nat → Int) (x3 : Int) (x4 : Int) (x5 : Int) (y0 : Int) : q_E (149, 89, [vr 1, vu, vu, vi x3, vi x4, vi x5], [vi y0]) (qk t u I J) = q_E (149, 47, [vr 1, vu, vu, vi x3, vi x4, vi (wr (x5 + 1))], []) (qk t u I J) := q_it_eq 400 [5, 16, 27, 41, 47, 89] _ _
set_option maxRecDepth 20000 in
theorem e149_16 (t u : Nat) (I J : Nat → Nat → Int) (x1 : Int) (x2 : Int) (x3 : Int) (y0 : Int) : q_E (149, 16, [vr 1, vi x1, vi x2, vi x3, vu, vu], [vi y0]) (qk t u I J) = (if y0 = 0 then (q_bi (q_E (163, 0, [vr 1, vi x3, vi 200], []) (qk t u I J)) fun z M1 => q_E (149, 27, [vr 1, vi x1, vi x2, vi x3, vu, vu], [vi z]) M1) else some (vi (-1), (qk t u I J))) := q_it_eq 400 [5, 16, 27, 41, 47, 89] _ _
set_option maxRecDepth 20000 in
theorem e149_27 (t u : Nat) (I J : Nat → Nat → Int) (x1 : Int) (x2 : Int) (x3 : Int) (y0 : Int) : q_E (149, 27, [vr 1, vi x1, vi x2, vi x3, vu, vu], [vi y0]) (qk t u I J) = (if y0 = 0 then (q_bv (q_E (167, 0, [vr 1, vr 232, vi x1], []) (qk t u I J)) fun M1 => q_E (149, 41, [vr 1, vi x1, vi x2, vi x3, vu, vu], []) M1) else some (vi (-1), (qk t u I J))) := q_it_eq 400 [5, 16, 27, 41, 47, 89] _ _
set_option maxRecDepth 20000 in
theorem e149_41 (t u : Nat) (I J : Nat → Nat → Int) (x1 : Int) (x2 : Int) (x3 : Int) : q_E (149, 41, [vr 1, vi x1, vi x2, vi x3, vu, vu], []) (qk t u I J) = q_E (149, 47, [vr 1, vu, vu, vi x3, vi x2, vi 0], []) (qk t u I J) := q_it_eq 400 [5, 16, 27, 41, 47, 89] _ _
/-! 150: StewardHeaps.night()I -/
set_option maxRecDepth 20000 in
theorem e150_0 (t u : Nat) (I J : Nat → Nat → Int) : q_E (150, 0, [vr 1, vu, vu, vu], []) (qk t u I J) = (q_bi (q_E (161, 0, [vr 1], []) (qk t u I J)) fun z M1 => q_E (150, 4, [vr 1, vu, vu, vu], [vi z]) M1) := q_it_eq 400 [4, 30, 46, 64, 103, 121] _ _
set_option maxRecDepth 20000 in
theorem e150_64 (t u : Nat) (I J : Nat → Nat → Int) (x1 : Nat) (x2 : Int) (x3 : Int) : q_E (150, 64, [vr 1, vr x1, vi x2, vi x3], []) (qk t u I J) = (if kd t = 18 then (if x3 < I t 9 then (if (0 : Int) ≤ x3 ∧ x3 < 4 then (if kd t = 18 then (if kd (q_R t u t 1) = 1 then (if (0 : Int) ≤ x3 ∧ x3 < ln (q_R t u t 1) then (if kd t = 18 then (if kd (q_R t u 25 (Int.toNat x3)) = 12 then (q_bv (q_E (31, 0, [vr (q_R t u 25 (Int.toNat x3)), vi (I (q_R t u t 1) (Int.toNat x3)), vi (I t 7)], []) (qk t u I J)) fun M1 => q_E (150, 103, [vr 1, vr x1, vi x2, vi x3], []) M1) else none) else none) else none) else none) else none) else none) else some (vi x2, (qk t u I J))) else none) := q_it_eq 400 [4, 30, 46, 64, 103, 121] _ _
set_option maxRecDepth 20000 in
theorem e150_4 (t u : Nat) (I J : Nat → Nat → Int) (y0 : Int) : q_E (150, 4, [vr 1, vu, vu, vu], [vi y0]) (qk t u I J) = (if y0 = 0 then (if I 24 1 < 999 then (q_bi (q_E (160, 0, [vr 1, vi 3, vi 0], []) (qk t u I J)) fun z M1 => q_E (150, 30, [vr 1, vu, vu, vu], [vi z]) M1) else (q_bi (q_E (160, 0, [vr 1, vi 3, vi 1], []) (qk t u I J)) fun z M1 => q_E (150, 30, [vr 1, vu, vu, vu], [vi z]) M1)) else some (vi (-1), (qk t u I J))) := q_it_eq 400 [4, 30, 46, 64, 103, 121] _ _
set_option maxRecDepth 20000 in
theorem e150_103 (t u : Nat) (I J : Nat → Nat → Int) (x1 : Nat) (x2 : Int) (x3 : Int) : q_E (150, 103, [vr 1, vr x1, vi x2, vi x3], []) (qk t u I J) = (if (0 : Int) ≤ x3 ∧ x3 < 4 then (if kd x1 = 10 then (if kd (q_R t u x1 0) = 4 then (if (0 : Int) ≤ x3 ∧ x3 < ln (q_R t u x1 0) then (if kd (q_R t u 25 (Int.toNat x3)) = 12 then (q_bi (q_E (24, 0, [vr (q_R t u 25 (Int.toNat x3)), vr (q_R t u (q_R t u x1 0) (Int.toNat x3))], []) (qk t u I J)) fun z M1 => q_E (150, 121, [vr 1, vr x1, vi x2, vi x3], [vi z]) M1) else none) else none) else none) else none) else none) := q_it_eq 400 [4, 30, 46, 64, 103, 121] _ _
set_option maxRecDepth 20000 in
theorem e150_30 (t u : Nat) (I J : Nat → Nat → Int) (y0 : Int) : q_E (150, 30, [vr 1, vu, vu, vu], [vi y0]) (qk t u I J) = (if y0 = 0 then (q_br (q_E (37, 0, [vr 34, vr 24, vu], []) (qk t u I J)) fun z M1 => q_E (150, 46, [vr 1, vu, vu, vu], [vr z]) M1) else some (vi (-1), (qk t u I J))) := q_it_eq 400 [4, 30, 46, 64, 103, 121] _ _
set_option maxRecDepth 20000 in
theorem e150_121 (t u : Nat) (I J : Nat → Nat → Int) (x1 : Nat) (x2 : Int) (x3 : Int) (y0 : Int) : q_E (150, 121, [vr 1, vr x1, vi x2, vi x3], [vi y0]) (qk t u I J) = (if y0 = 0 then q_E (150, 64, [vr 1, vr x1, vi (q_or x2 (q_shl 1 x3)), vi (wr (x3 + 1))], []) (qk t u I J) else q_E (150, 64, [vr 1, vr x1, vi x2, vi (wr (x3 + 1))], []) (qk t u I J)) := q_it_eq 400 [4, 30, 46, 64, 103, 121] _ _
set_option maxRecDepth 20000 in
theorem e150_46 (t u : Nat) (I J : Nat → Nat → Int) (y0 : Nat) : q_E (150, 46, [vr 1, vu, vu, vu], [vr y0]) (qk t u I J) = q_E (150, 64, [vr 1, vr y0, vi 0, vi 0], []) (qk t u (uI I 24 1 (wr ((I 24 1) + 1))) J) := q_it_eq 400 [4, 30, 46, 64, 103, 121] _ _
/-! 151: StewardHeaps.add(II)I -/
set_option maxRecDepth 20000 in
theorem e151_0 (t u : Nat) (I J : Nat → Nat → Int) (x1 : Int) (x2 : Int) : q_E (151, 0, [vr 1, vi x1, vi x2], []) (qk t u I J) = (q_bi (q_E (162, 0, [vr 1, vi x1], []) (qk t u I J)) fun z M1 => q_E (151, 5, [vr 1, vi x1, vi x2], [vi z]) M1) := q_it_eq 400 [5, 29, 46, 61, 64, 77, 91] _ _
set_option maxRecDepth 20000 in
theorem e151_64 (t u : Nat) (I J : Nat → Nat → Int) : q_E (151, 64, [vu, vu, vu], []) (qk t u I J) = some (vi (-1), (qk t u I J)) := q_it_eq 400 [5, 29, 46, 61, 64, 77, 91] _ _
set_option maxRecDepth 20000 in
theorem e151_91 (t u : Nat) (I J : Nat → Nat → Int) (x1 : Int) : q_E (151, 91, [vr 1, vi x1, vu], []) (qk t u I J) = (if (0 : Int) ≤ x1 ∧ x1 < 4 then (if kd (q_R t u 25 (Int.toNat x1)) = 12 then some (vi (I (q_R t u 25 (Int.toNat x1)) 1), (qk t u I J)) else none) else none) := q_it_eq 400 [5, 29, 46, 61, 64, 77, 91] _ _
set_option maxRecDepth 20000 in
theorem e151_5 (t u : Nat) (I J : Nat → Nat → Int) (x1 : Int) (x2 : Int) (y0 : Int) : q_E (151, 5, [vr 1, vi x1, vi x2], [vi y0]) (qk t u I J) = (if y0 = 0 then (if x2 < 1 then (q_bi (q_E (160, 0, [vr 1, vi 2, vi 1], []) (qk t u I J)) fun z M1 => q_E (151, 29, [vr 1, vi x1, vi x2], [vi z]) M1) else (if (30 : Int) < x2 then (q_bi (q_E (160, 0, [vr 1, vi 2, vi 1], []) (qk t u I J)) fun z M1 => q_E (151, 29, [vr 1, vi x1, vi x2], [vi z]) M1) else (q_bi (q_E (160, 0, [vr 1, vi 2, vi 0], []) (qk t u I J)) fun z M1 => q_E (151, 29, [vr 1, vi x1, vi x2], [vi z]) M1))) else q_E (151, 64, [vu, vu, vu], []) (qk t u I J)) := q_it_eq 400 [5, 29, 46, 61, 64, 77, 91] _ _
set_option maxRecDepth 20000 in
theorem e151_29 (t u : Nat) (I J : Nat → Nat → Int) (x1 : Int) (x2 : Int) (y0 : Int) : q_E (151, 29, [vr 1, vi x1, vi x2], [vi y0]) (qk t u I J) = (if y0 = 0 then (if (0 : Int) ≤ x1 ∧ x1 < 4 then (if kd (q_R t u 25 (Int.toNat x1)) = 12 then (q_bi (q_E (28, 0, [vr (q_R t u 25 (Int.toNat x1))], []) (qk t u I J)) fun z M1 => q_E (151, 46, [vr 1, vi x1, vi x2], [vi z, vi 3, vr 1]) M1) else none) else none) else q_E (151, 64, [vu, vu, vu], []) (qk t u I J)) := q_it_eq 400 [5, 29, 46, 61, 64, 77, 91] _ _
set_option maxRecDepth 20000 in
theorem e151_46 (t u : Nat) (I J : Nat → Nat → Int) (x1 : Int) (x2 : Int) (y0 : Int) (y1 : Int) (y2 : Nat) : q_E (151, 46, [vr 1, vi x1, vi x2], [vi y0, vi y1, vr y2]) (qk t u I J) = (if (60 : Int) < wr (y0 + x2) then (if kd y2 = 20 then (q_bi (q_E (160, 0, [vr y2, vi y1, vi 1], []) (qk t u I J)) fun z M1 => q_E (151, 61, [vr 1, vi x1, vi x2], [vi z]) M1) else none) else (if kd y2 = 20 then (q_bi (q_E (160, 0, [vr y2, vi y1, vi 0], []) (qk t u I J)) fun z M1 => q_E (151, 61, [vr 1, vi x1, vi x2], [vi z]) M1) else none)) := q_it_eq 400 [5, 29, 46, 61, 64, 77, 91] _ _
set_option maxRecDepth 20000 in
theorem e151_61 (t u : Nat) (I J : Nat → Nat → Int) (x1 : Int) (x2 : Int) (y0 : Int) : q_E (151, 61, [vr 1, vi x1, vi x2], [vi y0]) (qk t u I J) = (if y0 = 0 then (q_br (q_E (37, 0, [vr 34, vr 24, vu], []) (qk t u I J)) fun z M1 => q_E (151, 77, [vr 1, vi x1, vi x2], [vr z]) M1) else q_E (151, 64, [vu, vu, vu], []) (qk t u I J)) := q_it_eq 400 [5, 29, 46, 61, 64, 77, 91] _ _
set_option maxRecDepth 20000 in
theorem e151_77 (t u : Nat) (I J : Nat → Nat → Int) (x1 : Int) (x2 : Int) (y0 : Nat) : q_E (151, 77, [vr 1, vi x1, vi x2], [vr y0]) (qk t u I J) = (if (0 : Int) ≤ x1 ∧ x1 < 4 then (if kd (q_R t u 25 (Int.toNat x1)) = 12 then (q_bv (q_E (29, 0, [vr (q_R t u 25 (Int.toNat x1)), vi x2, vu], []) (qk t u I J)) fun M1 => q_E (151, 91, [vr 1, vi x1, vu], []) M1) else none) else none) := q_it_eq 400 [5, 29, 46, 61, 64, 77, 91] _ _
/-! 152: StewardHeaps.take(II)I -/
set_option maxRecDepth 20000 in
theorem e152_0 (t u : Nat) (I J : Nat → Nat → Int) (x1 : Int) (x2 : Int) : q_E (152, 0, [vr 1, vi x1, vi x2, vu], []) (qk t u I J) = (q_bi (q_E (166, 0, [vr 1, vi x1, vi x2], []) (qk t u I J)) fun z M1 => q_E (152, 8, [vr 1, vi x1, vi x2, vu], [vi z, vi 1, vr 1]) M1) := q_it_eq 400 [8, 19, 35, 52, 57, 61] _ _
set_option maxRecDepth 20000 in
theorem e152_8 (t u : Nat) (I J : Nat → Nat → Int) (x1 : Int) (x2 : Int) (y0 : Int) (y1 : Int) (y2 : Nat) : q_E (152, 8, [vr 1, vi x1, vi x2, vu], [vi y0, vi y1, vr y2]) (qk t u I J) = (if y0 = 0 then (if kd y2 = 20 then (q_bi (q_E (160, 0, [vr y2, vi y1, vi 1], []) (qk t u I J)) fun z M1 => q_E (152, 19, [vr 1, vi x1, vi x2, vu], [vi z]) M1) else none) else (if kd y2 = 20 then (q_bi (q_E (160, 0, [vr y2, vi y1, vi 0], []) (qk t u I J)) fun z M1 => q_E (152, 19, [vr 1, vi x1, vi x2, vu], [vi z]) M1) else none)) := q_it_eq 400 [8, 19, 35, 52, 57, 61] _ _
set_option maxRecDepth 20000 in
theorem e152_19 (t u : Nat) (I J : Nat → Nat → Int) (x1 : Int) (x2 : Int) (y0 : Int) : q_E (152, 19, [vr 1, vi x1, vi x2, vu], [vi y0]) (qk t u I J) = (if y0 = 0 then (q_br (q_E (37, 0, [vr 34, vr 24, vu], []) (qk t u I J)) fun z M1 => q_E (152, 35, [vr 1, vi x1, vi x2, vu], [vr z]) M1) else some (vi (-1), (qk t u I J))) := q_it_eq 400 [8, 19, 35, 52, 57, 61] _ _
set_option maxRecDepth 20000 in
theorem e152_35 (t u : Nat) (I J : Nat → Nat → Int) (x1 : Int) (x2 : Int) (y0 : Nat) : q_E (152, 35, [vr 1, vi x1, vi x2, vu], [vr y0]) (qk t u I J) = (if (0 : Int) ≤ x1 ∧ x1 < 4 then (if kd (q_R t u 25 (Int.toNat x1)) = 12 then (q_bi (q_E (30, 0, [vr (q_R t u 25 (Int.toNat x1)), vi x2, vu, vu], []) (qk t u I J)) fun z M1 => q_E (152, 52, [vr 1, vi x1, vi x2, vr (q_R t u 25 (Int.toNat x1))], [vi z, vr (q_R t u 25 (Int.toNat x1))]) M1) else none) else none) := q_it_eq 400 [8, 19, 35, 52, 57, 61] _ _
set_option maxRecDepth 20000 in
theorem e152_52 (t u : Nat) (I J : Nat → Nat → Int) (x1 : Int) (x2 : Int) (x3 : Nat) (y0 : Int) (y1 : Nat) : q_E (152, 52, [vr 1, vi x1, vi x2, vr x3], [vi y0, vr y1]) (qk t u I J) = (if kd y1 = 12 then (q_bv (q_E (29, 0, [vr y1, vi (wr (y0 - 1)), vu], []) (qk t u I J)) fun M1 => q_E (152, 57, [vr 1, vi x1, vi x2, vr x3], []) M1) else none) := q_it_eq 400 [8, 19, 35, 52, 57, 61] _ _
set_option maxRecDepth 20000 in
theorem e152_57 (t u : Nat) (I J : Nat → Nat → Int) (x1 : Int) (x2 : Int) (x3 : Nat) : q_E (152, 57, [vr 1, vi x1, vi x2, vr x3], []) (qk t u I J) = (if kd x3 = 12 then (q_bi (q_E (28, 0, [vr x3], []) (qk t u I J)) fun z M1 => q_E (152, 61, [vr 1, vi x1, vi x2, vr x3], [vi z]) M1) else none) := q_it_eq 400 [8, 19, 35, 52, 57, 61] _ _
set_option maxRecDepth 20000 in
theorem e152_61 (t u : Nat) (I J : Nat → Nat → Int) (x1 : Int) (x2 : Int) (x3 : Nat) (y0 : Int) : q_E (152, 61, [vr 1, vi x1, vi x2, vr x3], [vi y0]) (qk t u I J) = some (vi y0, (qk t u I J)) := q_it_eq 400 [8, 19, 35, 52, 57, 61] _ _
/-! 153: StewardHeaps.join(III)I -/
set_option maxRecDepth 20000 in
theorem e153_0 (t u : Nat) (I J : Nat → Nat → Int) (x1 : Int) (x2 : Int) (x3 : Int) : q_E (153, 0, [vr 1, vi x1, vi x2, vi x3, vu, vu, vu], []) (qk t u I J) = (q_bi (q_E (166, 0, [vr 1, vi x1, vi x2], []) (qk t u I J)) fun z M1 => q_E (153, 8, [vr 1, vi x1, vi x2, vi x3, vu, vu, vu], [vi z, vi 1, vr 1]) M1) := q_it_eq 400 [8, 17, 33, 49, 71, 73, 85, 88, 95] _ _
set_option maxRecDepth 20000 in
theorem e153_73 (t u : Nat) (I J : Nat → Nat → Int) (x2 : Int) (x3 : Int) (x4 : Nat) (x5 : Int) : q_E (153, 73, [vu, vu, vi x2, vi x3, vr x4, vi x5, vu], []) (qk t u I J) = (if x2 < x3 then (if kd x4 = 12 then (q_bi (q_E (30, 0, [vr x4, vi x2, vu, vu], []) (qk t u I J)) fun z M1 => q_E (153, 85, [vu, vu, vi x2, vi x3, vr x4, vi x5, vu], [vi z, vi x5]) M1) else none) else (if kd x4 = 12 then (q_bi (q_E (30, 0, [vr x4, vi x3, vu, vu], []) (qk t u I J)) fun z M1 => q_E (153, 85, [vu, vu, vi x2, vi x3, vr x4, vi x5, vu], [vi z, vi x5]) M1) else none)) := q_it_eq 400 [8, 17, 33, 49, 71, 73, 85, 88, 95] _ _
set_option maxRecDepth 20000 in
theorem e153_88 (t u : Nat) (I J : Nat → Nat → Int) (x4 : Nat) (x6 : Int) : q_E (153, 88, [vu, vu, vu, vu, vr x4, vu, vi x6], []) (qk t u I J) = (if kd x4 = 12 then (q_bv (q_E (29, 0, [vr x4, vi x6, vu], []) (qk t u I J)) fun M1 => q_E (153, 95, [vu, vu, vu, vu, vu, vu, vi x6], []) M1) else none) := q_it_eq 400 [8, 17, 33, 49, 71, 73, 85, 88, 95] _ _
set_option maxRecDepth 20000 in
theorem e153_95 (t u : Nat) (I J : Nat → Nat → Int) (x6 : Int) : q_E (153, 95, [vu, vu, vu, vu, vu, vu, vi x6], []) (qk t u I J) = some (vi x6, (qk t u I J)) := q_it_eq 400 [8, 17, 33, 49, 71, 73, 85, 88, 95] _ _
set_option maxRecDepth 20000 in
theorem e153_8 (t u : Nat) (I J : Nat → Nat → Int) (x1 : Int) (x2 : Int) (x3 : Int) (y0 : Int) (y1 : Int) (y2 : Nat) : q_E (153, 8, [vr 1, vi x1, vi x2, vi x3, vu, vu, vu], [vi y0, vi y1, vr y2]) (qk t u I J) = (if y0 = 0 then (if kd y2 = 20 then (q_bi (q_E (160, 0, [vr y2, vi y1, vi 1], []) (qk t u I J)) fun z M1 => q_E (153, 33, [vr 1, vi x1, vi x2, vi x3, vu, vu, vu], [vi z]) M1) else none) else (q_bi (q_E (166, 0, [vr 1, vi x1, vi x3], []) (qk t u I J)) fun z M1 => q_E (153, 17, [vr 1, vi x1, vi x2, vi x3, vu, vu, vu], [vi z, vi y1, vr y2]) M1)) := q_it_eq 400 [8, 17, 33, 49, 71, 73, 85, 88, 95] _ _
set_option maxRecDepth 20000 in
theorem e153_85 (t u : Nat) (I J : Nat → Nat → Int) (x2 : Int) (x3 : Int) (x4 : Nat) (x5 : Int) (y0 : Int) (y1 : Int) : q_E (153, 85, [vu, vu, vi x2, vi x3, vr x4, vi x5, vu], [vi y0, vi y1]) (qk t u I J) = q_E (153, 88, [vu, vu, vu, vu, vr x4, vu, vi (wr (y1 + y0))], []) (qk t u I J) := q_it_eq 400 [8, 17, 33, 49, 71, 73, 85, 88, 95] _ _
set_option maxRecDepth 20000 in
theorem e153_33 (t u : Nat) (I J : Nat → Nat → Int) (x1 : Int) (x2 : Int) (x3 : Int) (y0 : Int) : q_E (153, 33, [vr 1, vi x1, vi x2, vi x3, vu, vu, vu], [vi y0]) (qk t u I J) = (if y0 = 0 then (q_br (q_E (37, 0, [vr 34, vr 24, vu], []) (qk t u I J)) fun z M1 => q_E (153, 49, [vr 1, vi x1, vi x2, vi x3, vu, vu, vu], [vr z]) M1) else some (vi (-1), (qk t u I J))) := q_it_eq 400 [8, 17, 33, 49, 71, 73, 85, 88, 95] _ _
set_option maxRecDepth 20000 in
theorem e153_17 (t u : Nat) (I J : Nat → Nat → Int) (x1 : Int) (x2 : Int) (x3 : Int) (y0 : Int) (y1 : Int) (y2 : Nat) : q_E (153, 17, [vr 1, vi x1, vi x2, vi x3, vu, vu, vu], [vi y0, vi y1, vr y2]) (qk t u I J) = (if y0 = 0 then (if kd y2 = 20 then (q_bi (q_E (160, 0, [vr y2, vi y1, vi 1], []) (qk t u I J)) fun z M1 => q_E (153, 33, [vr 1, vi x1, vi x2, vi x3, vu, vu, vu], [vi z]) M1) else none) else (if x2 = x3 then (if kd y2 = 20 then (q_bi (q_E (160, 0, [vr y2, vi y1, vi 1], []) (qk t u I J)) fun z M1 => q_E (153, 33, [vr 1, vi x1, vi x2, vi x3, vu, vu, vu], [vi z]) M1) else none) else (if kd y2 = 20 then (q_bi (q_E (160, 0, [vr y2, vi y1, vi 0], []) (qk t u I J)) fun z M1 => q_E (153, 33, [vr 1, vi x1, vi x2, vi x3, vu, vu, vu], [vi z]) M1) else none))) := q_it_eq 400 [8, 17, 33, 49, 71, 73, 85, 88, 95] _ _
set_option maxRecDepth 20000 in
theorem e153_49 (t u : Nat) (I J : Nat → Nat → Int) (x1 : Int) (x2 : Int) (x3 : Int) (y0 : Nat) : q_E (153, 49, [vr 1, vi x1, vi x2, vi x3, vu, vu, vu], [vr y0]) (qk t u I J) = (if (0 : Int) ≤ x1 ∧ x1 < 4 then (if x2 < x3 then (if kd (q_R t u 25 (Int.toNat x1)) = 12 then (q_bi (q_E (30, 0, [vr (q_R t u 25 (Int.toNat x1)), vi x3, vu, vu], []) (qk t u I J)) fun z M1 => q_E (153, 71, [vr 1, vi x1, vi x2, vi x3, vr (q_R t u 25 (Int.toNat x1)), vu, vu], [vi z]) M1) else none) else (if kd (q_R t u 25 (Int.toNat x1)) = 12 then (q_bi (q_E (30, 0, [vr (q_R t u 25 (Int.toNat x1)), vi x2, vu, vu], []) (qk t u I J)) fun z M1 => q_E (153, 71, [vr 1, vi x1, vi x2, vi x3, vr (q_R t u 25 (Int.toNat x1)), vu, vu], [vi z]) M1) else none)) else none) := q_it_eq 400 [8, 17, 33, 49, 71, 73, 85, 88, 95] _ _
set_option maxRecDepth 20000 in
theorem e153_71 (t u : Nat) (I J : Nat → Nat → Int) (x1 : Int) (x2 : Int) (x3 : Int) (x4 : Nat) (y0 : Int) : q_E (153, 71, [vr 1, vi x1, vi x2, vi x3, vr x4, vu, vu], [vi y0]) (qk t u I J) = q_E (153, 73, [vu, vu, vi x2, vi x3, vr x4, vi y0, vu], []) (qk t u I J) := q_it_eq 400 [8, 17, 33, 49, 71, 73, 85, 88, 95] _ _
/-! 154: StewardHeaps.undo()Z -/
set_option maxRecDepth 20000 in
theorem e154_0 (t u : Nat) (I J : Nat → Nat → Int) : q_E (154, 0, [vr 1], []) (qk t u I J) = (if I 34 2 = 0 then (q_bi (q_E (160, 0, [vr 1, vi 6, vi 1], []) (qk t u I J)) fun z M1 => q_E (154, 21, [vr 1], [vi z]) M1) else (q_bi (q_E (160, 0, [vr 1, vi 6, vi 0], []) (qk t u I J)) fun z M1 => q_E (154, 21, [vr 1], [vi z]) M1)) := q_it_eq 400 [21, 37] _ _
set_option maxRecDepth 20000 in
theorem e154_21 (t u : Nat) (I J : Nat → Nat → Int) (y0 : Int) : q_E (154, 21, [vr 1], [vi y0]) (qk t u I J) = (if y0 = 0 then (q_bv (q_E (38, 0, [vr 34, vr 24], []) (qk t u I J)) fun M1 => q_E (154, 37, [vr 1], []) M1) else some (vi 0, (qk t u I J))) := q_it_eq 400 [21, 37] _ _
set_option maxRecDepth 20000 in
theorem e154_37 (t u : Nat) (I J : Nat → Nat → Int) : q_E (154, 37, [vr 1], []) (qk t u I J) = some (vi 1, (qk t u I J)) := q_it_eq 400 [21, 37] _ _
/-! 155: StewardHeaps.image()I -/
set_option maxRecDepth 20000 in
theorem e155_0 (t u : Nat) (I J : Nat → Nat → Int) : q_E (155, 0, [vr 1], []) (qk t u I J) = (q_bi (q_E (161, 0, [vr 1], []) (qk t u I J)) fun z M1 => q_E (155, 4, [vr 1], [vi z]) M1) := q_it_eq 400 [4, 28, 44] _ _
set_option maxRecDepth 20000 in
theorem e155_4 (t u : Nat) (I J : Nat → Nat → Int) (y0 : Int) : q_E (155, 4, [vr 1], [vi y0]) (qk t u I J) = (if y0 = 0 then (if I 34 3 < 3 then (q_bi (q_E (160, 0, [vr 1, vi 3, vi 0], []) (qk t u I J)) fun z M1 => q_E (155, 28, [vr 1], [vi z]) M1) else (q_bi (q_E (160, 0, [vr 1, vi 3, vi 1], []) (qk t u I J)) fun z M1 => q_E (155, 28, [vr 1], [vi z]) M1)) else some (vi (-1), (qk t u I J))) := q_it_eq 400 [4, 28, 44] _ _
set_option maxRecDepth 20000 in
theorem e155_28 (t u : Nat) (I J : Nat → Nat → Int) (y0 : Int) : q_E (155, 28, [vr 1], [vi y0]) (qk t u I J) = (if y0 = 0 then (q_bi (q_E (39, 0, [vr 34, vr 24], []) (qk t u I J)) fun z M1 => q_E (155, 44, [vr 1], [vi z]) M1) else some (vi (-1), (qk t u I J))) := q_it_eq 400 [4, 28, 44] _ _
set_option maxRecDepth 20000 in
theorem e155_44 (t u : Nat) (I J : Nat → Nat → Int) (y0 : Int) : q_E (155, 44, [vr 1], [vi y0]) (qk t u I J) = some (vi y0, (qk t u I J)) := q_it_eq 400 [4, 28, 44] _ _
/-! 156: StewardHeaps.back(I)Z -/
set_option maxRecDepth 20000 in
theorem e156_0 (t u : Nat) (I J : Nat → Nat → Int) (x1 : Int) : q_E (156, 0, [vr 1, vi x1], []) (qk t u I J) = (if x1 < 0 then (q_bi (q_E (160, 0, [vr 1, vi 1, vi 1], []) (qk t u I J)) fun z M1 => q_E (156, 25, [vr 1, vi x1], [vi z]) M1) else (if x1 < I 34 3 then (q_bi (q_E (160, 0, [vr 1, vi 1, vi 0], []) (qk t u I J)) fun z M1 => q_E (156, 25, [vr 1, vi x1], [vi z]) M1) else (q_bi (q_E (160, 0, [vr 1, vi 1, vi 1], []) (qk t u I J)) fun z M1 => q_E (156, 25, [vr 1, vi x1], [vi z]) M1))) := q_it_eq 400 [25, 42] _ _
set_option maxRecDepth 20000 in
theorem e156_25 (t u : Nat) (I J : Nat → Nat → Int) (x1 : Int) (y0 : Int) : q_E (156, 25, [vr 1, vi x1], [vi y0]) (qk t u I J) = (if y0 = 0 then (q_bv (q_E (40, 0, [vr 34, vi x1, vr 24], []) (qk t u I J)) fun M1 => q_E (156, 42, [vr 1, vi x1], []) M1) else some (vi 0, (qk t u I J))) := q_it_eq 400 [25, 42] _ _
set_option maxRecDepth 20000 in
theorem e156_42 (t u : Nat) (I J : Nat → Nat → Int) (x1 : Int) : q_E (156, 42, [vr 1, vi x1], []) (qk t u I J) = some (vi 1, (qk t u I J)) := q_it_eq 400 [25, 42] _ _
/-! 157: StewardHeaps.led(I)I -/
set_option maxRecDepth 20000 in
theorem e157_0 (t u : Nat) (I J : Nat → Nat → Int) (x1 : Int) : q_E (157, 0, [vr 1, vi x1, vu, vu], []) (qk t u I J) = q_E (157, 4, [vr 1, vi x1, vi 0, vi 0], []) (qk t u I J) := q_it_eq 400 [4, 20] _ _
set_option maxRecDepth 20000 in
theorem e157_4 (t u : Nat) (I J : Nat → Nat → Int) (x1 : Int) (x2 : Int) (x3 : Int) : q_E (157, 4, [vr 1, vi x1, vi x2, vi x3], []) (qk t u I J) = (if kd t = 18 then (if x3 < I t 9 then (q_bi (q_E (169, 0, [vr 1, vi x3], []) (qk t u I J)) fun z M1 => q_E (157, 20, [vr 1, vi x1, vi x2, vi x3], [vi z]) M1) else some (vu, (qk t u I J))) else none) := q_it_eq 400 [4, 20] _ _
set_option maxRecDepth 20000 in
theorem e157_20 (t u : Nat) (I J : Nat → Nat → Int) (x1 : Int) (x2 : Int) (x3 : Int) (y0 : Int) : q_E (157, 20, [vr 1, vi x1, vi x2, vi x3], [vi y0]) (qk t u I J) = (if y0 = 0 then q_E (157, 4, [vr 1, vi x1, vi x2, vi (wr (x3 + 1))], []) (qk t u I J) else (if x2 = x1 then some (vi x3, (qk t u I J)) else q_E (157, 4, [vr 1, vi x1, vi (wr (x2 + 1)), vi (wr (x3 + 1))], []) (qk t u I J))) := q_it_eq 400 [4, 20] _ _
/-! 158: StewardHeaps.size(I)I -/
set_option maxRecDepth 20000 in
theorem e158_0 (t u : Nat) (I J : Nat → Nat → Int) (x1 : Int) : q_E (158, 0, [vr 1, vi x1], []) (qk t u I J) = (if x1 = 0 then (if kd t = 18 then some (vi (I t 7), (qk t u I J)) else none) else (if x1 = 1 then (if kd t = 18 then some (vi (I t 8), (qk t u I J)) else none) else (if x1 = 2 then (if kd t = 18 then some (vi (I t 9), (qk t u I J)) else none) else (if x1 = 3 then (if kd t = 18 then some (vi (I t 10), (qk t u I J)) else none) else (if x1 = 4 then (if kd t = 18 then some (vi (I t 11), (qk t u I J)) else none) else (if x1 = 5 then some (vi (I 24 1), (qk t u I J)) else (if x1 = 6 then (q_bi (q_E (3, 0, [vr 24, vu, vu], []) (qk t u I J)) fun z M1 => q_E (158, 111, [vr 1, vi x1], [vi z]) M1) else (if x1 = 7 then some (vi (I 34 2), (qk t u I J)) else (if x1 = 8 then some (vi (I 34 3), (qk t u I J)) else (if x1 = 9 then some (vi (I 3 1), (qk t u I J)) else some (vi (-1), (qk t u I J)))))))))))) := q_it_eq 400 [111] _ _
set_option maxRecDepth 20000 in
theorem e158_111 (t u : Nat) (I J : Nat → Nat → Int) (x1 : Int) (y0 : Int) : q_E (158, 111, [vr 1, vi x1], [vi y0]) (qk t u I J) = some (vi y0, (qk t u I J)) := q_it_eq 400 [111] _ _
/-! 159: StewardHeaps.trouble()I -/
set_option maxRecDepth 20000 in
theorem e159_0 (t u : Nat) (I J : Nat → Nat → Int) : q_E (159, 0, [vr 1], []) (qk t u I J) = some (vi (I 1 10), (qk t u I J)) := q_it_eq 400 [] _ _
/-! 160: StewardHeaps.refuses(IZ)Z -/
set_option maxRecDepth 20000 in
theorem e160_0 (t u : Nat) (I J : Nat → Nat → Int) (x1 : Int) (x2 : Int) : q_E (160, 0, [vr 1, vi x1, vi x2], []) (qk t u I J) = (if x2 = 0 then (if x2 = 0 ∨ x2 = 1 then some (vi x2, (qk t u (uI I 1 10 0) J)) else none) else (if x2 = 0 ∨ x2 = 1 then some (vi x2, (qk t u (uI I 1 10 x1) J)) else none)) := q_it_eq 400 [] _ _
/-! 161: StewardHeaps.refusesStore()Z -/
set_option maxRecDepth 20000 in
theorem e161_0 (t u : Nat) (I J : Nat → Nat → Int) : q_E (161, 0, [vr 1], []) (qk t u I J) = (q_bi (q_E (164, 0, [vr 1], []) (qk t u I J)) fun z M1 => q_E (161, 6, [vr 1], [vi z, vi 1, vr 1]) M1) := q_it_eq 400 [6, 17] _ _
set_option maxRecDepth 20000 in
theorem e161_6 (t u : Nat) (I J : Nat → Nat → Int) (y0 : Int) (y1 : Int) (y2 : Nat) : q_E (161, 6, [vr 1], [vi y0, vi y1, vr y2]) (qk t u I J) = (if y0 = 0 then (if kd y2 = 20 then (q_bi (q_E (160, 0, [vr y2, vi y1, vi 1], []) (qk t u I J)) fun z M1 => q_E (161, 17, [vr 1], [vi z]) M1) else none) else (if kd y2 = 20 then (q_bi (q_E (160, 0, [vr y2, vi y1, vi 0], []) (qk t u I J)) fun z M1 => q_E (161, 17, [vr 1], [vi z]) M1) else none)) := q_it_eq 400 [6, 17] _ _
set_option maxRecDepth 20000 in
theorem e161_17 (t u : Nat) (I J : Nat → Nat → Int) (y0 : Int) : q_E (161, 17, [vr 1], [vi y0]) (qk t u I J) = (if y0 = 0 ∨ y0 = 1 then some (vi y0, (qk t u I J)) else none) := q_it_eq 400 [6, 17] _ _
/-! 162: StewardHeaps.refusesCellar(I)Z -/
set_option maxRecDepth 20000 in
theorem e162_0 (t u : Nat) (I J : Nat → Nat → Int) (x1 : Int) : q_E (162, 0, [vr 1, vi x1], []) (qk t u I J) = (q_bi (q_E (165, 0, [vr 1, vi x1], []) (qk t u I J)) fun z M1 => q_E (162, 7, [vr 1, vi x1], [vi z, vi 1, vr 1]) M1) := q_it_eq 400 [7, 18] _ _
set_option maxRecDepth 20000 in
theorem e162_7 (t u : Nat) (I J : Nat → Nat → Int) (x1 : Int) (y0 : Int) (y1 : Int) (y2 : Nat) : q_E (162, 7, [vr 1, vi x1], [vi y0, vi y1, vr y2]) (qk t u I J) = (if y0 = 0 then (if kd y2 = 20 then (q_bi (q_E (160, 0, [vr y2, vi y1, vi 1], []) (qk t u I J)) fun z M1 => q_E (162, 18, [vr 1, vi x1], [vi z]) M1) else none) else (if kd y2 = 20 then (q_bi (q_E (160, 0, [vr y2, vi y1, vi 0], []) (qk t u I J)) fun z M1 => q_E (162, 18, [vr 1, vi x1], [vi z]) M1) else none)) := q_it_eq 400 [7, 18] _ _
set_option maxRecDepth 20000 in
theorem e162_18 (t u : Nat) (I J : Nat → Nat → Int) (x1 : Int) (y0 : Int) : q_E (162, 18, [vr 1, vi x1], [vi y0]) (qk t u I J) = (if y0 = 0 ∨ y0 = 1 then some (vi y0, (qk t u I J)) else none) := q_it_eq 400 [7, 18] _ _
/-! 163: StewardHeaps.refusesNumber(II)Z -/
set_option maxRecDepth 20000 in
theorem e163_0 (t u : Nat) (I J : Nat → Nat → Int) (x1 : Int) (x2 : Int) : q_E (163, 0, [vr 1, vi x1, vi x2], []) (qk t u I J) = (if x1 < 0 then (q_bi (q_E (160, 0, [vr 1, vi 2, vi 1], []) (qk t u I J)) fun z M1 => q_E (163, 19, [vr 1, vi x1, vi x2], [vi z]) M1) else (if x2 < x1 then (q_bi (q_E (160, 0, [vr 1, vi 2, vi 1], []) (qk t u I J)) fun z M1 => q_E (163, 19, [vr 1, vi x1, vi x2], [vi z]) M1) else (q_bi (q_E (160, 0, [vr 1, vi 2, vi 0], []) (qk t u I J)) fun z M1 => q_E (163, 19, [vr 1, vi x1, vi x2], [vi z]) M1))) := q_it_eq 400 [19] _ _
set_option maxRecDepth 20000 in
theorem e163_19 (t u : Nat) (I J : Nat → Nat → Int) (x1 : Int) (x2 : Int) (y0 : Int) : q_E (163, 19, [vr 1, vi x1, vi x2], [vi y0]) (qk t u I J) = (if y0 = 0 ∨ y0 = 1 then some (vi y0, (qk t u I J)) else none) := q_it_eq 400 [19] _ _
/-! 164: StewardHeaps.hasStore()Z -/
set_option maxRecDepth 20000 in
theorem e164_0 (t u : Nat) (I J : Nat → Nat → Int) : q_E (164, 0, [vr 1], []) (qk t u I J) = (if kd t = 18 then (if (0 : Int) < I t 9 then some (vi 1, (qk t u I J)) else some (vi 0, (qk t u I J))) else none) := q_it_eq 400 [] _ _
/-! 165: StewardHeaps.hasCellar(I)Z -/
set_option maxRecDepth 20000 in
theorem e165_0 (t u : Nat) (I J : Nat → Nat → Int) (x1 : Int) : q_E (165, 0, [vr 1, vi x1], []) (qk t u I J) = (if x1 < 0 then some (vi 0, (qk t u I J)) else (if kd t = 18 then (if x1 < I t 9 then some (vi 1, (qk t u I J)) else some (vi 0, (qk t u I J))) else none)) := q_it_eq 400 [] _ _
/-! 166: StewardHeaps.hasHeap(II)Z -/
set_option maxRecDepth 20000 in
theorem e166_0 (t u : Nat) (I J : Nat → Nat → Int) (x1 : Int) (x2 : Int) : q_E (166, 0, [vr 1, vi x1, vi x2], []) (qk t u I J) = (q_bi (q_E (165, 0, [vr 1, vi x1], []) (qk t u I J)) fun z M1 => q_E (166, 5, [vr 1, vi x1, vi x2], [vi z]) M1) := q_it_eq 400 [5] _ _
set_option maxRecDepth 20000 in
theorem e166_5 (t u : Nat) (I J : Nat → Nat → Int) (x1 : Int) (x2 : Int) (y0 : Int) : q_E (166, 5, [vr 1, vi x1, vi x2], [vi y0]) (qk t u I J) = (if y0 = 0 then some (vi 0, (qk t u I J)) else (if x2 < 0 then some (vi 0, (qk t u I J)) else (if (0 : Int) ≤ x1 ∧ x1 < 4 then (if kd (q_R t u 25 (Int.toNat x1)) = 12 then (if x2 < I (q_R t u 25 (Int.toNat x1)) 1 then some (vi 1, (qk t u I J)) else some (vi 0, (qk t u I J))) else none) else none))) := q_it_eq 400 [5] _ _
/-! 167: StewardHeaps.begin(LStewardHeaps$Walk;I)V -/
set_option maxRecDepth 20000 in
theorem e167_0 (t u : Nat) (I J : Nat → Nat → Int) (x1 : Nat) (x2 : Int) : q_E (167, 0, [vr 1, vr x1, vi x2], []) (qk t u I J) = (if (0 : Int) ≤ x2 ∧ x2 < 4 then (if kd t = 18 then (if kd (q_R t u t 1) = 1 then (if (0 : Int) ≤ x2 ∧ x2 < ln (q_R t u t 1) then (if kd t = 18 then (if kd x1 = 19 then (q_bv (q_E (97, 0, [vr x1, vr (q_R t u 25 (Int.toNat x2)), vi (I (q_R t u t 1) (Int.toNat x2)), vi (I t 7)], []) (qk t u I J)) fun M1 => q_E (167, 29, [vr 1, vr x1, vi x2], []) M1) else none) else none) else none) else none) else none) else none) := q_it_eq 400 [29] _ _
set_option maxRecDepth 20000 in
theorem e167_29 (t u : Nat) (I J : Nat → Nat → Int) (x1 : Nat) (x2 : Int) : q_E (167, 29, [vr 1, vr x1, vi x2], []) (qk t u I J) = some (vu, (qk t u I J)) := q_it_eq 400 [29] _ _
/-! 168: StewardHeaps.behind(II)LStewardHeaps$Heaps; -/
set_option maxRecDepth 20000 in
theorem e168_0 (t u : Nat) (I J : Nat → Nat → Int) (x1 : Int) (x2 : Int) : q_E (168, 0, [vr 1, vi x1, vi x2], []) (qk t u I J) = (q_bv (q_E (167, 0, [vr 1, vr 232, vi x1], []) (qk t u I J)) fun M1 => q_E (168, 9, [vr 1, vi x1, vi x2], []) M1) := q_it_eq 400 [9, 17] _ _
set_option maxRecDepth 20000 in
theorem e168_9 (t u : Nat) (I J : Nat → Nat → Int) (x1 : Int) (x2 : Int) : q_E (168, 9, [vr 1, vi x1, vi x2], []) (qk t u I J) = (q_bv (q_E (99, 0, [vr 232, vi x2, vu, vu, vu], []) (qk t u I J)) fun M1 => q_E (168, 17, [vr 1, vi x1, vi x2], []) M1) := q_it_eq 400 [9, 17] _ _
set_option maxRecDepth 20000 in
theorem e168_17 (t u : Nat) (I J : Nat → Nat → Int) (x1 : Int) (x2 : Int) : q_E (168, 17, [vr 1, vi x1, vi x2], []) (qk t u I J) = some (vr 233, (qk t u I J)) := q_it_eq 400 [9, 17] _ _
/-! 169: StewardHeaps.staysSame(I)Z -/
set_option maxRecDepth 20000 in
theorem e169_0 (t u : Nat) (I J : Nat → Nat → Int) (x1 : Int) : q_E (169, 0, [vr 1, vi x1], []) (qk t u I J) = (q_bv (q_E (167, 0, [vr 1, vr 232, vi x1], []) (qk t u I J)) fun M1 => q_E (169, 9, [vr 1, vi x1], []) M1) := q_it_eq 400 [9, 16] _ _
set_option maxRecDepth 20000 in
theorem e169_9 (t u : Nat) (I J : Nat → Nat → Int) (x1 : Int) : q_E (169, 9, [vr 1, vi x1], []) (qk t u I J) = (q_bi (q_E (98, 0, [vr 232], []) (qk t u I J)) fun z M1 => q_E (169, 16, [vr 1, vi x1], [vi z]) M1) := q_it_eq 400 [9, 16] _ _
set_option maxRecDepth 20000 in
theorem e169_16 (t u : Nat) (I J : Nat → Nat → Int) (x1 : Int) (y0 : Int) : q_E (169, 16, [vr 1, vi x1], [vi y0]) (qk t u I J) = (if y0 = 0 ∨ y0 = 1 then some (vi y0, (qk t u I J)) else none) := q_it_eq 400 [9, 16] _ _
/-! 170: StewardHeaps.roundLength(I)I -/
set_option maxRecDepth 20000 in
theorem e170_0 (t u : Nat) (I J : Nat → Nat → Int) (x1 : Int) : q_E (170, 0, [vr 1, vi x1], []) (qk t u I J) = (q_bv (q_E (167, 0, [vr 1, vr 232, vi x1], []) (qk t u I J)) fun M1 => q_E (170, 9, [vr 1, vi x1], []) M1) := q_it_eq 400 [9, 16] _ _
set_option maxRecDepth 20000 in
theorem e170_9 (t u : Nat) (I J : Nat → Nat → Int) (x1 : Int) : q_E (170, 9, [vr 1, vi x1], []) (qk t u I J) = (q_bi (q_E (100, 0, [vr 232, vu], []) (qk t u I J)) fun z M1 => q_E (170, 16, [vr 1, vi x1], [vi z]) M1) := q_it_eq 400 [9, 16] _ _
set_option maxRecDepth 20000 in
theorem e170_16 (t u : Nat) (I J : Nat → Nat → Int) (x1 : Int) (y0 : Int) : q_E (170, 16, [vr 1, vi x1], [vi y0]) (qk t u I J) = some (vi y0, (qk t u I J)) := q_it_eq 400 [9, 16] _ _
/-! 171: StewardHeaps.firstOfRound(II)I -/
set_option maxRecDepth 20000 in
theorem e171_0 (t u : Nat) (I J : Nat → Nat → Int) (x1 : Int) (x2 : Int) : q_E (171, 0, [vr 1, vi x1, vi x2, vu], []) (qk t u I J) = (if x2 = (-2) then some (vi (-2), (qk t u I J)) else (q_bv (q_E (167, 0, [vr 1, vr 232, vi x1], []) (qk t u I J)) fun M1 => q_E (171, 18, [vr 1, vi x1, vi x2, vu], []) M1)) := q_it_eq 400 [18, 27, 35, 37, 63, 75, 83] _ _
set_option maxRecDepth 20000 in
theorem e171_37 (t u : Nat) (I J : Nat → Nat → Int) (x2 : Int) (x3 : Int) : q_E (171, 37, [vr 1, vu, vi x2, vi x3], []) (qk t u I J) = (if (400 : Int) < wr (x3 + x2) then some (vi (-2), (qk t u I J)) else (q_bi (q_E (24, 0, [vr 233, vr 238], []) (qk t u I J)) fun z M1 => q_E (171, 63, [vr 1, vu, vi x2, vi x3], [vi z]) M1)) := q_it_eq 400 [18, 27, 35, 37, 63, 75, 83] _ _
set_option maxRecDepth 20000 in
theorem e171_18 (t u : Nat) (I J : Nat → Nat → Int) (x1 : Int) (x2 : Int) : q_E (171, 18, [vr 1, vi x1, vi x2, vu], []) (qk t u I J) = (q_bv (q_E (167, 0, [vr 1, vr 237, vi x1], []) (qk t u I J)) fun M1 => q_E (171, 27, [vr 1, vi x1, vi x2, vu], []) M1) := q_it_eq 400 [18, 27, 35, 37, 63, 75, 83] _ _
set_option maxRecDepth 20000 in
theorem e171_63 (t u : Nat) (I J : Nat → Nat → Int) (x2 : Int) (x3 : Int) (y0 : Int) : q_E (171, 63, [vr 1, vu, vi x2, vi x3], [vi y0]) (qk t u I J) = (if y0 = 0 then (q_bi (q_E (98, 0, [vr 232], []) (qk t u I J)) fun z M1 => q_E (171, 75, [vr 1, vu, vi x2, vi x3], [vi z]) M1) else some (vi x3, (qk t u I J))) := q_it_eq 400 [18, 27, 35, 37, 63, 75, 83] _ _
set_option maxRecDepth 20000 in
theorem e171_27 (t u : Nat) (I J : Nat → Nat → Int) (x1 : Int) (x2 : Int) : q_E (171, 27, [vr 1, vi x1, vi x2, vu], []) (qk t u I J) = (q_bv (q_E (99, 0, [vr 237, vi x2, vu, vu, vu], []) (qk t u I J)) fun M1 => q_E (171, 35, [vr 1, vi x1, vi x2, vu], []) M1) := q_it_eq 400 [18, 27, 35, 37, 63, 75, 83] _ _
set_option maxRecDepth 20000 in
theorem e171_75 (t u : Nat) (I J : Nat → Nat → Int) (x2 : Int) (x3 : Int) (y0 : Int) : q_E (171, 75, [vr 1, vu, vi x2, vi x3], [vi y0]) (qk t u I J) = (q_bi (q_E (98, 0, [vr 237], []) (qk t u I J)) fun z M1 => q_E (171, 83, [vr 1, vu, vi x2, vi x3], [vi z]) M1) := q_it_eq 400 [18, 27, 35, 37, 63, 75, 83] _ _
set_option maxRecDepth 20000 in
theorem e171_35 (t u : Nat) (I J : Nat → Nat → Int) (x1 : Int) (x2 : Int) : q_E (171, 35, [vr 1, vi x1, vi x2, vu], []) (qk t u I J) = q_E (171, 37, [vr 1, vu, vi x2, vi 0], []) (qk t u I J) := q_it_eq 400 [18, 27, 35, 37, 63, 75, 83] _ _
set_option maxRecDepth 20000 in
theorem e171_83 (t u : Nat) (I J : Nat → Nat → Int) (x2 : Int) (x3 : Int) (y0 : Int) : q_E (171, 83, [vr 1, vu, vi x2, vi x3], [vi y0]) (qk t u I J) = q_E (171, 37, [vr 1, vu, vi x2, vi (wr (x3 + 1))], []) (qk t u I J) := q_it_eq 400 [18, 27, 35, 37, 63, 75, 83] _ _
/-! 172: StewardHeaps.stewardHas(IZZ)I -/
set_option maxRecDepth 20000 in
theorem e172_0 (t u : Nat) (I J : Nat → Nat → Int) (x0 : Int) (x1 : Int) (x2 : Int) : q_E (172, 0, [vi x0, vi x1, vi x2], []) (qk t u I J) = (if x1 = 0 then (if x2 = 0 then some (vi 1, (qk t u I J)) else some (vi 0, (qk t u I J))) else (if x2 = 0 then some (vi (-1), (qk t u I J)) else some (vi (wr (-x0)), (qk t u I J)))) := q_it_eq 400 [] _ _
/-! 173: StewardHeaps.mouseHas(ZZ)I -/
set_option maxRecDepth 20000 in
theorem e173_0 (t u : Nat) (I J : Nat → Nat → Int) (x0 : Int) (x1 : Int) : q_E (173, 0, [vi x0, vi x1], []) (qk t u I J) = (if x0 = 0 then (if x1 = 0 then some (vi 2, (qk t u I J)) else some (vi 4, (qk t u I J))) else (if x1 = 0 then some (vi 0, (qk t u I J)) else some (vi 1, (qk t u I J)))) := q_it_eq 400 [] _ _
/-! 174: StewardHeaps.isRest(IZZ)Z -/
set_option maxRecDepth 20000 in
theorem e174_0 (t u : Nat) (I J : Nat → Nat → Int) (x0 : Int) (x1 : Int) (x2 : Int) : q_E (174, 0, [vi x0, vi x1, vi x2], []) (qk t u I J) = (if x1 = 0 then (q_bi (q_E (172, 0, [vi x0, vi 1, vi x2], []) (qk t u I J)) fun z M1 => q_E (174, 14, [vi x0, vi x1, vi x2], [vi z]) M1) else (q_bi (q_E (172, 0, [vi x0, vi 0, vi x2], []) (qk t u I J)) fun z M1 => q_E (174, 14, [vi x0, vi x1, vi x2], [vi z]) M1)) := q_it_eq 400 [14, 20, 36, 41] _ _
set_option maxRecDepth 20000 in
theorem e174_14 (t u : Nat) (I J : Nat → Nat → Int) (x0 : Int) (x1 : Int) (x2 : Int) (y0 : Int) : q_E (174, 14, [vi x0, vi x1, vi x2], [vi y0]) (qk t u I J) = (q_bi (q_E (172, 0, [vi x0, vi x1, vi x2], []) (qk t u I J)) fun z M1 => q_E (174, 20, [vi x0, vi x1, vi x2], [vi z, vi y0]) M1) := q_it_eq 400 [14, 20, 36, 41] _ _
set_option maxRecDepth 20000 in
theorem e174_20 (t u : Nat) (I J : Nat → Nat → Int) (x0 : Int) (x1 : Int) (x2 : Int) (y0 : Int) (y1 : Int) : q_E (174, 20, [vi x0, vi x1, vi x2], [vi y0, vi y1]) (qk t u I J) = (if y0 < y1 then some (vi 0, (qk t u I J)) else (if x2 = 0 then (q_bi (q_E (173, 0, [vi x1, vi 1], []) (qk t u I J)) fun z M1 => q_E (174, 36, [vi x0, vi x1, vi x2], [vi z]) M1) else (q_bi (q_E (173, 0, [vi x1, vi 0], []) (qk t u I J)) fun z M1 => q_E (174, 36, [vi x0, vi x1, vi x2], [vi z]) M1))) := q_it_eq 400 [14, 20, 36, 41] _ _
set_option maxRecDepth 20000 in
theorem e174_36 (t u : Nat) (I J : Nat → Nat → Int) (x0 : Int) (x1 : Int) (x2 : Int) (y0 : Int) : q_E (174, 36, [vi x0, vi x1, vi x2], [vi y0]) (qk t u I J) = (q_bi (q_E (173, 0, [vi x1, vi x2], []) (qk t u I J)) fun z M1 => q_E (174, 41, [vi x0, vi x1, vi x2], [vi z, vi y0]) M1) := q_it_eq 400 [14, 20, 36, 41] _ _
set_option maxRecDepth 20000 in
theorem e174_41 (t u : Nat) (I J : Nat → Nat → Int) (x0 : Int) (x1 : Int) (x2 : Int) (y0 : Int) (y1 : Int) : q_E (174, 41, [vi x0, vi x1, vi x2], [vi y0, vi y1]) (qk t u I J) = (if y0 < y1 then some (vi 0, (qk t u I J)) else some (vi 1, (qk t u I J))) := q_it_eq 400 [14, 20, 36, 41] _ _

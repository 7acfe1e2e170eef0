/-! 102: StewardHeaps.feed(IIIII)I -/
set_option maxRecDepth 20000 in
theorem e102_0 (t u : Nat) (I J : Nat → Nat → Int) (x1 : Int) (x2 : Int) (x3 : Int) (x4 : Int) (x5 : Int) : q_E (102, 0, [vr 1, vi x1, vi x2, vi x3, vi x4, vi x5], []) (qk t u I J) = (if (900 : Int) < wr ((I 3 1) + 20) then some (vi (-1), (qk t u I J)) else (q_bv (q_E (84, 0, [vr 3, vi x1, vu], []) (qk t u I J)) fun M1 => q_E (102, 26, [vr 1, vi x1, vi x2, vi x3, vi x4, vi x5], []) M1)) := q_it_eq 400 [26, 34, 42, 51, 60] _ _
set_option maxRecDepth 20000 in
theorem e102_26 (t u : Nat) (I J : Nat → Nat → Int) (x1 : Int) (x2 : Int) (x3 : Int) (x4 : Int) (x5 : Int) : q_E (102, 26, [vr 1, vi x1, vi x2, vi x3, vi x4, vi x5], []) (qk t u I J) = (q_bv (q_E (84, 0, [vr 3, vi x2, vu], []) (qk t u I J)) fun M1 => q_E (102, 34, [vr 1, vi x1, vi x2, vi x3, vi x4, vi x5], []) M1) := q_it_eq 400 [26, 34, 42, 51, 60] _ _
set_option maxRecDepth 20000 in
theorem e102_34 (t u : Nat) (I J : Nat → Nat → Int) (x1 : Int) (x2 : Int) (x3 : Int) (x4 : Int) (x5 : Int) : q_E (102, 34, [vr 1, vi x1, vi x2, vi x3, vi x4, vi x5], []) (qk t u I J) = (q_bv (q_E (84, 0, [vr 3, vi x3, vu], []) (qk t u I J)) fun M1 => q_E (102, 42, [vr 1, vi x1, vi x2, vi x3, vi x4, vi x5], []) M1) := q_it_eq 400 [26, 34, 42, 51, 60] _ _
set_option maxRecDepth 20000 in
theorem e102_42 (t u : Nat) (I J : Nat → Nat → Int) (x1 : Int) (x2 : Int) (x3 : Int) (x4 : Int) (x5 : Int) : q_E (102, 42, [vr 1, vi x1, vi x2, vi x3, vi x4, vi x5], []) (qk t u I J) = (q_bv (q_E (84, 0, [vr 3, vi x4, vu], []) (qk t u I J)) fun M1 => q_E (102, 51, [vr 1, vi x1, vi x2, vi x3, vi x4, vi x5], []) M1) := q_it_eq 400 [26, 34, 42, 51, 60] _ _
set_option maxRecDepth 20000 in
theorem e102_51 (t u : Nat) (I J : Nat → Nat → Int) (x1 : Int) (x2 : Int) (x3 : Int) (x4 : Int) (x5 : Int) : q_E (102, 51, [vr 1, vi x1, vi x2, vi x3, vi x4, vi x5], []) (qk t u I J) = (q_bv (q_E (84, 0, [vr 3, vi x5, vu], []) (qk t u I J)) fun M1 => q_E (102, 60, [vr 1, vi x1, vi x2, vi x3, vi x4, vi x5], []) M1) := q_it_eq 400 [26, 34, 42, 51, 60] _ _
set_option maxRecDepth 20000 in
theorem e102_60 (t u : Nat) (I J : Nat → Nat → Int) (x1 : Int) (x2 : Int) (x3 : Int) (x4 : Int) (x5 : Int) : q_E (102, 60, [vr 1, vi x1, vi x2, vi x3, vi x4, vi x5], []) (qk t u I J) = some (vi (I 3 1), (qk t u I J)) := q_it_eq 400 [26, 34, 42, 51, 60] _ _
/-! 103: StewardHeaps.store(I)I -/
set_option maxRecDepth 20000 in
theorem e103_0 (t u : Nat) (I J : Nat → Nat → Int) (x1 : Int) : q_E (103, 0, [vr 1, vi x1], []) (qk t u I J) = (if x1 < 0 then (q_bi (q_E (160, 0, [vr 1, vi 2, vi 1], []) (qk t u I J)) fun z M1 => q_E (103, 25, [vr 1, vi x1], [vi z]) M1) else (if I 3 1 < x1 then (q_bi (q_E (160, 0, [vr 1, vi 2, vi 1], []) (qk t u I J)) fun z M1 => q_E (103, 25, [vr 1, vi x1], [vi z]) M1) else (q_bi (q_E (160, 0, [vr 1, vi 2, vi 0], []) (qk t u I J)) fun z M1 => q_E (103, 25, [vr 1, vi x1], [vi z]) M1))) := q_it_eq 400 [25, 39, 42, 53, 61, 78, 95, 98, 112, 119, 134] _ _
set_option maxRecDepth 20000 in
theorem e103_42 (t u : Nat) (I J : Nat → Nat → Int) : q_E (103, 42, [vr 1, vu], []) (qk t u I J) = q_E (103, 53, [vr 1, vu], []) (qk t u (uI I 1 12 (I 3 2)) J) := q_it_eq 400 [25, 39, 42, 53, 61, 78, 95, 98, 112, 119, 134] _ _
set_option maxRecDepth 20000 in
theorem e103_53 (t u : Nat) (I J : Nat → Nat → Int) : q_E (103, 53, [vr 1, vu], []) (qk t u I J) = q_E (103, 61, [vr 1, vu], []) (qk t u (uI I 3 1 0) J) := q_it_eq 400 [25, 39, 42, 53, 61, 78, 95, 98, 112, 119, 134] _ _
set_option maxRecDepth 20000 in
theorem e103_61 (t u : Nat) (I J : Nat → Nat → Int) : q_E (103, 61, [vr 1, vu], []) (qk t u I J) = (if I 1 11 = 0 then (q_bi (q_E (160, 0, [vr 1, vi 4, vi 0], []) (qk t u I J)) fun z M1 => q_E (103, 78, [vr 1, vu], [vi z]) M1) else (q_bi (q_E (160, 0, [vr 1, vi 4, vi 1], []) (qk t u I J)) fun z M1 => q_E (103, 78, [vr 1, vu], [vi z]) M1)) := q_it_eq 400 [25, 39, 42, 53, 61, 78, 95, 98, 112, 119, 134] _ _
set_option maxRecDepth 20000 in
theorem e103_98 (t u : Nat) (I J : Nat → Nat → Int) : q_E (103, 98, [vr 1, vu], []) (qk t u I J) = (if kd t = 18 then (q_bv (q_E (2, 0, [vr 24, vr (q_R t u t 0), vu], []) (qk t u I J)) fun M1 => q_E (103, 112, [vr 1, vu], []) M1) else none) := q_it_eq 400 [25, 39, 42, 53, 61, 78, 95, 98, 112, 119, 134] _ _
set_option maxRecDepth 20000 in
theorem e103_112 (t u : Nat) (I J : Nat → Nat → Int) : q_E (103, 112, [vr 1, vu], []) (qk t u I J) = (q_bv (q_E (36, 0, [vr 34], []) (qk t u I J)) fun M1 => q_E (103, 119, [vr 1, vu], []) M1) := q_it_eq 400 [25, 39, 42, 53, 61, 78, 95, 98, 112, 119, 134] _ _
set_option maxRecDepth 20000 in
theorem e103_119 (t u : Nat) (I J : Nat → Nat → Int) : q_E (103, 119, [vr 1, vu], []) (qk t u I J) = (q_bv (q_E (12, 0, [vr 227, vr t, vr 232, vu, vu, vu, vu], []) (qk t u I J)) fun M1 => q_E (103, 134, [vr 1, vu], []) M1) := q_it_eq 400 [25, 39, 42, 53, 61, 78, 95, 98, 112, 119, 134] _ _
set_option maxRecDepth 20000 in
theorem e103_134 (t u : Nat) (I J : Nat → Nat → Int) : q_E (103, 134, [vr 1, vu], []) (qk t u I J) = (if kd t = 18 then some (vi (I t 9), (qk t u I J)) else none) := q_it_eq 400 [25, 39, 42, 53, 61, 78, 95, 98, 112, 119, 134] _ _
set_option maxRecDepth 20000 in
theorem e103_25 (t u : Nat) (I J : Nat → Nat → Int) (x1 : Int) (y0 : Int) : q_E (103, 25, [vr 1, vi x1], [vi y0]) (qk t u I J) = (if y0 = 0 then (q_bi (q_E (42, 0, [vr 2, vi x1, vu, vu], []) (qk t u I J)) fun z M1 => q_E (103, 39, [vr 1, vi x1], [vi z, vr 1]) M1) else some (vi (-1), (qk t u I J))) := q_it_eq 400 [25, 39, 42, 53, 61, 78, 95, 98, 112, 119, 134] _ _
set_option maxRecDepth 20000 in
theorem e103_78 (t u : Nat) (I J : Nat → Nat → Int) (y0 : Int) : q_E (103, 78, [vr 1, vu], [vi y0]) (qk t u I J) = (if y0 = 0 then (q_br (q_E (43, 0, [vr 2, vr t, vu], []) (qk t u I J)) fun z M1 => q_E (103, 95, [vr 1, vu], [vr z, vr 1]) M1) else some (vi (-1), (qk t u I J))) := q_it_eq 400 [25, 39, 42, 53, 61, 78, 95, 98, 112, 119, 134] _ _
set_option maxRecDepth 20000 in
theorem e103_39 (t u : Nat) (I J : Nat → Nat → Int) (x1 : Int) (y0 : Int) (y1 : Nat) : q_E (103, 39, [vr 1, vi x1], [vi y0, vr y1]) (qk t u I J) = (if kd y1 = 20 then q_E (103, 42, [vr 1, vu], []) (qk t u (uI I y1 11 y0) J) else none) := q_it_eq 400 [25, 39, 42, 53, 61, 78, 95, 98, 112, 119, 134] _ _
set_option maxRecDepth 20000 in
theorem e103_95 (t u : Nat) (I J : Nat → Nat → Int) (y0 : Nat) (y1 : Nat) : q_E (103, 95, [vr 1, vu], [vr y0, vr y1]) (qk t u I J) = (if kd y1 = 20 then (if y0 ≤ 998 then q_E (103, 98, [vr 1, vu], []) (sR (qk t u I J) y1 9 y0) else none) else none) := q_it_eq 400 [25, 39, 42, 53, 61, 78, 95, 98, 112, 119, 134] _ _
/-! 104: StewardHeaps.fault()I -/
set_option maxRecDepth 20000 in
theorem e104_0 (t u : Nat) (I J : Nat → Nat → Int) : q_E (104, 0, [vr 1], []) (qk t u I J) = some (vi (I 1 11), (qk t u I J)) := q_it_eq 400 [] _ _
/-! 105: StewardHeaps.where()I -/
set_option maxRecDepth 20000 in
theorem e105_0 (t u : Nat) (I J : Nat → Nat → Int) : q_E (105, 0, [vr 1], []) (qk t u I J) = (if I 1 10 = 4 then some (vi (I 1 12), (qk t u I J)) else some (vi (-1), (qk t u I J))) := q_it_eq 400 [] _ _
/-! 106: StewardHeaps.cellar(II)I -/
set_option maxRecDepth 20000 in
theorem e106_0 (t u : Nat) (I J : Nat → Nat → Int) (x1 : Int) (x2 : Int) : q_E (106, 0, [vr 1, vi x1, vi x2, vu], []) (qk t u I J) = (q_bi (q_E (165, 0, [vr 1, vi x1], []) (qk t u I J)) fun z M1 => q_E (106, 7, [vr 1, vi x1, vi x2, vu], [vi z, vi 1, vr 1]) M1) := q_it_eq 400 [7, 27, 91, 97] _ _
set_option maxRecDepth 20000 in
theorem e106_7 (t u : Nat) (I J : Nat → Nat → Int) (x1 : Int) (x2 : Int) (y0 : Int) (y1 : Int) (y2 : Nat) : q_E (106, 7, [vr 1, vi x1, vi x2, vu], [vi y0, vi y1, vr y2]) (qk t u I J) = (if y0 = 0 then (if kd y2 = 20 then (q_bi (q_E (160, 0, [vr y2, vi y1, vi 1], []) (qk t u I J)) fun z M1 => q_E (106, 27, [vr 1, vi x1, vi x2, vu], [vi z]) M1) else none) else (if x2 < 0 then (if kd y2 = 20 then (q_bi (q_E (160, 0, [vr y2, vi y1, vi 1], []) (qk t u I J)) fun z M1 => q_E (106, 27, [vr 1, vi x1, vi x2, vu], [vi z]) M1) else none) else (if (4 : Int) < x2 then (if kd y2 = 20 then (q_bi (q_E (160, 0, [vr y2, vi y1, vi 1], []) (qk t u I J)) fun z M1 => q_E (106, 27, [vr 1, vi x1, vi x2, vu], [vi z]) M1) else none) else (if kd y2 = 20 then (q_bi (q_E (160, 0, [vr y2, vi y1, vi 0], []) (qk t u I J)) fun z M1 => q_E (106, 27, [vr 1, vi x1, vi x2, vu], [vi z]) M1) else none)))) := q_it_eq 400 [7, 27, 91, 97] _ _
set_option maxRecDepth 20000 in
theorem e106_27 (t u : Nat) (I J : Nat → Nat → Int) (x1 : Int) (x2 : Int) (y0 : Int) : q_E (106, 27, [vr 1, vi x1, vi x2, vu], [vi y0]) (qk t u I J) = (if y0 = 0 then (if (0 : Int) ≤ x1 ∧ x1 < 4 then (if x2 = 0 then (if kd t = 18 then (if kd (q_R t u t 1) = 1 then (if (0 : Int) ≤ x1 ∧ x1 < ln (q_R t u t 1) then some (vi (I (q_R t u t 1) (Int.toNat x1)), (qk t u I J)) else none) else none) else none) else (if x2 = 1 then (if kd (q_R t u 25 (Int.toNat x1)) = 12 then some (vi (I (q_R t u 25 (Int.toNat x1)) 1), (qk t u I J)) else none) else (if x2 = 2 then (if kd (q_R t u 25 (Int.toNat x1)) = 12 then (q_bi (q_E (28, 0, [vr (q_R t u 25 (Int.toNat x1))], []) (qk t u I J)) fun z M1 => q_E (106, 91, [vr 1, vi x1, vi x2, vr (q_R t u 25 (Int.toNat x1))], [vi z]) M1) else none) else (if x2 = 3 then (if kd (q_R t u 25 (Int.toNat x1)) = 12 then (q_bi (q_E (25, 0, [vr (q_R t u 25 (Int.toNat x1)), vi 0], []) (qk t u I J)) fun z M1 => q_E (106, 97, [vr 1, vi x1, vi x2, vr (q_R t u 25 (Int.toNat x1))], [vi z]) M1) else none) else (if kd (q_R t u 25 (Int.toNat x1)) = 12 then some (vi (I (q_R t u 25 (Int.toNat x1)) 2), (qk t u I J)) else none))))) else none) else some (vi (-1), (qk t u I J))) := q_it_eq 400 [7, 27, 91, 97] _ _
set_option maxRecDepth 20000 in
theorem e106_91 (t u : Nat) (I J : Nat → Nat → Int) (x1 : Int) (x2 : Int) (x3 : Nat) (y0 : Int) : q_E (106, 91, [vr 1, vi x1, vi x2, vr x3], [vi y0]) (qk t u I J) = some (vi y0, (qk t u I J)) := q_it_eq 400 [7, 27, 91, 97] _ _
set_option maxRecDepth 20000 in
theorem e106_97 (t u : Nat) (I J : Nat → Nat → Int) (x1 : Int) (x2 : Int) (x3 : Nat) (y0 : Int) : q_E (106, 97, [vr 1, vi x1, vi x2, vr x3], [vi y0]) (qk t u I J) = some (vi y0, (qk t u I J)) := q_it_eq 400 [7, 27, 91, 97] _ _
/-! 107: StewardHeaps.heap(II)I -/
set_option maxRecDepth 20000 in
theorem e107_0 (t u : Nat) (I J : Nat → Nat → Int) (x1 : Int) (x2 : Int) : q_E (107, 0, [vr 1, vi x1, vi x2], []) (qk t u I J) = (q_bi (q_E (166, 0, [vr 1, vi x1, vi x2], []) (qk t u I J)) fun z M1 => q_E (107, 8, [vr 1, vi x1, vi x2], [vi z, vi 1, vr 1]) M1) := q_it_eq 400 [8, 19, 37] _ _
set_option maxRecDepth 20000 in
theorem e107_8 (t u : Nat) (I J : Nat → Nat → Int) (x1 : Int) (x2 : Int) (y0 : Int) (y1 : Int) (y2 : Nat) : q_E (107, 8, [vr 1, vi x1, vi x2], [vi y0, vi y1, vr y2]) (qk t u I J) = (if y0 = 0 then (if kd y2 = 20 then (q_bi (q_E (160, 0, [vr y2, vi y1, vi 1], []) (qk t u I J)) fun z M1 => q_E (107, 19, [vr 1, vi x1, vi x2], [vi z]) M1) else none) else (if kd y2 = 20 then (q_bi (q_E (160, 0, [vr y2, vi y1, vi 0], []) (qk t u I J)) fun z M1 => q_E (107, 19, [vr 1, vi x1, vi x2], [vi z]) M1) else none)) := q_it_eq 400 [8, 19, 37] _ _
set_option maxRecDepth 20000 in
theorem e107_19 (t u : Nat) (I J : Nat → Nat → Int) (x1 : Int) (x2 : Int) (y0 : Int) : q_E (107, 19, [vr 1, vi x1, vi x2], [vi y0]) (qk t u I J) = (if y0 = 0 then (if (0 : Int) ≤ x1 ∧ x1 < 4 then (if kd (q_R t u 25 (Int.toNat x1)) = 12 then (q_bi (q_E (25, 0, [vr (q_R t u 25 (Int.toNat x1)), vi x2], []) (qk t u I J)) fun z M1 => q_E (107, 37, [vr 1, vi x1, vi x2], [vi z]) M1) else none) else none) else some (vi (-1), (qk t u I J))) := q_it_eq 400 [8, 19, 37] _ _
set_option maxRecDepth 20000 in
theorem e107_37 (t u : Nat) (I J : Nat → Nat → Int) (x1 : Int) (x2 : Int) (y0 : Int) : q_E (107, 37, [vr 1, vi x1, vi x2], [vi y0]) (qk t u I J) = some (vi y0, (qk t u I J)) := q_it_eq 400 [8, 19, 37] _ _
/-! 108: StewardHeaps.still(I)I -/
set_option maxRecDepth 20000 in
theorem e108_0 (t u : Nat) (I J : Nat → Nat → Int) (x1 : Int) : q_E (108, 0, [vr 1, vi x1], []) (qk t u I J) = (q_bi (q_E (162, 0, [vr 1, vi x1], []) (qk t u I J)) fun z M1 => q_E (108, 5, [vr 1, vi x1], [vi z]) M1) := q_it_eq 400 [5, 15] _ _
set_option maxRecDepth 20000 in
theorem e108_5 (t u : Nat) (I J : Nat → Nat → Int) (x1 : Int) (y0 : Int) : q_E (108, 5, [vr 1, vi x1], [vi y0]) (qk t u I J) = (if y0 = 0 then (q_bi (q_E (169, 0, [vr 1, vi x1], []) (qk t u I J)) fun z M1 => q_E (108, 15, [vr 1, vi x1], [vi z]) M1) else some (vi (-1), (qk t u I J))) := q_it_eq 400 [5, 15] _ _
set_option maxRecDepth 20000 in
theorem e108_15 (t u : Nat) (I J : Nat → Nat → Int) (x1 : Int) (y0 : Int) : q_E (108, 15, [vr 1, vi x1], [vi y0]) (qk t u I J) = (if y0 = 0 then some (vi 0, (qk t u I J)) else some (vi 1, (qk t u I J))) := q_it_eq 400 [5, 15] _ _
/-! 109: StewardHeaps.heaps(II)I -/
set_option maxRecDepth 20000 in
theorem e109_0 (t u : Nat) (I J : Nat → Nat → Int) (x1 : Int) (x2 : Int) : q_E (109, 0, [vr 1, vi x1, vi x2], []) (qk t u I J) = (q_bi (q_E (162, 0, [vr 1, vi x1], []) (qk t u I J)) fun z M1 => q_E (109, 5, [vr 1, vi x1, vi x2], [vi z]) M1) := q_it_eq 400 [5, 16, 27] _ _
set_option maxRecDepth 20000 in
theorem e109_5 (t u : Nat) (I J : Nat → Nat → Int) (x1 : Int) (x2 : Int) (y0 : Int) : q_E (109, 5, [vr 1, vi x1, vi x2], [vi y0]) (qk t u I J) = (if y0 = 0 then (q_bi (q_E (163, 0, [vr 1, vi x2, vi 999], []) (qk t u I J)) fun z M1 => q_E (109, 16, [vr 1, vi x1, vi x2], [vi z]) M1) else some (vi (-1), (qk t u I J))) := q_it_eq 400 [5, 16, 27] _ _
set_option maxRecDepth 20000 in
theorem e109_16 (t u : Nat) (I J : Nat → Nat → Int) (x1 : Int) (x2 : Int) (y0 : Int) : q_E (109, 16, [vr 1, vi x1, vi x2], [vi y0]) (qk t u I J) = (if y0 = 0 then (q_br (q_E (168, 0, [vr 1, vi x1, vi x2], []) (qk t u I J)) fun z M1 => q_E (109, 27, [vr 1, vi x1, vi x2], [vr z]) M1) else some (vi (-1), (qk t u I J))) := q_it_eq 400 [5, 16, 27] _ _
set_option maxRecDepth 20000 in
theorem e109_27 (t u : Nat) (I J : Nat → Nat → Int) (x1 : Int) (x2 : Int) (y0 : Nat) : q_E (109, 27, [vr 1, vi x1, vi x2], [vr y0]) (qk t u I J) = (if kd y0 = 12 then some (vi (I y0 1), (qk t u I J)) else none) := q_it_eq 400 [5, 16, 27] _ _
/-! 110: StewardHeaps.greatest(II)I -/
set_option maxRecDepth 20000 in
theorem e110_0 (t u : Nat) (I J : Nat → Nat → Int) (x1 : Int) (x2 : Int) : q_E (110, 0, [vr 1, vi x1, vi x2], []) (qk t u I J) = (q_bi (q_E (162, 0, [vr 1, vi x1], []) (qk t u I J)) fun z M1 => q_E (110, 5, [vr 1, vi x1, vi x2], [vi z]) M1) := q_it_eq 400 [5, 16, 27, 31] _ _
set_option maxRecDepth 20000 in
theorem e110_5 (t u : Nat) (I J : Nat → Nat → Int) (x1 : Int) (x2 : Int) (y0 : Int) : q_E (110, 5, [vr 1, vi x1, vi x2], [vi y0]) (qk t u I J) = (if y0 = 0 then (q_bi (q_E (163, 0, [vr 1, vi x2, vi 999], []) (qk t u I J)) fun z M1 => q_E (110, 16, [vr 1, vi x1, vi x2], [vi z]) M1) else some (vi (-1), (qk t u I J))) := q_it_eq 400 [5, 16, 27, 31] _ _
set_option maxRecDepth 20000 in
theorem e110_16 (t u : Nat) (I J : Nat → Nat → Int) (x1 : Int) (x2 : Int) (y0 : Int) : q_E (110, 16, [vr 1, vi x1, vi x2], [vi y0]) (qk t u I J) = (if y0 = 0 then (q_br (q_E (168, 0, [vr 1, vi x1, vi x2], []) (qk t u I J)) fun z M1 => q_E (110, 27, [vr 1, vi x1, vi x2], [vr z]) M1) else some (vi (-1), (qk t u I J))) := q_it_eq 400 [5, 16, 27, 31] _ _
set_option maxRecDepth 20000 in
theorem e110_27 (t u : Nat) (I J : Nat → Nat → Int) (x1 : Int) (x2 : Int) (y0 : Nat) : q_E (110, 27, [vr 1, vi x1, vi x2], [vr y0]) (qk t u I J) = (if kd y0 = 12 then (q_bi (q_E (25, 0, [vr y0, vi 0], []) (qk t u I J)) fun z M1 => q_E (110, 31, [vr 1, vi x1, vi x2], [vi z]) M1) else none) := q_it_eq 400 [5, 16, 27, 31] _ _
set_option maxRecDepth 20000 in
theorem e110_31 (t u : Nat) (I J : Nat → Nat → Int) (x1 : Int) (x2 : Int) (y0 : Int) : q_E (110, 31, [vr 1, vi x1, vi x2], [vi y0]) (qk t u I J) = some (vi y0, (qk t u I J)) := q_it_eq 400 [5, 16, 27, 31] _ _
/-! 111: StewardHeaps.heapIn(III)I -/
set_option maxRecDepth 20000 in
theorem e111_0 (t u : Nat) (I J : Nat → Nat → Int) (x1 : Int) (x2 : Int) (x3 : Int) : q_E (111, 0, [vr 1, vi x1, vi x2, vi x3], []) (qk t u I J) = (q_bi (q_E (162, 0, [vr 1, vi x1], []) (qk t u I J)) fun z M1 => q_E (111, 5, [vr 1, vi x1, vi x2, vi x3], [vi z]) M1) := q_it_eq 400 [5, 16, 26, 37, 41] _ _
set_option maxRecDepth 20000 in
theorem e111_5 (t u : Nat) (I J : Nat → Nat → Int) (x1 : Int) (x2 : Int) (x3 : Int) (y0 : Int) : q_E (111, 5, [vr 1, vi x1, vi x2, vi x3], [vi y0]) (qk t u I J) = (if y0 = 0 then (q_bi (q_E (163, 0, [vr 1, vi x2, vi 999], []) (qk t u I J)) fun z M1 => q_E (111, 16, [vr 1, vi x1, vi x2, vi x3], [vi z]) M1) else some (vi (-1), (qk t u I J))) := q_it_eq 400 [5, 16, 26, 37, 41] _ _
set_option maxRecDepth 20000 in
theorem e111_16 (t u : Nat) (I J : Nat → Nat → Int) (x1 : Int) (x2 : Int) (x3 : Int) (y0 : Int) : q_E (111, 16, [vr 1, vi x1, vi x2, vi x3], [vi y0]) (qk t u I J) = (if y0 = 0 then (q_bi (q_E (163, 0, [vr 1, vi x3, vi 59], []) (qk t u I J)) fun z M1 => q_E (111, 26, [vr 1, vi x1, vi x2, vi x3], [vi z]) M1) else some (vi (-1), (qk t u I J))) := q_it_eq 400 [5, 16, 26, 37, 41] _ _
set_option maxRecDepth 20000 in
theorem e111_26 (t u : Nat) (I J : Nat → Nat → Int) (x1 : Int) (x2 : Int) (x3 : Int) (y0 : Int) : q_E (111, 26, [vr 1, vi x1, vi x2, vi x3], [vi y0]) (qk t u I J) = (if y0 = 0 then (q_br (q_E (168, 0, [vr 1, vi x1, vi x2], []) (qk t u I J)) fun z M1 => q_E (111, 37, [vr 1, vi x1, vi x2, vi x3], [vr z]) M1) else some (vi (-1), (qk t u I J))) := q_it_eq 400 [5, 16, 26, 37, 41] _ _
set_option maxRecDepth 20000 in
theorem e111_37 (t u : Nat) (I J : Nat → Nat → Int) (x1 : Int) (x2 : Int) (x3 : Int) (y0 : Nat) : q_E (111, 37, [vr 1, vi x1, vi x2, vi x3], [vr y0]) (qk t u I J) = (if kd y0 = 12 then (q_bi (q_E (25, 0, [vr y0, vi x3], []) (qk t u I J)) fun z M1 => q_E (111, 41, [vr 1, vi x1, vi x2, vi x3], [vi z]) M1) else none) := q_it_eq 400 [5, 16, 26, 37, 41] _ _
set_option maxRecDepth 20000 in
theorem e111_41 (t u : Nat) (I J : Nat → Nat → Int) (x1 : Int) (x2 : Int) (x3 : Int) (y0 : Int) : q_E (111, 41, [vr 1, vi x1, vi x2, vi x3], [vi y0]) (qk t u I J) = some (vi y0, (qk t u I J)) := q_it_eq 400 [5, 16, 26, 37, 41] _ _
/-! 112: StewardHeaps.held(II)I -/
set_option maxRecDepth 20000 in
theorem e112_0 (t u : Nat) (I J : Nat → Nat → Int) (x1 : Int) (x2 : Int) : q_E (112, 0, [vr 1, vi x1, vi x2], []) (qk t u I J) = (q_bi (q_E (162, 0, [vr 1, vi x1], []) (qk t u I J)) fun z M1 => q_E (112, 5, [vr 1, vi x1, vi x2], [vi z]) M1) := q_it_eq 400 [5, 16, 27] _ _
set_option maxRecDepth 20000 in
theorem e112_5 (t u : Nat) (I J : Nat → Nat → Int) (x1 : Int) (x2 : Int) (y0 : Int) : q_E (112, 5, [vr 1, vi x1, vi x2], [vi y0]) (qk t u I J) = (if y0 = 0 then (q_bi (q_E (163, 0, [vr 1, vi x2, vi 999], []) (qk t u I J)) fun z M1 => q_E (112, 16, [vr 1, vi x1, vi x2], [vi z]) M1) else some (vi (-1), (qk t u I J))) := q_it_eq 400 [5, 16, 27] _ _
set_option maxRecDepth 20000 in
theorem e112_16 (t u : Nat) (I J : Nat → Nat → Int) (x1 : Int) (x2 : Int) (y0 : Int) : q_E (112, 16, [vr 1, vi x1, vi x2], [vi y0]) (qk t u I J) = (if y0 = 0 then (q_br (q_E (168, 0, [vr 1, vi x1, vi x2], []) (qk t u I J)) fun z M1 => q_E (112, 27, [vr 1, vi x1, vi x2], [vr z]) M1) else some (vi (-1), (qk t u I J))) := q_it_eq 400 [5, 16, 27] _ _
set_option maxRecDepth 20000 in
theorem e112_27 (t u : Nat) (I J : Nat → Nat → Int) (x1 : Int) (x2 : Int) (y0 : Nat) : q_E (112, 27, [vr 1, vi x1, vi x2], [vr y0]) (qk t u I J) = (if kd y0 = 12 then some (vi (I y0 2), (qk t u I J)) else none) := q_it_eq 400 [5, 16, 27] _ _
/-! 113: StewardHeaps.settles(I)I -/
set_option maxRecDepth 20000 in
theorem e113_0 (t u : Nat) (I J : Nat → Nat → Int) (x1 : Int) : q_E (113, 0, [vr 1, vi x1], []) (qk t u I J) = (q_bi (q_E (162, 0, [vr 1, vi x1], []) (qk t u I J)) fun z M1 => q_E (113, 5, [vr 1, vi x1], [vi z]) M1) := q_it_eq 400 [5, 17, 20] _ _
set_option maxRecDepth 20000 in
theorem e113_5 (t u : Nat) (I J : Nat → Nat → Int) (x1 : Int) (y0 : Int) : q_E (113, 5, [vr 1, vi x1], [vi y0]) (qk t u I J) = (if y0 = 0 then (q_bi (q_E (170, 0, [vr 1, vi x1], []) (qk t u I J)) fun z M1 => q_E (113, 17, [vr 1, vi x1], [vi z, vi x1, vr 1]) M1) else some (vi (-1), (qk t u I J))) := q_it_eq 400 [5, 17, 20] _ _
set_option maxRecDepth 20000 in
theorem e113_17 (t u : Nat) (I J : Nat → Nat → Int) (x1 : Int) (y0 : Int) (y1 : Int) (y2 : Nat) : q_E (113, 17, [vr 1, vi x1], [vi y0, vi y1, vr y2]) (qk t u I J) = (if kd y2 = 20 then (q_bi (q_E (171, 0, [vr y2, vi y1, vi y0, vu], []) (qk t u I J)) fun z M1 => q_E (113, 20, [vr 1, vi x1], [vi z]) M1) else none) := q_it_eq 400 [5, 17, 20] _ _
set_option maxRecDepth 20000 in
theorem e113_20 (t u : Nat) (I J : Nat → Nat → Int) (x1 : Int) (y0 : Int) : q_E (113, 20, [vr 1, vi x1], [vi y0]) (qk t u I J) = some (vi y0, (qk t u I J)) := q_it_eq 400 [5, 17, 20] _ _
/-! 114: StewardHeaps.round(I)I -/
set_option maxRecDepth 20000 in
theorem e114_0 (t u : Nat) (I J : Nat → Nat → Int) (x1 : Int) : q_E (114, 0, [vr 1, vi x1, vu], []) (qk t u I J) = (q_bi (q_E (162, 0, [vr 1, vi x1], []) (qk t u I J)) fun z M1 => q_E (114, 5, [vr 1, vi x1, vu], [vi z]) M1) := q_it_eq 400 [5, 15, 22] _ _
set_option maxRecDepth 20000 in
theorem e114_5 (t u : Nat) (I J : Nat → Nat → Int) (x1 : Int) (y0 : Int) : q_E (114, 5, [vr 1, vi x1, vu], [vi y0]) (qk t u I J) = (if y0 = 0 then (q_bi (q_E (170, 0, [vr 1, vi x1], []) (qk t u I J)) fun z M1 => q_E (114, 15, [vr 1, vi x1, vu], [vi z]) M1) else some (vi (-1), (qk t u I J))) := q_it_eq 400 [5, 15, 22] _ _
set_option maxRecDepth 20000 in
theorem e114_15 (t u : Nat) (I J : Nat → Nat → Int) (x1 : Int) (y0 : Int) : q_E (114, 15, [vr 1, vi x1, vu], [vi y0]) (qk t u I J) = (q_bi (q_E (171, 0, [vr 1, vi x1, vi y0, vu], []) (qk t u I J)) fun z M1 => q_E (114, 22, [vr 1, vi x1, vi y0], [vi z]) M1) := q_it_eq 400 [5, 15, 22] _ _
set_option maxRecDepth 20000 in
theorem e114_22 (t u : Nat) (I J : Nat → Nat → Int) (x1 : Int) (x2 : Int) (y0 : Int) : q_E (114, 22, [vr 1, vi x1, vi x2], [vi y0]) (qk t u I J) = (if y0 = (-2) then some (vi (-2), (qk t u I J)) else some (vi x2, (qk t u I J))) := q_it_eq 400 [5, 15, 22] _ _
/-! 115: StewardHeaps.fewest(I)I -/
set_option maxRecDepth 20000 in
theorem e115_0 (t u : Nat) (I J : Nat → Nat → Int) (x1 : Int) : q_E (115, 0, [vr 1, vi x1, vu, vu, vu, vu], []) (qk t u I J) = (q_bi (q_E (162, 0, [vr 1, vi x1], []) (qk t u I J)) fun z M1 => q_E (115, 5, [vr 1, vi x1, vu, vu, vu, vu], [vi z]) M1) := q_it_eq 400 [5, 19, 38, 58] _ _
set_option maxRecDepth 20000 in
theorem e115_38 (t u : Nat) (I J : Nat → Nat → Int) (x2 : Int) (x3 : Int) (x4 : Int) (x5 : Int) : q_E (115, 38, [vr 1, vu, vi x2, vi x3, vi x4, vi x5], []) (qk t u I J) = (if (400 : Int) < x5 then some (vi x3, (qk t u I J)) else (if x4 = 0 then (q_bi (q_E (98, 0, [vr 232], []) (qk t u I J)) fun z M1 => q_E (115, 58, [vr 1, vu, vi x2, vi x3, vi x4, vi x5], [vi z]) M1) else some (vi x3, (qk t u I J)))) := q_it_eq 400 [5, 19, 38, 58] _ _
set_option maxRecDepth 20000 in
theorem e115_5 (t u : Nat) (I J : Nat → Nat → Int) (x1 : Int) (y0 : Int) : q_E (115, 5, [vr 1, vi x1, vu, vu, vu, vu], [vi y0]) (qk t u I J) = (if y0 = 0 then (q_bv (q_E (167, 0, [vr 1, vr 232, vi x1], []) (qk t u I J)) fun M1 => q_E (115, 19, [vr 1, vi x1, vu, vu, vu, vu], []) M1) else some (vi (-1), (qk t u I J))) := q_it_eq 400 [5, 19, 38, 58] _ _
set_option maxRecDepth 20000 in
theorem e115_58 (t u : Nat) (I J : Nat → Nat → Int) (x2 : Int) (x3 : Int) (x4 : Int) (x5 : Int) (y0 : Int) : q_E (115, 58, [vr 1, vu, vi x2, vi x3, vi x4, vi x5], [vi y0]) (qk t u I J) = (if I 233 1 < x2 then q_E (115, 38, [vr 1, vu, vi (I 233 1), vi x5, vi y0, vi (wr (x5 + 1))], []) (qk t u I J) else q_E (115, 38, [vr 1, vu, vi x2, vi x3, vi y0, vi (wr (x5 + 1))], []) (qk t u I J)) := q_it_eq 400 [5, 19, 38, 58] _ _
set_option maxRecDepth 20000 in
theorem e115_19 (t u : Nat) (I J : Nat → Nat → Int) (x1 : Int) : q_E (115, 19, [vr 1, vi x1, vu, vu, vu, vu], []) (qk t u I J) = q_E (115, 38, [vr 1, vu, vi (I 233 1), vi 0, vi 0, vi 1], []) (qk t u I J) := q_it_eq 400 [5, 19, 38, 58] _ _
/-! 116: StewardHeaps.alike(II)I -/
set_option maxRecDepth 20000 in
theorem e116_0 (t u : Nat) (I J : Nat → Nat → Int) (x1 : Int) (x2 : Int) : q_E (116, 0, [vr 1, vi x1, vi x2, vu], []) (qk t u I J) = (q_bi (q_E (165, 0, [vr 1, vi x1], []) (qk t u I J)) fun z M1 => q_E (116, 7, [vr 1, vi x1, vi x2, vu], [vi z, vi 1, vr 1]) M1) := q_it_eq 400 [7, 15, 31, 45, 54, 56, 80, 92, 100] _ _
set_option maxRecDepth 20000 in
theorem e116_56 (t u : Nat) (I J : Nat → Nat → Int) (x3 : Int) : q_E (116, 56, [vr 1, vu, vu, vi x3], []) (qk t u I J) = (if (400 : Int) < x3 then some (vi (-2), (qk t u I J)) else (q_bi (q_E (23, 0, [vr 233, vr 238, vu], []) (qk t u I J)) fun z M1 => q_E (116, 80, [vr 1, vu, vu, vi x3], [vi z]) M1)) := q_it_eq 400 [7, 15, 31, 45, 54, 56, 80, 92, 100] _ _
set_option maxRecDepth 20000 in
theorem e116_7 (t u : Nat) (I J : Nat → Nat → Int) (x1 : Int) (x2 : Int) (y0 : Int) (y1 : Int) (y2 : Nat) : q_E (116, 7, [vr 1, vi x1, vi x2, vu], [vi y0, vi y1, vr y2]) (qk t u I J) = (if y0 = 0 then (if kd y2 = 20 then (q_bi (q_E (160, 0, [vr y2, vi y1, vi 1], []) (qk t u I J)) fun z M1 => q_E (116, 31, [vr 1, vi x1, vi x2, vu], [vi z]) M1) else none) else (q_bi (q_E (165, 0, [vr 1, vi x2], []) (qk t u I J)) fun z M1 => q_E (116, 15, [vr 1, vi x1, vi x2, vu], [vi z, vi y1, vr y2]) M1)) := q_it_eq 400 [7, 15, 31, 45, 54, 56, 80, 92, 100] _ _
set_option maxRecDepth 20000 in
theorem e116_80 (t u : Nat) (I J : Nat → Nat → Int) (x3 : Int) (y0 : Int) : q_E (116, 80, [vr 1, vu, vu, vi x3], [vi y0]) (qk t u I J) = (if y0 = 0 then (q_bi (q_E (98, 0, [vr 232], []) (qk t u I J)) fun z M1 => q_E (116, 92, [vr 1, vu, vu, vi x3], [vi z]) M1) else some (vi x3, (qk t u I J))) := q_it_eq 400 [7, 15, 31, 45, 54, 56, 80, 92, 100] _ _
set_option maxRecDepth 20000 in
theorem e116_31 (t u : Nat) (I J : Nat → Nat → Int) (x1 : Int) (x2 : Int) (y0 : Int) : q_E (116, 31, [vr 1, vi x1, vi x2, vu], [vi y0]) (qk t u I J) = (if y0 = 0 then (q_bv (q_E (167, 0, [vr 1, vr 232, vi x1], []) (qk t u I J)) fun M1 => q_E (116, 45, [vr 1, vi x1, vi x2, vu], []) M1) else some (vi (-1), (qk t u I J))) := q_it_eq 400 [7, 15, 31, 45, 54, 56, 80, 92, 100] _ _
set_option maxRecDepth 20000 in
theorem e116_15 (t u : Nat) (I J : Nat → Nat → Int) (x1 : Int) (x2 : Int) (y0 : Int) (y1 : Int) (y2 : Nat) : q_E (116, 15, [vr 1, vi x1, vi x2, vu], [vi y0, vi y1, vr y2]) (qk t u I J) = (if y0 = 0 then (if kd y2 = 20 then (q_bi (q_E (160, 0, [vr y2, vi y1, vi 1], []) (qk t u I J)) fun z M1 => q_E (116, 31, [vr 1, vi x1, vi x2, vu], [vi z]) M1) else none) else (if x1 = x2 then (if kd y2 = 20 then (q_bi (q_E (160, 0, [vr y2, vi y1, vi 1], []) (qk t u I J)) fun z M1 => q_E (116, 31, [vr 1, vi x1, vi x2, vu], [vi z]) M1) else none) else (if kd y2 = 20 then (q_bi (q_E (160, 0, [vr y2, vi y1, vi 0], []) (qk t u I J)) fun z M1 => q_E (116, 31, [vr 1, vi x1, vi x2, vu], [vi z]) M1) else none))) := q_it_eq 400 [7, 15, 31, 45, 54, 56, 80, 92, 100] _ _
set_option maxRecDepth 20000 in
theorem e116_92 (t u : Nat) (I J : Nat → Nat → Int) (x3 : Int) (y0 : Int) : q_E (116, 92, [vr 1, vu, vu, vi x3], [vi y0]) (qk t u I J) = (q_bi (q_E (98, 0, [vr 237], []) (qk t u I J)) fun z M1 => q_E (116, 100, [vr 1, vu, vu, vi x3], [vi z]) M1) := q_it_eq 400 [7, 15, 31, 45, 54, 56, 80, 92, 100] _ _
set_option maxRecDepth 20000 in
theorem e116_45 (t u : Nat) (I J : Nat → Nat → Int) (x1 : Int) (x2 : Int) : q_E (116, 45, [vr 1, vi x1, vi x2, vu], []) (qk t u I J) = (q_bv (q_E (167, 0, [vr 1, vr 237, vi x2], []) (qk t u I J)) fun M1 => q_E (116, 54, [vr 1, vi x1, vi x2, vu], []) M1) := q_it_eq 400 [7, 15, 31, 45, 54, 56, 80, 92, 100] _ _
set_option maxRecDepth 20000 in
theorem e116_100 (t u : Nat) (I J : Nat → Nat → Int) (x3 : Int) (y0 : Int) : q_E (116, 100, [vr 1, vu, vu, vi x3], [vi y0]) (qk t u I J) = q_E (116, 56, [vr 1, vu, vu, vi (wr (x3 + 1))], []) (qk t u I J) := q_it_eq 400 [7, 15, 31, 45, 54, 56, 80, 92, 100] _ _
set_option maxRecDepth 20000 in
theorem e116_54 (t u : Nat) (I J : Nat → Nat → Int) (x1 : Int) (x2 : Int) : q_E (116, 54, [vr 1, vi x1, vi x2, vu], []) (qk t u I J) = q_E (116, 56, [vr 1, vu, vu, vi 0], []) (qk t u I J) := q_it_eq 400 [7, 15, 31, 45, 54, 56, 80, 92, 100] _ _
/-! 117: StewardHeaps.column(II)I -/
set_option maxRecDepth 20000 in
theorem e117_0 (t u : Nat) (I J : Nat → Nat → Int) (x1 : Int) (x2 : Int) : q_E (117, 0, [vr 1, vi x1, vi x2], []) (qk t u I J) = (q_bi (q_E (162, 0, [vr 1, vi x1], []) (qk t u I J)) fun z M1 => q_E (117, 5, [vr 1, vi x1, vi x2], [vi z]) M1) := q_it_eq 400 [5, 15, 33] _ _
set_option maxRecDepth 20000 in
theorem e117_5 (t u : Nat) (I J : Nat → Nat → Int) (x1 : Int) (x2 : Int) (y0 : Int) : q_E (117, 5, [vr 1, vi x1, vi x2], [vi y0]) (qk t u I J) = (if y0 = 0 then (q_bi (q_E (163, 0, [vr 1, vi x2, vi 59], []) (qk t u I J)) fun z M1 => q_E (117, 15, [vr 1, vi x1, vi x2], [vi z]) M1) else some (vi (-1), (qk t u I J))) := q_it_eq 400 [5, 15, 33] _ _
set_option maxRecDepth 20000 in
theorem e117_15 (t u : Nat) (I J : Nat → Nat → Int) (x1 : Int) (x2 : Int) (y0 : Int) : q_E (117, 15, [vr 1, vi x1, vi x2], [vi y0]) (qk t u I J) = (if y0 = 0 then (if (0 : Int) ≤ x1 ∧ x1 < 4 then (if kd (q_R t u 25 (Int.toNat x1)) = 12 then (q_bi (q_E (26, 0, [vr (q_R t u 25 (Int.toNat x1)), vi x2, vu], []) (qk t u I J)) fun z M1 => q_E (117, 33, [vr 1, vi x1, vi x2], [vi z]) M1) else none) else none) else some (vi (-1), (qk t u I J))) := q_it_eq 400 [5, 15, 33] _ _
set_option maxRecDepth 20000 in
theorem e117_33 (t u : Nat) (I J : Nat → Nat → Int) (x1 : Int) (x2 : Int) (y0 : Int) : q_E (117, 33, [vr 1, vi x1, vi x2], [vi y0]) (qk t u I J) = some (vi y0, (qk t u I J)) := q_it_eq 400 [5, 15, 33] _ _
/-! 118: StewardHeaps.square(I)I -/
set_option maxRecDepth 20000 in
theorem e118_0 (t u : Nat) (I J : Nat → Nat → Int) (x1 : Int) : q_E (118, 0, [vr 1, vi x1], []) (qk t u I J) = (q_bi (q_E (162, 0, [vr 1, vi x1], []) (qk t u I J)) fun z M1 => q_E (118, 5, [vr 1, vi x1], [vi z]) M1) := q_it_eq 400 [5, 22] _ _
set_option maxRecDepth 20000 in
theorem e118_5 (t u : Nat) (I J : Nat → Nat → Int) (x1 : Int) (y0 : Int) : q_E (118, 5, [vr 1, vi x1], [vi y0]) (qk t u I J) = (if y0 = 0 then (if (0 : Int) ≤ x1 ∧ x1 < 4 then (q_bi (q_E (59, 0, [vr (q_R t u 25 (Int.toNat x1)), vu], []) (qk t u I J)) fun z M1 => q_E (118, 22, [vr 1, vi x1], [vi z]) M1) else none) else some (vi (-1), (qk t u I J))) := q_it_eq 400 [5, 22] _ _
set_option maxRecDepth 20000 in
theorem e118_22 (t u : Nat) (I J : Nat → Nat → Int) (x1 : Int) (y0 : Int) : q_E (118, 22, [vr 1, vi x1], [vi y0]) (qk t u I J) = some (vi y0, (qk t u I J)) := q_it_eq 400 [5, 22] _ _
/-! 119: StewardHeaps.corners(I)I -/
set_option maxRecDepth 20000 in
theorem e119_0 (t u : Nat) (I J : Nat → Nat → Int) (x1 : Int) : q_E (119, 0, [vr 1, vi x1], []) (qk t u I J) = (q_bi (q_E (162, 0, [vr 1, vi x1], []) (qk t u I J)) fun z M1 => q_E (119, 5, [vr 1, vi x1], [vi z]) M1) := q_it_eq 400 [5, 22] _ _
set_option maxRecDepth 20000 in
theorem e119_5 (t u : Nat) (I J : Nat → Nat → Int) (x1 : Int) (y0 : Int) : q_E (119, 5, [vr 1, vi x1], [vi y0]) (qk t u I J) = (if y0 = 0 then (if (0 : Int) ≤ x1 ∧ x1 < 4 then (q_bi (q_E (60, 0, [vr (q_R t u 25 (Int.toNat x1)), vu, vu], []) (qk t u I J)) fun z M1 => q_E (119, 22, [vr 1, vi x1], [vi z]) M1) else none) else some (vi (-1), (qk t u I J))) := q_it_eq 400 [5, 22] _ _
set_option maxRecDepth 20000 in
theorem e119_22 (t u : Nat) (I J : Nat → Nat → Int) (x1 : Int) (y0 : Int) : q_E (119, 22, [vr 1, vi x1], [vi y0]) (qk t u I J) = some (vi y0, (qk t u I J)) := q_it_eq 400 [5, 22] _ _
/-! 120: StewardHeaps.rank(I)I -/
set_option maxRecDepth 20000 in
theorem e120_0 (t u : Nat) (I J : Nat → Nat → Int) (x1 : Int) : q_E (120, 0, [vr 1, vi x1], []) (qk t u I J) = (q_bi (q_E (162, 0, [vr 1, vi x1], []) (qk t u I J)) fun z M1 => q_E (120, 5, [vr 1, vi x1], [vi z]) M1) := q_it_eq 400 [5, 25] _ _
set_option maxRecDepth 20000 in
theorem e120_5 (t u : Nat) (I J : Nat → Nat → Int) (x1 : Int) (y0 : Int) : q_E (120, 5, [vr 1, vi x1], [vi y0]) (qk t u I J) = (if y0 = 0 then (if (0 : Int) ≤ x1 ∧ x1 < 4 then (if kd (q_R t u 25 (Int.toNat x1)) = 12 then (q_bi (q_E (25, 0, [vr (q_R t u 25 (Int.toNat x1)), vi 0], []) (qk t u I J)) fun z M1 => q_E (120, 25, [vr 1, vi x1], [vi z]) M1) else none) else none) else some (vi (-1000), (qk t u I J))) := q_it_eq 400 [5, 25] _ _
set_option maxRecDepth 20000 in
theorem e120_25 (t u : Nat) (I J : Nat → Nat → Int) (x1 : Int) (y0 : Int) : q_E (120, 25, [vr 1, vi x1], [vi y0]) (qk t u I J) = (if (0 : Int) ≤ x1 ∧ x1 < 4 then (if kd (q_R t u 25 (Int.toNat x1)) = 12 then some (vi (wr (y0 - (I (q_R t u 25 (Int.toNat x1)) 1))), (qk t u I J)) else none) else none) := q_it_eq 400 [5, 25] _ _
/-! 121: StewardHeaps.hook(III)I -/
set_option maxRecDepth 20000 in
theorem e121_0 (t u : Nat) (I J : Nat → Nat → Int) (x1 : Int) (x2 : Int) (x3 : Int) : q_E (121, 0, [vr 1, vi x1, vi x2, vi x3], []) (qk t u I J) = (q_bi (q_E (166, 0, [vr 1, vi x1, vi x2], []) (qk t u I J)) fun z M1 => q_E (121, 8, [vr 1, vi x1, vi x2, vi x3], [vi z, vi 1, vr 1]) M1) := q_it_eq 400 [8, 29, 40, 59] _ _
set_option maxRecDepth 20000 in
theorem e121_8 (t u : Nat) (I J : Nat → Nat → Int) (x1 : Int) (x2 : Int) (x3 : Int) (y0 : Int) (y1 : Int) (y2 : Nat) : q_E (121, 8, [vr 1, vi x1, vi x2, vi x3], [vi y0, vi y1, vr y2]) (qk t u I J) = (if y0 = 0 then (if kd y2 = 20 then (q_bi (q_E (160, 0, [vr y2, vi y1, vi 1], []) (qk t u I J)) fun z M1 => q_E (121, 40, [vr 1, vi x1, vi x2, vi x3], [vi z]) M1) else none) else (if x3 < 0 then (if kd y2 = 20 then (q_bi (q_E (160, 0, [vr y2, vi y1, vi 1], []) (qk t u I J)) fun z M1 => q_E (121, 40, [vr 1, vi x1, vi x2, vi x3], [vi z]) M1) else none) else (if (0 : Int) ≤ x1 ∧ x1 < 4 then (if kd (q_R t u 25 (Int.toNat x1)) = 12 then (q_bi (q_E (25, 0, [vr (q_R t u 25 (Int.toNat x1)), vi x2], []) (qk t u I J)) fun z M1 => q_E (121, 29, [vr 1, vi x1, vi x2, vi x3], [vi z, vi x3, vi y1, vr y2]) M1) else none) else none))) := q_it_eq 400 [8, 29, 40, 59] _ _
set_option maxRecDepth 20000 in
theorem e121_40 (t u : Nat) (I J : Nat → Nat → Int) (x1 : Int) (x2 : Int) (x3 : Int) (y0 : Int) : q_E (121, 40, [vr 1, vi x1, vi x2, vi x3], [vi y0]) (qk t u I J) = (if y0 = 0 then (if (0 : Int) ≤ x1 ∧ x1 < 4 then (q_bi (q_E (62, 0, [vr (q_R t u 25 (Int.toNat x1)), vi x2, vi x3], []) (qk t u I J)) fun z M1 => q_E (121, 59, [vr 1, vi x1, vi x2, vi x3], [vi z]) M1) else none) else some (vi (-1), (qk t u I J))) := q_it_eq 400 [8, 29, 40, 59] _ _
set_option maxRecDepth 20000 in
theorem e121_29 (t u : Nat) (I J : Nat → Nat → Int) (x1 : Int) (x2 : Int) (x3 : Int) (y0 : Int) (y1 : Int) (y2 : Int) (y3 : Nat) : q_E (121, 29, [vr 1, vi x1, vi x2, vi x3], [vi y0, vi y1, vi y2, vr y3]) (qk t u I J) = (if y1 < y0 then (if kd y3 = 20 then (q_bi (q_E (160, 0, [vr y3, vi y2, vi 0], []) (qk t u I J)) fun z M1 => q_E (121, 40, [vr 1, vi x1, vi x2, vi x3], [vi z]) M1) else none) else (if kd y3 = 20 then (q_bi (q_E (160, 0, [vr y3, vi y2, vi 1], []) (qk t u I J)) fun z M1 => q_E (121, 40, [vr 1, vi x1, vi x2, vi x3], [vi z]) M1) else none)) := q_it_eq 400 [8, 29, 40, 59] _ _
set_option maxRecDepth 20000 in
theorem e121_59 (t u : Nat) (I J : Nat → Nat → Int) (x1 : Int) (x2 : Int) (x3 : Int) (y0 : Int) : q_E (121, 59, [vr 1, vi x1, vi x2, vi x3], [vi y0]) (qk t u I J) = some (vi y0, (qk t u I J)) := q_it_eq 400 [8, 29, 40, 59] _ _
/-! 122: StewardHeaps.orders(I)J -/
set_option maxRecDepth 20000 in
theorem e122_0 (t u : Nat) (I J : Nat → Nat → Int) (x1 : Int) : q_E (122, 0, [vr 1, vi x1], []) (qk t u I J) = (q_bi (q_E (162, 0, [vr 1, vi x1], []) (qk t u I J)) fun z M1 => q_E (122, 5, [vr 1, vi x1], [vi z]) M1) := q_it_eq 400 [5, 22, 35, 58] _ _
set_option maxRecDepth 20000 in
theorem e122_5 (t u : Nat) (I J : Nat → Nat → Int) (x1 : Int) (y0 : Int) : q_E (122, 5, [vr 1, vi x1], [vi y0]) (qk t u I J) = (if y0 = 0 then (if (0 : Int) ≤ x1 ∧ x1 < 4 then (if kd (q_R t u 25 (Int.toNat x1)) = 12 then (q_bi (q_E (27, 0, [vr (q_R t u 25 (Int.toNat x1)), vu, vu], []) (qk t u I J)) fun z M1 => q_E (122, 22, [vr 1, vi x1], [vi z, vi 3, vr 1]) M1) else none) else none) else some (vl (-1), (qk t u I J))) := q_it_eq 400 [5, 22, 35, 58] _ _
set_option maxRecDepth 20000 in
theorem e122_22 (t u : Nat) (I J : Nat → Nat → Int) (x1 : Int) (y0 : Int) (y1 : Int) (y2 : Nat) : q_E (122, 22, [vr 1, vi x1], [vi y0, vi y1, vr y2]) (qk t u I J) = (if (30 : Int) < y0 then (if kd y2 = 20 then (q_bi (q_E (160, 0, [vr y2, vi y1, vi 1], []) (qk t u I J)) fun z M1 => q_E (122, 35, [vr 1, vi x1], [vi z]) M1) else none) else (if kd y2 = 20 then (q_bi (q_E (160, 0, [vr y2, vi y1, vi 0], []) (qk t u I J)) fun z M1 => q_E (122, 35, [vr 1, vi x1], [vi z]) M1) else none)) := q_it_eq 400 [5, 22, 35, 58] _ _
set_option maxRecDepth 20000 in
theorem e122_35 (t u : Nat) (I J : Nat → Nat → Int) (x1 : Int) (y0 : Int) : q_E (122, 35, [vr 1, vi x1], [vi y0]) (qk t u I J) = (if y0 = 0 then (if (0 : Int) ≤ x1 ∧ x1 < 4 then (q_bl (q_E (63, 0, [vr 242, vr (q_R t u 25 (Int.toNat x1)), vu, vu, vu, vu, vu], []) (qk t u I J)) fun z M1 => q_E (122, 58, [vr 1, vi x1], [vl z]) M1) else none) else some (vl (-1), (qk t u I J))) := q_it_eq 400 [5, 22, 35, 58] _ _
set_option maxRecDepth 20000 in
theorem e122_58 (t u : Nat) (I J : Nat → Nat → Int) (x1 : Int) (y0 : Int) : q_E (122, 58, [vr 1, vi x1], [vl y0]) (qk t u I J) = some (vl y0, (qk t u I J)) := q_it_eq 400 [5, 22, 35, 58] _ _
/-! 123: StewardHeaps.common(II)I -/
set_option maxRecDepth 20000 in
theorem e123_0 (t u : Nat) (I J : Nat → Nat → Int) (x1 : Int) (x2 : Int) : q_E (123, 0, [vr 1, vi x1, vi x2], []) (qk t u I J) = (q_bi (q_E (165, 0, [vr 1, vi x1], []) (qk t u I J)) fun z M1 => q_E (123, 7, [vr 1, vi x1, vi x2], [vi z, vi 1, vr 1]) M1) := q_it_eq 400 [7, 15, 26, 52] _ _
set_option maxRecDepth 20000 in
theorem e123_7 (t u : Nat) (I J : Nat → Nat → Int) (x1 : Int) (x2 : Int) (y0 : Int) (y1 : Int) (y2 : Nat) : q_E (123, 7, [vr 1, vi x1, vi x2], [vi y0, vi y1, vr y2]) (qk t u I J) = (if y0 = 0 then (if kd y2 = 20 then (q_bi (q_E (160, 0, [vr y2, vi y1, vi 1], []) (qk t u I J)) fun z M1 => q_E (123, 26, [vr 1, vi x1, vi x2], [vi z]) M1) else none) else (q_bi (q_E (165, 0, [vr 1, vi x2], []) (qk t u I J)) fun z M1 => q_E (123, 15, [vr 1, vi x1, vi x2], [vi z, vi y1, vr y2]) M1)) := q_it_eq 400 [7, 15, 26, 52] _ _
set_option maxRecDepth 20000 in
theorem e123_26 (t u : Nat) (I J : Nat → Nat → Int) (x1 : Int) (x2 : Int) (y0 : Int) : q_E (123, 26, [vr 1, vi x1, vi x2], [vi y0]) (qk t u I J) = (if y0 = 0 then (if (0 : Int) ≤ x1 ∧ x1 < 4 then (if (0 : Int) ≤ x2 ∧ x2 < 4 then (q_bi (q_E (65, 0, [vr (q_R t u 25 (Int.toNat x1)), vr (q_R t u 25 (Int.toNat x2)), vu, vu], []) (qk t u I J)) fun z M1 => q_E (123, 52, [vr 1, vi x1, vi x2], [vi z]) M1) else none) else none) else some (vi (-1), (qk t u I J))) := q_it_eq 400 [7, 15, 26, 52] _ _
set_option maxRecDepth 20000 in
theorem e123_15 (t u : Nat) (I J : Nat → Nat → Int) (x1 : Int) (x2 : Int) (y0 : Int) (y1 : Int) (y2 : Nat) : q_E (123, 15, [vr 1, vi x1, vi x2], [vi y0, vi y1, vr y2]) (qk t u I J) = (if y0 = 0 then (if kd y2 = 20 then (q_bi (q_E (160, 0, [vr y2, vi y1, vi 1], []) (qk t u I J)) fun z M1 => q_E (123, 26, [vr 1, vi x1, vi x2], [vi z]) M1) else none) else (if kd y2 = 20 then (q_bi (q_E (160, 0, [vr y2, vi y1, vi 0], []) (qk t u I J)) fun z M1 => q_E (123, 26, [vr 1, vi x1, vi x2], [vi z]) M1) else none)) := q_it_eq 400 [7, 15, 26, 52] _ _
set_option maxRecDepth 20000 in
theorem e123_52 (t u : Nat) (I J : Nat → Nat → Int) (x1 : Int) (x2 : Int) (y0 : Int) : q_E (123, 52, [vr 1, vi x1, vi x2], [vi y0]) (qk t u I J) = some (vi y0, (qk t u I J)) := q_it_eq 400 [7, 15, 26, 52] _ _
/-! 124: StewardHeaps.mirrors(II)I -/
set_option maxRecDepth 20000 in
theorem e124_0 (t u : Nat) (I J : Nat → Nat → Int) (x1 : Int) (x2 : Int) : q_E (124, 0, [vr 1, vi x1, vi x2], []) (qk t u I J) = (q_bi (q_E (165, 0, [vr 1, vi x1], []) (qk t u I J)) fun z M1 => q_E (124, 7, [vr 1, vi x1, vi x2], [vi z, vi 1, vr 1]) M1) := q_it_eq 400 [7, 15, 26, 52] _ _
set_option maxRecDepth 20000 in
theorem e124_7 (t u : Nat) (I J : Nat → Nat → Int) (x1 : Int) (x2 : Int) (y0 : Int) (y1 : Int) (y2 : Nat) : q_E (124, 7, [vr 1, vi x1, vi x2], [vi y0, vi y1, vr y2]) (qk t u I J) = (if y0 = 0 then (if kd y2 = 20 then (q_bi (q_E (160, 0, [vr y2, vi y1, vi 1], []) (qk t u I J)) fun z M1 => q_E (124, 26, [vr 1, vi x1, vi x2], [vi z]) M1) else none) else (q_bi (q_E (165, 0, [vr 1, vi x2], []) (qk t u I J)) fun z M1 => q_E (124, 15, [vr 1, vi x1, vi x2], [vi z, vi y1, vr y2]) M1)) := q_it_eq 400 [7, 15, 26, 52] _ _
set_option maxRecDepth 20000 in
theorem e124_26 (t u : Nat) (I J : Nat → Nat → Int) (x1 : Int) (x2 : Int) (y0 : Int) : q_E (124, 26, [vr 1, vi x1, vi x2], [vi y0]) (qk t u I J) = (if y0 = 0 then (if (0 : Int) ≤ x1 ∧ x1 < 4 then (if (0 : Int) ≤ x2 ∧ x2 < 4 then (q_bi (q_E (66, 0, [vr (q_R t u 25 (Int.toNat x1)), vr (q_R t u 25 (Int.toNat x2)), vu], []) (qk t u I J)) fun z M1 => q_E (124, 52, [vr 1, vi x1, vi x2], [vi z]) M1) else none) else none) else some (vi (-1), (qk t u I J))) := q_it_eq 400 [7, 15, 26, 52] _ _
set_option maxRecDepth 20000 in
theorem e124_15 (t u : Nat) (I J : Nat → Nat → Int) (x1 : Int) (x2 : Int) (y0 : Int) (y1 : Int) (y2 : Nat) : q_E (124, 15, [vr 1, vi x1, vi x2], [vi y0, vi y1, vr y2]) (qk t u I J) = (if y0 = 0 then (if kd y2 = 20 then (q_bi (q_E (160, 0, [vr y2, vi y1, vi 1], []) (qk t u I J)) fun z M1 => q_E (124, 26, [vr 1, vi x1, vi x2], [vi z]) M1) else none) else (if kd y2 = 20 then (q_bi (q_E (160, 0, [vr y2, vi y1, vi 0], []) (qk t u I J)) fun z M1 => q_E (124, 26, [vr 1, vi x1, vi x2], [vi z]) M1) else none)) := q_it_eq 400 [7, 15, 26, 52] _ _
set_option maxRecDepth 20000 in
theorem e124_52 (t u : Nat) (I J : Nat → Nat → Int) (x1 : Int) (x2 : Int) (y0 : Int) : q_E (124, 52, [vr 1, vi x1, vi x2], [vi y0]) (qk t u I J) = (if y0 = 0 then some (vi 0, (qk t u I J)) else some (vi 1, (qk t u I J))) := q_it_eq 400 [7, 15, 26, 52] _ _
/-! 125: StewardHeaps.sources(I)I -/
set_option maxRecDepth 20000 in
theorem e125_0 (t u : Nat) (I J : Nat → Nat → Int) (x1 : Int) : q_E (125, 0, [vr 1, vi x1], []) (qk t u I J) = (q_bi (q_E (162, 0, [vr 1, vi x1], []) (qk t u I J)) fun z M1 => q_E (125, 5, [vr 1, vi x1], [vi z]) M1) := q_it_eq 400 [5, 22] _ _
set_option maxRecDepth 20000 in
theorem e125_5 (t u : Nat) (I J : Nat → Nat → Int) (x1 : Int) (y0 : Int) : q_E (125, 5, [vr 1, vi x1], [vi y0]) (qk t u I J) = (if y0 = 0 then (if (0 : Int) ≤ x1 ∧ x1 < 4 then (q_bi (q_E (68, 0, [vr (q_R t u 25 (Int.toNat x1)), vu, vu], []) (qk t u I J)) fun z M1 => q_E (125, 22, [vr 1, vi x1], [vi z]) M1) else none) else some (vi (-1), (qk t u I J))) := q_it_eq 400 [5, 22] _ _
set_option maxRecDepth 20000 in
theorem e125_22 (t u : Nat) (I J : Nat → Nat → Int) (x1 : Int) (y0 : Int) : q_E (125, 22, [vr 1, vi x1], [vi y0]) (qk t u I J) = some (vi y0, (qk t u I J)) := q_it_eq 400 [5, 22] _ _
/-! 126: StewardHeaps.source(III)I -/
set_option maxRecDepth 20000 in
theorem e126_0 (t u : Nat) (I J : Nat → Nat → Int) (x1 : Int) (x2 : Int) (x3 : Int) : q_E (126, 0, [vr 1, vi x1, vi x2, vi x3], []) (qk t u I J) = (q_bi (q_E (165, 0, [vr 1, vi x1], []) (qk t u I J)) fun z M1 => q_E (126, 7, [vr 1, vi x1, vi x2, vi x3], [vi z, vi 1, vr 1]) M1) := q_it_eq 400 [7, 27, 38, 48, 67] _ _
set_option maxRecDepth 20000 in
theorem e126_7 (t u : Nat) (I J : Nat → Nat → Int) (x1 : Int) (x2 : Int) (x3 : Int) (y0 : Int) (y1 : Int) (y2 : Nat) : q_E (126, 7, [vr 1, vi x1, vi x2, vi x3], [vi y0, vi y1, vr y2]) (qk t u I J) = (if y0 = 0 then (if kd y2 = 20 then (q_bi (q_E (160, 0, [vr y2, vi y1, vi 1], []) (qk t u I J)) fun z M1 => q_E (126, 38, [vr 1, vi x1, vi x2, vi x3], [vi z]) M1) else none) else (if x2 < 0 then (if kd y2 = 20 then (q_bi (q_E (160, 0, [vr y2, vi y1, vi 1], []) (qk t u I J)) fun z M1 => q_E (126, 38, [vr 1, vi x1, vi x2, vi x3], [vi z]) M1) else none) else (if (0 : Int) ≤ x1 ∧ x1 < 4 then (q_bi (q_E (68, 0, [vr (q_R t u 25 (Int.toNat x1)), vu, vu], []) (qk t u I J)) fun z M1 => q_E (126, 27, [vr 1, vi x1, vi x2, vi x3], [vi z, vi x2, vi y1, vr y2]) M1) else none))) := q_it_eq 400 [7, 27, 38, 48, 67] _ _
set_option maxRecDepth 20000 in
theorem e126_38 (t u : Nat) (I J : Nat → Nat → Int) (x1 : Int) (x2 : Int) (x3 : Int) (y0 : Int) : q_E (126, 38, [vr 1, vi x1, vi x2, vi x3], [vi y0]) (qk t u I J) = (if y0 = 0 then (q_bi (q_E (163, 0, [vr 1, vi x3, vi 59], []) (qk t u I J)) fun z M1 => q_E (126, 48, [vr 1, vi x1, vi x2, vi x3], [vi z]) M1) else some (vi (-1), (qk t u I J))) := q_it_eq 400 [7, 27, 38, 48, 67] _ _
set_option maxRecDepth 20000 in
theorem e126_27 (t u : Nat) (I J : Nat → Nat → Int) (x1 : Int) (x2 : Int) (x3 : Int) (y0 : Int) (y1 : Int) (y2 : Int) (y3 : Nat) : q_E (126, 27, [vr 1, vi x1, vi x2, vi x3], [vi y0, vi y1, vi y2, vr y3]) (qk t u I J) = (if y1 < y0 then (if kd y3 = 20 then (q_bi (q_E (160, 0, [vr y3, vi y2, vi 0], []) (qk t u I J)) fun z M1 => q_E (126, 38, [vr 1, vi x1, vi x2, vi x3], [vi z]) M1) else none) else (if kd y3 = 20 then (q_bi (q_E (160, 0, [vr y3, vi y2, vi 1], []) (qk t u I J)) fun z M1 => q_E (126, 38, [vr 1, vi x1, vi x2, vi x3], [vi z]) M1) else none)) := q_it_eq 400 [7, 27, 38, 48, 67] _ _
set_option maxRecDepth 20000 in
theorem e126_48 (t u : Nat) (I J : Nat → Nat → Int) (x1 : Int) (x2 : Int) (x3 : Int) (y0 : Int) : q_E (126, 48, [vr 1, vi x1, vi x2, vi x3], [vi y0]) (qk t u I J) = (if y0 = 0 then (if (0 : Int) ≤ x1 ∧ x1 < 4 then (q_bi (q_E (69, 0, [vr (q_R t u 25 (Int.toNat x1)), vi x2, vi x3, vu, vu], []) (qk t u I J)) fun z M1 => q_E (126, 67, [vr 1, vi x1, vi x2, vi x3], [vi z]) M1) else none) else some (vi (-1), (qk t u I J))) := q_it_eq 400 [7, 27, 38, 48, 67] _ _
set_option maxRecDepth 20000 in
theorem e126_67 (t u : Nat) (I J : Nat → Nat → Int) (x1 : Int) (x2 : Int) (x3 : Int) (y0 : Int) : q_E (126, 67, [vr 1, vi x1, vi x2, vi x3], [vi y0]) (qk t u I J) = some (vi y0, (qk t u I J)) := q_it_eq 400 [7, 27, 38, 48, 67] _ _
/-! 127: StewardHeaps.ways(I)I -/
set_option maxRecDepth 20000 in
theorem e127_0 (t u : Nat) (I J : Nat → Nat → Int) (x1 : Int) : q_E (127, 0, [vr 1, vi x1], []) (qk t u I J) = (q_bi (q_E (161, 0, [vr 1], []) (qk t u I J)) fun z M1 => q_E (127, 4, [vr 1, vi x1], [vi z]) M1) := q_it_eq 400 [4, 14, 28] _ _
set_option maxRecDepth 20000 in
theorem e127_4 (t u : Nat) (I J : Nat → Nat → Int) (x1 : Int) (y0 : Int) : q_E (127, 4, [vr 1, vi x1], [vi y0]) (qk t u I J) = (if y0 = 0 then (q_bi (q_E (163, 0, [vr 1, vi x1, vi 60], []) (qk t u I J)) fun z M1 => q_E (127, 14, [vr 1, vi x1], [vi z]) M1) else some (vi (-1), (qk t u I J))) := q_it_eq 400 [4, 14, 28] _ _
set_option maxRecDepth 20000 in
theorem e127_14 (t u : Nat) (I J : Nat → Nat → Int) (x1 : Int) (y0 : Int) : q_E (127, 14, [vr 1, vi x1], [vi y0]) (qk t u I J) = (if y0 = 0 then (q_bi (q_E (72, 0, [vr 244, vi x1, vi x1, vu, vu], []) (qk t u I J)) fun z M1 => q_E (127, 28, [vr 1, vi x1], [vi z]) M1) else some (vi (-1), (qk t u I J))) := q_it_eq 400 [4, 14, 28] _ _
set_option maxRecDepth 20000 in
theorem e127_28 (t u : Nat) (I J : Nat → Nat → Int) (x1 : Int) (y0 : Int) : q_E (127, 28, [vr 1, vi x1], [vi y0]) (qk t u I J) = some (vi y0, (qk t u I J)) := q_it_eq 400 [4, 14, 28] _ _
/-! 128: StewardHeaps.waysBy(II)I -/
set_option maxRecDepth 20000 in
theorem e128_0 (t u : Nat) (I J : Nat → Nat → Int) (x1 : Int) (x2 : Int) : q_E (128, 0, [vr 1, vi x1, vi x2], []) (qk t u I J) = (q_bi (q_E (161, 0, [vr 1], []) (qk t u I J)) fun z M1 => q_E (128, 4, [vr 1, vi x1, vi x2], [vi z]) M1) := q_it_eq 400 [4, 14, 24, 49] _ _
set_option maxRecDepth 20000 in
theorem e128_4 (t u : Nat) (I J : Nat → Nat → Int) (x1 : Int) (x2 : Int) (y0 : Int) : q_E (128, 4, [vr 1, vi x1, vi x2], [vi y0]) (qk t u I J) = (if y0 = 0 then (q_bi (q_E (163, 0, [vr 1, vi x1, vi 60], []) (qk t u I J)) fun z M1 => q_E (128, 14, [vr 1, vi x1, vi x2], [vi z]) M1) else some (vi (-1), (qk t u I J))) := q_it_eq 400 [4, 14, 24, 49] _ _
set_option maxRecDepth 20000 in
theorem e128_14 (t u : Nat) (I J : Nat → Nat → Int) (x1 : Int) (x2 : Int) (y0 : Int) : q_E (128, 14, [vr 1, vi x1, vi x2], [vi y0]) (qk t u I J) = (if y0 = 0 then (q_bi (q_E (163, 0, [vr 1, vi x2, vi 60], []) (qk t u I J)) fun z M1 => q_E (128, 24, [vr 1, vi x1, vi x2], [vi z]) M1) else some (vi (-1), (qk t u I J))) := q_it_eq 400 [4, 14, 24, 49] _ _
set_option maxRecDepth 20000 in
theorem e128_24 (t u : Nat) (I J : Nat → Nat → Int) (x1 : Int) (x2 : Int) (y0 : Int) : q_E (128, 24, [vr 1, vi x1, vi x2], [vi y0]) (qk t u I J) = (if y0 = 0 then (if x1 < x2 then q_E (128, 49, [vr 1, vi x1, vi x2], [vi 0]) (qk t u I J) else (q_bi (q_E (72, 0, [vr 244, vi (wr (x1 - x2)), vi x2, vu, vu], []) (qk t u I J)) fun z M1 => q_E (128, 49, [vr 1, vi x1, vi x2], [vi z]) M1)) else some (vi (-1), (qk t u I J))) := q_it_eq 400 [4, 14, 24, 49] _ _
set_option maxRecDepth 20000 in
theorem e128_49 (t u : Nat) (I J : Nat → Nat → Int) (x1 : Int) (x2 : Int) (y0 : Int) : q_E (128, 49, [vr 1, vi x1, vi x2], [vi y0]) (qk t u I J) = some (vi y0, (qk t u I J)) := q_it_eq 400 [4, 14, 24, 49] _ _
/-! 129: StewardHeaps.waysUnlike(I)I -/
set_option maxRecDepth 20000 in
theorem e129_0 (t u : Nat) (I J : Nat → Nat → Int) (x1 : Int) : q_E (129, 0, [vr 1, vi x1], []) (qk t u I J) = (q_bi (q_E (161, 0, [vr 1], []) (qk t u I J)) fun z M1 => q_E (129, 4, [vr 1, vi x1], [vi z]) M1) := q_it_eq 400 [4, 14, 27] _ _
set_option maxRecDepth 20000 in
theorem e129_4 (t u : Nat) (I J : Nat → Nat → Int) (x1 : Int) (y0 : Int) : q_E (129, 4, [vr 1, vi x1], [vi y0]) (qk t u I J) = (if y0 = 0 then (q_bi (q_E (163, 0, [vr 1, vi x1, vi 60], []) (qk t u I J)) fun z M1 => q_E (129, 14, [vr 1, vi x1], [vi z]) M1) else some (vi (-1), (qk t u I J))) := q_it_eq 400 [4, 14, 27] _ _
set_option maxRecDepth 20000 in
theorem e129_14 (t u : Nat) (I J : Nat → Nat → Int) (x1 : Int) (y0 : Int) : q_E (129, 14, [vr 1, vi x1], [vi y0]) (qk t u I J) = (if y0 = 0 then (q_bi (q_E (73, 0, [vr 244, vi x1, vu, vu], []) (qk t u I J)) fun z M1 => q_E (129, 27, [vr 1, vi x1], [vi z]) M1) else some (vi (-1), (qk t u I J))) := q_it_eq 400 [4, 14, 27] _ _
set_option maxRecDepth 20000 in
theorem e129_27 (t u : Nat) (I J : Nat → Nat → Int) (x1 : Int) (y0 : Int) : q_E (129, 27, [vr 1, vi x1], [vi y0]) (qk t u I J) = some (vi y0, (qk t u I J)) := q_it_eq 400 [4, 14, 27] _ _
/-! 130: StewardHeaps.eats(I)I -/
set_option maxRecDepth 20000 in
theorem e130_0 (t u : Nat) (I J : Nat → Nat → Int) (x1 : Int) : q_E (130, 0, [vr 1, vi x1], []) (qk t u I J) = (q_bi (q_E (162, 0, [vr 1, vi x1], []) (qk t u I J)) fun z M1 => q_E (130, 5, [vr 1, vi x1], [vi z]) M1) := q_it_eq 400 [5, 22] _ _
set_option maxRecDepth 20000 in
theorem e130_5 (t u : Nat) (I J : Nat → Nat → Int) (x1 : Int) (y0 : Int) : q_E (130, 5, [vr 1, vi x1], [vi y0]) (qk t u I J) = (if y0 = 0 then (if (0 : Int) ≤ x1 ∧ x1 < 4 then (q_bi (q_E (76, 0, [vr (q_R t u 25 (Int.toNat x1)), vu, vu], []) (qk t u I J)) fun z M1 => q_E (130, 22, [vr 1, vi x1], [vi z]) M1) else none) else some (vi (-1), (qk t u I J))) := q_it_eq 400 [5, 22] _ _
set_option maxRecDepth 20000 in
theorem e130_22 (t u : Nat) (I J : Nat → Nat → Int) (x1 : Int) (y0 : Int) : q_E (130, 22, [vr 1, vi x1], [vi y0]) (qk t u I J) = (if y0 = 0 then some (vi 0, (qk t u I J)) else some (vi 1, (qk t u I J))) := q_it_eq 400 [5, 22] _ _
/-! 131: StewardHeaps.eatsOf(I)I -/
set_option maxRecDepth 20000 in
theorem e131_0 (t u : Nat) (I J : Nat → Nat → Int) (x1 : Int) : q_E (131, 0, [vr 1, vi x1, vu, vu], []) (qk t u I J) = (q_bi (q_E (162, 0, [vr 1, vi x1], []) (qk t u I J)) fun z M1 => q_E (131, 5, [vr 1, vi x1, vu, vu], [vi z]) M1) := q_it_eq 400 [5, 22, 35] _ _
set_option maxRecDepth 20000 in
theorem e131_22 (t u : Nat) (I J : Nat → Nat → Int) (x2 : Nat) (x3 : Int) : q_E (131, 22, [vu, vu, vr x2, vi x3], []) (qk t u I J) = (if kd x2 = 12 then (if x3 < I x2 1 then (q_bi (q_E (77, 0, [vr x2, vi x3, vu, vu, vu], []) (qk t u I J)) fun z M1 => q_E (131, 35, [vu, vu, vr x2, vi x3], [vi z]) M1) else some (vi (-2), (qk t u I J))) else none) := q_it_eq 400 [5, 22, 35] _ _
set_option maxRecDepth 20000 in
theorem e131_5 (t u : Nat) (I J : Nat → Nat → Int) (x1 : Int) (y0 : Int) : q_E (131, 5, [vr 1, vi x1, vu, vu], [vi y0]) (qk t u I J) = (if y0 = 0 then (if (0 : Int) ≤ x1 ∧ x1 < 4 then q_E (131, 22, [vu, vu, vr (q_R t u 25 (Int.toNat x1)), vi 0], []) (qk t u I J) else none) else some (vi (-1), (qk t u I J))) := q_it_eq 400 [5, 22, 35] _ _
set_option maxRecDepth 20000 in
theorem e131_35 (t u : Nat) (I J : Nat → Nat → Int) (x2 : Nat) (x3 : Int) (y0 : Int) : q_E (131, 35, [vu, vu, vr x2, vi x3], [vi y0]) (qk t u I J) = (if y0 = (-2) then q_E (131, 22, [vu, vu, vr x2, vi (wr (x3 + 1))], []) (qk t u I J) else some (vi x3, (qk t u I J))) := q_it_eq 400 [5, 22, 35] _ _
/-! 132: StewardHeaps.eatsMany(I)I -/
set_option maxRecDepth 20000 in
theorem e132_0 (t u : Nat) (I J : Nat → Nat → Int) (x1 : Int) : q_E (132, 0, [vr 1, vi x1, vu, vu, vu], []) (qk t u I J) = (q_bi (q_E (162, 0, [vr 1, vi x1], []) (qk t u I J)) fun z M1 => q_E (132, 5, [vr 1, vi x1, vu, vu, vu], [vi z]) M1) := q_it_eq 400 [5, 22, 35] _ _
set_option maxRecDepth 20000 in
theorem e132_22 (t u : Nat) (I J : Nat → Nat → Int) (x2 : Nat) (x3 : Int) : q_E (132, 22, [vu, vu, vr x2, vi x3, vu], []) (qk t u I J) = (if kd x2 = 12 then (if x3 < I x2 1 then (q_bi (q_E (77, 0, [vr x2, vi x3, vu, vu, vu], []) (qk t u I J)) fun z M1 => q_E (132, 35, [vu, vu, vr x2, vi x3, vu], [vi z]) M1) else some (vi (-2), (qk t u I J))) else none) := q_it_eq 400 [5, 22, 35] _ _
set_option maxRecDepth 20000 in
theorem e132_5 (t u : Nat) (I J : Nat → Nat → Int) (x1 : Int) (y0 : Int) : q_E (132, 5, [vr 1, vi x1, vu, vu, vu], [vi y0]) (qk t u I J) = (if y0 = 0 then (if (0 : Int) ≤ x1 ∧ x1 < 4 then q_E (132, 22, [vu, vu, vr (q_R t u 25 (Int.toNat x1)), vi 0, vu], []) (qk t u I J) else none) else some (vi (-1), (qk t u I J))) := q_it_eq 400 [5, 22, 35] _ _
set_option maxRecDepth 20000 in
theorem e132_35 (t u : Nat) (I J : Nat → Nat → Int) (x2 : Nat) (x3 : Int) (y0 : Int) : q_E (132, 35, [vu, vu, vr x2, vi x3, vu], [vi y0]) (qk t u I J) = (if y0 = (-2) then q_E (132, 22, [vu, vu, vr x2, vi (wr (x3 + 1)), vu], []) (qk t u I J) else some (vi y0, (qk t u I J))) := q_it_eq 400 [5, 22, 35] _ _
/-! 133: StewardHeaps.carry(I)I -/
set_option maxRecDepth 20000 in
theorem e133_0 (t u : Nat) (I J : Nat → Nat → Int) (x1 : Int) : q_E (133, 0, [vr 1, vi x1], []) (qk t u I J) = (q_bi (q_E (162, 0, [vr 1, vi x1], []) (qk t u I J)) fun z M1 => q_E (133, 5, [vr 1, vi x1], [vi z]) M1) := q_it_eq 400 [5, 26] _ _
set_option maxRecDepth 20000 in
theorem e133_5 (t u : Nat) (I J : Nat → Nat → Int) (x1 : Int) (y0 : Int) : q_E (133, 5, [vr 1, vi x1], [vi y0]) (qk t u I J) = (if y0 = 0 then (if (0 : Int) ≤ x1 ∧ x1 < 4 then (q_bi (q_E (78, 0, [vr 244, vr (q_R t u 25 (Int.toNat x1)), vu, vu, vu, vu], []) (qk t u I J)) fun z M1 => q_E (133, 26, [vr 1, vi x1], [vi z]) M1) else none) else some (vi (-1), (qk t u I J))) := q_it_eq 400 [5, 26] _ _
set_option maxRecDepth 20000 in
theorem e133_26 (t u : Nat) (I J : Nat → Nat → Int) (x1 : Int) (y0 : Int) : q_E (133, 26, [vr 1, vi x1], [vi y0]) (qk t u I J) = some (vi y0, (qk t u I J)) := q_it_eq 400 [5, 26] _ _
/-! 134: StewardHeaps.level(I)I -/
set_option maxRecDepth 20000 in
theorem e134_0 (t u : Nat) (I J : Nat → Nat → Int) (x1 : Int) : q_E (134, 0, [vr 1, vi x1], []) (qk t u I J) = (q_bi (q_E (162, 0, [vr 1, vi x1], []) (qk t u I J)) fun z M1 => q_E (134, 5, [vr 1, vi x1], [vi z]) M1) := q_it_eq 400 [5, 22] _ _
set_option maxRecDepth 20000 in
theorem e134_5 (t u : Nat) (I J : Nat → Nat → Int) (x1 : Int) (y0 : Int) : q_E (134, 5, [vr 1, vi x1], [vi y0]) (qk t u I J) = (if y0 = 0 then (if (0 : Int) ≤ x1 ∧ x1 < 4 then (q_bi (q_E (79, 0, [vr (q_R t u 25 (Int.toNat x1)), vu, vu, vu, vu, vu, vu], []) (qk t u I J)) fun z M1 => q_E (134, 22, [vr 1, vi x1], [vi z]) M1) else none) else some (vi (-1), (qk t u I J))) := q_it_eq 400 [5, 22] _ _
set_option maxRecDepth 20000 in
theorem e134_22 (t u : Nat) (I J : Nat → Nat → Int) (x1 : Int) (y0 : Int) : q_E (134, 22, [vr 1, vi x1], [vi y0]) (qk t u I J) = some (vi y0, (qk t u I J)) := q_it_eq 400 [5, 22] _ _
/-! 135: StewardHeaps.makes(II)I -/
set_option maxRecDepth 20000 in
theorem e135_0 (t u : Nat) (I J : Nat → Nat → Int) (x1 : Int) (x2 : Int) : q_E (135, 0, [vr 1, vi x1, vi x2], []) (qk t u I J) = (q_bi (q_E (162, 0, [vr 1, vi x1], []) (qk t u I J)) fun z M1 => q_E (135, 5, [vr 1, vi x1, vi x2], [vi z]) M1) := q_it_eq 400 [5, 15, 37] _ _
set_option maxRecDepth 20000 in
theorem e135_5 (t u : Nat) (I J : Nat → Nat → Int) (x1 : Int) (x2 : Int) (y0 : Int) : q_E (135, 5, [vr 1, vi x1, vi x2], [vi y0]) (qk t u I J) = (if y0 = 0 then (q_bi (q_E (163, 0, [vr 1, vi x2, vi 60], []) (qk t u I J)) fun z M1 => q_E (135, 15, [vr 1, vi x1, vi x2], [vi z]) M1) else some (vi (-1), (qk t u I J))) := q_it_eq 400 [5, 15, 37] _ _
set_option maxRecDepth 20000 in
theorem e135_15 (t u : Nat) (I J : Nat → Nat → Int) (x1 : Int) (x2 : Int) (y0 : Int) : q_E (135, 15, [vr 1, vi x1, vi x2], [vi y0]) (qk t u I J) = (if y0 = 0 then (if (0 : Int) ≤ x1 ∧ x1 < 4 then (q_bi (q_E (80, 0, [vr 244, vr (q_R t u 25 (Int.toNat x1)), vi x2], []) (qk t u I J)) fun z M1 => q_E (135, 37, [vr 1, vi x1, vi x2], [vi z]) M1) else none) else some (vi (-1), (qk t u I J))) := q_it_eq 400 [5, 15, 37] _ _
set_option maxRecDepth 20000 in
theorem e135_37 (t u : Nat) (I J : Nat → Nat → Int) (x1 : Int) (x2 : Int) (y0 : Int) : q_E (135, 37, [vr 1, vi x1, vi x2], [vi y0]) (qk t u I J) = some (vi y0, (qk t u I J)) := q_it_eq 400 [5, 15, 37] _ _
/-! 136: StewardHeaps.half(I)I -/
set_option maxRecDepth 20000 in
theorem e136_0 (t u : Nat) (I J : Nat → Nat → Int) (x1 : Int) : q_E (136, 0, [vr 1, vi x1], []) (qk t u I J) = (q_bi (q_E (162, 0, [vr 1, vi x1], []) (qk t u I J)) fun z M1 => q_E (136, 5, [vr 1, vi x1], [vi z]) M1) := q_it_eq 400 [5, 26] _ _
set_option maxRecDepth 20000 in
theorem e136_5 (t u : Nat) (I J : Nat → Nat → Int) (x1 : Int) (y0 : Int) : q_E (136, 5, [vr 1, vi x1], [vi y0]) (qk t u I J) = (if y0 = 0 then (if (0 : Int) ≤ x1 ∧ x1 < 4 then (q_bi (q_E (81, 0, [vr 244, vr (q_R t u 25 (Int.toNat x1)), vu], []) (qk t u I J)) fun z M1 => q_E (136, 26, [vr 1, vi x1], [vi z]) M1) else none) else some (vi (-1), (qk t u I J))) := q_it_eq 400 [5, 26] _ _
set_option maxRecDepth 20000 in
theorem e136_26 (t u : Nat) (I J : Nat → Nat → Int) (x1 : Int) (y0 : Int) : q_E (136, 26, [vr 1, vi x1], [vi y0]) (qk t u I J) = some (vi y0, (qk t u I J)) := q_it_eq 400 [5, 26] _ _
/-! 137: StewardHeaps.fits()I -/
set_option maxRecDepth 20000 in
theorem e137_0 (t u : Nat) (I J : Nat → Nat → Int) : q_E (137, 0, [vr 1], []) (qk t u I J) = (q_bi (q_E (161, 0, [vr 1], []) (qk t u I J)) fun z M1 => q_E (137, 4, [vr 1], [vi z]) M1) := q_it_eq 400 [4] _ _
set_option maxRecDepth 20000 in
theorem e137_4 (t u : Nat) (I J : Nat → Nat → Int) (y0 : Int) : q_E (137, 4, [vr 1], [vi y0]) (qk t u I J) = (if y0 = 0 then some (vi (I 227 1), (qk t u I J)) else some (vi (-1), (qk t u I J))) := q_it_eq 400 [4] _ _
/-! 138: StewardHeaps.fitAt(I)I -/
set_option maxRecDepth 20000 in
theorem e138_0 (t u : Nat) (I J : Nat → Nat → Int) (x1 : Int) : q_E (138, 0, [vr 1, vi x1], []) (qk t u I J) = (q_bi (q_E (164, 0, [vr 1], []) (qk t u I J)) fun z M1 => q_E (138, 6, [vr 1, vi x1], [vi z, vi 1, vr 1]) M1) := q_it_eq 400 [6, 32] _ _
set_option maxRecDepth 20000 in
theorem e138_6 (t u : Nat) (I J : Nat → Nat → Int) (x1 : Int) (y0 : Int) (y1 : Int) (y2 : Nat) : q_E (138, 6, [vr 1, vi x1], [vi y0, vi y1, vr y2]) (qk t u I J) = (if y0 = 0 then (if kd y2 = 20 then (q_bi (q_E (160, 0, [vr y2, vi y1, vi 1], []) (qk t u I J)) fun z M1 => q_E (138, 32, [vr 1, vi x1], [vi z]) M1) else none) else (if x1 < 0 then (if kd y2 = 20 then (q_bi (q_E (160, 0, [vr y2, vi y1, vi 1], []) (qk t u I J)) fun z M1 => q_E (138, 32, [vr 1, vi x1], [vi z]) M1) else none) else (if x1 < I 227 1 then (if kd y2 = 20 then (q_bi (q_E (160, 0, [vr y2, vi y1, vi 0], []) (qk t u I J)) fun z M1 => q_E (138, 32, [vr 1, vi x1], [vi z]) M1) else none) else (if kd y2 = 20 then (q_bi (q_E (160, 0, [vr y2, vi y1, vi 1], []) (qk t u I J)) fun z M1 => q_E (138, 32, [vr 1, vi x1], [vi z]) M1) else none)))) := q_it_eq 400 [6, 32] _ _
set_option maxRecDepth 20000 in
theorem e138_32 (t u : Nat) (I J : Nat → Nat → Int) (x1 : Int) (y0 : Int) : q_E (138, 32, [vr 1, vi x1], [vi y0]) (qk t u I J) = (if y0 = 0 then (if (0 : Int) ≤ x1 ∧ x1 < 16 then some (vi (I 228 (Int.toNat x1)), (qk t u I J)) else none) else some (vi (-1), (qk t u I J))) := q_it_eq 400 [6, 32] _ _
/-! 139: StewardHeaps.could()I -/
set_option maxRecDepth 20000 in
theorem e139_0 (t u : Nat) (I J : Nat → Nat → Int) : q_E (139, 0, [vr 1], []) (qk t u I J) = (q_bi (q_E (161, 0, [vr 1], []) (qk t u I J)) fun z M1 => q_E (139, 4, [vr 1], [vi z]) M1) := q_it_eq 400 [4, 16] _ _
set_option maxRecDepth 20000 in
theorem e139_4 (t u : Nat) (I J : Nat → Nat → Int) (y0 : Int) : q_E (139, 4, [vr 1], [vi y0]) (qk t u I J) = (if y0 = 0 then (q_bi (q_E (16, 0, [vr 227, vu, vu], []) (qk t u I J)) fun z M1 => q_E (139, 16, [vr 1], [vi z]) M1) else some (vi (-1), (qk t u I J))) := q_it_eq 400 [4, 16] _ _
set_option maxRecDepth 20000 in
theorem e139_16 (t u : Nat) (I J : Nat → Nat → Int) (y0 : Int) : q_E (139, 16, [vr 1], [vi y0]) (qk t u I J) = some (vi y0, (qk t u I J)) := q_it_eq 400 [4, 16] _ _
/-! 140: StewardHeaps.surely()I -/
set_option maxRecDepth 20000 in
theorem e140_0 (t u : Nat) (I J : Nat → Nat → Int) : q_E (140, 0, [vr 1], []) (qk t u I J) = (q_bi (q_E (161, 0, [vr 1], []) (qk t u I J)) fun z M1 => q_E (140, 4, [vr 1], [vi z]) M1) := q_it_eq 400 [4, 16] _ _
set_option maxRecDepth 20000 in
theorem e140_4 (t u : Nat) (I J : Nat → Nat → Int) (y0 : Int) : q_E (140, 4, [vr 1], [vi y0]) (qk t u I J) = (if y0 = 0 then (q_bi (q_E (17, 0, [vr 227, vu, vu], []) (qk t u I J)) fun z M1 => q_E (140, 16, [vr 1], [vi z]) M1) else some (vi (-1), (qk t u I J))) := q_it_eq 400 [4, 16] _ _
set_option maxRecDepth 20000 in
theorem e140_16 (t u : Nat) (I J : Nat → Nat → Int) (y0 : Int) : q_E (140, 16, [vr 1], [vi y0]) (qk t u I J) = some (vi y0, (qk t u I J)) := q_it_eq 400 [4, 16] _ _

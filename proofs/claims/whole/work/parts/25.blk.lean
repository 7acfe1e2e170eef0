/-! 176: StewardHeapsModel.thrown()I -/
set_option maxRecDepth 20000 in
theorem e176_0 (t u : Nat) (I J : Nat → Nat → Int) : q_E (176, 0, [vr 265], []) (qk t u I J) = some (vi (I 265 0), (qk t u I J)) := q_it_eq 400 [] _ _
/-! 177: StewardHeapsModel.anew()V -/
set_option maxRecDepth 20000 in
theorem e177_0 (t u : Nat) (I J : Nat → Nat → Int) : q_E (177, 0, [vr 265], []) (qk t u I J) = some (vu, (qk t u (uI (uI I 265 0 0) 265 11 0) J)) := q_it_eq 400 [] _ _
/-! 178: StewardHeapsModel.no(I)I -/
set_option maxRecDepth 20000 in
theorem e178_0 (t u : Nat) (I J : Nat → Nat → Int) (x1 : Int) : q_E (178, 0, [vr 265, vi x1], []) (qk t u I J) = some (vi (-1), (qk t u (uI I 265 11 x1) J)) := q_it_eq 400 [] _ _
/-! 179: StewardHeapsModel.isNot(I)Z -/
set_option maxRecDepth 20000 in
theorem e179_0 (t u : Nat) (I J : Nat → Nat → Int) (x1 : Int) : q_E (179, 0, [vr 265, vi x1], []) (qk t u I J) = some (vi 0, (qk t u (uI I 265 11 x1) J)) := q_it_eq 400 [] _ _
/-! 180: StewardHeapsModel.in(III)Z -/
set_option maxRecDepth 20000 in
theorem e180_0 (t u : Nat) (I J : Nat → Nat → Int) (x0 : Int) (x1 : Int) (x2 : Int) : q_E (180, 0, [vi x0, vi x1, vi x2], []) (qk t u I J) = (if x0 < x1 then some (vi 0, (qk t u I J)) else (if x2 < x0 then some (vi 0, (qk t u I J)) else some (vi 1, (qk t u I J)))) := q_it_eq 400 [] _ _
/-! 181: StewardHeapsModel.hasBit(II)Z -/
set_option maxRecDepth 20000 in
theorem e181_0 (t u : Nat) (I J : Nat → Nat → Int) (x0 : Int) (x1 : Int) : q_E (181, 0, [vi x0, vi x1], []) (qk t u I J) = (if q_and (q_shr x0 x1) 1 = 1 then some (vi 1, (qk t u I J)) else some (vi 0, (qk t u I J))) := q_it_eq 400 [] _ _
/-! 182: StewardHeapsModel.copy([II[III)V -/
set_option maxRecDepth 20000 in
theorem e182_0 (t u : Nat) (I J : Nat → Nat → Int) (x0 : Nat) (x1 : Int) (x2 : Nat) (x3 : Int) (x4 : Int) : q_E (182, 0, [vr x0, vi x1, vr x2, vi x3, vi x4, vu], []) (qk t u I J) = q_E (182, 3, [vr x0, vi x1, vr x2, vi x3, vi x4, vi 0], []) (qk t u I J) := q_it_eq 400 [3] _ _
set_option maxRecDepth 20000 in
theorem e182_3 (t u : Nat) (I J : Nat → Nat → Int) (x0 : Nat) (x1 : Int) (x2 : Nat) (x3 : Int) (x4 : Int) (x5 : Int) : q_E (182, 3, [vr x0, vi x1, vr x2, vi x3, vi x4, vi x5], []) (qk t u I J) = (if x5 < x4 then (if kd x0 = 1 then (if (0 : Int) ≤ wr (x1 + x5) ∧ wr (x1 + x5) < ln x0 then (if kd x2 = 1 then (if (0 : Int) ≤ wr (x3 + x5) ∧ wr (x3 + x5) < ln x2 then q_E (182, 3, [vr x0, vi x1, vr x2, vi x3, vi x4, vi (wr (x5 + 1))], []) (qk t u (uI I x2 (Int.toNat (wr (x3 + x5))) (I x0 (Int.toNat (wr (x1 + x5))))) J) else none) else none) else none) else none) else some (vu, (qk t u I J))) := q_it_eq 400 [3] _ _
/-! 183: StewardHeapsModel.lowest(JJZ)J -/
set_option maxRecDepth 20000 in
theorem e183_0 (t u : Nat) (I J : Nat → Nat → Int) (x0 : Int) (x2 : Int) (x4 : Int) : q_E (183, 0, [vl x0, vu, vl x2, vu, vi x4, vu, vu, vu, vu, vu, vu], []) (qk t u I J) = q_E (183, 6, [vl x0, vu, vl x2, vu, vi x4, vl x2, vu, vl x0, vu, vu, vu], []) (qk t u I J) := q_it_eq 400 [6] _ _
set_option maxRecDepth 20000 in
theorem e183_6 (t u : Nat) (I J : Nat → Nat → Int) (x0 : Int) (x2 : Int) (x4 : Int) (x5 : Int) (x7 : Int) : q_E (183, 6, [vl x0, vu, vl x2, vu, vi x4, vl x5, vu, vl x7, vu, vu, vu], []) (qk t u I J) = (if x7 < 0 then (if x7 = 0 then none else q_E (183, 6, [vl x0, vu, vl x2, vu, vi x4, vl x7, vu, vl (Int.tmod x5 x7), vu, vu, vu], []) (qk t u I J)) else (if x7 = 0 then (if x4 = 0 then (if x5 = 0 then none else some (vl (wl (Int.tdiv x0 x5)), (qk t u I J))) else (if x5 = 0 then none else some (vl (wl (Int.tdiv x2 x5)), (qk t u I J)))) else (if x7 = 0 then none else q_E (183, 6, [vl x0, vu, vl x2, vu, vi x4, vl x7, vu, vl (Int.tmod x5 x7), vu, vu, vu], []) (qk t u I J)))) := q_it_eq 400 [6] _ _
/-! 184: StewardHeapsModel.feed(IIIII)I -/
set_option maxRecDepth 20000 in
theorem e184_0 (t u : Nat) (I J : Nat → Nat → Int) (x1 : Int) (x2 : Int) (x3 : Int) (x4 : Int) (x5 : Int) : q_E (184, 0, [vr 265, vi x1, vi x2, vi x3, vi x4, vi x5, vu, vu], []) (qk t u I J) = (if (900 : Int) < wr (((uI I 265 0 0) 265 2) + 20) then some (vi (-1), (qk t u (uI I 265 0 0) J)) else q_E (184, 23, [vr 265, vi x1, vi x2, vi x3, vi x4, vi x5, vi 0, vu], []) (qk t u (uI I 265 0 0) J)) := q_it_eq 400 [23] _ _
set_option maxRecDepth 20000 in
theorem e184_23 (t u : Nat) (I J : Nat → Nat → Int) (x1 : Int) (x2 : Int) (x3 : Int) (x4 : Int) (x5 : Int) (x6 : Int) : q_E (184, 23, [vr 265, vi x1, vi x2, vi x3, vi x4, vi x5, vi x6, vu], []) (qk t u I J) = (if x6 < 20 then (if x6 < 4 then (if (0 : Int) ≤ I 265 2 ∧ I 265 2 < 900 then q_E (184, 23, [vr 265, vi x1, vi x2, vi x3, vi x4, vi x5, vi (wr (x6 + 1)), vu], []) (qk t u (uI (uI I 266 (Int.toNat (I 265 2)) (q_and (q_shr x1 (wr (24 - (wr (8 * (Int.tmod x6 4)))))) 255)) 265 2 (wr (((uI I 266 (Int.toNat (I 265 2)) (q_and (q_shr x1 (wr (24 - (wr (8 * (Int.tmod x6 4)))))) 255)) 265 2) + 1))) J) else none) else (if x6 < 8 then (if (0 : Int) ≤ I 265 2 ∧ I 265 2 < 900 then q_E (184, 23, [vr 265, vi x1, vi x2, vi x3, vi x4, vi x5, vi (wr (x6 + 1)), vu], []) (qk t u (uI (uI I 266 (Int.toNat (I 265 2)) (q_and (q_shr x2 (wr (24 - (wr (8 * (Int.tmod x6 4)))))) 255)) 265 2 (wr (((uI I 266 (Int.toNat (I 265 2)) (q_and (q_shr x2 (wr (24 - (wr (8 * (Int.tmod x6 4)))))) 255)) 265 2) + 1))) J) else none) else (if x6 < 12 then (if (0 : Int) ≤ I 265 2 ∧ I 265 2 < 900 then q_E (184, 23, [vr 265, vi x1, vi x2, vi x3, vi x4, vi x5, vi (wr (x6 + 1)), vu], []) (qk t u (uI (uI I 266 (Int.toNat (I 265 2)) (q_and (q_shr x3 (wr (24 - (wr (8 * (Int.tmod x6 4)))))) 255)) 265 2 (wr (((uI I 266 (Int.toNat (I 265 2)) (q_and (q_shr x3 (wr (24 - (wr (8 * (Int.tmod x6 4)))))) 255)) 265 2) + 1))) J) else none) else (if x6 < 16 then (if (0 : Int) ≤ I 265 2 ∧ I 265 2 < 900 then q_E (184, 23, [vr 265, vi x1, vi x2, vi x3, vi x4, vi x5, vi (wr (x6 + 1)), vu], []) (qk t u (uI (uI I 266 (Int.toNat (I 265 2)) (q_and (q_shr x4 (wr (24 - (wr (8 * (Int.tmod x6 4)))))) 255)) 265 2 (wr (((uI I 266 (Int.toNat (I 265 2)) (q_and (q_shr x4 (wr (24 - (wr (8 * (Int.tmod x6 4)))))) 255)) 265 2) + 1))) J) else none) else (if (0 : Int) ≤ I 265 2 ∧ I 265 2 < 900 then q_E (184, 23, [vr 265, vi x1, vi x2, vi x3, vi x4, vi x5, vi (wr (x6 + 1)), vu], []) (qk t u (uI (uI I 266 (Int.toNat (I 265 2)) (q_and (q_shr x5 (wr (24 - (wr (8 * (Int.tmod x6 4)))))) 255)) 265 2 (wr (((uI I 266 (Int.toNat (I 265 2)) (q_and (q_shr x5 (wr (24 - (wr (8 * (Int.tmod x6 4)))))) 255)) 265 2) + 1))) J) else none))))) else some (vi (I 265 2), (qk t u I J))) := q_it_eq 400 [23] _ _
/-! 185: StewardHeapsModel.see(I)I -/
set_option maxRecDepth 20000 in
theorem e185_0 (t u : Nat) (I J : Nat → Nat → Int) (x1 : Int) : q_E (185, 0, [vr 265, vi x1], []) (qk t u I J) = (if x1 < I 265 3 then (if (0 : Int) ≤ x1 ∧ x1 < 900 then some (vi (I 266 (Int.toNat x1)), (qk t u I J)) else none) else some (vi (-1), (qk t u I J))) := q_it_eq 400 [] _ _
/-! 186: StewardHeapsModel.isSmall(I)Z -/
set_option maxRecDepth 20000 in
theorem e186_0 (t u : Nat) (I J : Nat → Nat → Int) (x0 : Int) : q_E (186, 0, [vi x0], []) (qk t u I J) = (if x0 < 97 then some (vi 0, (qk t u I J)) else (if (122 : Int) < x0 then some (vi 0, (qk t u I J)) else some (vi 1, (qk t u I J)))) := q_it_eq 400 [] _ _
/-! 187: StewardHeapsModel.isDigit(I)Z -/
set_option maxRecDepth 20000 in
theorem e187_0 (t u : Nat) (I J : Nat → Nat → Int) (x0 : Int) : q_E (187, 0, [vi x0], []) (qk t u I J) = (if x0 < 48 then some (vi 0, (qk t u I J)) else (if (57 : Int) < x0 then some (vi 0, (qk t u I J)) else some (vi 1, (qk t u I J)))) := q_it_eq 400 [] _ _
/-! 188: StewardHeapsModel.next()V -/
set_option maxRecDepth 20000 in
theorem e188_0 (t u : Nat) (I J : Nat → Nat → Int) : q_E (188, 0, [vr 265, vu, vu, vu], []) (qk t u I J) = q_E (188, 5, [vr 265, vi (I 265 5), vu, vu], []) (qk t u I J) := q_it_eq 400 [5, 10, 31, 64, 67, 72, 75, 100, 147, 152, 157, 160, 181] _ _
set_option maxRecDepth 20000 in
theorem e188_5 (t u : Nat) (I J : Nat → Nat → Int) (x1 : Int) : q_E (188, 5, [vr 265, vi x1, vu, vu], []) (qk t u I J) = (q_bi (q_E (185, 0, [vr 265, vi x1], []) (qk t u I J)) fun z M1 => q_E (188, 10, [vr 265, vi x1, vu, vu], [vi z]) M1) := q_it_eq 400 [5, 10, 31, 64, 67, 72, 75, 100, 147, 152, 157, 160, 181] _ _
set_option maxRecDepth 20000 in
theorem e188_67 (t u : Nat) (I J : Nat → Nat → Int) (x1 : Int) : q_E (188, 67, [vr 265, vi x1, vu, vu], []) (qk t u I J) = (q_bi (q_E (185, 0, [vr 265, vi x1], []) (qk t u I J)) fun z M1 => q_E (188, 72, [vr 265, vi x1, vu, vu], [vi z]) M1) := q_it_eq 400 [5, 10, 31, 64, 67, 72, 75, 100, 147, 152, 157, 160, 181] _ _
set_option maxRecDepth 20000 in
theorem e188_152 (t u : Nat) (I J : Nat → Nat → Int) (x1 : Int) (x3 : Int) : q_E (188, 152, [vr 265, vi x1, vu, vi x3], []) (qk t u I J) = (q_bi (q_E (185, 0, [vr 265, vi x1], []) (qk t u I J)) fun z M1 => q_E (188, 157, [vr 265, vi x1, vu, vi x3], [vi z]) M1) := q_it_eq 400 [5, 10, 31, 64, 67, 72, 75, 100, 147, 152, 157, 160, 181] _ _
set_option maxRecDepth 20000 in
theorem e188_10 (t u : Nat) (I J : Nat → Nat → Int) (x1 : Int) (y0 : Int) : q_E (188, 10, [vr 265, vi x1, vu, vu], [vi y0]) (qk t u I J) = (if y0 = 32 then q_E (188, 5, [vr 265, vi (wr (x1 + 1)), vu, vu], []) (qk t u I J) else (q_bi (q_E (185, 0, [vr 265, vi x1], []) (qk t u (uI I 265 4 x1) J)) fun z M1 => q_E (188, 31, [vr 265, vi x1, vu, vu], [vi z]) M1)) := q_it_eq 400 [5, 10, 31, 64, 67, 72, 75, 100, 147, 152, 157, 160, 181] _ _
set_option maxRecDepth 20000 in
theorem e188_72 (t u : Nat) (I J : Nat → Nat → Int) (x1 : Int) (y0 : Int) : q_E (188, 72, [vr 265, vi x1, vu, vu], [vi y0]) (qk t u I J) = (q_bi (q_E (186, 0, [vi y0], []) (qk t u I J)) fun z M1 => q_E (188, 75, [vr 265, vi x1, vu, vu], [vi z]) M1) := q_it_eq 400 [5, 10, 31, 64, 67, 72, 75, 100, 147, 152, 157, 160, 181] _ _
set_option maxRecDepth 20000 in
theorem e188_157 (t u : Nat) (I J : Nat → Nat → Int) (x1 : Int) (x3 : Int) (y0 : Int) : q_E (188, 157, [vr 265, vi x1, vu, vi x3], [vi y0]) (qk t u I J) = (q_bi (q_E (187, 0, [vi y0], []) (qk t u I J)) fun z M1 => q_E (188, 160, [vr 265, vi x1, vu, vi x3], [vi z]) M1) := q_it_eq 400 [5, 10, 31, 64, 67, 72, 75, 100, 147, 152, 157, 160, 181] _ _
set_option maxRecDepth 20000 in
theorem e188_31 (t u : Nat) (I J : Nat → Nat → Int) (x1 : Int) (y0 : Int) : q_E (188, 31, [vr 265, vi x1, vu, vu], [vi y0]) (qk t u I J) = (if y0 = (-1) then some (vu, (qk t u (uI (uI (uI (uI I 265 8 0) 265 7 0) 265 6 0) 265 5 x1) J)) else (q_bi (q_E (186, 0, [vi y0], []) (qk t u (uI (uI I 265 8 0) 265 7 0) J)) fun z M1 => q_E (188, 64, [vr 265, vi x1, vi y0, vu], [vi z]) M1)) := q_it_eq 400 [5, 10, 31, 64, 67, 72, 75, 100, 147, 152, 157, 160, 181] _ _
set_option maxRecDepth 20000 in
theorem e188_75 (t u : Nat) (I J : Nat → Nat → Int) (x1 : Int) (y0 : Int) : q_E (188, 75, [vr 265, vi x1, vu, vu], [vi y0]) (qk t u I J) = (if y0 = 0 then (if (8 : Int) < (uI I 265 5 x1) 265 8 then some (vu, (qk t u (uI (uI I 265 5 x1) 265 6 1) J)) else some (vu, (qk t u (uI (uI I 265 5 x1) 265 6 2) J))) else (if I 265 8 < 8 then (q_bi (q_E (185, 0, [vr 265, vi x1], []) (qk t u I J)) fun z M1 => q_E (188, 100, [vr 265, vi x1, vu, vu], [vi z, vi (I 265 8), vr 267]) M1) else q_E (188, 67, [vr 265, vi (wr (x1 + 1)), vu, vu], []) (qk t u (uI I 265 8 (wr ((I 265 8) + 1))) J))) := q_it_eq 400 [5, 10, 31, 64, 67, 72, 75, 100, 147, 152, 157, 160, 181] _ _
set_option maxRecDepth 20000 in
theorem e188_160 (t u : Nat) (I J : Nat → Nat → Int) (x1 : Int) (x3 : Int) (y0 : Int) : q_E (188, 160, [vr 265, vi x1, vu, vi x3], [vi y0]) (qk t u I J) = (if y0 = 0 then (if (3 : Int) < x3 then some (vu, (qk t u (uI (uI I 265 5 x1) 265 6 1) J)) else some (vu, (qk t u (uI (uI I 265 5 x1) 265 6 3) J))) else (if x3 < 3 then (q_bi (q_E (185, 0, [vr 265, vi x1], []) (qk t u I J)) fun z M1 => q_E (188, 181, [vr 265, vi x1, vu, vi x3], [vi z, vi (wr (10 * (I 265 7))), vr 265]) M1) else q_E (188, 152, [vr 265, vi (wr (x1 + 1)), vu, vi (wr (x3 + 1))], []) (qk t u I J))) := q_it_eq 400 [5, 10, 31, 64, 67, 72, 75, 100, 147, 152, 157, 160, 181] _ _
set_option maxRecDepth 20000 in
theorem e188_64 (t u : Nat) (I J : Nat → Nat → Int) (x1 : Int) (x2 : Int) (y0 : Int) : q_E (188, 64, [vr 265, vi x1, vi x2, vu], [vi y0]) (qk t u I J) = (if y0 = 0 then (q_bi (q_E (187, 0, [vi x2], []) (qk t u I J)) fun z M1 => q_E (188, 147, [vr 265, vi x1, vi x2, vu], [vi z]) M1) else q_E (188, 67, [vr 265, vi x1, vu, vu], []) (qk t u I J)) := q_it_eq 400 [5, 10, 31, 64, 67, 72, 75, 100, 147, 152, 157, 160, 181] _ _
set_option maxRecDepth 20000 in
theorem e188_100 (t u : Nat) (I J : Nat → Nat → Int) (x1 : Int) (y0 : Int) (y1 : Int) (y2 : Nat) : q_E (188, 100, [vr 265, vi x1, vu, vu], [vi y0, vi y1, vr y2]) (qk t u I J) = (if kd y2 = 1 then (if (0 : Int) ≤ y1 ∧ y1 < ln y2 then q_E (188, 67, [vr 265, vi (wr (x1 + 1)), vu, vu], []) (qk t u (uI (uI I y2 (Int.toNat y1) y0) 265 8 (wr (((uI I y2 (Int.toNat y1) y0) 265 8) + 1))) J) else none) else none) := q_it_eq 400 [5, 10, 31, 64, 67, 72, 75, 100, 147, 152, 157, 160, 181] _ _
set_option maxRecDepth 20000 in
theorem e188_181 (t u : Nat) (I J : Nat → Nat → Int) (x1 : Int) (x3 : Int) (y0 : Int) (y1 : Int) (y2 : Nat) : q_E (188, 181, [vr 265, vi x1, vu, vi x3], [vi y0, vi y1, vr y2]) (qk t u I J) = (if kd y2 = 21 then q_E (188, 152, [vr 265, vi (wr (x1 + 1)), vu, vi (wr (x3 + 1))], []) (qk t u (uI I y2 7 (wr ((wr (y1 + y0)) - 48))) J) else none) := q_it_eq 400 [5, 10, 31, 64, 67, 72, 75, 100, 147, 152, 157, 160, 181] _ _
set_option maxRecDepth 20000 in
theorem e188_147 (t u : Nat) (I J : Nat → Nat → Int) (x1 : Int) (x2 : Int) (y0 : Int) : q_E (188, 147, [vr 265, vi x1, vi x2, vu], [vi y0]) (qk t u I J) = (if y0 = 0 then (if x2 = 59 then some (vu, (qk t u (uI (uI I 265 5 (wr (x1 + 1))) 265 6 x2) J)) else some (vu, (qk t u (uI (uI I 265 5 (wr (x1 + 1))) 265 6 1) J))) else q_E (188, 152, [vr 265, vi x1, vu, vi 0], []) (qk t u I J)) := q_it_eq 400 [5, 10, 31, 64, 67, 72, 75, 100, 147, 152, 157, 160, 181] _ _
/-! 189: StewardHeapsModel.wrong(II)V -/
set_option maxRecDepth 20000 in
theorem e189_0 (t u : Nat) (I J : Nat → Nat → Int) (x1 : Int) (x2 : Int) : q_E (189, 0, [vr 265, vi x1, vi x2], []) (qk t u I J) = (if I 265 13 = 0 then some (vu, (qk t u (uI (uI (uI I 265 13 1) 265 9 x1) 265 10 x2) J)) else some (vu, (qk t u I J))) := q_it_eq 400 [] _ _
/-! 190: StewardHeapsModel.isWord(Ljava/lang/String;)Z -/
set_option maxRecDepth 20000 in
theorem e190_0 (t u : Nat) (I J : Nat → Nat → Int) (x1 : Nat) : q_E (190, 0, [vr 265, vr x1, vu, vu], []) (qk t u I J) = (if I 265 13 = 0 then (if I 265 6 = 2 then (if kd x1 = 7 then (if I 265 8 = q_slen x1 then q_E (190, 32, [vr 265, vr x1, vi 1, vi 0], []) (qk t u I J) else some (vi 0, (qk t u I J))) else none) else some (vi 0, (qk t u I J))) else some (vi 0, (qk t u I J))) := q_it_eq 400 [32] _ _
set_option maxRecDepth 20000 in
theorem e190_32 (t u : Nat) (I J : Nat → Nat → Int) (x1 : Nat) (x2 : Int) (x3 : Int) : q_E (190, 32, [vr 265, vr x1, vi x2, vi x3], []) (qk t u I J) = (if x3 < I 265 8 then (if x2 = 0 then q_E (190, 32, [vr 265, vr x1, vi 0, vi (wr (x3 + 1))], []) (qk t u I J) else (if (0 : Int) ≤ x3 ∧ x3 < 8 then (if kd x1 = 7 then (if (0 : Int) ≤ x3 ∧ x3 < q_slen x1 then (if I 267 (Int.toNat x3) = q_sat x1 (Int.toNat x3) then q_E (190, 32, [vr 265, vr x1, vi 1, vi (wr (x3 + 1))], []) (qk t u I J) else q_E (190, 32, [vr 265, vr x1, vi 0, vi (wr (x3 + 1))], []) (qk t u I J)) else none) else none) else none)) else (if x2 = 0 ∨ x2 = 1 then some (vi x2, (qk t u I J)) else none)) := q_it_eq 400 [32] _ _
/-! 191: StewardHeapsModel.takesWord(Ljava/lang/String;)Z -/
set_option maxRecDepth 20000 in
theorem e191_0 (t u : Nat) (I J : Nat → Nat → Int) (x1 : Nat) : q_E (191, 0, [vr 265, vr x1], []) (qk t u I J) = (q_bi (q_E (190, 0, [vr 265, vr x1, vu, vu], []) (qk t u I J)) fun z M1 => q_E (191, 5, [vr 265, vr x1], [vi z]) M1) := q_it_eq 400 [5, 14] _ _
set_option maxRecDepth 20000 in
theorem e191_5 (t u : Nat) (I J : Nat → Nat → Int) (x1 : Nat) (y0 : Int) : q_E (191, 5, [vr 265, vr x1], [vi y0]) (qk t u I J) = (if y0 = 0 then some (vi 0, (qk t u I J)) else (q_bv (q_E (188, 0, [vr 265, vu, vu, vu], []) (qk t u I J)) fun M1 => q_E (191, 14, [vr 265, vr x1], []) M1)) := q_it_eq 400 [5, 14] _ _
set_option maxRecDepth 20000 in
theorem e191_14 (t u : Nat) (I J : Nat → Nat → Int) (x1 : Nat) : q_E (191, 14, [vr 265, vr x1], []) (qk t u I J) = some (vi 1, (qk t u I J)) := q_it_eq 400 [5, 14] _ _
/-! 192: StewardHeapsModel.must(Ljava/lang/String;)V -/
set_option maxRecDepth 20000 in
theorem e192_0 (t u : Nat) (I J : Nat → Nat → Int) (x1 : Nat) : q_E (192, 0, [vr 265, vr x1], []) (qk t u I J) = (if I 265 13 = 0 then (q_bi (q_E (191, 0, [vr 265, vr x1], []) (qk t u I J)) fun z M1 => q_E (192, 12, [vr 265, vr x1], [vi z]) M1) else q_E (192, 24, [vr 265, vr x1], []) (qk t u I J)) := q_it_eq 400 [12, 24] _ _
set_option maxRecDepth 20000 in
theorem e192_24 (t u : Nat) (I J : Nat → Nat → Int) : q_E (192, 24, [vu, vu], []) (qk t u I J) = some (vu, (qk t u I J)) := q_it_eq 400 [12, 24] _ _
set_option maxRecDepth 20000 in
theorem e192_12 (t u : Nat) (I J : Nat → Nat → Int) (x1 : Nat) (y0 : Int) : q_E (192, 12, [vr 265, vr x1], [vi y0]) (qk t u I J) = (if y0 = 0 then (q_bv (q_E (189, 0, [vr 265, vi 1, vi (I 265 4)], []) (qk t u I J)) fun M1 => q_E (192, 24, [vr 265, vr x1], []) M1) else q_E (192, 24, [vr 265, vr x1], []) (qk t u I J)) := q_it_eq 400 [12, 24] _ _
/-! 193: StewardHeapsModel.mustName()V -/
set_option maxRecDepth 20000 in
theorem e193_0 (t u : Nat) (I J : Nat → Nat → Int) : q_E (193, 0, [vr 265], []) (qk t u I J) = (if I 265 6 = 2 then (q_bi (q_E (190, 0, [vr 265, vr 1000, vu, vu], []) (qk t u I J)) fun z M1 => q_E (193, 14, [vr 265], [vi z]) M1) else (q_bv (q_E (189, 0, [vr 265, vi 1, vi (I 265 4)], []) (qk t u I J)) fun M1 => q_E (193, 53, [vr 265], []) M1)) := q_it_eq 400 [14, 23, 32, 41, 53] _ _
set_option maxRecDepth 20000 in
theorem e193_53 (t u : Nat) (I J : Nat → Nat → Int) : q_E (193, 53, [vu], []) (qk t u I J) = some (vu, (qk t u I J)) := q_it_eq 400 [14, 23, 32, 41, 53] _ _
set_option maxRecDepth 20000 in
theorem e193_14 (t u : Nat) (I J : Nat → Nat → Int) (y0 : Int) : q_E (193, 14, [vr 265], [vi y0]) (qk t u I J) = (if y0 = 0 then (q_bi (q_E (190, 0, [vr 265, vr 1003, vu, vu], []) (qk t u I J)) fun z M1 => q_E (193, 23, [vr 265], [vi z]) M1) else (q_bv (q_E (189, 0, [vr 265, vi 1, vi (I 265 4)], []) (qk t u I J)) fun M1 => q_E (193, 53, [vr 265], []) M1)) := q_it_eq 400 [14, 23, 32, 41, 53] _ _
set_option maxRecDepth 20000 in
theorem e193_23 (t u : Nat) (I J : Nat → Nat → Int) (y0 : Int) : q_E (193, 23, [vr 265], [vi y0]) (qk t u I J) = (if y0 = 0 then (q_bi (q_E (190, 0, [vr 265, vr 1004, vu, vu], []) (qk t u I J)) fun z M1 => q_E (193, 32, [vr 265], [vi z]) M1) else (q_bv (q_E (189, 0, [vr 265, vi 1, vi (I 265 4)], []) (qk t u I J)) fun M1 => q_E (193, 53, [vr 265], []) M1)) := q_it_eq 400 [14, 23, 32, 41, 53] _ _
set_option maxRecDepth 20000 in
theorem e193_32 (t u : Nat) (I J : Nat → Nat → Int) (y0 : Int) : q_E (193, 32, [vr 265], [vi y0]) (qk t u I J) = (if y0 = 0 then (q_bi (q_E (190, 0, [vr 265, vr 1005, vu, vu], []) (qk t u I J)) fun z M1 => q_E (193, 41, [vr 265], [vi z]) M1) else (q_bv (q_E (189, 0, [vr 265, vi 1, vi (I 265 4)], []) (qk t u I J)) fun M1 => q_E (193, 53, [vr 265], []) M1)) := q_it_eq 400 [14, 23, 32, 41, 53] _ _
set_option maxRecDepth 20000 in
theorem e193_41 (t u : Nat) (I J : Nat → Nat → Int) (y0 : Int) : q_E (193, 41, [vr 265], [vi y0]) (qk t u I J) = (if y0 = 0 then q_E (193, 53, [vr 265], []) (qk t u I J) else (q_bv (q_E (189, 0, [vr 265, vi 1, vi (I 265 4)], []) (qk t u I J)) fun M1 => q_E (193, 53, [vr 265], []) M1)) := q_it_eq 400 [14, 23, 32, 41, 53] _ _
/-! 194: StewardHeapsModel.find()I -/
set_option maxRecDepth 20000 in
theorem e194_0 (t u : Nat) (I J : Nat → Nat → Int) : q_E (194, 0, [vr 265, vu, vu, vu], []) (qk t u I J) = q_E (194, 2, [vr 265, vi 0, vu, vu], []) (qk t u I J) := q_it_eq 400 [2, 43] _ _
set_option maxRecDepth 20000 in
theorem e194_2 (t u : Nat) (I J : Nat → Nat → Int) (x1 : Int) : q_E (194, 2, [vr 265, vi x1, vu, vu], []) (qk t u I J) = (if x1 < 4 then (if (0 : Int) ≤ wr (35 + x1) ∧ wr (35 + x1) < 71 then (if (0 : Int) < I 269 (Int.toNat (wr (35 + x1))) then (if (0 : Int) ≤ wr (35 + x1) ∧ wr (35 + x1) < 71 then (if I 269 (Int.toNat (wr (35 + x1))) = I 265 8 then q_E (194, 43, [vr 265, vi x1, vi 1, vi 0], []) (qk t u I J) else q_E (194, 43, [vr 265, vi x1, vi 0, vi 0], []) (qk t u I J)) else none) else q_E (194, 43, [vr 265, vi x1, vi 0, vi 0], []) (qk t u I J)) else none) else some (vi (-1), (qk t u I J))) := q_it_eq 400 [2, 43] _ _
set_option maxRecDepth 20000 in
theorem e194_43 (t u : Nat) (I J : Nat → Nat → Int) (x1 : Int) (x2 : Int) (x3 : Int) : q_E (194, 43, [vr 265, vi x1, vi x2, vi x3], []) (qk t u I J) = (if x3 < I 265 8 then (if x2 = 0 then (if x2 = 0 then q_E (194, 2, [vr 265, vi (wr (x1 + 1)), vu, vu], []) (qk t u I J) else some (vi x1, (qk t u I J))) else (if (0 : Int) ≤ wr ((wr (39 + (wr (8 * x1)))) + x3) ∧ wr ((wr (39 + (wr (8 * x1)))) + x3) < 71 then (if (0 : Int) ≤ x3 ∧ x3 < 8 then (if I 269 (Int.toNat (wr ((wr (39 + (wr (8 * x1)))) + x3))) = I 267 (Int.toNat x3) then q_E (194, 43, [vr 265, vi x1, vi 1, vi (wr (x3 + 1))], []) (qk t u I J) else q_E (194, 43, [vr 265, vi x1, vi 0, vi (wr (x3 + 1))], []) (qk t u I J)) else none) else none)) else (if x2 = 0 then q_E (194, 2, [vr 265, vi (wr (x1 + 1)), vu, vu], []) (qk t u I J) else some (vi x1, (qk t u I J)))) := q_it_eq 400 [2, 43] _ _
/-! 195: StewardHeapsModel.newName(I)V -/
set_option maxRecDepth 20000 in
theorem e195_0 (t u : Nat) (I J : Nat → Nat → Int) (x1 : Int) : q_E (195, 0, [vr 265, vi x1, vu], []) (qk t u I J) = (if I 265 13 = 0 then (q_bv (q_E (193, 0, [vr 265], []) (qk t u I J)) fun M1 => q_E (195, 12, [vr 265, vi x1, vu], []) M1) else some (vu, (qk t u I J))) := q_it_eq 400 [12, 23, 35, 45, 96] _ _
set_option maxRecDepth 20000 in
theorem e195_45 (t u : Nat) (I J : Nat → Nat → Int) (x1 : Int) (x2 : Int) : q_E (195, 45, [vr 265, vi x1, vi x2], []) (qk t u I J) = (if x2 < I 265 8 then (if (0 : Int) ≤ x2 ∧ x2 < 8 then (if (0 : Int) ≤ wr ((wr (39 + (wr (8 * x1)))) + x2) ∧ wr ((wr (39 + (wr (8 * x1)))) + x2) < 71 then q_E (195, 45, [vr 265, vi x1, vi (wr (x2 + 1))], []) (qk t u (uI I 269 (Int.toNat (wr ((wr (39 + (wr (8 * x1)))) + x2))) (I 267 (Int.toNat x2))) J) else none) else none) else (if (0 : Int) ≤ wr (35 + x1) ∧ wr (35 + x1) < 71 then (q_bv (q_E (188, 0, [vr 265, vu, vu, vu], []) (qk t u (uI I 269 (Int.toNat (wr (35 + x1))) (I 265 8)) J)) fun M1 => q_E (195, 96, [vr 265, vi x1, vi x2], []) M1) else none)) := q_it_eq 400 [12, 23, 35, 45, 96] _ _
set_option maxRecDepth 20000 in
theorem e195_35 (t u : Nat) (I J : Nat → Nat → Int) (x1 : Int) : q_E (195, 35, [vr 265, vi x1, vu], []) (qk t u I J) = (if I 265 13 = 0 then q_E (195, 45, [vr 265, vi x1, vi 0], []) (qk t u I J) else some (vu, (qk t u I J))) := q_it_eq 400 [12, 23, 35, 45, 96] _ _
set_option maxRecDepth 20000 in
theorem e195_12 (t u : Nat) (I J : Nat → Nat → Int) (x1 : Int) : q_E (195, 12, [vr 265, vi x1, vu], []) (qk t u I J) = (if I 265 13 = 0 then (q_bi (q_E (194, 0, [vr 265, vu, vu, vu], []) (qk t u I J)) fun z M1 => q_E (195, 23, [vr 265, vi x1, vu], [vi z]) M1) else q_E (195, 35, [vr 265, vi x1, vu], []) (qk t u I J)) := q_it_eq 400 [12, 23, 35, 45, 96] _ _
set_option maxRecDepth 20000 in
theorem e195_96 (t u : Nat) (I J : Nat → Nat → Int) (x1 : Int) (x2 : Int) : q_E (195, 96, [vr 265, vi x1, vi x2], []) (qk t u I J) = some (vu, (qk t u I J)) := q_it_eq 400 [12, 23, 35, 45, 96] _ _
set_option maxRecDepth 20000 in
theorem e195_23 (t u : Nat) (I J : Nat → Nat → Int) (x1 : Int) (y0 : Int) : q_E (195, 23, [vr 265, vi x1, vu], [vi y0]) (qk t u I J) = (if y0 < 0 then q_E (195, 35, [vr 265, vi x1, vu], []) (qk t u I J) else (q_bv (q_E (189, 0, [vr 265, vi 3, vi (I 265 4)], []) (qk t u I J)) fun M1 => q_E (195, 35, [vr 265, vi x1, vu], []) M1)) := q_it_eq 400 [12, 23, 35, 45, 96] _ _
/-! 196: StewardHeapsModel.cellarHere()I -/
set_option maxRecDepth 20000 in
theorem e196_0 (t u : Nat) (I J : Nat → Nat → Int) : q_E (196, 0, [vr 265, vu], []) (qk t u I J) = (if I 265 13 = 0 then (q_bv (q_E (193, 0, [vr 265], []) (qk t u I J)) fun M1 => q_E (196, 13, [vr 265, vu], []) M1) else some (vi 0, (qk t u I J))) := q_it_eq 400 [13, 26, 40] _ _
set_option maxRecDepth 20000 in
theorem e196_40 (t u : Nat) (I J : Nat → Nat → Int) (x1 : Int) : q_E (196, 40, [vr 265, vi x1], []) (qk t u I J) = (if I 265 13 = 0 then some (vi x1, (qk t u I J)) else some (vi 0, (qk t u I J))) := q_it_eq 400 [13, 26, 40] _ _
set_option maxRecDepth 20000 in
theorem e196_13 (t u : Nat) (I J : Nat → Nat → Int) : q_E (196, 13, [vr 265, vu], []) (qk t u I J) = (if I 265 13 = 0 then (q_bi (q_E (194, 0, [vr 265, vu, vu, vu], []) (qk t u I J)) fun z M1 => q_E (196, 26, [vr 265, vu], [vi z]) M1) else some (vi 0, (qk t u I J))) := q_it_eq 400 [13, 26, 40] _ _
set_option maxRecDepth 20000 in
theorem e196_26 (t u : Nat) (I J : Nat → Nat → Int) (y0 : Int) : q_E (196, 26, [vr 265, vu], [vi y0]) (qk t u I J) = (if y0 < 0 then (q_bv (q_E (189, 0, [vr 265, vi 2, vi (I 265 4)], []) (qk t u I J)) fun M1 => q_E (196, 40, [vr 265, vi y0], []) M1) else q_E (196, 40, [vr 265, vi y0], []) (qk t u I J)) := q_it_eq 400 [13, 26, 40] _ _
/-! 197: StewardHeapsModel.pass()V -/
set_option maxRecDepth 20000 in
theorem e197_0 (t u : Nat) (I J : Nat → Nat → Int) : q_E (197, 0, [vr 265], []) (qk t u I J) = (if I 265 13 = 0 then (q_bv (q_E (188, 0, [vr 265, vu, vu, vu], []) (qk t u I J)) fun M1 => q_E (197, 11, [vr 265], []) M1) else q_E (197, 11, [vr 265], []) (qk t u I J)) := q_it_eq 400 [11] _ _
set_option maxRecDepth 20000 in
theorem e197_11 (t u : Nat) (I J : Nat → Nat → Int) : q_E (197, 11, [vu], []) (qk t u I J) = some (vu, (qk t u I J)) := q_it_eq 400 [11] _ _
/-! 198: StewardHeapsModel.numberHere(II)I -/
set_option maxRecDepth 20000 in
theorem e198_0 (t u : Nat) (I J : Nat → Nat → Int) (x1 : Int) (x2 : Int) : q_E (198, 0, [vr 265, vi x1, vi x2], []) (qk t u I J) = (if I 265 13 = 0 then (if I 265 6 = 3 then (q_bi (q_E (180, 0, [vi (I 265 7), vi x1, vi x2], []) (qk t u I J)) fun z M1 => q_E (198, 38, [vr 265, vi x1, vi x2], [vi z]) M1) else (q_bv (q_E (189, 0, [vr 265, vi 1, vi (I 265 4)], []) (qk t u I J)) fun M1 => q_E (198, 26, [vr 265, vi x1, vi x2], []) M1)) else some (vi x1, (qk t u I J))) := q_it_eq 400 [26, 38, 50] _ _
set_option maxRecDepth 20000 in
theorem e198_50 (t u : Nat) (I J : Nat → Nat → Int) (x1 : Int) : q_E (198, 50, [vr 265, vi x1, vu], []) (qk t u I J) = (if I 265 13 = 0 then some (vi (I 265 7), (qk t u I J)) else some (vi x1, (qk t u I J))) := q_it_eq 400 [26, 38, 50] _ _
set_option maxRecDepth 20000 in
theorem e198_38 (t u : Nat) (I J : Nat → Nat → Int) (x1 : Int) (x2 : Int) (y0 : Int) : q_E (198, 38, [vr 265, vi x1, vi x2], [vi y0]) (qk t u I J) = (if y0 = 0 then (q_bv (q_E (189, 0, [vr 265, vi 4, vi (I 265 4)], []) (qk t u I J)) fun M1 => q_E (198, 50, [vr 265, vi x1, vi x2], []) M1) else q_E (198, 50, [vr 265, vi x1, vi x2], []) (qk t u I J)) := q_it_eq 400 [26, 38, 50] _ _
set_option maxRecDepth 20000 in
theorem e198_26 (t u : Nat) (I J : Nat → Nat → Int) (x1 : Int) (x2 : Int) : q_E (198, 26, [vr 265, vi x1, vi x2], []) (qk t u I J) = q_E (198, 50, [vr 265, vi x1, vi x2], []) (qk t u I J) := q_it_eq 400 [26, 38, 50] _ _
/-! 199: StewardHeapsModel.number(II)I -/
set_option maxRecDepth 20000 in
theorem e199_0 (t u : Nat) (I J : Nat → Nat → Int) (x1 : Int) (x2 : Int) : q_E (199, 0, [vr 265, vi x1, vi x2, vu], []) (qk t u I J) = (q_bi (q_E (198, 0, [vr 265, vi x1, vi x2], []) (qk t u I J)) fun z M1 => q_E (199, 6, [vr 265, vi x1, vi x2, vu], [vi z]) M1) := q_it_eq 400 [6, 11] _ _
set_option maxRecDepth 20000 in
theorem e199_6 (t u : Nat) (I J : Nat → Nat → Int) (x1 : Int) (x2 : Int) (y0 : Int) : q_E (199, 6, [vr 265, vi x1, vi x2, vu], [vi y0]) (qk t u I J) = (q_bv (q_E (197, 0, [vr 265], []) (qk t u I J)) fun M1 => q_E (199, 11, [vr 265, vi x1, vi x2, vi y0], []) M1) := q_it_eq 400 [6, 11] _ _
set_option maxRecDepth 20000 in
theorem e199_11 (t u : Nat) (I J : Nat → Nat → Int) (x1 : Int) (x2 : Int) (x3 : Int) : q_E (199, 11, [vr 265, vi x1, vi x2, vi x3], []) (qk t u I J) = some (vi x3, (qk t u I J)) := q_it_eq 400 [6, 11] _ _
/-! 200: StewardHeapsModel.after(Ljava/lang/String;II)I -/
set_option maxRecDepth 20000 in
theorem e200_0 (t u : Nat) (I J : Nat → Nat → Int) (x1 : Nat) (x2 : Int) (x3 : Int) : q_E (200, 0, [vr 265, vr x1, vi x2, vi x3], []) (qk t u I J) = (q_bv (q_E (192, 0, [vr 265, vr x1], []) (qk t u I J)) fun M1 => q_E (200, 5, [vr 265, vr x1, vi x2, vi x3], []) M1) := q_it_eq 400 [5, 11] _ _
set_option maxRecDepth 20000 in
theorem e200_5 (t u : Nat) (I J : Nat → Nat → Int) (x1 : Nat) (x2 : Int) (x3 : Int) : q_E (200, 5, [vr 265, vr x1, vi x2, vi x3], []) (qk t u I J) = (q_bi (q_E (199, 0, [vr 265, vi x2, vi x3, vu], []) (qk t u I J)) fun z M1 => q_E (200, 11, [vr 265, vr x1, vi x2, vi x3], [vi z]) M1) := q_it_eq 400 [5, 11] _ _
set_option maxRecDepth 20000 in
theorem e200_11 (t u : Nat) (I J : Nat → Nat → Int) (x1 : Nat) (x2 : Int) (x3 : Int) (y0 : Int) : q_E (200, 11, [vr 265, vr x1, vi x2, vi x3], [vi y0]) (qk t u I J) = some (vi y0, (qk t u I J)) := q_it_eq 400 [5, 11] _ _
/-! 201: StewardHeapsModel.store(I)I -/
set_option maxRecDepth 20000 in
theorem e201_0 (t u : Nat) (I J : Nat → Nat → Int) (x1 : Int) : q_E (201, 0, [vr 265, vi x1, vu], []) (qk t u I J) = (q_bv (q_E (177, 0, [vr 265], []) (qk t u I J)) fun M1 => q_E (201, 4, [vr 265, vi x1, vu], []) M1) := q_it_eq 400 [4, 13, 21, 44, 65, 99, 103, 123, 127, 130, 153, 176, 186, 198, 214, 230, 246] _ _
set_option maxRecDepth 20000 in
theorem e201_44 (t u : Nat) (I J : Nat → Nat → Int) (x1 : Int) (x2 : Int) : q_E (201, 44, [vr 265, vi x1, vi x2], []) (qk t u I J) = (if x2 < 71 then (if (0 : Int) ≤ x2 ∧ x2 < 71 then q_E (201, 44, [vr 265, vi x1, vi (wr (x2 + 1))], []) (qk t u (uI I 269 (Int.toNat x2) 0) J) else none) else q_E (201, 65, [vr 265, vi x1, vi 0], []) (qk t u I J)) := q_it_eq 400 [4, 13, 21, 44, 65, 99, 103, 123, 127, 130, 153, 176, 186, 198, 214, 230, 246] _ _
set_option maxRecDepth 20000 in
theorem e201_65 (t u : Nat) (I J : Nat → Nat → Int) (x1 : Int) (x2 : Int) : q_E (201, 65, [vr 265, vi x1, vi x2], []) (qk t u I J) = (if x2 < 245 then (if (0 : Int) ≤ x2 ∧ x2 < 245 then q_E (201, 65, [vr 265, vi x1, vi (wr (x2 + 1))], []) (qk t u (uI I 271 (Int.toNat x2) 0) J) else none) else (q_bv (q_E (188, 0, [vr 265, vu, vu, vu], []) (qk t u (uI (uI I 265 3 x1) 265 5 0) J)) fun M1 => q_E (201, 99, [vr 265, vi x1, vi x2], []) M1)) := q_it_eq 400 [4, 13, 21, 44, 65, 99, 103, 123, 127, 130, 153, 176, 186, 198, 214, 230, 246] _ _
set_option maxRecDepth 20000 in
theorem e201_103 (t u : Nat) (I J : Nat → Nat → Int) : q_E (201, 103, [vr 265, vu, vu], []) (qk t u I J) = (if I 265 13 = 0 then (if I 265 6 = 59 then (q_bv (q_E (188, 0, [vr 265, vu, vu, vu], []) (qk t u I J)) fun M1 => q_E (201, 123, [vr 265, vu, vu], []) M1) else q_E (201, 130, [vr 265, vu, vu], []) (qk t u I J)) else q_E (201, 130, [vr 265, vu, vu], []) (qk t u I J)) := q_it_eq 400 [4, 13, 21, 44, 65, 99, 103, 123, 127, 130, 153, 176, 186, 198, 214, 230, 246] _ _
set_option maxRecDepth 20000 in
theorem e201_130 (t u : Nat) (I J : Nat → Nat → Int) : q_E (201, 130, [vr 265, vu, vu], []) (qk t u I J) = (if I 265 13 = 0 then (if I 265 6 = 0 then q_E (201, 153, [vr 265, vu, vu], []) (qk t u I J) else (q_bv (q_E (189, 0, [vr 265, vi 1, vi (I 265 4)], []) (qk t u I J)) fun M1 => q_E (201, 153, [vr 265, vu, vu], []) M1)) else q_E (201, 153, [vr 265, vu, vu], []) (qk t u I J)) := q_it_eq 400 [4, 13, 21, 44, 65, 99, 103, 123, 127, 130, 153, 176, 186, 198, 214, 230, 246] _ _
set_option maxRecDepth 20000 in
theorem e201_153 (t u : Nat) (I J : Nat → Nat → Int) : q_E (201, 153, [vr 265, vu, vu], []) (qk t u I J) = (if I 265 13 = 0 then (if I 265 24 = 0 then q_E (201, 176, [vr 265, vu, vu], []) (qk t u I J) else (if I 269 2 = 0 then q_E (201, 176, [vr 265, vu, vu], []) (qk t u I J) else q_E (201, 186, [vr 265, vu, vu], []) (qk t u I J))) else q_E (201, 186, [vr 265, vu, vu], []) (qk t u I J)) := q_it_eq 400 [4, 13, 21, 44, 65, 99, 103, 123, 127, 130, 153, 176, 186, 198, 214, 230, 246] _ _
set_option maxRecDepth 20000 in
theorem e201_176 (t u : Nat) (I J : Nat → Nat → Int) : q_E (201, 176, [vr 265, vu, vu], []) (qk t u I J) = (q_bv (q_E (189, 0, [vr 265, vi 6, vi (I 265 4)], []) (qk t u I J)) fun M1 => q_E (201, 186, [vr 265, vu, vu], []) M1) := q_it_eq 400 [4, 13, 21, 44, 65, 99, 103, 123, 127, 130, 153, 176, 186, 198, 214, 230, 246] _ _
set_option maxRecDepth 20000 in
theorem e201_186 (t u : Nat) (I J : Nat → Nat → Int) : q_E (201, 186, [vr 265, vu, vu], []) (qk t u I J) = (if I 265 13 = 0 then (q_bv (q_E (182, 0, [vr 269, vi 0, vr 268, vi 0, vi 71, vu], []) (qk t u I J)) fun M1 => q_E (201, 214, [vr 265, vu, vu], []) M1) else (q_bi (q_E (178, 0, [vr 265, vi 4], []) (qk t u I J)) fun z M1 => q_E (201, 198, [vr 265, vu, vu], [vi z]) M1)) := q_it_eq 400 [4, 13, 21, 44, 65, 99, 103, 123, 127, 130, 153, 176, 186, 198, 214, 230, 246] _ _
set_option maxRecDepth 20000 in
theorem e201_4 (t u : Nat) (I J : Nat → Nat → Int) (x1 : Int) : q_E (201, 4, [vr 265, vi x1, vu], []) (qk t u I J) = (q_bi (q_E (180, 0, [vi x1, vi 0, vi (I 265 2)], []) (qk t u I J)) fun z M1 => q_E (201, 13, [vr 265, vi x1, vu], [vi z]) M1) := q_it_eq 400 [4, 13, 21, 44, 65, 99, 103, 123, 127, 130, 153, 176, 186, 198, 214, 230, 246] _ _
set_option maxRecDepth 20000 in
theorem e201_99 (t u : Nat) (I J : Nat → Nat → Int) (x1 : Int) (x2 : Int) : q_E (201, 99, [vr 265, vi x1, vi x2], []) (qk t u I J) = (q_bv (q_E (203, 0, [vr 265], []) (qk t u I J)) fun M1 => q_E (201, 103, [vr 265, vu, vu], []) M1) := q_it_eq 400 [4, 13, 21, 44, 65, 99, 103, 123, 127, 130, 153, 176, 186, 198, 214, 230, 246] _ _
set_option maxRecDepth 20000 in
theorem e201_123 (t u : Nat) (I J : Nat → Nat → Int) : q_E (201, 123, [vr 265, vu, vu], []) (qk t u I J) = (q_bv (q_E (203, 0, [vr 265], []) (qk t u I J)) fun M1 => q_E (201, 127, [vr 265, vu, vu], []) M1) := q_it_eq 400 [4, 13, 21, 44, 65, 99, 103, 123, 127, 130, 153, 176, 186, 198, 214, 230, 246] _ _
set_option maxRecDepth 20000 in
theorem e201_214 (t u : Nat) (I J : Nat → Nat → Int) : q_E (201, 214, [vr 265, vu, vu], []) (qk t u I J) = (q_bv (q_E (182, 0, [vr 271, vi 0, vr 270, vi 0, vi 245, vu], []) (qk t u I J)) fun M1 => q_E (201, 230, [vr 265, vu, vu], []) M1) := q_it_eq 400 [4, 13, 21, 44, 65, 99, 103, 123, 127, 130, 153, 176, 186, 198, 214, 230, 246] _ _
set_option maxRecDepth 20000 in
theorem e201_198 (t u : Nat) (I J : Nat → Nat → Int) (y0 : Int) : q_E (201, 198, [vr 265, vu, vu], [vi y0]) (qk t u I J) = some (vi y0, (qk t u I J)) := q_it_eq 400 [4, 13, 21, 44, 65, 99, 103, 123, 127, 130, 153, 176, 186, 198, 214, 230, 246] _ _
set_option maxRecDepth 20000 in
theorem e201_13 (t u : Nat) (I J : Nat → Nat → Int) (x1 : Int) (y0 : Int) : q_E (201, 13, [vr 265, vi x1, vu], [vi y0]) (qk t u I J) = (if y0 = 0 then (q_bi (q_E (178, 0, [vr 265, vi 2], []) (qk t u I J)) fun z M1 => q_E (201, 21, [vr 265, vi x1, vu], [vi z]) M1) else q_E (201, 44, [vr 265, vi x1, vi 0], []) (qk t u (uI (uI (uI (uI I 265 2 0) 265 9 0) 265 13 0) 265 24 0) J)) := q_it_eq 400 [4, 13, 21, 44, 65, 99, 103, 123, 127, 130, 153, 176, 186, 198, 214, 230, 246] _ _
set_option maxRecDepth 20000 in
theorem e201_127 (t u : Nat) (I J : Nat → Nat → Int) : q_E (201, 127, [vr 265, vu, vu], []) (qk t u I J) = q_E (201, 103, [vr 265, vu, vu], []) (qk t u I J) := q_it_eq 400 [4, 13, 21, 44, 65, 99, 103, 123, 127, 130, 153, 176, 186, 198, 214, 230, 246] _ _
set_option maxRecDepth 20000 in
theorem e201_230 (t u : Nat) (I J : Nat → Nat → Int) : q_E (201, 230, [vr 265, vu, vu], []) (qk t u I J) = (q_bv (q_E (182, 0, [vr 271, vi 0, vr 272, vi 0, vi 245, vu], []) (qk t u I J)) fun M1 => q_E (201, 246, [vr 265, vu, vu], []) M1) := q_it_eq 400 [4, 13, 21, 44, 65, 99, 103, 123, 127, 130, 153, 176, 186, 198, 214, 230, 246] _ _
set_option maxRecDepth 20000 in
theorem e201_21 (t u : Nat) (I J : Nat → Nat → Int) (x1 : Int) (y0 : Int) : q_E (201, 21, [vr 265, vi x1, vu], [vi y0]) (qk t u I J) = some (vi y0, (qk t u I J)) := q_it_eq 400 [4, 13, 21, 44, 65, 99, 103, 123, 127, 130, 153, 176, 186, 198, 214, 230, 246] _ _
set_option maxRecDepth 20000 in
theorem e201_246 (t u : Nat) (I J : Nat → Nat → Int) : q_E (201, 246, [vr 265, vu, vu], []) (qk t u I J) = some (vi ((uI (uI (uI I 265 14 1) 265 22 0) 265 23 0) 268 2), (qk t u (uI (uI (uI I 265 14 1) 265 22 0) 265 23 0) J)) := q_it_eq 400 [4, 13, 21, 44, 65, 99, 103, 123, 127, 130, 153, 176, 186, 198, 214, 230, 246] _ _
/-! 202: StewardHeapsModel.begins(Ljava/lang/String;Z)Z -/
set_option maxRecDepth 20000 in
theorem e202_0 (t u : Nat) (I J : Nat → Nat → Int) (x1 : Nat) (x2 : Int) : q_E (202, 0, [vr 265, vr x1, vi x2], []) (qk t u I J) = (q_bi (q_E (190, 0, [vr 265, vr x1, vu, vu], []) (qk t u I J)) fun z M1 => q_E (202, 5, [vr 265, vr x1, vi x2], [vi z]) M1) := q_it_eq 400 [5, 23, 40, 44] _ _
set_option maxRecDepth 20000 in
theorem e202_23 (t u : Nat) (I J : Nat → Nat → Int) : q_E (202, 23, [vr 265, vu, vu], []) (qk t u I J) = (if I 265 24 = 0 then (q_bv (q_E (189, 0, [vr 265, vi 6, vi (I 265 4)], []) (qk t u I J)) fun M1 => q_E (202, 40, [vr 265, vu, vu], []) M1) else q_E (202, 40, [vr 265, vu, vu], []) (qk t u I J)) := q_it_eq 400 [5, 23, 40, 44] _ _
set_option maxRecDepth 20000 in
theorem e202_40 (t u : Nat) (I J : Nat → Nat → Int) : q_E (202, 40, [vr 265, vu, vu], []) (qk t u I J) = (q_bv (q_E (197, 0, [vr 265], []) (qk t u I J)) fun M1 => q_E (202, 44, [vr 265, vu, vu], []) M1) := q_it_eq 400 [5, 23, 40, 44] _ _
set_option maxRecDepth 20000 in
theorem e202_5 (t u : Nat) (I J : Nat → Nat → Int) (x1 : Nat) (x2 : Int) (y0 : Int) : q_E (202, 5, [vr 265, vr x1, vi x2], [vi y0]) (qk t u I J) = (if y0 = 0 then some (vi 0, (qk t u I J)) else (if x2 = 0 then (q_bv (q_E (189, 0, [vr 265, vi 5, vi (I 265 4)], []) (qk t u I J)) fun M1 => q_E (202, 23, [vr 265, vr x1, vi x2], []) M1) else q_E (202, 23, [vr 265, vr x1, vi x2], []) (qk t u I J))) := q_it_eq 400 [5, 23, 40, 44] _ _
set_option maxRecDepth 20000 in
theorem e202_44 (t u : Nat) (I J : Nat → Nat → Int) : q_E (202, 44, [vr 265, vu, vu], []) (qk t u I J) = some (vi 1, (qk t u I J)) := q_it_eq 400 [5, 23, 40, 44] _ _
/-! 203: StewardHeapsModel.readLine()V -/
set_option maxRecDepth 20000 in
theorem e203_0 (t u : Nat) (I J : Nat → Nat → Int) : q_E (203, 0, [vr 265], []) (qk t u I J) = (q_bi (q_E (190, 0, [vr 265, vr 1000, vu, vu], []) (qk t u I J)) fun z M1 => q_E (203, 6, [vr 265], [vi z]) M1) := q_it_eq 400 [6, 13, 37, 44, 54, 61, 86, 93, 105] _ _
set_option maxRecDepth 20000 in
theorem e203_105 (t u : Nat) (I J : Nat → Nat → Int) : q_E (203, 105, [vu], []) (qk t u I J) = some (vu, (qk t u I J)) := q_it_eq 400 [6, 13, 37, 44, 54, 61, 86, 93, 105] _ _
set_option maxRecDepth 20000 in
theorem e203_6 (t u : Nat) (I J : Nat → Nat → Int) (y0 : Int) : q_E (203, 6, [vr 265], [vi y0]) (qk t u I J) = (if y0 = 0 then (if I 269 2 < 4 then (q_bi (q_E (202, 0, [vr 265, vr 1003, vi 1], []) (qk t u I J)) fun z M1 => q_E (203, 37, [vr 265], [vi z]) M1) else (q_bi (q_E (202, 0, [vr 265, vr 1003, vi 0], []) (qk t u I J)) fun z M1 => q_E (203, 37, [vr 265], [vi z]) M1)) else (q_bv (q_E (204, 0, [vr 265], []) (qk t u I J)) fun M1 => q_E (203, 13, [vr 265], []) M1)) := q_it_eq 400 [6, 13, 37, 44, 54, 61, 86, 93, 105] _ _
set_option maxRecDepth 20000 in
theorem e203_37 (t u : Nat) (I J : Nat → Nat → Int) (y0 : Int) : q_E (203, 37, [vr 265], [vi y0]) (qk t u I J) = (if y0 = 0 then (q_bi (q_E (202, 0, [vr 265, vr 1004, vi 1], []) (qk t u I J)) fun z M1 => q_E (203, 54, [vr 265], [vi z]) M1) else (q_bv (q_E (205, 0, [vr 265, vu, vu, vu, vu, vu], []) (qk t u I J)) fun M1 => q_E (203, 44, [vr 265], []) M1)) := q_it_eq 400 [6, 13, 37, 44, 54, 61, 86, 93, 105] _ _
set_option maxRecDepth 20000 in
theorem e203_13 (t u : Nat) (I J : Nat → Nat → Int) : q_E (203, 13, [vr 265], []) (qk t u I J) = q_E (203, 105, [vr 265], []) (qk t u I J) := q_it_eq 400 [6, 13, 37, 44, 54, 61, 86, 93, 105] _ _
set_option maxRecDepth 20000 in
theorem e203_54 (t u : Nat) (I J : Nat → Nat → Int) (y0 : Int) : q_E (203, 54, [vr 265], [vi y0]) (qk t u I J) = (if y0 = 0 then (if I 269 4 < 6 then (q_bi (q_E (202, 0, [vr 265, vr 1005, vi 1], []) (qk t u I J)) fun z M1 => q_E (203, 86, [vr 265], [vi z]) M1) else (q_bi (q_E (202, 0, [vr 265, vr 1005, vi 0], []) (qk t u I J)) fun z M1 => q_E (203, 86, [vr 265], [vi z]) M1)) else (q_bv (q_E (206, 0, [vr 265, vu, vu, vu], []) (qk t u I J)) fun M1 => q_E (203, 61, [vr 265], []) M1)) := q_it_eq 400 [6, 13, 37, 44, 54, 61, 86, 93, 105] _ _
set_option maxRecDepth 20000 in
theorem e203_44 (t u : Nat) (I J : Nat → Nat → Int) : q_E (203, 44, [vr 265], []) (qk t u I J) = q_E (203, 105, [vr 265], []) (qk t u I J) := q_it_eq 400 [6, 13, 37, 44, 54, 61, 86, 93, 105] _ _
set_option maxRecDepth 20000 in
theorem e203_86 (t u : Nat) (I J : Nat → Nat → Int) (y0 : Int) : q_E (203, 86, [vr 265], [vi y0]) (qk t u I J) = (if y0 = 0 then (q_bv (q_E (189, 0, [vr 265, vi 1, vi (I 265 4)], []) (qk t u I J)) fun M1 => q_E (203, 105, [vr 265], []) M1) else (q_bv (q_E (207, 0, [vr 265, vu, vu, vu, vu], []) (qk t u I J)) fun M1 => q_E (203, 93, [vr 265], []) M1)) := q_it_eq 400 [6, 13, 37, 44, 54, 61, 86, 93, 105] _ _
set_option maxRecDepth 20000 in
theorem e203_61 (t u : Nat) (I J : Nat → Nat → Int) : q_E (203, 61, [vr 265], []) (qk t u I J) = q_E (203, 105, [vr 265], []) (qk t u I J) := q_it_eq 400 [6, 13, 37, 44, 54, 61, 86, 93, 105] _ _
set_option maxRecDepth 20000 in
theorem e203_93 (t u : Nat) (I J : Nat → Nat → Int) : q_E (203, 93, [vr 265], []) (qk t u I J) = q_E (203, 105, [vr 265], []) (qk t u I J) := q_it_eq 400 [6, 13, 37, 44, 54, 61, 86, 93, 105] _ _
/-! 204: StewardHeapsModel.storeLine()V -/
set_option maxRecDepth 20000 in
theorem e204_0 (t u : Nat) (I J : Nat → Nat → Int) : q_E (204, 0, [vr 265], []) (qk t u I J) = (if I 265 24 = 0 then q_E (204, 16, [vr 265], []) (qk t u I J) else (q_bv (q_E (189, 0, [vr 265, vi 3, vi (I 265 4)], []) (qk t u I J)) fun M1 => q_E (204, 16, [vr 265], []) M1)) := q_it_eq 400 [16, 28, 42, 57] _ _
set_option maxRecDepth 20000 in
theorem e204_16 (t u : Nat) (I J : Nat → Nat → Int) : q_E (204, 16, [vr 265], []) (qk t u I J) = (if I 265 13 = 0 then (q_bv (q_E (188, 0, [vr 265, vu, vu, vu], []) (qk t u I J)) fun M1 => q_E (204, 28, [vr 265], []) M1) else some (vu, (qk t u I J))) := q_it_eq 400 [16, 28, 42, 57] _ _
set_option maxRecDepth 20000 in
theorem e204_28 (t u : Nat) (I J : Nat → Nat → Int) : q_E (204, 28, [vr 265], []) (qk t u I J) = (q_bi (q_E (200, 0, [vr 265, vr 1001, vi 2, vi 9], []) (qk t u I J)) fun z M1 => q_E (204, 42, [vr 265], [vi z, vi 0, vr 269]) M1) := q_it_eq 400 [16, 28, 42, 57] _ _
set_option maxRecDepth 20000 in
theorem e204_42 (t u : Nat) (I J : Nat → Nat → Int) (y0 : Int) (y1 : Int) (y2 : Nat) : q_E (204, 42, [vr 265], [vi y0, vi y1, vr y2]) (qk t u I J) = (if kd y2 = 1 then (if (0 : Int) ≤ y1 ∧ y1 < ln y2 then (q_bi (q_E (200, 0, [vr 265, vr 1002, vi 0, vi 100], []) (qk t u (uI I y2 (Int.toNat y1) y0) J)) fun z M1 => q_E (204, 57, [vr 265], [vi z, vi 1, vr 269]) M1) else none) else none) := q_it_eq 400 [16, 28, 42, 57] _ _
set_option maxRecDepth 20000 in
theorem e204_57 (t u : Nat) (I J : Nat → Nat → Int) (y0 : Int) (y1 : Int) (y2 : Nat) : q_E (204, 57, [vr 265], [vi y0, vi y1, vr y2]) (qk t u I J) = (if kd y2 = 1 then (if (0 : Int) ≤ y1 ∧ y1 < ln y2 then (if (uI I y2 (Int.toNat y1) y0) 265 13 = 0 then some (vu, (qk t u (uI (uI I y2 (Int.toNat y1) y0) 265 24 1) J)) else some (vu, (qk t u (uI (uI I y2 (Int.toNat y1) y0) 265 24 0) J))) else none) else none) := q_it_eq 400 [16, 28, 42, 57] _ _
/-! 205: StewardHeapsModel.cellarLine()V -/
set_option maxRecDepth 20000 in
theorem e205_0 (t u : Nat) (I J : Nat → Nat → Int) : q_E (205, 0, [vr 265, vu, vu, vu, vu, vu], []) (qk t u I J) = (if I 265 13 = 0 then (q_bv (q_E (195, 0, [vr 265, vi (I 269 2), vu], []) (qk t u I J)) fun M1 => q_E (205, 20, [vr 265, vi (I 269 2), vu, vu, vu, vu], []) M1) else some (vu, (qk t u I J))) := q_it_eq 400 [20, 26, 39, 52, 65, 87, 91, 96, 103, 131, 153, 157, 177, 202, 221] _ _
set_option maxRecDepth 20000 in
theorem e205_87 (t u : Nat) (I J : Nat → Nat → Int) (x1 : Int) (x2 : Int) : q_E (205, 87, [vr 265, vi x1, vi x2, vu, vu, vu], []) (qk t u I J) = (q_bv (q_E (197, 0, [vr 265], []) (qk t u I J)) fun M1 => q_E (205, 91, [vr 265, vi x1, vi x2, vu, vu, vu], []) M1) := q_it_eq 400 [20, 26, 39, 52, 65, 87, 91, 96, 103, 131, 153, 157, 177, 202, 221] _ _
set_option maxRecDepth 20000 in
theorem e205_96 (t u : Nat) (I J : Nat → Nat → Int) (x1 : Int) (x2 : Int) (x3 : Int) (x4 : Int) : q_E (205, 96, [vr 265, vi x1, vi x2, vi x3, vi x4, vu], []) (qk t u I J) = (q_bi (q_E (198, 0, [vr 265, vi 1, vi 30], []) (qk t u I J)) fun z M1 => q_E (205, 103, [vr 265, vi x1, vi x2, vi x3, vi x4, vu], [vi z]) M1) := q_it_eq 400 [20, 26, 39, 52, 65, 87, 91, 96, 103, 131, 153, 157, 177, 202, 221] _ _
set_option maxRecDepth 20000 in
theorem e205_131 (t u : Nat) (I J : Nat → Nat → Int) (x1 : Int) (x2 : Int) (x3 : Int) (x4 : Int) (x5 : Int) : q_E (205, 131, [vr 265, vi x1, vi x2, vi x3, vi x4, vi x5], []) (qk t u I J) = (if I 265 13 = 0 then (if x3 = 8 then (q_bv (q_E (189, 0, [vr 265, vi 5, vi (I 265 4)], []) (qk t u I J)) fun M1 => q_E (205, 153, [vr 265, vi x1, vi x2, vi x3, vi x4, vi x5], []) M1) else q_E (205, 153, [vr 265, vi x1, vi x2, vi x3, vi x4, vi x5], []) (qk t u I J)) else q_E (205, 153, [vr 265, vi x1, vi x2, vi x3, vi x4, vi x5], []) (qk t u I J)) := q_it_eq 400 [20, 26, 39, 52, 65, 87, 91, 96, 103, 131, 153, 157, 177, 202, 221] _ _
set_option maxRecDepth 20000 in
theorem e205_153 (t u : Nat) (I J : Nat → Nat → Int) (x1 : Int) (x2 : Int) (x3 : Int) (x4 : Int) (x5 : Int) : q_E (205, 153, [vr 265, vi x1, vi x2, vi x3, vi x4, vi x5], []) (qk t u I J) = (q_bv (q_E (197, 0, [vr 265], []) (qk t u I J)) fun M1 => q_E (205, 157, [vr 265, vi x1, vi x2, vi x3, vi x4, vi x5], []) M1) := q_it_eq 400 [20, 26, 39, 52, 65, 87, 91, 96, 103, 131, 153, 157, 177, 202, 221] _ _
set_option maxRecDepth 20000 in
theorem e205_177 (t u : Nat) (I J : Nat → Nat → Int) (x1 : Int) (x2 : Int) (x3 : Int) (x4 : Int) (x5 : Int) : q_E (205, 177, [vr 265, vi x1, vi x2, vi x3, vi x4, vi x5], []) (qk t u I J) = (if I 265 13 = 0 then (if I 265 6 = 3 then q_E (205, 96, [vr 265, vi x1, vi x2, vi (wr (x3 + 1)), vi (wr (x4 + x5)), vu], []) (qk t u I J) else q_E (205, 202, [vr 265, vi x1, vi x2, vu, vu, vu], []) (qk t u I J)) else q_E (205, 202, [vr 265, vi x1, vi x2, vu, vu, vu], []) (qk t u I J)) := q_it_eq 400 [20, 26, 39, 52, 65, 87, 91, 96, 103, 131, 153, 157, 177, 202, 221] _ _
set_option maxRecDepth 20000 in
theorem e205_202 (t u : Nat) (I J : Nat → Nat → Int) (x1 : Int) (x2 : Int) : q_E (205, 202, [vr 265, vi x1, vi x2, vu, vu, vu], []) (qk t u I J) = (if I 265 13 = 0 then (q_bv (q_E (213, 0, [vr 271, vi (wr (61 * x1)), vu, vu, vu], []) (qk t u I J)) fun M1 => q_E (205, 221, [vr 265, vi x1, vi x2, vu, vu, vu], []) M1) else some (vu, (qk t u I J))) := q_it_eq 400 [20, 26, 39, 52, 65, 87, 91, 96, 103, 131, 153, 157, 177, 202, 221] _ _
set_option maxRecDepth 20000 in
theorem e205_20 (t u : Nat) (I J : Nat → Nat → Int) (x1 : Int) : q_E (205, 20, [vr 265, vi x1, vu, vu, vu, vu], []) (qk t u I J) = (q_bi (q_E (190, 0, [vr 265, vr 1006, vu, vu], []) (qk t u I J)) fun z M1 => q_E (205, 26, [vr 265, vi x1, vu, vu, vu, vu], [vi z]) M1) := q_it_eq 400 [20, 26, 39, 52, 65, 87, 91, 96, 103, 131, 153, 157, 177, 202, 221] _ _
set_option maxRecDepth 20000 in
theorem e205_91 (t u : Nat) (I J : Nat → Nat → Int) (x1 : Int) (x2 : Int) : q_E (205, 91, [vr 265, vi x1, vi x2, vu, vu, vu], []) (qk t u I J) = q_E (205, 96, [vr 265, vi x1, vi x2, vi 0, vi 0, vu], []) (qk t u I J) := q_it_eq 400 [20, 26, 39, 52, 65, 87, 91, 96, 103, 131, 153, 157, 177, 202, 221] _ _
set_option maxRecDepth 20000 in
theorem e205_103 (t u : Nat) (I J : Nat → Nat → Int) (x1 : Int) (x2 : Int) (x3 : Int) (x4 : Int) (y0 : Int) : q_E (205, 103, [vr 265, vi x1, vi x2, vi x3, vi x4, vu], [vi y0]) (qk t u I J) = (if I 265 13 = 0 then (if (40 : Int) < wr (x4 + y0) then (q_bv (q_E (189, 0, [vr 265, vi 4, vi (I 265 4)], []) (qk t u I J)) fun M1 => q_E (205, 131, [vr 265, vi x1, vi x2, vi x3, vi x4, vi y0], []) M1) else q_E (205, 131, [vr 265, vi x1, vi x2, vi x3, vi x4, vi y0], []) (qk t u I J)) else q_E (205, 131, [vr 265, vi x1, vi x2, vi x3, vi x4, vi y0], []) (qk t u I J)) := q_it_eq 400 [20, 26, 39, 52, 65, 87, 91, 96, 103, 131, 153, 157, 177, 202, 221] _ _
set_option maxRecDepth 20000 in
theorem e205_157 (t u : Nat) (I J : Nat → Nat → Int) (x1 : Int) (x2 : Int) (x3 : Int) (x4 : Int) (x5 : Int) : q_E (205, 157, [vr 265, vi x1, vi x2, vi x3, vi x4, vi x5], []) (qk t u I J) = (if I 265 13 = 0 then (if (0 : Int) ≤ wr ((wr (61 * x1)) + x3) ∧ wr ((wr (61 * x1)) + x3) < 245 then q_E (205, 177, [vr 265, vi x1, vi x2, vi x3, vi x4, vi x5], []) (qk t u (uI I 271 (Int.toNat (wr ((wr (61 * x1)) + x3))) x5) J) else none) else q_E (205, 177, [vr 265, vi x1, vi x2, vi x3, vi x4, vi x5], []) (qk t u I J)) := q_it_eq 400 [20, 26, 39, 52, 65, 87, 91, 96, 103, 131, 153, 157, 177, 202, 221] _ _
set_option maxRecDepth 20000 in
theorem e205_221 (t u : Nat) (I J : Nat → Nat → Int) (x1 : Int) (x2 : Int) : q_E (205, 221, [vr 265, vi x1, vi x2, vu, vu, vu], []) (qk t u I J) = (if (0 : Int) ≤ wr (5 + x1) ∧ wr (5 + x1) < 71 then some (vu, (qk t u (uI (uI I 269 (Int.toNat (wr (5 + x1))) x2) 269 2 (wr (((uI I 269 (Int.toNat (wr (5 + x1))) x2) 269 2) + 1))) J)) else none) := q_it_eq 400 [20, 26, 39, 52, 65, 87, 91, 96, 103, 131, 153, 157, 177, 202, 221] _ _
set_option maxRecDepth 20000 in
theorem e205_26 (t u : Nat) (I J : Nat → Nat → Int) (x1 : Int) (y0 : Int) : q_E (205, 26, [vr 265, vi x1, vu, vu, vu, vu], [vi y0]) (qk t u I J) = (if y0 = 0 then (q_bi (q_E (190, 0, [vr 265, vr 1007, vu, vu], []) (qk t u I J)) fun z M1 => q_E (205, 39, [vr 265, vi x1, vu, vu, vu, vu], [vi z]) M1) else q_E (205, 87, [vr 265, vi x1, vi 0, vu, vu, vu], []) (qk t u I J)) := q_it_eq 400 [20, 26, 39, 52, 65, 87, 91, 96, 103, 131, 153, 157, 177, 202, 221] _ _
set_option maxRecDepth 20000 in
theorem e205_39 (t u : Nat) (I J : Nat → Nat → Int) (x1 : Int) (y0 : Int) : q_E (205, 39, [vr 265, vi x1, vu, vu, vu, vu], [vi y0]) (qk t u I J) = (if y0 = 0 then (q_bi (q_E (190, 0, [vr 265, vr 1008, vu, vu], []) (qk t u I J)) fun z M1 => q_E (205, 52, [vr 265, vi x1, vu, vu, vu, vu], [vi z]) M1) else q_E (205, 87, [vr 265, vi x1, vi 1, vu, vu, vu], []) (qk t u I J)) := q_it_eq 400 [20, 26, 39, 52, 65, 87, 91, 96, 103, 131, 153, 157, 177, 202, 221] _ _
set_option maxRecDepth 20000 in
theorem e205_52 (t u : Nat) (I J : Nat → Nat → Int) (x1 : Int) (y0 : Int) : q_E (205, 52, [vr 265, vi x1, vu, vu, vu, vu], [vi y0]) (qk t u I J) = (if y0 = 0 then (q_bi (q_E (190, 0, [vr 265, vr 1009, vu, vu], []) (qk t u I J)) fun z M1 => q_E (205, 65, [vr 265, vi x1, vu, vu, vu, vu], [vi z]) M1) else q_E (205, 87, [vr 265, vi x1, vi 2, vu, vu, vu], []) (qk t u I J)) := q_it_eq 400 [20, 26, 39, 52, 65, 87, 91, 96, 103, 131, 153, 157, 177, 202, 221] _ _
set_option maxRecDepth 20000 in
theorem e205_65 (t u : Nat) (I J : Nat → Nat → Int) (x1 : Int) (y0 : Int) : q_E (205, 65, [vr 265, vi x1, vu, vu, vu, vu], [vi y0]) (qk t u I J) = (if y0 = 0 then (q_bv (q_E (189, 0, [vr 265, vi 1, vi (I 265 4)], []) (qk t u I J)) fun M1 => q_E (205, 87, [vr 265, vi x1, vi (-1), vu, vu, vu], []) M1) else q_E (205, 87, [vr 265, vi x1, vi 3, vu, vu, vu], []) (qk t u I J)) := q_it_eq 400 [20, 26, 39, 52, 65, 87, 91, 96, 103, 131, 153, 157, 177, 202, 221] _ _
/-! 206: StewardHeapsModel.unsureLine()V -/
set_option maxRecDepth 20000 in
theorem e206_0 (t u : Nat) (I J : Nat → Nat → Int) : q_E (206, 0, [vr 265, vu, vu, vu], []) (qk t u I J) = (q_bi (q_E (196, 0, [vr 265, vu], []) (qk t u I J)) fun z M1 => q_E (206, 16, [vr 265, vi (wr (9 + (wr (2 * (I 269 3))))), vu, vu], [vi z]) M1) := q_it_eq 400 [16, 19, 60, 70, 77] _ _
set_option maxRecDepth 20000 in
theorem e206_19 (t u : Nat) (I J : Nat → Nat → Int) (x1 : Int) (x2 : Int) (x3 : Int) : q_E (206, 19, [vr 265, vi x1, vi x2, vi x3], []) (qk t u I J) = (if x3 < I 269 3 then (if I 265 13 = 0 then (if (0 : Int) ≤ wr (9 + (wr (2 * x3))) ∧ wr (9 + (wr (2 * x3))) < 71 then (if I 269 (Int.toNat (wr (9 + (wr (2 * x3))))) = x2 then (q_bv (q_E (189, 0, [vr 265, vi 3, vi (I 265 4)], []) (qk t u I J)) fun M1 => q_E (206, 60, [vr 265, vi x1, vi x2, vi x3], []) M1) else q_E (206, 60, [vr 265, vi x1, vi x2, vi x3], []) (qk t u I J)) else none) else q_E (206, 60, [vr 265, vi x1, vi x2, vi x3], []) (qk t u I J)) else (q_bv (q_E (197, 0, [vr 265], []) (qk t u I J)) fun M1 => q_E (206, 70, [vr 265, vi x1, vi x2, vi x3], []) M1)) := q_it_eq 400 [16, 19, 60, 70, 77] _ _
set_option maxRecDepth 20000 in
theorem e206_60 (t u : Nat) (I J : Nat → Nat → Int) (x1 : Int) (x2 : Int) (x3 : Int) : q_E (206, 60, [vr 265, vi x1, vi x2, vi x3], []) (qk t u I J) = q_E (206, 19, [vr 265, vi x1, vi x2, vi (wr (x3 + 1))], []) (qk t u I J) := q_it_eq 400 [16, 19, 60, 70, 77] _ _
set_option maxRecDepth 20000 in
theorem e206_16 (t u : Nat) (I J : Nat → Nat → Int) (x1 : Int) (y0 : Int) : q_E (206, 16, [vr 265, vi x1, vu, vu], [vi y0]) (qk t u I J) = q_E (206, 19, [vr 265, vi x1, vi y0, vi 0], []) (qk t u I J) := q_it_eq 400 [16, 19, 60, 70, 77] _ _
set_option maxRecDepth 20000 in
theorem e206_70 (t u : Nat) (I J : Nat → Nat → Int) (x1 : Int) (x2 : Int) (x3 : Int) : q_E (206, 70, [vr 265, vi x1, vi x2, vi x3], []) (qk t u I J) = (q_bi (q_E (199, 0, [vr 265, vi 1, vi 9, vu], []) (qk t u I J)) fun z M1 => q_E (206, 77, [vr 265, vi x1, vi x2, vi x3], [vi z]) M1) := q_it_eq 400 [16, 19, 60, 70, 77] _ _
set_option maxRecDepth 20000 in
theorem e206_77 (t u : Nat) (I J : Nat → Nat → Int) (x1 : Int) (x2 : Int) (x3 : Int) (y0 : Int) : q_E (206, 77, [vr 265, vi x1, vi x2, vi x3], [vi y0]) (qk t u I J) = (if I 265 13 = 0 then (if (0 : Int) ≤ x1 ∧ x1 < 71 then (if (0 : Int) ≤ wr (x1 + 1) ∧ wr (x1 + 1) < 71 then some (vu, (qk t u (uI (uI (uI I 269 (Int.toNat x1) x2) 269 (Int.toNat (wr (x1 + 1))) y0) 269 3 (wr (((uI (uI I 269 (Int.toNat x1) x2) 269 (Int.toNat (wr (x1 + 1))) y0) 269 3) + 1))) J)) else none) else none) else some (vu, (qk t u I J))) := q_it_eq 400 [16, 19, 60, 70, 77] _ _
/-! 207: StewardHeapsModel.seenLine()V -/
set_option maxRecDepth 20000 in
theorem e207_0 (t u : Nat) (I J : Nat → Nat → Int) : q_E (207, 0, [vr 265, vu, vu, vu, vu], []) (qk t u I J) = (if I 265 13 = 0 then q_E (207, 20, [vr 265, vi (wr (17 + (wr (3 * (I 269 4))))), vu, vu, vu], []) (qk t u I J) else some (vu, (qk t u I J))) := q_it_eq 400 [20, 24, 25, 29, 35, 42, 43, 46, 107, 117, 126, 128, 143, 152, 162, 172] _ _
set_option maxRecDepth 20000 in
theorem e207_20 (t u : Nat) (I J : Nat → Nat → Int) (x1 : Int) : q_E (207, 20, [vr 265, vi x1, vu, vu, vu], []) (qk t u I J) = (q_bi (q_E (196, 0, [vr 265, vu], []) (qk t u I J)) fun z M1 => q_E (207, 24, [vr 265, vi x1, vu, vu, vu], [vi z]) M1) := q_it_eq 400 [20, 24, 25, 29, 35, 42, 43, 46, 107, 117, 126, 128, 143, 152, 162, 172] _ _
set_option maxRecDepth 20000 in
theorem e207_25 (t u : Nat) (I J : Nat → Nat → Int) (x1 : Int) (x2 : Int) : q_E (207, 25, [vr 265, vi x1, vi x2, vu, vu], []) (qk t u I J) = (q_bv (q_E (197, 0, [vr 265], []) (qk t u I J)) fun M1 => q_E (207, 29, [vr 265, vi x1, vi x2, vu, vu], []) M1) := q_it_eq 400 [20, 24, 25, 29, 35, 42, 43, 46, 107, 117, 126, 128, 143, 152, 162, 172] _ _
set_option maxRecDepth 20000 in
theorem e207_29 (t u : Nat) (I J : Nat → Nat → Int) (x1 : Int) (x2 : Int) : q_E (207, 29, [vr 265, vi x1, vi x2, vu, vu], []) (qk t u I J) = (q_bv (q_E (192, 0, [vr 265, vr 1010], []) (qk t u I J)) fun M1 => q_E (207, 35, [vr 265, vi x1, vi x2, vu, vu], []) M1) := q_it_eq 400 [20, 24, 25, 29, 35, 42, 43, 46, 107, 117, 126, 128, 143, 152, 162, 172] _ _
set_option maxRecDepth 20000 in
theorem e207_35 (t u : Nat) (I J : Nat → Nat → Int) (x1 : Int) (x2 : Int) : q_E (207, 35, [vr 265, vi x1, vi x2, vu, vu], []) (qk t u I J) = (q_bi (q_E (198, 0, [vr 265, vi 0, vi 99], []) (qk t u I J)) fun z M1 => q_E (207, 42, [vr 265, vi x1, vi x2, vu, vu], [vi z]) M1) := q_it_eq 400 [20, 24, 25, 29, 35, 42, 43, 46, 107, 117, 126, 128, 143, 152, 162, 172] _ _
set_option maxRecDepth 20000 in
theorem e207_43 (t u : Nat) (I J : Nat → Nat → Int) (x1 : Int) (x2 : Int) (x3 : Int) : q_E (207, 43, [vr 265, vi x1, vi x2, vi x3, vu], []) (qk t u I J) = q_E (207, 46, [vr 265, vi x1, vi x2, vi x3, vi 0], []) (qk t u I J) := q_it_eq 400 [20, 24, 25, 29, 35, 42, 43, 46, 107, 117, 126, 128, 143, 152, 162, 172] _ _
set_option maxRecDepth 20000 in
theorem e207_46 (t u : Nat) (I J : Nat → Nat → Int) (x1 : Int) (x2 : Int) (x3 : Int) (x4 : Int) : q_E (207, 46, [vr 265, vi x1, vi x2, vi x3, vi x4], []) (qk t u I J) = (if x4 < I 269 4 then (if I 265 13 = 0 then (if (0 : Int) ≤ wr (17 + (wr (3 * x4))) ∧ wr (17 + (wr (3 * x4))) < 71 then (if I 269 (Int.toNat (wr (17 + (wr (3 * x4))))) = x2 then (if (0 : Int) ≤ wr ((wr (17 + (wr (3 * x4)))) + 1) ∧ wr ((wr (17 + (wr (3 * x4)))) + 1) < 71 then (if I 269 (Int.toNat (wr ((wr (17 + (wr (3 * x4)))) + 1))) = x3 then (q_bv (q_E (189, 0, [vr 265, vi 3, vi (I 265 4)], []) (qk t u I J)) fun M1 => q_E (207, 107, [vr 265, vi x1, vi x2, vi x3, vi x4], []) M1) else q_E (207, 107, [vr 265, vi x1, vi x2, vi x3, vi x4], []) (qk t u I J)) else none) else q_E (207, 107, [vr 265, vi x1, vi x2, vi x3, vi x4], []) (qk t u I J)) else none) else q_E (207, 107, [vr 265, vi x1, vi x2, vi x3, vi x4], []) (qk t u I J)) else (q_bv (q_E (197, 0, [vr 265], []) (qk t u I J)) fun M1 => q_E (207, 117, [vr 265, vi x1, vi x2, vi x3, vu], []) M1)) := q_it_eq 400 [20, 24, 25, 29, 35, 42, 43, 46, 107, 117, 126, 128, 143, 152, 162, 172] _ _
set_option maxRecDepth 20000 in
theorem e207_107 (t u : Nat) (I J : Nat → Nat → Int) (x1 : Int) (x2 : Int) (x3 : Int) (x4 : Int) : q_E (207, 107, [vr 265, vi x1, vi x2, vi x3, vi x4], []) (qk t u I J) = q_E (207, 46, [vr 265, vi x1, vi x2, vi x3, vi (wr (x4 + 1))], []) (qk t u I J) := q_it_eq 400 [20, 24, 25, 29, 35, 42, 43, 46, 107, 117, 126, 128, 143, 152, 162, 172] _ _
set_option maxRecDepth 20000 in
theorem e207_117 (t u : Nat) (I J : Nat → Nat → Int) (x1 : Int) (x2 : Int) (x3 : Int) : q_E (207, 117, [vr 265, vi x1, vi x2, vi x3, vu], []) (qk t u I J) = (q_bi (q_E (200, 0, [vr 265, vr 1011, vi 0, vi 60], []) (qk t u I J)) fun z M1 => q_E (207, 126, [vr 265, vi x1, vi x2, vi x3, vu], [vi z]) M1) := q_it_eq 400 [20, 24, 25, 29, 35, 42, 43, 46, 107, 117, 126, 128, 143, 152, 162, 172] _ _
set_option maxRecDepth 20000 in
theorem e207_128 (t u : Nat) (I J : Nat → Nat → Int) (x1 : Int) (x2 : Int) (x3 : Int) (x4 : Int) : q_E (207, 128, [vr 265, vi x1, vi x2, vi x3, vi x4], []) (qk t u I J) = (if I 265 13 = 0 then (if (0 : Int) ≤ x1 ∧ x1 < 71 then q_E (207, 143, [vr 265, vi x1, vu, vi x3, vi x4], []) (qk t u (uI I 269 (Int.toNat x1) x2) J) else none) else some (vu, (qk t u I J))) := q_it_eq 400 [20, 24, 25, 29, 35, 42, 43, 46, 107, 117, 126, 128, 143, 152, 162, 172] _ _
set_option maxRecDepth 20000 in
theorem e207_143 (t u : Nat) (I J : Nat → Nat → Int) (x1 : Int) (x3 : Int) (x4 : Int) : q_E (207, 143, [vr 265, vi x1, vu, vi x3, vi x4], []) (qk t u I J) = (if (0 : Int) ≤ wr (x1 + 1) ∧ wr (x1 + 1) < 71 then q_E (207, 152, [vr 265, vi x1, vu, vu, vi x4], []) (qk t u (uI I 269 (Int.toNat (wr (x1 + 1))) x3) J) else none) := q_it_eq 400 [20, 24, 25, 29, 35, 42, 43, 46, 107, 117, 126, 128, 143, 152, 162, 172] _ _
set_option maxRecDepth 20000 in
theorem e207_152 (t u : Nat) (I J : Nat → Nat → Int) (x1 : Int) (x4 : Int) : q_E (207, 152, [vr 265, vi x1, vu, vu, vi x4], []) (qk t u I J) = (if (0 : Int) ≤ wr (x1 + 2) ∧ wr (x1 + 2) < 71 then q_E (207, 162, [vr 265, vu, vu, vu, vu], []) (qk t u (uI I 269 (Int.toNat (wr (x1 + 2))) x4) J) else none) := q_it_eq 400 [20, 24, 25, 29, 35, 42, 43, 46, 107, 117, 126, 128, 143, 152, 162, 172] _ _
set_option maxRecDepth 20000 in
theorem e207_162 (t u : Nat) (I J : Nat → Nat → Int) : q_E (207, 162, [vr 265, vu, vu, vu, vu], []) (qk t u I J) = q_E (207, 172, [vu, vu, vu, vu, vu], []) (qk t u (uI I 269 4 (wr ((I 269 4) + 1))) J) := q_it_eq 400 [20, 24, 25, 29, 35, 42, 43, 46, 107, 117, 126, 128, 143, 152, 162, 172] _ _
set_option maxRecDepth 20000 in
theorem e207_172 (t u : Nat) (I J : Nat → Nat → Int) : q_E (207, 172, [vu, vu, vu, vu, vu], []) (qk t u I J) = some (vu, (qk t u I J)) := q_it_eq 400 [20, 24, 25, 29, 35, 42, 43, 46, 107, 117, 126, 128, 143, 152, 162, 172] _ _
set_option maxRecDepth 20000 in
theorem e207_24 (t u : Nat) (I J : Nat → Nat → Int) (x1 : Int) (y0 : Int) : q_E (207, 24, [vr 265, vi x1, vu, vu, vu], [vi y0]) (qk t u I J) = q_E (207, 25, [vr 265, vi x1, vi y0, vu, vu], []) (qk t u I J) := q_it_eq 400 [20, 24, 25, 29, 35, 42, 43, 46, 107, 117, 126, 128, 143, 152, 162, 172] _ _
set_option maxRecDepth 20000 in
theorem e207_42 (t u : Nat) (I J : Nat → Nat → Int) (x1 : Int) (x2 : Int) (y0 : Int) : q_E (207, 42, [vr 265, vi x1, vi x2, vu, vu], [vi y0]) (qk t u I J) = q_E (207, 43, [vr 265, vi x1, vi x2, vi y0, vu], []) (qk t u I J) := q_it_eq 400 [20, 24, 25, 29, 35, 42, 43, 46, 107, 117, 126, 128, 143, 152, 162, 172] _ _
set_option maxRecDepth 20000 in
theorem e207_126 (t u : Nat) (I J : Nat → Nat → Int) (x1 : Int) (x2 : Int) (x3 : Int) (y0 : Int) : q_E (207, 126, [vr 265, vi x1, vi x2, vi x3, vu], [vi y0]) (qk t u I J) = q_E (207, 128, [vr 265, vi x1, vi x2, vi x3, vi y0], []) (qk t u I J) := q_it_eq 400 [20, 24, 25, 29, 35, 42, 43, 46, 107, 117, 126, 128, 143, 152, 162, 172] _ _
/-! 208: StewardHeapsModel.fault()I -/
set_option maxRecDepth 20000 in
theorem e208_0 (t u : Nat) (I J : Nat → Nat → Int) : q_E (208, 0, [vr 265], []) (qk t u I J) = some (vi ((uI I 265 0 0) 265 9), (qk t u (uI I 265 0 0) J)) := q_it_eq 400 [] _ _
/-! 209: StewardHeapsModel.where()I -/
set_option maxRecDepth 20000 in
theorem e209_0 (t u : Nat) (I J : Nat → Nat → Int) : q_E (209, 0, [vr 265], []) (qk t u I J) = (if (uI I 265 0 0) 265 11 = 4 then some (vi ((uI I 265 0 0) 265 10), (qk t u (uI I 265 0 0) J)) else some (vi (-1), (qk t u (uI I 265 0 0) J))) := q_it_eq 400 [] _ _
/-! 210: StewardHeapsModel.isCellar(I)Z -/
set_option maxRecDepth 20000 in
theorem e210_0 (t u : Nat) (I J : Nat → Nat → Int) (x1 : Int) : q_E (210, 0, [vr 265, vi x1], []) (qk t u I J) = (if I 265 14 = 0 then some (vi 0, (qk t u I J)) else (q_bi (q_E (180, 0, [vi x1, vi 0, vi (wr ((I 268 2) - 1))], []) (qk t u I J)) fun z M1 => q_E (210, 20, [vr 265, vi x1], [vi z]) M1)) := q_it_eq 400 [20] _ _
set_option maxRecDepth 20000 in
theorem e210_20 (t u : Nat) (I J : Nat → Nat → Int) (x1 : Int) (y0 : Int) : q_E (210, 20, [vr 265, vi x1], [vi y0]) (qk t u I J) = (if y0 = 0 then some (vi 0, (qk t u I J)) else some (vi 1, (qk t u I J))) := q_it_eq 400 [20] _ _
/-! 211: StewardHeapsModel.areTwo(II)Z -/
set_option maxRecDepth 20000 in
theorem e211_0 (t u : Nat) (I J : Nat → Nat → Int) (x1 : Int) (x2 : Int) : q_E (211, 0, [vr 265, vi x1, vi x2], []) (qk t u I J) = (q_bi (q_E (210, 0, [vr 265, vi x1], []) (qk t u I J)) fun z M1 => q_E (211, 5, [vr 265, vi x1, vi x2], [vi z]) M1) := q_it_eq 400 [5, 13] _ _
set_option maxRecDepth 20000 in
theorem e211_5 (t u : Nat) (I J : Nat → Nat → Int) (x1 : Int) (x2 : Int) (y0 : Int) : q_E (211, 5, [vr 265, vi x1, vi x2], [vi y0]) (qk t u I J) = (if y0 = 0 then some (vi 0, (qk t u I J)) else (q_bi (q_E (210, 0, [vr 265, vi x2], []) (qk t u I J)) fun z M1 => q_E (211, 13, [vr 265, vi x1, vi x2], [vi z]) M1)) := q_it_eq 400 [5, 13] _ _
set_option maxRecDepth 20000 in
theorem e211_13 (t u : Nat) (I J : Nat → Nat → Int) (x1 : Int) (x2 : Int) (y0 : Int) : q_E (211, 13, [vr 265, vi x1, vi x2], [vi y0]) (qk t u I J) = (if y0 = 0 then some (vi 0, (qk t u I J)) else (if x1 = x2 then some (vi 0, (qk t u I J)) else some (vi 1, (qk t u I J)))) := q_it_eq 400 [5, 13] _ _
/-! 212: StewardHeapsModel.why(ZZ)I -/
set_option maxRecDepth 20000 in
theorem e212_0 (t u : Nat) (I J : Nat → Nat → Int) (x1 : Int) (x2 : Int) : q_E (212, 0, [vr 265, vi x1, vi x2], []) (qk t u I J) = (if x1 = 0 then some (vi 1, (qk t u I J)) else (if x2 = 0 then some (vi 2, (qk t u I J)) else some (vi 0, (qk t u I J)))) := q_it_eq 400 [] _ _
/-! 213: StewardHeapsModel.sortOf([II)V -/
set_option maxRecDepth 20000 in
theorem e213_0 (t u : Nat) (I J : Nat → Nat → Int) (x0 : Nat) (x1 : Int) : q_E (213, 0, [vr x0, vi x1, vu, vu, vu], []) (qk t u I J) = q_E (213, 2, [vr x0, vi x1, vi 1, vu, vu], []) (qk t u I J) := q_it_eq 400 [2, 17] _ _
set_option maxRecDepth 20000 in
theorem e213_2 (t u : Nat) (I J : Nat → Nat → Int) (x0 : Nat) (x1 : Int) (x2 : Int) : q_E (213, 2, [vr x0, vi x1, vi x2, vu, vu], []) (qk t u I J) = (if x2 < 60 then (if kd x0 = 1 then (if (0 : Int) ≤ wr (x1 + x2) ∧ wr (x1 + x2) < ln x0 then q_E (213, 17, [vr x0, vi x1, vi x2, vi (I x0 (Int.toNat (wr (x1 + x2)))), vi x2], []) (qk t u I J) else none) else none) else some (vu, (qk t u I J))) := q_it_eq 400 [2, 17] _ _
set_option maxRecDepth 20000 in
theorem e213_17 (t u : Nat) (I J : Nat → Nat → Int) (x0 : Nat) (x1 : Int) (x2 : Int) (x3 : Int) (x4 : Int) : q_E (213, 17, [vr x0, vi x1, vi x2, vi x3, vi x4], []) (qk t u I J) = (if (0 : Int) < x4 then (if kd x0 = 1 then (if (0 : Int) ≤ wr ((wr (x1 + x4)) - 1) ∧ wr ((wr (x1 + x4)) - 1) < ln x0 then (if I x0 (Int.toNat (wr ((wr (x1 + x4)) - 1))) < x3 then (if kd x0 = 1 then (if (0 : Int) ≤ wr ((wr (x1 + x4)) - 1) ∧ wr ((wr (x1 + x4)) - 1) < ln x0 then (if kd x0 = 1 then (if (0 : Int) ≤ wr (x1 + x4) ∧ wr (x1 + x4) < ln x0 then q_E (213, 17, [vr x0, vi x1, vi x2, vi x3, vi (wr (x4 + (-1)))], []) (qk t u (uI I x0 (Int.toNat (wr (x1 + x4))) (I x0 (Int.toNat (wr ((wr (x1 + x4)) - 1))))) J) else none) else none) else none) else none) else (if kd x0 = 1 then (if (0 : Int) ≤ wr (x1 + x4) ∧ wr (x1 + x4) < ln x0 then q_E (213, 2, [vr x0, vi x1, vi (wr (x2 + 1)), vu, vu], []) (qk t u (uI I x0 (Int.toNat (wr (x1 + x4))) x3) J) else none) else none)) else none) else none) else (if kd x0 = 1 then (if (0 : Int) ≤ wr (x1 + x4) ∧ wr (x1 + x4) < ln x0 then q_E (213, 2, [vr x0, vi x1, vi (wr (x2 + 1)), vu, vu], []) (qk t u (uI I x0 (Int.toNat (wr (x1 + x4))) x3) J) else none) else none)) := q_it_eq 400 [2, 17] _ _
/-! 214: StewardHeapsModel.manyOf([II)I -/
set_option maxRecDepth 20000 in
theorem e214_0 (t u : Nat) (I J : Nat → Nat → Int) (x0 : Nat) (x1 : Int) : q_E (214, 0, [vr x0, vi x1, vu], []) (qk t u I J) = q_E (214, 2, [vr x0, vi x1, vi 0], []) (qk t u I J) := q_it_eq 400 [2] _ _
set_option maxRecDepth 20000 in
theorem e214_2 (t u : Nat) (I J : Nat → Nat → Int) (x0 : Nat) (x1 : Int) (x2 : Int) : q_E (214, 2, [vr x0, vi x1, vi x2], []) (qk t u I J) = (if x2 < 60 then (if kd x0 = 1 then (if (0 : Int) ≤ wr (x1 + x2) ∧ wr (x1 + x2) < ln x0 then (if (0 : Int) < I x0 (Int.toNat (wr (x1 + x2))) then q_E (214, 2, [vr x0, vi x1, vi (wr (x2 + 1))], []) (qk t u I J) else some (vi x2, (qk t u I J))) else none) else none) else some (vi x2, (qk t u I J))) := q_it_eq 400 [2] _ _
/-! 215: StewardHeapsModel.stonesOf([II)I -/
set_option maxRecDepth 20000 in
theorem e215_0 (t u : Nat) (I J : Nat → Nat → Int) (x0 : Nat) (x1 : Int) : q_E (215, 0, [vr x0, vi x1, vu, vu], []) (qk t u I J) = q_E (215, 4, [vr x0, vi x1, vi 0, vi 0], []) (qk t u I J) := q_it_eq 400 [4] _ _
set_option maxRecDepth 20000 in
theorem e215_4 (t u : Nat) (I J : Nat → Nat → Int) (x0 : Nat) (x1 : Int) (x2 : Int) (x3 : Int) : q_E (215, 4, [vr x0, vi x1, vi x2, vi x3], []) (qk t u I J) = (if x3 < 60 then (if kd x0 = 1 then (if (0 : Int) ≤ wr (x1 + x3) ∧ wr (x1 + x3) < ln x0 then q_E (215, 4, [vr x0, vi x1, vi (wr (x2 + (I x0 (Int.toNat (wr (x1 + x3)))))), vi (wr (x3 + 1))], []) (qk t u I J) else none) else none) else some (vi x2, (qk t u I J))) := q_it_eq 400 [4] _ _
/-! 216: StewardHeapsModel.layOn([III)V -/
set_option maxRecDepth 20000 in
theorem e216_0 (t u : Nat) (I J : Nat → Nat → Int) (x0 : Nat) (x1 : Int) (x2 : Int) : q_E (216, 0, [vr x0, vi x1, vi x2], []) (qk t u I J) = (if (0 : Int) < x2 then (q_bi (q_E (214, 0, [vr x0, vi x1, vu], []) (qk t u I J)) fun z M1 => q_E (216, 11, [vr x0, vi x1, vi x2], [vi z, vi x1, vr x0]) M1) else some (vu, (qk t u I J))) := q_it_eq 400 [11] _ _
set_option maxRecDepth 20000 in
theorem e216_11 (t u : Nat) (I J : Nat → Nat → Int) (x0 : Nat) (x1 : Int) (x2 : Int) (y0 : Int) (y1 : Int) (y2 : Nat) : q_E (216, 11, [vr x0, vi x1, vi x2], [vi y0, vi y1, vr y2]) (qk t u I J) = (if kd y2 = 1 then (if (0 : Int) ≤ wr (y1 + y0) ∧ wr (y1 + y0) < ln y2 then some (vu, (qk t u (uI I y2 (Int.toNat (wr (y1 + y0))) x2) J)) else none) else none) := q_it_eq 400 [11] _ _
/-! 217: StewardHeapsModel.takenOf([IIZ)I -/
set_option maxRecDepth 20000 in
theorem e217_0 (t u : Nat) (I J : Nat → Nat → Int) (x0 : Nat) (x1 : Int) (x2 : Int) : q_E (217, 0, [vr x0, vi x1, vi x2, vu, vu, vu], []) (qk t u I J) = (q_bi (q_E (214, 0, [vr x0, vi x1, vu], []) (qk t u I J)) fun z M1 => q_E (217, 5, [vr x0, vi x1, vi x2, vu, vu, vu], [vi z]) M1) := q_it_eq 400 [5, 12, 74] _ _
set_option maxRecDepth 20000 in
theorem e217_12 (t u : Nat) (I J : Nat → Nat → Int) (x0 : Nat) (x1 : Int) (x2 : Int) (x3 : Int) (x4 : Int) (x5 : Int) : q_E (217, 12, [vr x0, vi x1, vi x2, vi x3, vi x4, vi x5], []) (qk t u I J) = (if x5 < x3 then (if x2 = 0 then (if kd x0 = 1 then (if (0 : Int) ≤ wr (x1 + x5) ∧ wr (x1 + x5) < ln x0 then (if kd x0 = 1 then (if (0 : Int) ≤ wr (x1 + x5) ∧ wr (x1 + x5) < ln x0 then q_E (217, 12, [vr x0, vi x1, vi x2, vi x3, vi (wr (x4 + 1)), vi (wr (x5 + 1))], []) (qk t u (uI I x0 (Int.toNat (wr (x1 + x5))) (wr ((I x0 (Int.toNat (wr (x1 + x5)))) - 1))) J) else none) else none) else none) else none) else (if wr (x5 + 1) < x3 then (if kd x0 = 1 then (if (0 : Int) ≤ wr ((wr (x1 + x5)) + 1) ∧ wr ((wr (x1 + x5)) + 1) < ln x0 then (if kd x0 = 1 then (if (0 : Int) ≤ wr (x1 + x5) ∧ wr (x1 + x5) < ln x0 then (if I x0 (Int.toNat (wr ((wr (x1 + x5)) + 1))) = I x0 (Int.toNat (wr (x1 + x5))) then q_E (217, 12, [vr x0, vi x1, vi x2, vi x3, vi x4, vi (wr (x5 + 1))], []) (qk t u I J) else (if kd x0 = 1 then (if (0 : Int) ≤ wr (x1 + x5) ∧ wr (x1 + x5) < ln x0 then (if kd x0 = 1 then (if (0 : Int) ≤ wr (x1 + x5) ∧ wr (x1 + x5) < ln x0 then q_E (217, 12, [vr x0, vi x1, vi x2, vi x3, vi (wr (x4 + 1)), vi (wr (x5 + 1))], []) (qk t u (uI I x0 (Int.toNat (wr (x1 + x5))) (wr ((I x0 (Int.toNat (wr (x1 + x5)))) - 1))) J) else none) else none) else none) else none)) else none) else none) else none) else none) else (if kd x0 = 1 then (if (0 : Int) ≤ wr (x1 + x5) ∧ wr (x1 + x5) < ln x0 then (if kd x0 = 1 then (if (0 : Int) ≤ wr (x1 + x5) ∧ wr (x1 + x5) < ln x0 then q_E (217, 12, [vr x0, vi x1, vi x2, vi x3, vi (wr (x4 + 1)), vi (wr (x5 + 1))], []) (qk t u (uI I x0 (Int.toNat (wr (x1 + x5))) (wr ((I x0 (Int.toNat (wr (x1 + x5)))) - 1))) J) else none) else none) else none) else none))) else (q_bv (q_E (213, 0, [vr x0, vi x1, vu, vu, vu], []) (qk t u I J)) fun M1 => q_E (217, 74, [vr x0, vi x1, vi x2, vi x3, vi x4, vi x5], []) M1)) := q_it_eq 400 [5, 12, 74] _ _
set_option maxRecDepth 20000 in
theorem e217_5 (t u : Nat) (I J : Nat → Nat → Int) (x0 : Nat) (x1 : Int) (x2 : Int) (y0 : Int) : q_E (217, 5, [vr x0, vi x1, vi x2, vu, vu, vu], [vi y0]) (qk t u I J) = q_E (217, 12, [vr x0, vi x1, vi x2, vi y0, vi 0, vi 0], []) (qk t u I J) := q_it_eq 400 [5, 12, 74] _ _
set_option maxRecDepth 20000 in
theorem e217_74 (t u : Nat) (I J : Nat → Nat → Int) (x0 : Nat) (x1 : Int) (x2 : Int) (x3 : Int) (x4 : Int) (x5 : Int) : q_E (217, 74, [vr x0, vi x1, vi x2, vi x3, vi x4, vi x5], []) (qk t u I J) = some (vi x4, (qk t u I J)) := q_it_eq 400 [5, 12, 74] _ _
/-! 218: StewardHeapsModel.giveOf([II)V -/
set_option maxRecDepth 20000 in
theorem e218_0 (t u : Nat) (I J : Nat → Nat → Int) (x1 : Nat) (x2 : Int) : q_E (218, 0, [vr 265, vr x1, vi x2, vu, vu, vu], []) (qk t u I J) = (q_bi (q_E (214, 0, [vr x1, vi x2, vu], []) (qk t u I J)) fun z M1 => q_E (218, 5, [vr 265, vr x1, vi x2, vu, vu, vu], [vi z]) M1) := q_it_eq 400 [5, 18, 53, 64] _ _
set_option maxRecDepth 20000 in
theorem e218_18 (t u : Nat) (I J : Nat → Nat → Int) (x1 : Nat) (x2 : Int) (x3 : Int) (x4 : Int) (x5 : Int) : q_E (218, 18, [vu, vr x1, vi x2, vi x3, vi x4, vi x5], []) (qk t u I J) = (if x5 < x3 then (if (0 : Int) < x4 then (if kd x1 = 1 then (if (0 : Int) ≤ wr (x2 + x5) ∧ wr (x2 + x5) < ln x1 then (if kd x1 = 1 then (if (0 : Int) ≤ wr (x2 + x5) ∧ wr (x2 + x5) < ln x1 then q_E (218, 18, [vu, vr x1, vi x2, vi x3, vi (wr (x4 + (-1))), vi (wr (x5 + 1))], []) (qk t u (uI I x1 (Int.toNat (wr (x2 + x5))) (wr ((I x1 (Int.toNat (wr (x2 + x5)))) + 1))) J) else none) else none) else none) else none) else (q_bv (q_E (213, 0, [vr x1, vi x2, vu, vu, vu], []) (qk t u I J)) fun M1 => q_E (218, 53, [vu, vr x1, vi x2, vu, vi x4, vu], []) M1)) else (q_bv (q_E (213, 0, [vr x1, vi x2, vu, vu, vu], []) (qk t u I J)) fun M1 => q_E (218, 53, [vu, vr x1, vi x2, vu, vi x4, vu], []) M1)) := q_it_eq 400 [5, 18, 53, 64] _ _
set_option maxRecDepth 20000 in
theorem e218_53 (t u : Nat) (I J : Nat → Nat → Int) (x1 : Nat) (x2 : Int) (x4 : Int) : q_E (218, 53, [vu, vr x1, vi x2, vu, vi x4, vu], []) (qk t u I J) = (if (0 : Int) < x4 then (q_bv (q_E (216, 0, [vr x1, vi x2, vi 1], []) (qk t u I J)) fun M1 => q_E (218, 64, [vu, vr x1, vi x2, vu, vi x4, vu], []) M1) else some (vu, (qk t u I J))) := q_it_eq 400 [5, 18, 53, 64] _ _
set_option maxRecDepth 20000 in
theorem e218_5 (t u : Nat) (I J : Nat → Nat → Int) (x1 : Nat) (x2 : Int) (y0 : Int) : q_E (218, 5, [vr 265, vr x1, vi x2, vu, vu, vu], [vi y0]) (qk t u I J) = (if kd x1 = 1 then (if (0 : Int) ≤ x2 ∧ x2 < ln x1 then (if kd x1 = 1 then (if (0 : Int) ≤ x2 ∧ x2 < ln x1 then q_E (218, 18, [vu, vr x1, vi x2, vi y0, vi (I x1 (Int.toNat x2)), vi 1], []) (qk t u (uI I x1 (Int.toNat x2) 0) J) else none) else none) else none) else none) := q_it_eq 400 [5, 18, 53, 64] _ _
set_option maxRecDepth 20000 in
theorem e218_64 (t u : Nat) (I J : Nat → Nat → Int) (x1 : Nat) (x2 : Int) (x4 : Int) : q_E (218, 64, [vu, vr x1, vi x2, vu, vi x4, vu], []) (qk t u I J) = q_E (218, 53, [vu, vr x1, vi x2, vu, vi (wr (x4 + (-1))), vu], []) (qk t u I J) := q_it_eq 400 [5, 18, 53, 64] _ _
/-! 219: StewardHeapsModel.nightOf([III)V -/
set_option maxRecDepth 20000 in
theorem e219_0 (t u : Nat) (I J : Nat → Nat → Int) (x1 : Nat) (x2 : Int) (x3 : Int) : q_E (219, 0, [vr 265, vr x1, vi x2, vi x3, vu], []) (qk t u I J) = (if kd x1 = 1 then (if (0 : Int) ≤ x2 ∧ x2 < ln x1 then (if I x1 (Int.toNat x2) = 0 then some (vu, (qk t u I J)) else (if x3 = 3 then (q_bv (q_E (218, 0, [vr 265, vr x1, vi x2, vu, vu, vu], []) (qk t u I J)) fun M1 => q_E (219, 18, [vr 265, vr x1, vi x2, vi x3, vu], []) M1) else (if x3 = 1 then (if kd x1 = 1 then (if (0 : Int) ≤ wr (x2 + 60) ∧ wr (x2 + 60) < ln x1 then (q_bi (q_E (217, 0, [vr x1, vi x2, vi 0, vu, vu, vu], []) (qk t u I J)) fun z M1 => q_E (219, 38, [vr 265, vr x1, vi x2, vi x3, vu], [vi z, vi (I x1 (Int.toNat (wr (x2 + 60))))]) M1) else none) else none) else (if x3 = 2 then (q_bi (q_E (217, 0, [vr x1, vi x2, vi 1, vu, vu, vu], []) (qk t u I J)) fun z M1 => q_E (219, 105, [vr 265, vr x1, vi x2, vi x3, vu], [vi z, vi x2, vr x1]) M1) else (q_bi (q_E (217, 0, [vr x1, vi x2, vi 0, vu, vu, vu], []) (qk t u I J)) fun z M1 => q_E (219, 105, [vr 265, vr x1, vi x2, vi x3, vu], [vi z, vi x2, vr x1]) M1))))) else none) else none) := q_it_eq 400 [18, 38, 41, 63, 105, 108, 113] _ _
set_option maxRecDepth 20000 in
theorem e219_41 (t u : Nat) (I J : Nat → Nat → Int) (x1 : Nat) (x2 : Int) (x4 : Int) : q_E (219, 41, [vr 265, vr x1, vi x2, vu, vi x4], []) (qk t u I J) = (if x4 < I 268 0 then (if kd x1 = 1 then (if (0 : Int) ≤ wr (x2 + 60) ∧ wr (x2 + 60) < ln x1 then q_E (219, 108, [vr 265, vr x1, vi x2, vu, vi x4], []) (qk t u (uI I x1 (Int.toNat (wr (x2 + 60))) x4) J) else none) else none) else (q_bv (q_E (216, 0, [vr x1, vi x2, vi (I 268 0)], []) (qk t u I J)) fun M1 => q_E (219, 63, [vr 265, vr x1, vi x2, vu, vi x4], []) M1)) := q_it_eq 400 [18, 38, 41, 63, 105, 108, 113] _ _
set_option maxRecDepth 20000 in
theorem e219_108 (t u : Nat) (I J : Nat → Nat → Int) (x1 : Nat) (x2 : Int) : q_E (219, 108, [vu, vr x1, vi x2, vu, vu], []) (qk t u I J) = (q_bv (q_E (213, 0, [vr x1, vi x2, vu, vu, vu], []) (qk t u I J)) fun M1 => q_E (219, 113, [vu, vr x1, vi x2, vu, vu], []) M1) := q_it_eq 400 [18, 38, 41, 63, 105, 108, 113] _ _
set_option maxRecDepth 20000 in
theorem e219_18 (t u : Nat) (I J : Nat → Nat → Int) (x1 : Nat) (x2 : Int) (x3 : Int) : q_E (219, 18, [vr 265, vr x1, vi x2, vi x3, vu], []) (qk t u I J) = q_E (219, 108, [vr 265, vr x1, vi x2, vi x3, vu], []) (qk t u I J) := q_it_eq 400 [18, 38, 41, 63, 105, 108, 113] _ _
set_option maxRecDepth 20000 in
theorem e219_38 (t u : Nat) (I J : Nat → Nat → Int) (x1 : Nat) (x2 : Int) (x3 : Int) (y0 : Int) (y1 : Int) : q_E (219, 38, [vr 265, vr x1, vi x2, vi x3, vu], [vi y0, vi y1]) (qk t u I J) = q_E (219, 41, [vr 265, vr x1, vi x2, vu, vi (wr (y1 + y0))], []) (qk t u I J) := q_it_eq 400 [18, 38, 41, 63, 105, 108, 113] _ _
set_option maxRecDepth 20000 in
theorem e219_105 (t u : Nat) (I J : Nat → Nat → Int) (x1 : Nat) (x2 : Int) (x3 : Int) (y0 : Int) (y1 : Int) (y2 : Nat) : q_E (219, 105, [vr 265, vr x1, vi x2, vi x3, vu], [vi y0, vi y1, vr y2]) (qk t u I J) = (q_bv (q_E (216, 0, [vr y2, vi y1, vi y0], []) (qk t u I J)) fun M1 => q_E (219, 108, [vr 265, vr x1, vi x2, vi x3, vu], []) M1) := q_it_eq 400 [18, 38, 41, 63, 105, 108, 113] _ _
set_option maxRecDepth 20000 in
theorem e219_63 (t u : Nat) (I J : Nat → Nat → Int) (x1 : Nat) (x2 : Int) (x4 : Int) : q_E (219, 63, [vr 265, vr x1, vi x2, vu, vi x4], []) (qk t u I J) = q_E (219, 41, [vr 265, vr x1, vi x2, vu, vi (wr (x4 - (I 268 0)))], []) (qk t u I J) := q_it_eq 400 [18, 38, 41, 63, 105, 108, 113] _ _
set_option maxRecDepth 20000 in
theorem e219_113 (t u : Nat) (I J : Nat → Nat → Int) (x1 : Nat) (x2 : Int) : q_E (219, 113, [vu, vr x1, vi x2, vu, vu], []) (qk t u I J) = some (vu, (qk t u I J)) := q_it_eq 400 [18, 38, 41, 63, 105, 108, 113] _ _

/-! 220: StewardHeapsModel.begin(I)V -/
set_option maxRecDepth 20000 in
theorem e220_0 (t u : Nat) (I J : Nat → Nat → Int) (x1 : Int) : q_E (220, 0, [vr 265, vi x1], []) (qk t u I J) = (q_bv (q_E (182, 0, [vr 272, vi (wr (61 * x1)), vr 275, vi 0, vi 61, vu], []) (qk t u I J)) fun M1 => q_E (220, 18, [vr 265, vi x1], []) M1) := q_it_eq 400 [18] _ _
set_option maxRecDepth 20000 in
theorem e220_18 (t u : Nat) (I J : Nat → Nat → Int) (x1 : Int) : q_E (220, 18, [vr 265, vi x1], []) (qk t u I J) = some (vu, (qk t u I J)) := q_it_eq 400 [18] _ _
/-! 221: StewardHeapsModel.nightsOn(II)V -/
set_option maxRecDepth 20000 in
theorem e221_0 (t u : Nat) (I J : Nat → Nat → Int) (x1 : Int) (x2 : Int) : q_E (221, 0, [vr 265, vi x1, vi x2, vu], []) (qk t u I J) = (q_bv (q_E (220, 0, [vr 265, vi x1], []) (qk t u I J)) fun M1 => q_E (221, 5, [vr 265, vi x1, vi x2, vu], []) M1) := q_it_eq 400 [5, 7, 29] _ _
set_option maxRecDepth 20000 in
theorem e221_7 (t u : Nat) (I J : Nat → Nat → Int) (x1 : Int) (x2 : Int) (x3 : Int) : q_E (221, 7, [vr 265, vi x1, vi x2, vi x3], []) (qk t u I J) = (if x3 < x2 then (if (0 : Int) ≤ wr (5 + x1) ∧ wr (5 + x1) < 71 then (q_bv (q_E (219, 0, [vr 265, vr 275, vi 0, vi (I 268 (Int.toNat (wr (5 + x1)))), vu], []) (qk t u I J)) fun M1 => q_E (221, 29, [vr 265, vi x1, vi x2, vi x3], []) M1) else none) else some (vu, (qk t u I J))) := q_it_eq 400 [5, 7, 29] _ _
set_option maxRecDepth 20000 in
theorem e221_5 (t u : Nat) (I J : Nat → Nat → Int) (x1 : Int) (x2 : Int) : q_E (221, 5, [vr 265, vi x1, vi x2, vu], []) (qk t u I J) = q_E (221, 7, [vr 265, vi x1, vi x2, vi 0], []) (qk t u I J) := q_it_eq 400 [5, 7, 29] _ _
set_option maxRecDepth 20000 in
theorem e221_29 (t u : Nat) (I J : Nat → Nat → Int) (x1 : Int) (x2 : Int) (x3 : Int) : q_E (221, 29, [vr 265, vi x1, vi x2, vi x3], []) (qk t u I J) = q_E (221, 7, [vr 265, vi x1, vi x2, vi (wr (x3 + 1))], []) (qk t u I J) := q_it_eq 400 [5, 7, 29] _ _
/-! 222: StewardHeapsModel.isSame([II[III)Z -/
set_option maxRecDepth 20000 in
theorem e222_0 (t u : Nat) (I J : Nat → Nat → Int) (x0 : Nat) (x1 : Int) (x2 : Nat) (x3 : Int) (x4 : Int) : q_E (222, 0, [vr x0, vi x1, vr x2, vi x3, vi x4, vu], []) (qk t u I J) = q_E (222, 3, [vr x0, vi x1, vr x2, vi x3, vi x4, vi 0], []) (qk t u I J) := q_it_eq 400 [3] _ _
set_option maxRecDepth 20000 in
theorem e222_3 (t u : Nat) (I J : Nat → Nat → Int) (x0 : Nat) (x1 : Int) (x2 : Nat) (x3 : Int) (x4 : Int) (x5 : Int) : q_E (222, 3, [vr x0, vi x1, vr x2, vi x3, vi x4, vi x5], []) (qk t u I J) = (if x5 < x4 then (if kd x0 = 1 then (if (0 : Int) ≤ wr (x1 + x5) ∧ wr (x1 + x5) < ln x0 then (if kd x2 = 1 then (if (0 : Int) ≤ wr (x3 + x5) ∧ wr (x3 + x5) < ln x2 then (if I x0 (Int.toNat (wr (x1 + x5))) = I x2 (Int.toNat (wr (x3 + x5))) then q_E (222, 3, [vr x0, vi x1, vr x2, vi x3, vi x4, vi (wr (x5 + 1))], []) (qk t u I J) else some (vi 0, (qk t u I J))) else none) else none) else none) else none) else some (vi 1, (qk t u I J))) := q_it_eq 400 [3] _ _
/-! 223: StewardHeapsModel.cellar(II)I -/
set_option maxRecDepth 20000 in
theorem e223_0 (t u : Nat) (I J : Nat → Nat → Int) (x1 : Int) (x2 : Int) : q_E (223, 0, [vr 265, vi x1, vi x2], []) (qk t u I J) = (q_bv (q_E (177, 0, [vr 265], []) (qk t u I J)) fun M1 => q_E (223, 4, [vr 265, vi x1, vi x2], []) M1) := q_it_eq 400 [4, 9, 18, 26, 80, 92] _ _
set_option maxRecDepth 20000 in
theorem e223_4 (t u : Nat) (I J : Nat → Nat → Int) (x1 : Int) (x2 : Int) : q_E (223, 4, [vr 265, vi x1, vi x2], []) (qk t u I J) = (q_bi (q_E (210, 0, [vr 265, vi x1], []) (qk t u I J)) fun z M1 => q_E (223, 9, [vr 265, vi x1, vi x2], [vi z]) M1) := q_it_eq 400 [4, 9, 18, 26, 80, 92] _ _
set_option maxRecDepth 20000 in
theorem e223_9 (t u : Nat) (I J : Nat → Nat → Int) (x1 : Int) (x2 : Int) (y0 : Int) : q_E (223, 9, [vr 265, vi x1, vi x2], [vi y0]) (qk t u I J) = (if y0 = 0 then (q_bi (q_E (178, 0, [vr 265, vi 1], []) (qk t u I J)) fun z M1 => q_E (223, 26, [vr 265, vi x1, vi x2], [vi z]) M1) else (q_bi (q_E (180, 0, [vi x2, vi 0, vi 4], []) (qk t u I J)) fun z M1 => q_E (223, 18, [vr 265, vi x1, vi x2], [vi z]) M1)) := q_it_eq 400 [4, 9, 18, 26, 80, 92] _ _
set_option maxRecDepth 20000 in
theorem e223_26 (t u : Nat) (I J : Nat → Nat → Int) (x1 : Int) (x2 : Int) (y0 : Int) : q_E (223, 26, [vr 265, vi x1, vi x2], [vi y0]) (qk t u I J) = some (vi y0, (qk t u I J)) := q_it_eq 400 [4, 9, 18, 26, 80, 92] _ _
set_option maxRecDepth 20000 in
theorem e223_18 (t u : Nat) (I J : Nat → Nat → Int) (x1 : Int) (x2 : Int) (y0 : Int) : q_E (223, 18, [vr 265, vi x1, vi x2], [vi y0]) (qk t u I J) = (if y0 = 0 then (q_bi (q_E (178, 0, [vr 265, vi 1], []) (qk t u I J)) fun z M1 => q_E (223, 26, [vr 265, vi x1, vi x2], [vi z]) M1) else (if x2 = 0 then (if (0 : Int) ≤ wr (5 + x1) ∧ wr (5 + x1) < 71 then some (vi (I 268 (Int.toNat (wr (5 + x1)))), (qk t u I J)) else none) else (if x2 = 1 then (q_bi (q_E (214, 0, [vr 272, vi (wr (61 * x1)), vu], []) (qk t u I J)) fun z M1 => q_E (223, 80, [vr 265, vi x1, vi x2], [vi z]) M1) else (if x2 = 2 then (q_bi (q_E (215, 0, [vr 272, vi (wr (61 * x1)), vu, vu], []) (qk t u I J)) fun z M1 => q_E (223, 92, [vr 265, vi x1, vi x2], [vi z]) M1) else (if x2 = 3 then (if (0 : Int) ≤ wr (61 * x1) ∧ wr (61 * x1) < 245 then some (vi (I 272 (Int.toNat (wr (61 * x1)))), (qk t u I J)) else none) else (if (0 : Int) ≤ wr ((wr (61 * x1)) + 60) ∧ wr ((wr (61 * x1)) + 60) < 245 then some (vi (I 272 (Int.toNat (wr ((wr (61 * x1)) + 60)))), (qk t u I J)) else none)))))) := q_it_eq 400 [4, 9, 18, 26, 80, 92] _ _
set_option maxRecDepth 20000 in
theorem e223_80 (t u : Nat) (I J : Nat → Nat → Int) (x1 : Int) (x2 : Int) (y0 : Int) : q_E (223, 80, [vr 265, vi x1, vi x2], [vi y0]) (qk t u I J) = some (vi y0, (qk t u I J)) := q_it_eq 400 [4, 9, 18, 26, 80, 92] _ _
set_option maxRecDepth 20000 in
theorem e223_92 (t u : Nat) (I J : Nat → Nat → Int) (x1 : Int) (x2 : Int) (y0 : Int) : q_E (223, 92, [vr 265, vi x1, vi x2], [vi y0]) (qk t u I J) = (if (0 : Int) ≤ wr ((wr (61 * x1)) + 60) ∧ wr ((wr (61 * x1)) + 60) < 245 then some (vi (wr (y0 + (I 272 (Int.toNat (wr ((wr (61 * x1)) + 60)))))), (qk t u I J)) else none) := q_it_eq 400 [4, 9, 18, 26, 80, 92] _ _
/-! 224: StewardHeapsModel.heap(II)I -/
set_option maxRecDepth 20000 in
theorem e224_0 (t u : Nat) (I J : Nat → Nat → Int) (x1 : Int) (x2 : Int) : q_E (224, 0, [vr 265, vi x1, vi x2], []) (qk t u I J) = (q_bv (q_E (177, 0, [vr 265], []) (qk t u I J)) fun M1 => q_E (224, 4, [vr 265, vi x1, vi x2], []) M1) := q_it_eq 400 [4, 9, 25, 30, 52] _ _
set_option maxRecDepth 20000 in
theorem e224_4 (t u : Nat) (I J : Nat → Nat → Int) (x1 : Int) (x2 : Int) : q_E (224, 4, [vr 265, vi x1, vi x2], []) (qk t u I J) = (q_bi (q_E (210, 0, [vr 265, vi x1], []) (qk t u I J)) fun z M1 => q_E (224, 9, [vr 265, vi x1, vi x2], [vi z]) M1) := q_it_eq 400 [4, 9, 25, 30, 52] _ _
set_option maxRecDepth 20000 in
theorem e224_9 (t u : Nat) (I J : Nat → Nat → Int) (x1 : Int) (x2 : Int) (y0 : Int) : q_E (224, 9, [vr 265, vi x1, vi x2], [vi y0]) (qk t u I J) = (if y0 = 0 then (q_bi (q_E (178, 0, [vr 265, vi 1], []) (qk t u I J)) fun z M1 => q_E (224, 52, [vr 265, vi x1, vi x2], [vi z]) M1) else (q_bi (q_E (214, 0, [vr 272, vi (wr (61 * x1)), vu], []) (qk t u I J)) fun z M1 => q_E (224, 25, [vr 265, vi x1, vi x2], [vi z, vi 0, vi x2]) M1)) := q_it_eq 400 [4, 9, 25, 30, 52] _ _
set_option maxRecDepth 20000 in
theorem e224_52 (t u : Nat) (I J : Nat → Nat → Int) (x1 : Int) (x2 : Int) (y0 : Int) : q_E (224, 52, [vr 265, vi x1, vi x2], [vi y0]) (qk t u I J) = some (vi y0, (qk t u I J)) := q_it_eq 400 [4, 9, 25, 30, 52] _ _
set_option maxRecDepth 20000 in
theorem e224_25 (t u : Nat) (I J : Nat → Nat → Int) (x1 : Int) (x2 : Int) (y0 : Int) (y1 : Int) (y2 : Int) : q_E (224, 25, [vr 265, vi x1, vi x2], [vi y0, vi y1, vi y2]) (qk t u I J) = (q_bi (q_E (180, 0, [vi y2, vi y1, vi (wr (y0 - 1))], []) (qk t u I J)) fun z M1 => q_E (224, 30, [vr 265, vi x1, vi x2], [vi z]) M1) := q_it_eq 400 [4, 9, 25, 30, 52] _ _
set_option maxRecDepth 20000 in
theorem e224_30 (t u : Nat) (I J : Nat → Nat → Int) (x1 : Int) (x2 : Int) (y0 : Int) : q_E (224, 30, [vr 265, vi x1, vi x2], [vi y0]) (qk t u I J) = (if y0 = 0 then (q_bi (q_E (178, 0, [vr 265, vi 1], []) (qk t u I J)) fun z M1 => q_E (224, 52, [vr 265, vi x1, vi x2], [vi z]) M1) else (if (0 : Int) ≤ wr ((wr (61 * x1)) + x2) ∧ wr ((wr (61 * x1)) + x2) < 245 then q_E (224, 52, [vr 265, vi x1, vi x2], [vi (I 272 (Int.toNat (wr ((wr (61 * x1)) + x2))))]) (qk t u I J) else none)) := q_it_eq 400 [4, 9, 25, 30, 52] _ _
/-! 225: StewardHeapsModel.isStill(I)Z -/
set_option maxRecDepth 20000 in
theorem e225_0 (t u : Nat) (I J : Nat → Nat → Int) (x1 : Int) : q_E (225, 0, [vr 265, vi x1], []) (qk t u I J) = (q_bv (q_E (221, 0, [vr 265, vi x1, vi 1, vu], []) (qk t u I J)) fun M1 => q_E (225, 6, [vr 265, vi x1], []) M1) := q_it_eq 400 [6, 24] _ _
set_option maxRecDepth 20000 in
theorem e225_6 (t u : Nat) (I J : Nat → Nat → Int) (x1 : Int) : q_E (225, 6, [vr 265, vi x1], []) (qk t u I J) = (q_bi (q_E (222, 0, [vr 275, vi 0, vr 272, vi (wr (61 * x1)), vi 61, vu], []) (qk t u I J)) fun z M1 => q_E (225, 24, [vr 265, vi x1], [vi z]) M1) := q_it_eq 400 [6, 24] _ _
set_option maxRecDepth 20000 in
theorem e225_24 (t u : Nat) (I J : Nat → Nat → Int) (x1 : Int) (y0 : Int) : q_E (225, 24, [vr 265, vi x1], [vi y0]) (qk t u I J) = (if y0 = 0 ∨ y0 = 1 then some (vi y0, (qk t u I J)) else none) := q_it_eq 400 [6, 24] _ _
/-! 226: StewardHeapsModel.still(I)I -/
set_option maxRecDepth 20000 in
theorem e226_0 (t u : Nat) (I J : Nat → Nat → Int) (x1 : Int) : q_E (226, 0, [vr 265, vi x1], []) (qk t u I J) = (q_bv (q_E (177, 0, [vr 265], []) (qk t u I J)) fun M1 => q_E (226, 4, [vr 265, vi x1], []) M1) := q_it_eq 400 [4, 9, 17, 23] _ _
set_option maxRecDepth 20000 in
theorem e226_4 (t u : Nat) (I J : Nat → Nat → Int) (x1 : Int) : q_E (226, 4, [vr 265, vi x1], []) (qk t u I J) = (q_bi (q_E (210, 0, [vr 265, vi x1], []) (qk t u I J)) fun z M1 => q_E (226, 9, [vr 265, vi x1], [vi z]) M1) := q_it_eq 400 [4, 9, 17, 23] _ _
set_option maxRecDepth 20000 in
theorem e226_9 (t u : Nat) (I J : Nat → Nat → Int) (x1 : Int) (y0 : Int) : q_E (226, 9, [vr 265, vi x1], [vi y0]) (qk t u I J) = (if y0 = 0 then (q_bi (q_E (178, 0, [vr 265, vi 1], []) (qk t u I J)) fun z M1 => q_E (226, 17, [vr 265, vi x1], [vi z]) M1) else (q_bi (q_E (225, 0, [vr 265, vi x1], []) (qk t u I J)) fun z M1 => q_E (226, 23, [vr 265, vi x1], [vi z]) M1)) := q_it_eq 400 [4, 9, 17, 23] _ _
set_option maxRecDepth 20000 in
theorem e226_17 (t u : Nat) (I J : Nat → Nat → Int) (x1 : Int) (y0 : Int) : q_E (226, 17, [vr 265, vi x1], [vi y0]) (qk t u I J) = some (vi y0, (qk t u I J)) := q_it_eq 400 [4, 9, 17, 23] _ _
set_option maxRecDepth 20000 in
theorem e226_23 (t u : Nat) (I J : Nat → Nat → Int) (x1 : Int) (y0 : Int) : q_E (226, 23, [vr 265, vi x1], [vi y0]) (qk t u I J) = (if y0 = 0 then some (vi 0, (qk t u I J)) else some (vi 1, (qk t u I J))) := q_it_eq 400 [4, 9, 17, 23] _ _
/-! 227: StewardHeapsModel.aheadWhy(II)I -/
set_option maxRecDepth 20000 in
theorem e227_0 (t u : Nat) (I J : Nat → Nat → Int) (x1 : Int) (x2 : Int) : q_E (227, 0, [vr 265, vi x1, vi x2], []) (qk t u I J) = (q_bi (q_E (210, 0, [vr 265, vi x1], []) (qk t u I J)) fun z M1 => q_E (227, 6, [vr 265, vi x1, vi x2], [vi z, vr 265]) M1) := q_it_eq 400 [6, 14, 17] _ _
set_option maxRecDepth 20000 in
theorem e227_6 (t u : Nat) (I J : Nat → Nat → Int) (x1 : Int) (x2 : Int) (y0 : Int) (y1 : Nat) : q_E (227, 6, [vr 265, vi x1, vi x2], [vi y0, vr y1]) (qk t u I J) = (q_bi (q_E (180, 0, [vi x2, vi 0, vi 999], []) (qk t u I J)) fun z M1 => q_E (227, 14, [vr 265, vi x1, vi x2], [vi z, vi y0, vr y1]) M1) := q_it_eq 400 [6, 14, 17] _ _
set_option maxRecDepth 20000 in
theorem e227_14 (t u : Nat) (I J : Nat → Nat → Int) (x1 : Int) (x2 : Int) (y0 : Int) (y1 : Int) (y2 : Nat) : q_E (227, 14, [vr 265, vi x1, vi x2], [vi y0, vi y1, vr y2]) (qk t u I J) = (if kd y2 = 21 then (q_bi (q_E (212, 0, [vr y2, vi y1, vi y0], []) (qk t u I J)) fun z M1 => q_E (227, 17, [vr 265, vi x1, vi x2], [vi z]) M1) else none) := q_it_eq 400 [6, 14, 17] _ _
set_option maxRecDepth 20000 in
theorem e227_17 (t u : Nat) (I J : Nat → Nat → Int) (x1 : Int) (x2 : Int) (y0 : Int) : q_E (227, 17, [vr 265, vi x1, vi x2], [vi y0]) (qk t u I J) = some (vi y0, (qk t u I J)) := q_it_eq 400 [6, 14, 17] _ _
/-! 228: StewardHeapsModel.heaps(II)I -/
set_option maxRecDepth 20000 in
theorem e228_0 (t u : Nat) (I J : Nat → Nat → Int) (x1 : Int) (x2 : Int) : q_E (228, 0, [vr 265, vi x1, vi x2, vu], []) (qk t u I J) = (q_bv (q_E (177, 0, [vr 265], []) (qk t u I J)) fun M1 => q_E (228, 4, [vr 265, vi x1, vi x2, vu], []) M1) := q_it_eq 400 [4, 10, 20, 27, 35] _ _
set_option maxRecDepth 20000 in
theorem e228_4 (t u : Nat) (I J : Nat → Nat → Int) (x1 : Int) (x2 : Int) : q_E (228, 4, [vr 265, vi x1, vi x2, vu], []) (qk t u I J) = (q_bi (q_E (227, 0, [vr 265, vi x1, vi x2], []) (qk t u I J)) fun z M1 => q_E (228, 10, [vr 265, vi x1, vi x2, vu], [vi z]) M1) := q_it_eq 400 [4, 10, 20, 27, 35] _ _
set_option maxRecDepth 20000 in
theorem e228_10 (t u : Nat) (I J : Nat → Nat → Int) (x1 : Int) (x2 : Int) (y0 : Int) : q_E (228, 10, [vr 265, vi x1, vi x2, vu], [vi y0]) (qk t u I J) = (if y0 = 0 then (q_bv (q_E (221, 0, [vr 265, vi x1, vi x2, vu], []) (qk t u I J)) fun M1 => q_E (228, 27, [vr 265, vi x1, vi x2, vi y0], []) M1) else (q_bi (q_E (178, 0, [vr 265, vi y0], []) (qk t u I J)) fun z M1 => q_E (228, 20, [vr 265, vi x1, vi x2, vi y0], [vi z]) M1)) := q_it_eq 400 [4, 10, 20, 27, 35] _ _
set_option maxRecDepth 20000 in
theorem e228_27 (t u : Nat) (I J : Nat → Nat → Int) (x1 : Int) (x2 : Int) (x3 : Int) : q_E (228, 27, [vr 265, vi x1, vi x2, vi x3], []) (qk t u I J) = (q_bi (q_E (214, 0, [vr 275, vi 0, vu], []) (qk t u I J)) fun z M1 => q_E (228, 35, [vr 265, vi x1, vi x2, vi x3], [vi z]) M1) := q_it_eq 400 [4, 10, 20, 27, 35] _ _
set_option maxRecDepth 20000 in
theorem e228_20 (t u : Nat) (I J : Nat → Nat → Int) (x1 : Int) (x2 : Int) (x3 : Int) (y0 : Int) : q_E (228, 20, [vr 265, vi x1, vi x2, vi x3], [vi y0]) (qk t u I J) = some (vi y0, (qk t u I J)) := q_it_eq 400 [4, 10, 20, 27, 35] _ _
set_option maxRecDepth 20000 in
theorem e228_35 (t u : Nat) (I J : Nat → Nat → Int) (x1 : Int) (x2 : Int) (x3 : Int) (y0 : Int) : q_E (228, 35, [vr 265, vi x1, vi x2, vi x3], [vi y0]) (qk t u I J) = some (vi y0, (qk t u I J)) := q_it_eq 400 [4, 10, 20, 27, 35] _ _
/-! 229: StewardHeapsModel.greatest(II)I -/
set_option maxRecDepth 20000 in
theorem e229_0 (t u : Nat) (I J : Nat → Nat → Int) (x1 : Int) (x2 : Int) : q_E (229, 0, [vr 265, vi x1, vi x2, vu], []) (qk t u I J) = (q_bv (q_E (177, 0, [vr 265], []) (qk t u I J)) fun M1 => q_E (229, 4, [vr 265, vi x1, vi x2, vu], []) M1) := q_it_eq 400 [4, 10, 20, 27] _ _
set_option maxRecDepth 20000 in
theorem e229_4 (t u : Nat) (I J : Nat → Nat → Int) (x1 : Int) (x2 : Int) : q_E (229, 4, [vr 265, vi x1, vi x2, vu], []) (qk t u I J) = (q_bi (q_E (227, 0, [vr 265, vi x1, vi x2], []) (qk t u I J)) fun z M1 => q_E (229, 10, [vr 265, vi x1, vi x2, vu], [vi z]) M1) := q_it_eq 400 [4, 10, 20, 27] _ _
set_option maxRecDepth 20000 in
theorem e229_10 (t u : Nat) (I J : Nat → Nat → Int) (x1 : Int) (x2 : Int) (y0 : Int) : q_E (229, 10, [vr 265, vi x1, vi x2, vu], [vi y0]) (qk t u I J) = (if y0 = 0 then (q_bv (q_E (221, 0, [vr 265, vi x1, vi x2, vu], []) (qk t u I J)) fun M1 => q_E (229, 27, [vr 265, vi x1, vi x2, vi y0], []) M1) else (q_bi (q_E (178, 0, [vr 265, vi y0], []) (qk t u I J)) fun z M1 => q_E (229, 20, [vr 265, vi x1, vi x2, vi y0], [vi z]) M1)) := q_it_eq 400 [4, 10, 20, 27] _ _
set_option maxRecDepth 20000 in
theorem e229_27 (t u : Nat) (I J : Nat → Nat → Int) (x1 : Int) (x2 : Int) (x3 : Int) : q_E (229, 27, [vr 265, vi x1, vi x2, vi x3], []) (qk t u I J) = some (vi (I 275 0), (qk t u I J)) := q_it_eq 400 [4, 10, 20, 27] _ _
set_option maxRecDepth 20000 in
theorem e229_20 (t u : Nat) (I J : Nat → Nat → Int) (x1 : Int) (x2 : Int) (x3 : Int) (y0 : Int) : q_E (229, 20, [vr 265, vi x1, vi x2, vi x3], [vi y0]) (qk t u I J) = some (vi y0, (qk t u I J)) := q_it_eq 400 [4, 10, 20, 27] _ _
/-! 230: StewardHeapsModel.heapIn(III)I -/
set_option maxRecDepth 20000 in
theorem e230_0 (t u : Nat) (I J : Nat → Nat → Int) (x1 : Int) (x2 : Int) (x3 : Int) : q_E (230, 0, [vr 265, vi x1, vi x2, vi x3, vu], []) (qk t u I J) = (q_bv (q_E (177, 0, [vr 265], []) (qk t u I J)) fun M1 => q_E (230, 4, [vr 265, vi x1, vi x2, vi x3, vu], []) M1) := q_it_eq 400 [4, 10, 24, 41, 48] _ _
set_option maxRecDepth 20000 in
theorem e230_4 (t u : Nat) (I J : Nat → Nat → Int) (x1 : Int) (x2 : Int) (x3 : Int) : q_E (230, 4, [vr 265, vi x1, vi x2, vi x3, vu], []) (qk t u I J) = (q_bi (q_E (227, 0, [vr 265, vi x1, vi x2], []) (qk t u I J)) fun z M1 => q_E (230, 10, [vr 265, vi x1, vi x2, vi x3, vu], [vi z]) M1) := q_it_eq 400 [4, 10, 24, 41, 48] _ _
set_option maxRecDepth 20000 in
theorem e230_10 (t u : Nat) (I J : Nat → Nat → Int) (x1 : Int) (x2 : Int) (x3 : Int) (y0 : Int) : q_E (230, 10, [vr 265, vi x1, vi x2, vi x3, vu], [vi y0]) (qk t u I J) = (if y0 = 0 then (q_bi (q_E (180, 0, [vi x3, vi 0, vi 59], []) (qk t u I J)) fun z M1 => q_E (230, 24, [vr 265, vi x1, vi x2, vi x3, vi y0], [vi z]) M1) else (if y0 = 0 then (q_bv (q_E (221, 0, [vr 265, vi x1, vi x2, vu], []) (qk t u I J)) fun M1 => q_E (230, 48, [vr 265, vi x1, vi x2, vi x3, vi y0], []) M1) else (q_bi (q_E (178, 0, [vr 265, vi y0], []) (qk t u I J)) fun z M1 => q_E (230, 41, [vr 265, vi x1, vi x2, vi x3, vi y0], [vi z]) M1))) := q_it_eq 400 [4, 10, 24, 41, 48] _ _
set_option maxRecDepth 20000 in
theorem e230_24 (t u : Nat) (I J : Nat → Nat → Int) (x1 : Int) (x2 : Int) (x3 : Int) (x4 : Int) (y0 : Int) : q_E (230, 24, [vr 265, vi x1, vi x2, vi x3, vi x4], [vi y0]) (qk t u I J) = (if y0 = 0 then (q_bi (q_E (178, 0, [vr 265, vi 2], []) (qk t u I J)) fun z M1 => q_E (230, 41, [vr 265, vi x1, vi x2, vi x3, vi 2], [vi z]) M1) else (if x4 = 0 then (q_bv (q_E (221, 0, [vr 265, vi x1, vi x2, vu], []) (qk t u I J)) fun M1 => q_E (230, 48, [vr 265, vi x1, vi x2, vi x3, vi x4], []) M1) else (q_bi (q_E (178, 0, [vr 265, vi x4], []) (qk t u I J)) fun z M1 => q_E (230, 41, [vr 265, vi x1, vi x2, vi x3, vi x4], [vi z]) M1))) := q_it_eq 400 [4, 10, 24, 41, 48] _ _
set_option maxRecDepth 20000 in
theorem e230_48 (t u : Nat) (I J : Nat → Nat → Int) (x1 : Int) (x2 : Int) (x3 : Int) (x4 : Int) : q_E (230, 48, [vr 265, vi x1, vi x2, vi x3, vi x4], []) (qk t u I J) = (if (0 : Int) ≤ x3 ∧ x3 < 61 then some (vi (I 275 (Int.toNat x3)), (qk t u I J)) else none) := q_it_eq 400 [4, 10, 24, 41, 48] _ _
set_option maxRecDepth 20000 in
theorem e230_41 (t u : Nat) (I J : Nat → Nat → Int) (x1 : Int) (x2 : Int) (x3 : Int) (x4 : Int) (y0 : Int) : q_E (230, 41, [vr 265, vi x1, vi x2, vi x3, vi x4], [vi y0]) (qk t u I J) = some (vi y0, (qk t u I J)) := q_it_eq 400 [4, 10, 24, 41, 48] _ _
/-! 231: StewardHeapsModel.held(II)I -/
set_option maxRecDepth 20000 in
theorem e231_0 (t u : Nat) (I J : Nat → Nat → Int) (x1 : Int) (x2 : Int) : q_E (231, 0, [vr 265, vi x1, vi x2, vu], []) (qk t u I J) = (q_bv (q_E (177, 0, [vr 265], []) (qk t u I J)) fun M1 => q_E (231, 4, [vr 265, vi x1, vi x2, vu], []) M1) := q_it_eq 400 [4, 10, 20, 27] _ _
set_option maxRecDepth 20000 in
theorem e231_4 (t u : Nat) (I J : Nat → Nat → Int) (x1 : Int) (x2 : Int) : q_E (231, 4, [vr 265, vi x1, vi x2, vu], []) (qk t u I J) = (q_bi (q_E (227, 0, [vr 265, vi x1, vi x2], []) (qk t u I J)) fun z M1 => q_E (231, 10, [vr 265, vi x1, vi x2, vu], [vi z]) M1) := q_it_eq 400 [4, 10, 20, 27] _ _
set_option maxRecDepth 20000 in
theorem e231_10 (t u : Nat) (I J : Nat → Nat → Int) (x1 : Int) (x2 : Int) (y0 : Int) : q_E (231, 10, [vr 265, vi x1, vi x2, vu], [vi y0]) (qk t u I J) = (if y0 = 0 then (q_bv (q_E (221, 0, [vr 265, vi x1, vi x2, vu], []) (qk t u I J)) fun M1 => q_E (231, 27, [vr 265, vi x1, vi x2, vi y0], []) M1) else (q_bi (q_E (178, 0, [vr 265, vi y0], []) (qk t u I J)) fun z M1 => q_E (231, 20, [vr 265, vi x1, vi x2, vi y0], [vi z]) M1)) := q_it_eq 400 [4, 10, 20, 27] _ _
set_option maxRecDepth 20000 in
theorem e231_27 (t u : Nat) (I J : Nat → Nat → Int) (x1 : Int) (x2 : Int) (x3 : Int) : q_E (231, 27, [vr 265, vi x1, vi x2, vi x3], []) (qk t u I J) = some (vi (I 275 60), (qk t u I J)) := q_it_eq 400 [4, 10, 20, 27] _ _
set_option maxRecDepth 20000 in
theorem e231_20 (t u : Nat) (I J : Nat → Nat → Int) (x1 : Int) (x2 : Int) (x3 : Int) (y0 : Int) : q_E (231, 20, [vr 265, vi x1, vi x2, vi x3], [vi y0]) (qk t u I J) = some (vi y0, (qk t u I J)) := q_it_eq 400 [4, 10, 20, 27] _ _
/-! 232: StewardHeapsModel.goRound(I)V -/
set_option maxRecDepth 20000 in
theorem e232_0 (t u : Nat) (I J : Nat → Nat → Int) (x1 : Int) : q_E (232, 0, [vr 265, vi x1, vu, vu], []) (qk t u I J) = (q_bv (q_E (220, 0, [vr 265, vi x1], []) (qk t u (uI (uI I 265 28 (-2)) 265 29 (-2)) J)) fun M1 => q_E (232, 17, [vr 265, vi x1, vu, vu], []) M1) := q_it_eq 400 [17, 19, 28, 51, 94, 111] _ _
set_option maxRecDepth 20000 in
theorem e232_19 (t u : Nat) (I J : Nat → Nat → Int) (x1 : Int) (x2 : Int) : q_E (232, 19, [vr 265, vi x1, vi x2, vu], []) (qk t u I J) = (if (400 : Int) < x2 then some (vu, (qk t u I J)) else q_E (232, 28, [vr 265, vi x1, vi x2, vi 0], []) (qk t u I J)) := q_it_eq 400 [17, 19, 28, 51, 94, 111] _ _
set_option maxRecDepth 20000 in
theorem e232_28 (t u : Nat) (I J : Nat → Nat → Int) (x1 : Int) (x2 : Int) (x3 : Int) : q_E (232, 28, [vr 265, vi x1, vi x2, vi x3], []) (qk t u I J) = (if x3 < x2 then (q_bi (q_E (222, 0, [vr 275, vi 0, vr 277, vi (wr (61 * x3)), vi 61, vu], []) (qk t u I J)) fun z M1 => q_E (232, 51, [vr 265, vi x1, vi x2, vi x3], [vi z]) M1) else (q_bv (q_E (182, 0, [vr 275, vi 0, vr 277, vi (wr (61 * x2)), vi 61, vu], []) (qk t u I J)) fun M1 => q_E (232, 94, [vr 265, vi x1, vi x2, vi x3], []) M1)) := q_it_eq 400 [17, 19, 28, 51, 94, 111] _ _
set_option maxRecDepth 20000 in
theorem e232_17 (t u : Nat) (I J : Nat → Nat → Int) (x1 : Int) : q_E (232, 17, [vr 265, vi x1, vu, vu], []) (qk t u I J) = q_E (232, 19, [vr 265, vi x1, vi 0, vu], []) (qk t u I J) := q_it_eq 400 [17, 19, 28, 51, 94, 111] _ _
set_option maxRecDepth 20000 in
theorem e232_51 (t u : Nat) (I J : Nat → Nat → Int) (x1 : Int) (x2 : Int) (x3 : Int) (y0 : Int) : q_E (232, 51, [vr 265, vi x1, vi x2, vi x3], [vi y0]) (qk t u I J) = (if y0 = 0 then q_E (232, 28, [vr 265, vi x1, vi x2, vi (wr (x3 + 1))], []) (qk t u I J) else some (vu, (qk t u (uI (uI I 265 28 x3) 265 29 (wr (x2 - x3))) J))) := q_it_eq 400 [17, 19, 28, 51, 94, 111] _ _
set_option maxRecDepth 20000 in
theorem e232_94 (t u : Nat) (I J : Nat → Nat → Int) (x1 : Int) (x2 : Int) (x3 : Int) : q_E (232, 94, [vr 265, vi x1, vi x2, vi x3], []) (qk t u I J) = (if (0 : Int) ≤ wr (5 + x1) ∧ wr (5 + x1) < 71 then (q_bv (q_E (219, 0, [vr 265, vr 275, vi 0, vi (I 268 (Int.toNat (wr (5 + x1)))), vu], []) (qk t u I J)) fun M1 => q_E (232, 111, [vr 265, vi x1, vi x2, vi x3], []) M1) else none) := q_it_eq 400 [17, 19, 28, 51, 94, 111] _ _
set_option maxRecDepth 20000 in
theorem e232_111 (t u : Nat) (I J : Nat → Nat → Int) (x1 : Int) (x2 : Int) (x3 : Int) : q_E (232, 111, [vr 265, vi x1, vi x2, vi x3], []) (qk t u I J) = q_E (232, 19, [vr 265, vi x1, vi (wr (x2 + 1)), vu], []) (qk t u I J) := q_it_eq 400 [17, 19, 28, 51, 94, 111] _ _
/-! 233: StewardHeapsModel.settles(I)I -/
set_option maxRecDepth 20000 in
theorem e233_0 (t u : Nat) (I J : Nat → Nat → Int) (x1 : Int) : q_E (233, 0, [vr 265, vi x1], []) (qk t u I J) = (q_bv (q_E (177, 0, [vr 265], []) (qk t u I J)) fun M1 => q_E (233, 4, [vr 265, vi x1], []) M1) := q_it_eq 400 [4, 9, 17, 23] _ _
set_option maxRecDepth 20000 in
theorem e233_4 (t u : Nat) (I J : Nat → Nat → Int) (x1 : Int) : q_E (233, 4, [vr 265, vi x1], []) (qk t u I J) = (q_bi (q_E (210, 0, [vr 265, vi x1], []) (qk t u I J)) fun z M1 => q_E (233, 9, [vr 265, vi x1], [vi z]) M1) := q_it_eq 400 [4, 9, 17, 23] _ _
set_option maxRecDepth 20000 in
theorem e233_9 (t u : Nat) (I J : Nat → Nat → Int) (x1 : Int) (y0 : Int) : q_E (233, 9, [vr 265, vi x1], [vi y0]) (qk t u I J) = (if y0 = 0 then (q_bi (q_E (178, 0, [vr 265, vi 1], []) (qk t u I J)) fun z M1 => q_E (233, 17, [vr 265, vi x1], [vi z]) M1) else (q_bv (q_E (232, 0, [vr 265, vi x1, vu, vu], []) (qk t u I J)) fun M1 => q_E (233, 23, [vr 265, vi x1], []) M1)) := q_it_eq 400 [4, 9, 17, 23] _ _
set_option maxRecDepth 20000 in
theorem e233_17 (t u : Nat) (I J : Nat → Nat → Int) (x1 : Int) (y0 : Int) : q_E (233, 17, [vr 265, vi x1], [vi y0]) (qk t u I J) = some (vi y0, (qk t u I J)) := q_it_eq 400 [4, 9, 17, 23] _ _
set_option maxRecDepth 20000 in
theorem e233_23 (t u : Nat) (I J : Nat → Nat → Int) (x1 : Int) : q_E (233, 23, [vr 265, vi x1], []) (qk t u I J) = some (vi (I 265 28), (qk t u I J)) := q_it_eq 400 [4, 9, 17, 23] _ _
/-! 234: StewardHeapsModel.round(I)I -/
set_option maxRecDepth 20000 in
theorem e234_0 (t u : Nat) (I J : Nat → Nat → Int) (x1 : Int) : q_E (234, 0, [vr 265, vi x1], []) (qk t u I J) = (q_bv (q_E (177, 0, [vr 265], []) (qk t u I J)) fun M1 => q_E (234, 4, [vr 265, vi x1], []) M1) := q_it_eq 400 [4, 9, 17, 23] _ _
set_option maxRecDepth 20000 in
theorem e234_4 (t u : Nat) (I J : Nat → Nat → Int) (x1 : Int) : q_E (234, 4, [vr 265, vi x1], []) (qk t u I J) = (q_bi (q_E (210, 0, [vr 265, vi x1], []) (qk t u I J)) fun z M1 => q_E (234, 9, [vr 265, vi x1], [vi z]) M1) := q_it_eq 400 [4, 9, 17, 23] _ _
set_option maxRecDepth 20000 in
theorem e234_9 (t u : Nat) (I J : Nat → Nat → Int) (x1 : Int) (y0 : Int) : q_E (234, 9, [vr 265, vi x1], [vi y0]) (qk t u I J) = (if y0 = 0 then (q_bi (q_E (178, 0, [vr 265, vi 1], []) (qk t u I J)) fun z M1 => q_E (234, 17, [vr 265, vi x1], [vi z]) M1) else (q_bv (q_E (232, 0, [vr 265, vi x1, vu, vu], []) (qk t u I J)) fun M1 => q_E (234, 23, [vr 265, vi x1], []) M1)) := q_it_eq 400 [4, 9, 17, 23] _ _
set_option maxRecDepth 20000 in
theorem e234_17 (t u : Nat) (I J : Nat → Nat → Int) (x1 : Int) (y0 : Int) : q_E (234, 17, [vr 265, vi x1], [vi y0]) (qk t u I J) = some (vi y0, (qk t u I J)) := q_it_eq 400 [4, 9, 17, 23] _ _
set_option maxRecDepth 20000 in
theorem e234_23 (t u : Nat) (I J : Nat → Nat → Int) (x1 : Int) : q_E (234, 23, [vr 265, vi x1], []) (qk t u I J) = some (vi (I 265 29), (qk t u I J)) := q_it_eq 400 [4, 9, 17, 23] _ _
/-! 235: StewardHeapsModel.fewest(I)I -/
set_option maxRecDepth 20000 in
theorem e235_0 (t u : Nat) (I J : Nat → Nat → Int) (x1 : Int) : q_E (235, 0, [vr 265, vi x1, vu, vu, vu, vu], []) (qk t u I J) = (q_bv (q_E (177, 0, [vr 265], []) (qk t u I J)) fun M1 => q_E (235, 4, [vr 265, vi x1, vu, vu, vu, vu], []) M1) := q_it_eq 400 [4, 9, 17, 23, 32, 48, 79] _ _
set_option maxRecDepth 20000 in
theorem e235_32 (t u : Nat) (I J : Nat → Nat → Int) (x1 : Int) (x2 : Int) (x3 : Int) (x4 : Int) : q_E (235, 32, [vr 265, vi x1, vi x2, vi x3, vi x4, vu], []) (qk t u I J) = (if (400 : Int) < x4 then some (vi x2, (qk t u I J)) else (q_bi (q_E (214, 0, [vr 275, vi 0, vu], []) (qk t u I J)) fun z M1 => q_E (235, 48, [vr 265, vi x1, vi x2, vi x3, vi x4, vu], [vi z]) M1)) := q_it_eq 400 [4, 9, 17, 23, 32, 48, 79] _ _
set_option maxRecDepth 20000 in
theorem e235_4 (t u : Nat) (I J : Nat → Nat → Int) (x1 : Int) : q_E (235, 4, [vr 265, vi x1, vu, vu, vu, vu], []) (qk t u I J) = (q_bi (q_E (210, 0, [vr 265, vi x1], []) (qk t u I J)) fun z M1 => q_E (235, 9, [vr 265, vi x1, vu, vu, vu, vu], [vi z]) M1) := q_it_eq 400 [4, 9, 17, 23, 32, 48, 79] _ _
set_option maxRecDepth 20000 in
theorem e235_48 (t u : Nat) (I J : Nat → Nat → Int) (x1 : Int) (x2 : Int) (x3 : Int) (x4 : Int) (y0 : Int) : q_E (235, 48, [vr 265, vi x1, vi x2, vi x3, vi x4, vu], [vi y0]) (qk t u I J) = (if y0 < x3 then (if (0 : Int) ≤ wr (5 + x1) ∧ wr (5 + x1) < 71 then (q_bv (q_E (219, 0, [vr 265, vr 275, vi 0, vi (I 268 (Int.toNat (wr (5 + x1)))), vu], []) (qk t u I J)) fun M1 => q_E (235, 79, [vr 265, vi x1, vi x4, vi y0, vi x4, vi y0], []) M1) else none) else (if (0 : Int) ≤ wr (5 + x1) ∧ wr (5 + x1) < 71 then (q_bv (q_E (219, 0, [vr 265, vr 275, vi 0, vi (I 268 (Int.toNat (wr (5 + x1)))), vu], []) (qk t u I J)) fun M1 => q_E (235, 79, [vr 265, vi x1, vi x2, vi x3, vi x4, vi y0], []) M1) else none)) := q_it_eq 400 [4, 9, 17, 23, 32, 48, 79] _ _
set_option maxRecDepth 20000 in
theorem e235_9 (t u : Nat) (I J : Nat → Nat → Int) (x1 : Int) (y0 : Int) : q_E (235, 9, [vr 265, vi x1, vu, vu, vu, vu], [vi y0]) (qk t u I J) = (if y0 = 0 then (q_bi (q_E (178, 0, [vr 265, vi 1], []) (qk t u I J)) fun z M1 => q_E (235, 17, [vr 265, vi x1, vu, vu, vu, vu], [vi z]) M1) else (q_bv (q_E (220, 0, [vr 265, vi x1], []) (qk t u I J)) fun M1 => q_E (235, 23, [vr 265, vi x1, vu, vu, vu, vu], []) M1)) := q_it_eq 400 [4, 9, 17, 23, 32, 48, 79] _ _
set_option maxRecDepth 20000 in
theorem e235_79 (t u : Nat) (I J : Nat → Nat → Int) (x1 : Int) (x2 : Int) (x3 : Int) (x4 : Int) (x5 : Int) : q_E (235, 79, [vr 265, vi x1, vi x2, vi x3, vi x4, vi x5], []) (qk t u I J) = q_E (235, 32, [vr 265, vi x1, vi x2, vi x3, vi (wr (x4 + 1)), vu], []) (qk t u I J) := q_it_eq 400 [4, 9, 17, 23, 32, 48, 79] _ _
set_option maxRecDepth 20000 in
theorem e235_17 (t u : Nat) (I J : Nat → Nat → Int) (x1 : Int) (y0 : Int) : q_E (235, 17, [vr 265, vi x1, vu, vu, vu, vu], [vi y0]) (qk t u I J) = some (vi y0, (qk t u I J)) := q_it_eq 400 [4, 9, 17, 23, 32, 48, 79] _ _
set_option maxRecDepth 20000 in
theorem e235_23 (t u : Nat) (I J : Nat → Nat → Int) (x1 : Int) : q_E (235, 23, [vr 265, vi x1, vu, vu, vu, vu], []) (qk t u I J) = q_E (235, 32, [vr 265, vi x1, vi 0, vi 100000000, vi 0, vu], []) (qk t u I J) := q_it_eq 400 [4, 9, 17, 23, 32, 48, 79] _ _
/-! 236: StewardHeapsModel.alike(II)I -/
set_option maxRecDepth 20000 in
theorem e236_0 (t u : Nat) (I J : Nat → Nat → Int) (x1 : Int) (x2 : Int) : q_E (236, 0, [vr 265, vi x1, vi x2, vu], []) (qk t u I J) = (q_bv (q_E (177, 0, [vr 265], []) (qk t u I J)) fun M1 => q_E (236, 4, [vr 265, vi x1, vi x2, vu], []) M1) := q_it_eq 400 [4, 10, 18, 24, 42, 44, 66, 88, 105] _ _
set_option maxRecDepth 20000 in
theorem e236_44 (t u : Nat) (I J : Nat → Nat → Int) (x1 : Int) (x2 : Int) (x3 : Int) : q_E (236, 44, [vr 265, vi x1, vi x2, vi x3], []) (qk t u I J) = (if (400 : Int) < x3 then some (vi (-2), (qk t u I J)) else (q_bi (q_E (222, 0, [vr 275, vi 0, vr 276, vi 0, vi 60, vu], []) (qk t u I J)) fun z M1 => q_E (236, 66, [vr 265, vi x1, vi x2, vi x3], [vi z]) M1)) := q_it_eq 400 [4, 10, 18, 24, 42, 44, 66, 88, 105] _ _
set_option maxRecDepth 20000 in
theorem e236_4 (t u : Nat) (I J : Nat → Nat → Int) (x1 : Int) (x2 : Int) : q_E (236, 4, [vr 265, vi x1, vi x2, vu], []) (qk t u I J) = (q_bi (q_E (211, 0, [vr 265, vi x1, vi x2], []) (qk t u I J)) fun z M1 => q_E (236, 10, [vr 265, vi x1, vi x2, vu], [vi z]) M1) := q_it_eq 400 [4, 10, 18, 24, 42, 44, 66, 88, 105] _ _
set_option maxRecDepth 20000 in
theorem e236_66 (t u : Nat) (I J : Nat → Nat → Int) (x1 : Int) (x2 : Int) (x3 : Int) (y0 : Int) : q_E (236, 66, [vr 265, vi x1, vi x2, vi x3], [vi y0]) (qk t u I J) = (if y0 = 0 then (if (0 : Int) ≤ wr (5 + x1) ∧ wr (5 + x1) < 71 then (q_bv (q_E (219, 0, [vr 265, vr 275, vi 0, vi (I 268 (Int.toNat (wr (5 + x1)))), vu], []) (qk t u I J)) fun M1 => q_E (236, 88, [vr 265, vi x1, vi x2, vi x3], []) M1) else none) else some (vi x3, (qk t u I J))) := q_it_eq 400 [4, 10, 18, 24, 42, 44, 66, 88, 105] _ _
set_option maxRecDepth 20000 in
theorem e236_10 (t u : Nat) (I J : Nat → Nat → Int) (x1 : Int) (x2 : Int) (y0 : Int) : q_E (236, 10, [vr 265, vi x1, vi x2, vu], [vi y0]) (qk t u I J) = (if y0 = 0 then (q_bi (q_E (178, 0, [vr 265, vi 1], []) (qk t u I J)) fun z M1 => q_E (236, 18, [vr 265, vi x1, vi x2, vu], [vi z]) M1) else (q_bv (q_E (220, 0, [vr 265, vi x1], []) (qk t u I J)) fun M1 => q_E (236, 24, [vr 265, vi x1, vi x2, vu], []) M1)) := q_it_eq 400 [4, 10, 18, 24, 42, 44, 66, 88, 105] _ _
set_option maxRecDepth 20000 in
theorem e236_88 (t u : Nat) (I J : Nat → Nat → Int) (x1 : Int) (x2 : Int) (x3 : Int) : q_E (236, 88, [vr 265, vi x1, vi x2, vi x3], []) (qk t u I J) = (if (0 : Int) ≤ wr (5 + x2) ∧ wr (5 + x2) < 71 then (q_bv (q_E (219, 0, [vr 265, vr 276, vi 0, vi (I 268 (Int.toNat (wr (5 + x2)))), vu], []) (qk t u I J)) fun M1 => q_E (236, 105, [vr 265, vi x1, vi x2, vi x3], []) M1) else none) := q_it_eq 400 [4, 10, 18, 24, 42, 44, 66, 88, 105] _ _
set_option maxRecDepth 20000 in
theorem e236_18 (t u : Nat) (I J : Nat → Nat → Int) (x1 : Int) (x2 : Int) (y0 : Int) : q_E (236, 18, [vr 265, vi x1, vi x2, vu], [vi y0]) (qk t u I J) = some (vi y0, (qk t u I J)) := q_it_eq 400 [4, 10, 18, 24, 42, 44, 66, 88, 105] _ _
set_option maxRecDepth 20000 in
theorem e236_24 (t u : Nat) (I J : Nat → Nat → Int) (x1 : Int) (x2 : Int) : q_E (236, 24, [vr 265, vi x1, vi x2, vu], []) (qk t u I J) = (q_bv (q_E (182, 0, [vr 272, vi (wr (61 * x2)), vr 276, vi 0, vi 61, vu], []) (qk t u I J)) fun M1 => q_E (236, 42, [vr 265, vi x1, vi x2, vu], []) M1) := q_it_eq 400 [4, 10, 18, 24, 42, 44, 66, 88, 105] _ _
set_option maxRecDepth 20000 in
theorem e236_105 (t u : Nat) (I J : Nat → Nat → Int) (x1 : Int) (x2 : Int) (x3 : Int) : q_E (236, 105, [vr 265, vi x1, vi x2, vi x3], []) (qk t u I J) = q_E (236, 44, [vr 265, vi x1, vi x2, vi (wr (x3 + 1))], []) (qk t u I J) := q_it_eq 400 [4, 10, 18, 24, 42, 44, 66, 88, 105] _ _
set_option maxRecDepth 20000 in
theorem e236_42 (t u : Nat) (I J : Nat → Nat → Int) (x1 : Int) (x2 : Int) : q_E (236, 42, [vr 265, vi x1, vi x2, vu], []) (qk t u I J) = q_E (236, 44, [vr 265, vi x1, vi x2, vi 0], []) (qk t u I J) := q_it_eq 400 [4, 10, 18, 24, 42, 44, 66, 88, 105] _ _
/-! 237: StewardHeapsModel.columnOf(II)I -/
set_option maxRecDepth 20000 in
theorem e237_0 (t u : Nat) (I J : Nat → Nat → Int) (x1 : Int) (x2 : Int) : q_E (237, 0, [vr 265, vi x1, vi x2, vu, vu], []) (qk t u I J) = q_E (237, 5, [vr 265, vi x1, vi x2, vi 0, vi 0], []) (qk t u I J) := q_it_eq 400 [5] _ _
set_option maxRecDepth 20000 in
theorem e237_5 (t u : Nat) (I J : Nat → Nat → Int) (x1 : Int) (x2 : Int) (x3 : Int) (x4 : Int) : q_E (237, 5, [vr 265, vi x1, vi x2, vi x3, vi x4], []) (qk t u I J) = (if x4 < 60 then (if (0 : Int) ≤ wr ((wr (61 * x1)) + x4) ∧ wr ((wr (61 * x1)) + x4) < 245 then (if x2 < I 272 (Int.toNat (wr ((wr (61 * x1)) + x4))) then q_E (237, 5, [vr 265, vi x1, vi x2, vi (wr (x3 + 1)), vi (wr (x4 + 1))], []) (qk t u I J) else q_E (237, 5, [vr 265, vi x1, vi x2, vi (wr (x3 + 0)), vi (wr (x4 + 1))], []) (qk t u I J)) else none) else some (vi x3, (qk t u I J))) := q_it_eq 400 [5] _ _
/-! 238: StewardHeapsModel.column(II)I -/
set_option maxRecDepth 20000 in
theorem e238_0 (t u : Nat) (I J : Nat → Nat → Int) (x1 : Int) (x2 : Int) : q_E (238, 0, [vr 265, vi x1, vi x2, vu], []) (qk t u I J) = (q_bv (q_E (177, 0, [vr 265], []) (qk t u I J)) fun M1 => q_E (238, 4, [vr 265, vi x1, vi x2, vu], []) M1) := q_it_eq 400 [4, 10, 17, 20, 30, 39] _ _
set_option maxRecDepth 20000 in
theorem e238_4 (t u : Nat) (I J : Nat → Nat → Int) (x1 : Int) (x2 : Int) : q_E (238, 4, [vr 265, vi x1, vi x2, vu], []) (qk t u I J) = (q_bi (q_E (210, 0, [vr 265, vi x1], []) (qk t u I J)) fun z M1 => q_E (238, 10, [vr 265, vi x1, vi x2, vu], [vi z, vr 265]) M1) := q_it_eq 400 [4, 10, 17, 20, 30, 39] _ _
set_option maxRecDepth 20000 in
theorem e238_10 (t u : Nat) (I J : Nat → Nat → Int) (x1 : Int) (x2 : Int) (y0 : Int) (y1 : Nat) : q_E (238, 10, [vr 265, vi x1, vi x2, vu], [vi y0, vr y1]) (qk t u I J) = (q_bi (q_E (180, 0, [vi x2, vi 0, vi 59], []) (qk t u I J)) fun z M1 => q_E (238, 17, [vr 265, vi x1, vi x2, vu], [vi z, vi y0, vr y1]) M1) := q_it_eq 400 [4, 10, 17, 20, 30, 39] _ _
set_option maxRecDepth 20000 in
theorem e238_17 (t u : Nat) (I J : Nat → Nat → Int) (x1 : Int) (x2 : Int) (y0 : Int) (y1 : Int) (y2 : Nat) : q_E (238, 17, [vr 265, vi x1, vi x2, vu], [vi y0, vi y1, vr y2]) (qk t u I J) = (if kd y2 = 21 then (q_bi (q_E (212, 0, [vr y2, vi y1, vi y0], []) (qk t u I J)) fun z M1 => q_E (238, 20, [vr 265, vi x1, vi x2, vu], [vi z]) M1) else none) := q_it_eq 400 [4, 10, 17, 20, 30, 39] _ _
set_option maxRecDepth 20000 in
theorem e238_20 (t u : Nat) (I J : Nat → Nat → Int) (x1 : Int) (x2 : Int) (y0 : Int) : q_E (238, 20, [vr 265, vi x1, vi x2, vu], [vi y0]) (qk t u I J) = (if y0 = 0 then (q_bi (q_E (237, 0, [vr 265, vi x1, vi x2, vu, vu], []) (qk t u I J)) fun z M1 => q_E (238, 39, [vr 265, vi x1, vi x2, vi y0], [vi z]) M1) else (q_bi (q_E (178, 0, [vr 265, vi y0], []) (qk t u I J)) fun z M1 => q_E (238, 30, [vr 265, vi x1, vi x2, vi y0], [vi z]) M1)) := q_it_eq 400 [4, 10, 17, 20, 30, 39] _ _
set_option maxRecDepth 20000 in
theorem e238_39 (t u : Nat) (I J : Nat → Nat → Int) (x1 : Int) (x2 : Int) (x3 : Int) (y0 : Int) : q_E (238, 39, [vr 265, vi x1, vi x2, vi x3], [vi y0]) (qk t u I J) = some (vi y0, (qk t u I J)) := q_it_eq 400 [4, 10, 17, 20, 30, 39] _ _
set_option maxRecDepth 20000 in
theorem e238_30 (t u : Nat) (I J : Nat → Nat → Int) (x1 : Int) (x2 : Int) (x3 : Int) (y0 : Int) : q_E (238, 30, [vr 265, vi x1, vi x2, vi x3], [vi y0]) (qk t u I J) = q_E (238, 39, [vr 265, vi x1, vi x2, vi x3], [vi y0]) (qk t u I J) := q_it_eq 400 [4, 10, 17, 20, 30, 39] _ _
/-! 239: StewardHeapsModel.square(I)I -/
set_option maxRecDepth 20000 in
theorem e239_0 (t u : Nat) (I J : Nat → Nat → Int) (x1 : Int) : q_E (239, 0, [vr 265, vi x1, vu], []) (qk t u I J) = (q_bv (q_E (177, 0, [vr 265], []) (qk t u I J)) fun M1 => q_E (239, 4, [vr 265, vi x1, vu], []) M1) := q_it_eq 400 [4, 9, 17, 20] _ _
set_option maxRecDepth 20000 in
theorem e239_20 (t u : Nat) (I J : Nat → Nat → Int) (x1 : Int) (x2 : Int) : q_E (239, 20, [vr 265, vi x1, vi x2], []) (qk t u I J) = (if x2 < 60 then (if (0 : Int) ≤ wr ((wr (61 * x1)) + x2) ∧ wr ((wr (61 * x1)) + x2) < 245 then (if x2 < I 272 (Int.toNat (wr ((wr (61 * x1)) + x2))) then q_E (239, 20, [vr 265, vi x1, vi (wr (x2 + 1))], []) (qk t u I J) else some (vi x2, (qk t u I J))) else none) else some (vi x2, (qk t u I J))) := q_it_eq 400 [4, 9, 17, 20] _ _
set_option maxRecDepth 20000 in
theorem e239_4 (t u : Nat) (I J : Nat → Nat → Int) (x1 : Int) : q_E (239, 4, [vr 265, vi x1, vu], []) (qk t u I J) = (q_bi (q_E (210, 0, [vr 265, vi x1], []) (qk t u I J)) fun z M1 => q_E (239, 9, [vr 265, vi x1, vu], [vi z]) M1) := q_it_eq 400 [4, 9, 17, 20] _ _
set_option maxRecDepth 20000 in
theorem e239_9 (t u : Nat) (I J : Nat → Nat → Int) (x1 : Int) (y0 : Int) : q_E (239, 9, [vr 265, vi x1, vu], [vi y0]) (qk t u I J) = (if y0 = 0 then (q_bi (q_E (178, 0, [vr 265, vi 1], []) (qk t u I J)) fun z M1 => q_E (239, 17, [vr 265, vi x1, vu], [vi z]) M1) else q_E (239, 20, [vr 265, vi x1, vi 0], []) (qk t u I J)) := q_it_eq 400 [4, 9, 17, 20] _ _
set_option maxRecDepth 20000 in
theorem e239_17 (t u : Nat) (I J : Nat → Nat → Int) (x1 : Int) (y0 : Int) : q_E (239, 17, [vr 265, vi x1, vu], [vi y0]) (qk t u I J) = some (vi y0, (qk t u I J)) := q_it_eq 400 [4, 9, 17, 20] _ _
/-! 240: StewardHeapsModel.corners(I)I -/
set_option maxRecDepth 20000 in
theorem e240_0 (t u : Nat) (I J : Nat → Nat → Int) (x1 : Int) : q_E (240, 0, [vr 265, vi x1, vu, vu], []) (qk t u I J) = (q_bv (q_E (177, 0, [vr 265], []) (qk t u I J)) fun M1 => q_E (240, 4, [vr 265, vi x1, vu, vu], []) M1) := q_it_eq 400 [4, 9, 17, 22] _ _
set_option maxRecDepth 20000 in
theorem e240_22 (t u : Nat) (I J : Nat → Nat → Int) (x1 : Int) (x2 : Int) (x3 : Int) : q_E (240, 22, [vr 265, vi x1, vi x2, vi x3], []) (qk t u I J) = (if x3 < 60 then (if (0 : Int) ≤ wr ((wr (61 * x1)) + x3) ∧ wr ((wr (61 * x1)) + x3) < 245 then (if (0 : Int) < I 272 (Int.toNat (wr ((wr (61 * x1)) + x3))) then (if x3 = 0 then q_E (240, 22, [vr 265, vi x1, vi (wr (x2 + 1)), vi (wr (x3 + 1))], []) (qk t u I J) else (if (0 : Int) ≤ wr ((wr (61 * x1)) + x3) ∧ wr ((wr (61 * x1)) + x3) < 245 then (if (0 : Int) ≤ wr ((wr ((wr (61 * x1)) + x3)) - 1) ∧ wr ((wr ((wr (61 * x1)) + x3)) - 1) < 245 then (if I 272 (Int.toNat (wr ((wr (61 * x1)) + x3))) = I 272 (Int.toNat (wr ((wr ((wr (61 * x1)) + x3)) - 1))) then q_E (240, 22, [vr 265, vi x1, vi (wr (x2 + 0)), vi (wr (x3 + 1))], []) (qk t u I J) else q_E (240, 22, [vr 265, vi x1, vi (wr (x2 + 1)), vi (wr (x3 + 1))], []) (qk t u I J)) else none) else none)) else q_E (240, 22, [vr 265, vi x1, vi (wr (x2 + 0)), vi (wr (x3 + 1))], []) (qk t u I J)) else none) else some (vi x2, (qk t u I J))) := q_it_eq 400 [4, 9, 17, 22] _ _
set_option maxRecDepth 20000 in
theorem e240_4 (t u : Nat) (I J : Nat → Nat → Int) (x1 : Int) : q_E (240, 4, [vr 265, vi x1, vu, vu], []) (qk t u I J) = (q_bi (q_E (210, 0, [vr 265, vi x1], []) (qk t u I J)) fun z M1 => q_E (240, 9, [vr 265, vi x1, vu, vu], [vi z]) M1) := q_it_eq 400 [4, 9, 17, 22] _ _
set_option maxRecDepth 20000 in
theorem e240_9 (t u : Nat) (I J : Nat → Nat → Int) (x1 : Int) (y0 : Int) : q_E (240, 9, [vr 265, vi x1, vu, vu], [vi y0]) (qk t u I J) = (if y0 = 0 then (q_bi (q_E (178, 0, [vr 265, vi 1], []) (qk t u I J)) fun z M1 => q_E (240, 17, [vr 265, vi x1, vu, vu], [vi z]) M1) else q_E (240, 22, [vr 265, vi x1, vi 0, vi 0], []) (qk t u I J)) := q_it_eq 400 [4, 9, 17, 22] _ _
set_option maxRecDepth 20000 in
theorem e240_17 (t u : Nat) (I J : Nat → Nat → Int) (x1 : Int) (y0 : Int) : q_E (240, 17, [vr 265, vi x1, vu, vu], [vi y0]) (qk t u I J) = some (vi y0, (qk t u I J)) := q_it_eq 400 [4, 9, 17, 22] _ _
/-! 241: StewardHeapsModel.rank(I)I -/
set_option maxRecDepth 20000 in
theorem e241_0 (t u : Nat) (I J : Nat → Nat → Int) (x1 : Int) : q_E (241, 0, [vr 265, vi x1], []) (qk t u I J) = (q_bv (q_E (177, 0, [vr 265], []) (qk t u I J)) fun M1 => q_E (241, 4, [vr 265, vi x1], []) M1) := q_it_eq 400 [4, 9, 32] _ _
set_option maxRecDepth 20000 in
theorem e241_4 (t u : Nat) (I J : Nat → Nat → Int) (x1 : Int) : q_E (241, 4, [vr 265, vi x1], []) (qk t u I J) = (q_bi (q_E (210, 0, [vr 265, vi x1], []) (qk t u I J)) fun z M1 => q_E (241, 9, [vr 265, vi x1], [vi z]) M1) := q_it_eq 400 [4, 9, 32] _ _
set_option maxRecDepth 20000 in
theorem e241_9 (t u : Nat) (I J : Nat → Nat → Int) (x1 : Int) (y0 : Int) : q_E (241, 9, [vr 265, vi x1], [vi y0]) (qk t u I J) = (if y0 = 0 then some (vi (-1000), (qk t u (uI I 265 11 1) J)) else (if (0 : Int) ≤ wr (61 * x1) ∧ wr (61 * x1) < 245 then (q_bi (q_E (214, 0, [vr 272, vi (wr (61 * x1)), vu], []) (qk t u I J)) fun z M1 => q_E (241, 32, [vr 265, vi x1], [vi z, vi (I 272 (Int.toNat (wr (61 * x1))))]) M1) else none)) := q_it_eq 400 [4, 9, 32] _ _
set_option maxRecDepth 20000 in
theorem e241_32 (t u : Nat) (I J : Nat → Nat → Int) (x1 : Int) (y0 : Int) (y1 : Int) : q_E (241, 32, [vr 265, vi x1], [vi y0, vi y1]) (qk t u I J) = some (vi (wr (y1 - y0)), (qk t u I J)) := q_it_eq 400 [4, 9, 32] _ _
/-! 242: StewardHeapsModel.hookOf(III)I -/
set_option maxRecDepth 20000 in
theorem e242_0 (t u : Nat) (I J : Nat → Nat → Int) (x1 : Int) (x2 : Int) (x3 : Int) : q_E (242, 0, [vr 265, vi x1, vi x2, vi x3], []) (qk t u I J) = (if (0 : Int) ≤ wr ((wr (61 * x1)) + x2) ∧ wr ((wr (61 * x1)) + x2) < 245 then (q_bi (q_E (237, 0, [vr 265, vi x1, vi x3, vu, vu], []) (qk t u I J)) fun z M1 => q_E (242, 19, [vr 265, vi x1, vi x2, vi x3], [vi z, vi (wr ((I 272 (Int.toNat (wr ((wr (61 * x1)) + x2)))) - x3))]) M1) else none) := q_it_eq 400 [19] _ _
set_option maxRecDepth 20000 in
theorem e242_19 (t u : Nat) (I J : Nat → Nat → Int) (x1 : Int) (x2 : Int) (x3 : Int) (y0 : Int) (y1 : Int) : q_E (242, 19, [vr 265, vi x1, vi x2, vi x3], [vi y0, vi y1]) (qk t u I J) = some (vi (wr ((wr ((wr (y1 + y0)) - x2)) - 1)), (qk t u I J)) := q_it_eq 400 [19] _ _
/-! 243: StewardHeapsModel.hook(III)I -/
set_option maxRecDepth 20000 in
theorem e243_0 (t u : Nat) (I J : Nat → Nat → Int) (x1 : Int) (x2 : Int) (x3 : Int) : q_E (243, 0, [vr 265, vi x1, vi x2, vi x3, vu], []) (qk t u I J) = (q_bv (q_E (177, 0, [vr 265], []) (qk t u I J)) fun M1 => q_E (243, 4, [vr 265, vi x1, vi x2, vi x3, vu], []) M1) := q_it_eq 400 [4, 9, 19, 60, 68] _ _
set_option maxRecDepth 20000 in
theorem e243_4 (t u : Nat) (I J : Nat → Nat → Int) (x1 : Int) (x2 : Int) (x3 : Int) : q_E (243, 4, [vr 265, vi x1, vi x2, vi x3, vu], []) (qk t u I J) = (q_bi (q_E (210, 0, [vr 265, vi x1], []) (qk t u I J)) fun z M1 => q_E (243, 9, [vr 265, vi x1, vi x2, vi x3, vu], [vi z]) M1) := q_it_eq 400 [4, 9, 19, 60, 68] _ _
set_option maxRecDepth 20000 in
theorem e243_9 (t u : Nat) (I J : Nat → Nat → Int) (x1 : Int) (x2 : Int) (x3 : Int) (y0 : Int) : q_E (243, 9, [vr 265, vi x1, vi x2, vi x3, vu], [vi y0]) (qk t u I J) = (if y0 = 0 then (q_bi (q_E (178, 0, [vr 265, vi 1], []) (qk t u I J)) fun z M1 => q_E (243, 68, [vr 265, vi x1, vi x2, vi x3, vi 0], [vi z]) M1) else (q_bi (q_E (180, 0, [vi x2, vi 0, vi 59], []) (qk t u I J)) fun z M1 => q_E (243, 19, [vr 265, vi x1, vi x2, vi x3, vu], [vi z]) M1)) := q_it_eq 400 [4, 9, 19, 60, 68] _ _
set_option maxRecDepth 20000 in
theorem e243_68 (t u : Nat) (I J : Nat → Nat → Int) (x1 : Int) (x2 : Int) (x3 : Int) (x4 : Int) (y0 : Int) : q_E (243, 68, [vr 265, vi x1, vi x2, vi x3, vi x4], [vi y0]) (qk t u I J) = some (vi y0, (qk t u I J)) := q_it_eq 400 [4, 9, 19, 60, 68] _ _
set_option maxRecDepth 20000 in
theorem e243_60 (t u : Nat) (I J : Nat → Nat → Int) (x1 : Int) (x2 : Int) (x3 : Int) (x4 : Int) (y0 : Int) : q_E (243, 60, [vr 265, vi x1, vi x2, vi x3, vi x4], [vi y0]) (qk t u I J) = q_E (243, 68, [vr 265, vi x1, vi x2, vi x3, vi x4], [vi y0]) (qk t u I J) := q_it_eq 400 [4, 9, 19, 60, 68] _ _
set_option maxRecDepth 20000 in
theorem e243_19 (t u : Nat) (I J : Nat → Nat → Int) (x1 : Int) (x2 : Int) (x3 : Int) (y0 : Int) : q_E (243, 19, [vr 265, vi x1, vi x2, vi x3, vu], [vi y0]) (qk t u I J) = (if y0 = 0 then (q_bi (q_E (178, 0, [vr 265, vi 1], []) (qk t u I J)) fun z M1 => q_E (243, 68, [vr 265, vi x1, vi x2, vi x3, vi 0], [vi z]) M1) else (if x3 < 0 then (q_bi (q_E (178, 0, [vr 265, vi 1], []) (qk t u I J)) fun z M1 => q_E (243, 68, [vr 265, vi x1, vi x2, vi x3, vi 0], [vi z]) M1) else (if (0 : Int) ≤ wr ((wr (61 * x1)) + x2) ∧ wr ((wr (61 * x1)) + x2) < 245 then (if x3 < I 272 (Int.toNat (wr ((wr (61 * x1)) + x2))) then (q_bi (q_E (242, 0, [vr 265, vi x1, vi x2, vi x3], []) (qk t u I J)) fun z M1 => q_E (243, 60, [vr 265, vi x1, vi x2, vi x3, vi 1], [vi z]) M1) else (q_bi (q_E (178, 0, [vr 265, vi 1], []) (qk t u I J)) fun z M1 => q_E (243, 68, [vr 265, vi x1, vi x2, vi x3, vi 0], [vi z]) M1)) else none))) := q_it_eq 400 [4, 9, 19, 60, 68] _ _
/-! 244: StewardHeapsModel.factor(II)V -/
set_option maxRecDepth 20000 in
theorem e244_0 (t u : Nat) (I J : Nat → Nat → Int) (x1 : Int) (x2 : Int) : q_E (244, 0, [vr 265, vi x1, vi x2, vu, vu], []) (qk t u I J) = q_E (244, 5, [vr 265, vi x1, vi x2, vi x1, vi 2], []) (qk t u I J) := q_it_eq 400 [5, 11] _ _
set_option maxRecDepth 20000 in
theorem e244_5 (t u : Nat) (I J : Nat → Nat → Int) (x1 : Int) (x2 : Int) (x3 : Int) (x4 : Int) : q_E (244, 5, [vr 265, vi x1, vi x2, vi x3, vi x4], []) (qk t u I J) = (if x1 < x4 then some (vu, (qk t u I J)) else q_E (244, 11, [vr 265, vi x1, vi x2, vi x3, vi x4], []) (qk t u I J)) := q_it_eq 400 [5, 11] _ _
set_option maxRecDepth 20000 in
theorem e244_11 (t u : Nat) (I J : Nat → Nat → Int) (x1 : Int) (x2 : Int) (x3 : Int) (x4 : Int) : q_E (244, 11, [vr 265, vi x1, vi x2, vi x3, vi x4], []) (qk t u I J) = (if x4 = 0 then none else (if Int.tmod x3 x4 = 0 then (if x4 = 0 then none else (if (0 : Int) ≤ x4 ∧ x4 < 31 then (if (0 : Int) ≤ x4 ∧ x4 < 31 then q_E (244, 11, [vr 265, vi x1, vi x2, vi (wr (Int.tdiv x3 x4)), vi x4], []) (qk t u (uI I 278 (Int.toNat x4) (wr ((I 278 (Int.toNat x4)) + x2))) J) else none) else none)) else q_E (244, 5, [vr 265, vi x1, vi x2, vi x3, vi (wr (x4 + 1))], []) (qk t u I J))) := q_it_eq 400 [5, 11] _ _
/-! 245: StewardHeapsModel.orders(I)J -/
set_option maxRecDepth 20000 in
theorem e245_0 (t u : Nat) (I J : Nat → Nat → Int) (x1 : Int) : q_E (245, 0, [vr 265, vi x1, vu, vu, vu, vu, vu], []) (qk t u I J) = (q_bv (q_E (177, 0, [vr 265], []) (qk t u I J)) fun M1 => q_E (245, 4, [vr 265, vi x1, vu, vu, vu, vu, vu], []) M1) := q_it_eq 400 [4, 9, 17, 30, 42, 46, 67, 78, 86, 95, 120, 124, 141, 151] _ _
set_option maxRecDepth 20000 in
theorem e245_46 (t u : Nat) (I J : Nat → Nat → Int) (x1 : Int) (x2 : Int) (x3 : Int) : q_E (245, 46, [vr 265, vi x1, vi x2, vi x3, vu, vu, vu], []) (qk t u I J) = (if (30 : Int) < x3 then q_E (245, 67, [vr 265, vi x1, vi x2, vi 2, vu, vu, vu], []) (qk t u I J) else (if (0 : Int) ≤ x3 ∧ x3 < 31 then q_E (245, 46, [vr 265, vi x1, vi x2, vi (wr (x3 + 1)), vu, vu, vu], []) (qk t u (uI I 278 (Int.toNat x3) 0) J) else none)) := q_it_eq 400 [4, 9, 17, 30, 42, 46, 67, 78, 86, 95, 120, 124, 141, 151] _ _
set_option maxRecDepth 20000 in
theorem e245_67 (t u : Nat) (I J : Nat → Nat → Int) (x1 : Int) (x2 : Int) (x3 : Int) : q_E (245, 67, [vr 265, vi x1, vi x2, vi x3, vu, vu, vu], []) (qk t u I J) = (if x2 < x3 then q_E (245, 86, [vr 265, vi x1, vu, vi 0, vu, vu, vu], []) (qk t u I J) else (q_bv (q_E (244, 0, [vr 265, vi x3, vi 1, vu, vu], []) (qk t u I J)) fun M1 => q_E (245, 78, [vr 265, vi x1, vi x2, vi x3, vu, vu, vu], []) M1)) := q_it_eq 400 [4, 9, 17, 30, 42, 46, 67, 78, 86, 95, 120, 124, 141, 151] _ _
set_option maxRecDepth 20000 in
theorem e245_86 (t u : Nat) (I J : Nat → Nat → Int) (x1 : Int) (x3 : Int) : q_E (245, 86, [vr 265, vi x1, vu, vi x3, vu, vu, vu], []) (qk t u I J) = (if x3 < 60 then q_E (245, 95, [vr 265, vi x1, vu, vi x3, vi 0, vu, vu], []) (qk t u I J) else q_E (245, 141, [vr 265, vu, vu, vl 1, vu, vi 2, vu], []) (qk t u I J)) := q_it_eq 400 [4, 9, 17, 30, 42, 46, 67, 78, 86, 95, 120, 124, 141, 151] _ _
set_option maxRecDepth 20000 in
theorem e245_95 (t u : Nat) (I J : Nat → Nat → Int) (x1 : Int) (x3 : Int) (x4 : Int) : q_E (245, 95, [vr 265, vi x1, vu, vi x3, vi x4, vu, vu], []) (qk t u I J) = (if (0 : Int) ≤ wr ((wr (61 * x1)) + x3) ∧ wr ((wr (61 * x1)) + x3) < 245 then (if x4 < I 272 (Int.toNat (wr ((wr (61 * x1)) + x3))) then (q_bi (q_E (242, 0, [vr 265, vi x1, vi x3, vi x4], []) (qk t u I J)) fun z M1 => q_E (245, 120, [vr 265, vi x1, vu, vi x3, vi x4, vu, vu], [vi z, vr 265]) M1) else q_E (245, 86, [vr 265, vi x1, vu, vi (wr (x3 + 1)), vu, vu, vu], []) (qk t u I J)) else none) := q_it_eq 400 [4, 9, 17, 30, 42, 46, 67, 78, 86, 95, 120, 124, 141, 151] _ _
set_option maxRecDepth 20000 in
theorem e245_141 (t u : Nat) (I J : Nat → Nat → Int) (x3 : Int) (x5 : Int) : q_E (245, 141, [vr 265, vu, vu, vl x3, vu, vi x5, vu], []) (qk t u I J) = (if (30 : Int) < x5 then some (vl x3, (qk t u I J)) else q_E (245, 151, [vr 265, vu, vu, vl x3, vu, vi x5, vi 0], []) (qk t u I J)) := q_it_eq 400 [4, 9, 17, 30, 42, 46, 67, 78, 86, 95, 120, 124, 141, 151] _ _
set_option maxRecDepth 20000 in
theorem e245_151 (t u : Nat) (I J : Nat → Nat → Int) (x3 : Int) (x5 : Int) (x6 : Int) : q_E (245, 151, [vr 265, vu, vu, vl x3, vu, vi x5, vi x6], []) (qk t u I J) = (if (0 : Int) ≤ x5 ∧ x5 < 31 then (if x6 < I 278 (Int.toNat x5) then q_E (245, 151, [vr 265, vu, vu, vl (wl (x3 * x5)), vu, vi x5, vi (wr (x6 + 1))], []) (qk t u I J) else q_E (245, 141, [vr 265, vu, vu, vl x3, vu, vi (wr (x5 + 1)), vu], []) (qk t u I J)) else none) := q_it_eq 400 [4, 9, 17, 30, 42, 46, 67, 78, 86, 95, 120, 124, 141, 151] _ _
set_option maxRecDepth 20000 in
theorem e245_4 (t u : Nat) (I J : Nat → Nat → Int) (x1 : Int) : q_E (245, 4, [vr 265, vi x1, vu, vu, vu, vu, vu], []) (qk t u I J) = (q_bi (q_E (210, 0, [vr 265, vi x1], []) (qk t u I J)) fun z M1 => q_E (245, 9, [vr 265, vi x1, vu, vu, vu, vu, vu], [vi z]) M1) := q_it_eq 400 [4, 9, 17, 30, 42, 46, 67, 78, 86, 95, 120, 124, 141, 151] _ _
set_option maxRecDepth 20000 in
theorem e245_78 (t u : Nat) (I J : Nat → Nat → Int) (x1 : Int) (x2 : Int) (x3 : Int) : q_E (245, 78, [vr 265, vi x1, vi x2, vi x3, vu, vu, vu], []) (qk t u I J) = q_E (245, 67, [vr 265, vi x1, vi x2, vi (wr (x3 + 1)), vu, vu, vu], []) (qk t u I J) := q_it_eq 400 [4, 9, 17, 30, 42, 46, 67, 78, 86, 95, 120, 124, 141, 151] _ _
set_option maxRecDepth 20000 in
theorem e245_120 (t u : Nat) (I J : Nat → Nat → Int) (x1 : Int) (x3 : Int) (x4 : Int) (y0 : Int) (y1 : Nat) : q_E (245, 120, [vr 265, vi x1, vu, vi x3, vi x4, vu, vu], [vi y0, vr y1]) (qk t u I J) = (if kd y1 = 21 then (q_bv (q_E (244, 0, [vr y1, vi y0, vi (-1), vu, vu], []) (qk t u I J)) fun M1 => q_E (245, 124, [vr 265, vi x1, vu, vi x3, vi x4, vu, vu], []) M1) else none) := q_it_eq 400 [4, 9, 17, 30, 42, 46, 67, 78, 86, 95, 120, 124, 141, 151] _ _
set_option maxRecDepth 20000 in
theorem e245_9 (t u : Nat) (I J : Nat → Nat → Int) (x1 : Int) (y0 : Int) : q_E (245, 9, [vr 265, vi x1, vu, vu, vu, vu, vu], [vi y0]) (qk t u I J) = (if y0 = 0 then (q_bi (q_E (178, 0, [vr 265, vi 1], []) (qk t u I J)) fun z M1 => q_E (245, 17, [vr 265, vi x1, vu, vu, vu, vu, vu], [vi z]) M1) else (q_bi (q_E (215, 0, [vr 272, vi (wr (61 * x1)), vu, vu], []) (qk t u I J)) fun z M1 => q_E (245, 30, [vr 265, vi x1, vu, vu, vu, vu, vu], [vi z]) M1)) := q_it_eq 400 [4, 9, 17, 30, 42, 46, 67, 78, 86, 95, 120, 124, 141, 151] _ _
set_option maxRecDepth 20000 in
theorem e245_124 (t u : Nat) (I J : Nat → Nat → Int) (x1 : Int) (x3 : Int) (x4 : Int) : q_E (245, 124, [vr 265, vi x1, vu, vi x3, vi x4, vu, vu], []) (qk t u I J) = q_E (245, 95, [vr 265, vi x1, vu, vi x3, vi (wr (x4 + 1)), vu, vu], []) (qk t u I J) := q_it_eq 400 [4, 9, 17, 30, 42, 46, 67, 78, 86, 95, 120, 124, 141, 151] _ _
set_option maxRecDepth 20000 in
theorem e245_17 (t u : Nat) (I J : Nat → Nat → Int) (x1 : Int) (y0 : Int) : q_E (245, 17, [vr 265, vi x1, vu, vu, vu, vu, vu], [vi y0]) (qk t u I J) = some (vl y0, (qk t u I J)) := q_it_eq 400 [4, 9, 17, 30, 42, 46, 67, 78, 86, 95, 120, 124, 141, 151] _ _
set_option maxRecDepth 20000 in
theorem e245_30 (t u : Nat) (I J : Nat → Nat → Int) (x1 : Int) (y0 : Int) : q_E (245, 30, [vr 265, vi x1, vu, vu, vu, vu, vu], [vi y0]) (qk t u I J) = (if (30 : Int) < y0 then (q_bi (q_E (178, 0, [vr 265, vi 3], []) (qk t u I J)) fun z M1 => q_E (245, 42, [vr 265, vi x1, vi y0, vu, vu, vu, vu], [vi z]) M1) else q_E (245, 46, [vr 265, vi x1, vi y0, vi 0, vu, vu, vu], []) (qk t u I J)) := q_it_eq 400 [4, 9, 17, 30, 42, 46, 67, 78, 86, 95, 120, 124, 141, 151] _ _
set_option maxRecDepth 20000 in
theorem e245_42 (t u : Nat) (I J : Nat → Nat → Int) (x1 : Int) (x2 : Int) (y0 : Int) : q_E (245, 42, [vr 265, vi x1, vi x2, vu, vu, vu, vu], [vi y0]) (qk t u I J) = some (vl y0, (qk t u I J)) := q_it_eq 400 [4, 9, 17, 30, 42, 46, 67, 78, 86, 95, 120, 124, 141, 151] _ _
/-! 246: StewardHeapsModel.common(II)I -/
set_option maxRecDepth 20000 in
theorem e246_0 (t u : Nat) (I J : Nat → Nat → Int) (x1 : Int) (x2 : Int) : q_E (246, 0, [vr 265, vi x1, vi x2, vu, vu, vu, vu], []) (qk t u I J) = (q_bv (q_E (177, 0, [vr 265], []) (qk t u I J)) fun M1 => q_E (246, 4, [vr 265, vi x1, vi x2, vu, vu, vu, vu], []) M1) := q_it_eq 400 [4, 9, 17, 25, 31] _ _
set_option maxRecDepth 20000 in
theorem e246_31 (t u : Nat) (I J : Nat → Nat → Int) (x1 : Int) (x2 : Int) (x3 : Int) (x4 : Int) : q_E (246, 31, [vr 265, vi x1, vi x2, vi x3, vi x4, vu, vu], []) (qk t u I J) = (if x4 < 60 then (if (0 : Int) ≤ wr ((wr (61 * x1)) + x4) ∧ wr ((wr (61 * x1)) + x4) < 245 then (if (0 : Int) ≤ wr ((wr (61 * x2)) + x4) ∧ wr ((wr (61 * x2)) + x4) < 245 then (if I 272 (Int.toNat (wr ((wr (61 * x1)) + x4))) < I 272 (Int.toNat (wr ((wr (61 * x2)) + x4))) then q_E (246, 31, [vr 265, vi x1, vi x2, vi (wr (x3 + (I 272 (Int.toNat (wr ((wr (61 * x1)) + x4)))))), vi (wr (x4 + 1)), vu, vu], []) (qk t u I J) else q_E (246, 31, [vr 265, vi x1, vi x2, vi (wr (x3 + (I 272 (Int.toNat (wr ((wr (61 * x2)) + x4)))))), vi (wr (x4 + 1)), vu, vu], []) (qk t u I J)) else none) else none) else some (vi x3, (qk t u I J))) := q_it_eq 400 [4, 9, 17, 25, 31] _ _
set_option maxRecDepth 20000 in
theorem e246_4 (t u : Nat) (I J : Nat → Nat → Int) (x1 : Int) (x2 : Int) : q_E (246, 4, [vr 265, vi x1, vi x2, vu, vu, vu, vu], []) (qk t u I J) = (q_bi (q_E (210, 0, [vr 265, vi x1], []) (qk t u I J)) fun z M1 => q_E (246, 9, [vr 265, vi x1, vi x2, vu, vu, vu, vu], [vi z]) M1) := q_it_eq 400 [4, 9, 17, 25, 31] _ _
set_option maxRecDepth 20000 in
theorem e246_9 (t u : Nat) (I J : Nat → Nat → Int) (x1 : Int) (x2 : Int) (y0 : Int) : q_E (246, 9, [vr 265, vi x1, vi x2, vu, vu, vu, vu], [vi y0]) (qk t u I J) = (if y0 = 0 then (q_bi (q_E (178, 0, [vr 265, vi 1], []) (qk t u I J)) fun z M1 => q_E (246, 25, [vr 265, vi x1, vi x2, vu, vu, vu, vu], [vi z]) M1) else (q_bi (q_E (210, 0, [vr 265, vi x2], []) (qk t u I J)) fun z M1 => q_E (246, 17, [vr 265, vi x1, vi x2, vu, vu, vu, vu], [vi z]) M1)) := q_it_eq 400 [4, 9, 17, 25, 31] _ _
set_option maxRecDepth 20000 in
theorem e246_25 (t u : Nat) (I J : Nat → Nat → Int) (x1 : Int) (x2 : Int) (y0 : Int) : q_E (246, 25, [vr 265, vi x1, vi x2, vu, vu, vu, vu], [vi y0]) (qk t u I J) = some (vi y0, (qk t u I J)) := q_it_eq 400 [4, 9, 17, 25, 31] _ _
set_option maxRecDepth 20000 in
theorem e246_17 (t u : Nat) (I J : Nat → Nat → Int) (x1 : Int) (x2 : Int) (y0 : Int) : q_E (246, 17, [vr 265, vi x1, vi x2, vu, vu, vu, vu], [vi y0]) (qk t u I J) = (if y0 = 0 then (q_bi (q_E (178, 0, [vr 265, vi 1], []) (qk t u I J)) fun z M1 => q_E (246, 25, [vr 265, vi x1, vi x2, vu, vu, vu, vu], [vi z]) M1) else q_E (246, 31, [vr 265, vi x1, vi x2, vi 0, vi 0, vu, vu], []) (qk t u I J)) := q_it_eq 400 [4, 9, 17, 25, 31] _ _
/-! 247: StewardHeapsModel.mirrors(II)I -/
set_option maxRecDepth 20000 in
theorem e247_0 (t u : Nat) (I J : Nat → Nat → Int) (x1 : Int) (x2 : Int) : q_E (247, 0, [vr 265, vi x1, vi x2, vu], []) (qk t u I J) = (q_bv (q_E (177, 0, [vr 265], []) (qk t u I J)) fun M1 => q_E (247, 4, [vr 265, vi x1, vi x2, vu], []) M1) := q_it_eq 400 [4, 9, 17, 25, 28, 40] _ _
set_option maxRecDepth 20000 in
theorem e247_28 (t u : Nat) (I J : Nat → Nat → Int) (x1 : Int) (x2 : Int) (x3 : Int) : q_E (247, 28, [vr 265, vi x1, vi x2, vi x3], []) (qk t u I J) = (if x3 < 60 then (q_bi (q_E (237, 0, [vr 265, vi x1, vi x3, vu, vu], []) (qk t u I J)) fun z M1 => q_E (247, 40, [vr 265, vi x1, vi x2, vi x3], [vi z]) M1) else some (vi 1, (qk t u I J))) := q_it_eq 400 [4, 9, 17, 25, 28, 40] _ _
set_option maxRecDepth 20000 in
theorem e247_4 (t u : Nat) (I J : Nat → Nat → Int) (x1 : Int) (x2 : Int) : q_E (247, 4, [vr 265, vi x1, vi x2, vu], []) (qk t u I J) = (q_bi (q_E (210, 0, [vr 265, vi x1], []) (qk t u I J)) fun z M1 => q_E (247, 9, [vr 265, vi x1, vi x2, vu], [vi z]) M1) := q_it_eq 400 [4, 9, 17, 25, 28, 40] _ _
set_option maxRecDepth 20000 in
theorem e247_40 (t u : Nat) (I J : Nat → Nat → Int) (x1 : Int) (x2 : Int) (x3 : Int) (y0 : Int) : q_E (247, 40, [vr 265, vi x1, vi x2, vi x3], [vi y0]) (qk t u I J) = (if (0 : Int) ≤ wr ((wr (61 * x2)) + x3) ∧ wr ((wr (61 * x2)) + x3) < 245 then (if y0 = I 272 (Int.toNat (wr ((wr (61 * x2)) + x3))) then q_E (247, 28, [vr 265, vi x1, vi x2, vi (wr (x3 + 1))], []) (qk t u I J) else some (vi 0, (qk t u I J))) else none) := q_it_eq 400 [4, 9, 17, 25, 28, 40] _ _
set_option maxRecDepth 20000 in
theorem e247_9 (t u : Nat) (I J : Nat → Nat → Int) (x1 : Int) (x2 : Int) (y0 : Int) : q_E (247, 9, [vr 265, vi x1, vi x2, vu], [vi y0]) (qk t u I J) = (if y0 = 0 then (q_bi (q_E (178, 0, [vr 265, vi 1], []) (qk t u I J)) fun z M1 => q_E (247, 25, [vr 265, vi x1, vi x2, vu], [vi z]) M1) else (q_bi (q_E (210, 0, [vr 265, vi x2], []) (qk t u I J)) fun z M1 => q_E (247, 17, [vr 265, vi x1, vi x2, vu], [vi z]) M1)) := q_it_eq 400 [4, 9, 17, 25, 28, 40] _ _
set_option maxRecDepth 20000 in
theorem e247_25 (t u : Nat) (I J : Nat → Nat → Int) (x1 : Int) (x2 : Int) (y0 : Int) : q_E (247, 25, [vr 265, vi x1, vi x2, vu], [vi y0]) (qk t u I J) = some (vi y0, (qk t u I J)) := q_it_eq 400 [4, 9, 17, 25, 28, 40] _ _
set_option maxRecDepth 20000 in
theorem e247_17 (t u : Nat) (I J : Nat → Nat → Int) (x1 : Int) (x2 : Int) (y0 : Int) : q_E (247, 17, [vr 265, vi x1, vi x2, vu], [vi y0]) (qk t u I J) = (if y0 = 0 then (q_bi (q_E (178, 0, [vr 265, vi 1], []) (qk t u I J)) fun z M1 => q_E (247, 25, [vr 265, vi x1, vi x2, vu], [vi z]) M1) else q_E (247, 28, [vr 265, vi x1, vi x2, vi 0], []) (qk t u I J)) := q_it_eq 400 [4, 9, 17, 25, 28, 40] _ _
/-! 248: StewardHeapsModel.isNew(II)Z -/
set_option maxRecDepth 20000 in
theorem e248_0 (t u : Nat) (I J : Nat → Nat → Int) (x1 : Int) (x2 : Int) : q_E (248, 0, [vr 265, vi x1, vi x2, vu, vu], []) (qk t u I J) = (if wr (x2 + 1) = 60 then (if (0 : Int) ≤ wr ((wr (61 * x1)) + x2) ∧ wr ((wr (61 * x1)) + x2) < 245 then (if (0 : Int) < I 272 (Int.toNat (wr ((wr (61 * x1)) + x2))) then (if (0 : Int) ≤ wr ((wr (61 * x1)) + x2) ∧ wr ((wr (61 * x1)) + x2) < 245 then (q_bi (q_E (214, 0, [vr 272, vi (wr (61 * x1)), vu], []) (qk t u I J)) fun z M1 => q_E (248, 73, [vr 265, vi x1, vi x2, vi (wr (61 * x1)), vi 1], [vi z, vi (I 272 (Int.toNat (wr ((wr (61 * x1)) + x2))))]) M1) else none) else some (vi 0, (qk t u I J))) else none) else (if (0 : Int) ≤ wr ((wr ((wr (61 * x1)) + x2)) + 1) ∧ wr ((wr ((wr (61 * x1)) + x2)) + 1) < 245 then (if (0 : Int) ≤ wr ((wr (61 * x1)) + x2) ∧ wr ((wr (61 * x1)) + x2) < 245 then (if I 272 (Int.toNat (wr ((wr ((wr (61 * x1)) + x2)) + 1))) = I 272 (Int.toNat (wr ((wr (61 * x1)) + x2))) then (if (0 : Int) ≤ wr ((wr (61 * x1)) + x2) ∧ wr ((wr (61 * x1)) + x2) < 245 then (if (0 : Int) < I 272 (Int.toNat (wr ((wr (61 * x1)) + x2))) then some (vi 0, (qk t u I J)) else some (vi 0, (qk t u I J))) else none) else (if (0 : Int) ≤ wr ((wr (61 * x1)) + x2) ∧ wr ((wr (61 * x1)) + x2) < 245 then (if (0 : Int) < I 272 (Int.toNat (wr ((wr (61 * x1)) + x2))) then (if (0 : Int) ≤ wr ((wr (61 * x1)) + x2) ∧ wr ((wr (61 * x1)) + x2) < 245 then (q_bi (q_E (214, 0, [vr 272, vi (wr (61 * x1)), vu], []) (qk t u I J)) fun z M1 => q_E (248, 73, [vr 265, vi x1, vi x2, vi (wr (61 * x1)), vi 1], [vi z, vi (I 272 (Int.toNat (wr ((wr (61 * x1)) + x2))))]) M1) else none) else some (vi 0, (qk t u I J))) else none)) else none) else none)) := q_it_eq 400 [73] _ _
set_option maxRecDepth 20000 in
theorem e248_73 (t u : Nat) (I J : Nat → Nat → Int) (x1 : Int) (x2 : Int) (x3 : Int) (x4 : Int) (y0 : Int) (y1 : Int) : q_E (248, 73, [vr 265, vi x1, vi x2, vi x3, vi x4], [vi y0, vi y1]) (qk t u I J) = (if y1 < wr (y0 - 1) then some (vi 0, (qk t u I J)) else some (vi 1, (qk t u I J))) := q_it_eq 400 [73] _ _
/-! 249: StewardHeapsModel.sources(I)I -/
set_option maxRecDepth 20000 in
theorem e249_0 (t u : Nat) (I J : Nat → Nat → Int) (x1 : Int) : q_E (249, 0, [vr 265, vi x1, vu, vu], []) (qk t u I J) = (q_bv (q_E (177, 0, [vr 265], []) (qk t u I J)) fun M1 => q_E (249, 4, [vr 265, vi x1, vu, vu], []) M1) := q_it_eq 400 [4, 9, 17, 36, 49] _ _
set_option maxRecDepth 20000 in
theorem e249_36 (t u : Nat) (I J : Nat → Nat → Int) (x1 : Int) (x2 : Int) (x3 : Int) : q_E (249, 36, [vr 265, vi x1, vi x2, vi x3], []) (qk t u I J) = (if x3 < 60 then (q_bi (q_E (248, 0, [vr 265, vi x1, vi x3, vu, vu], []) (qk t u I J)) fun z M1 => q_E (249, 49, [vr 265, vi x1, vi x2, vi x3], [vi z, vi x2]) M1) else some (vi x2, (qk t u I J))) := q_it_eq 400 [4, 9, 17, 36, 49] _ _
set_option maxRecDepth 20000 in
theorem e249_4 (t u : Nat) (I J : Nat → Nat → Int) (x1 : Int) : q_E (249, 4, [vr 265, vi x1, vu, vu], []) (qk t u I J) = (q_bi (q_E (210, 0, [vr 265, vi x1], []) (qk t u I J)) fun z M1 => q_E (249, 9, [vr 265, vi x1, vu, vu], [vi z]) M1) := q_it_eq 400 [4, 9, 17, 36, 49] _ _
set_option maxRecDepth 20000 in
theorem e249_49 (t u : Nat) (I J : Nat → Nat → Int) (x1 : Int) (x2 : Int) (x3 : Int) (y0 : Int) (y1 : Int) : q_E (249, 49, [vr 265, vi x1, vi x2, vi x3], [vi y0, vi y1]) (qk t u I J) = (if y0 = 0 then q_E (249, 36, [vr 265, vi x1, vi (wr (y1 + 0)), vi (wr (x3 + 1))], []) (qk t u I J) else q_E (249, 36, [vr 265, vi x1, vi (wr (y1 + 1)), vi (wr (x3 + 1))], []) (qk t u I J)) := q_it_eq 400 [4, 9, 17, 36, 49] _ _
set_option maxRecDepth 20000 in
theorem e249_9 (t u : Nat) (I J : Nat → Nat → Int) (x1 : Int) (y0 : Int) : q_E (249, 9, [vr 265, vi x1, vu, vu], [vi y0]) (qk t u I J) = (if y0 = 0 then (q_bi (q_E (178, 0, [vr 265, vi 1], []) (qk t u I J)) fun z M1 => q_E (249, 17, [vr 265, vi x1, vu, vu], [vi z]) M1) else (if (0 : Int) ≤ wr (61 * x1) ∧ wr (61 * x1) < 245 then (if I 272 (Int.toNat (wr (61 * x1))) = 0 then some (vi 1, (qk t u I J)) else q_E (249, 36, [vr 265, vi x1, vi 0, vi 0], []) (qk t u I J)) else none)) := q_it_eq 400 [4, 9, 17, 36, 49] _ _
set_option maxRecDepth 20000 in
theorem e249_17 (t u : Nat) (I J : Nat → Nat → Int) (x1 : Int) (y0 : Int) : q_E (249, 17, [vr 265, vi x1, vu, vu], [vi y0]) (qk t u I J) = some (vi y0, (qk t u I J)) := q_it_eq 400 [4, 9, 17, 36, 49] _ _
/-! 250: StewardHeapsModel.laySource(II)V -/
set_option maxRecDepth 20000 in
theorem e250_0 (t u : Nat) (I J : Nat → Nat → Int) (x1 : Int) (x2 : Int) : q_E (250, 0, [vr 265, vi x1, vi x2, vu, vu, vu, vu], []) (qk t u I J) = (q_bi (q_E (214, 0, [vr 272, vi (wr (61 * x1)), vu], []) (qk t u I J)) fun z M1 => q_E (250, 11, [vr 265, vi x1, vi x2, vu, vu, vu, vu], [vi z]) M1) := q_it_eq 400 [11, 28, 55, 100] _ _
set_option maxRecDepth 20000 in
theorem e250_28 (t u : Nat) (I J : Nat → Nat → Int) (x1 : Int) (x2 : Int) (x3 : Int) (x4 : Int) (x5 : Int) : q_E (250, 28, [vr 265, vi x1, vi x2, vi x3, vi x4, vi x5, vu], []) (qk t u I J) = (if x5 < 60 then (if (0 : Int) ≤ x5 ∧ x5 < 61 then q_E (250, 28, [vr 265, vi x1, vi x2, vi x3, vi x4, vi (wr (x5 + 1)), vu], []) (qk t u (uI I 275 (Int.toNat x5) 0) J) else none) else q_E (250, 55, [vr 265, vi x1, vi x2, vi x3, vi x4, vi 0, vi 0], []) (qk t u I J)) := q_it_eq 400 [11, 28, 55, 100] _ _
set_option maxRecDepth 20000 in
theorem e250_55 (t u : Nat) (I J : Nat → Nat → Int) (x1 : Int) (x2 : Int) (x3 : Int) (x4 : Int) (x5 : Int) (x6 : Int) : q_E (250, 55, [vr 265, vi x1, vi x2, vi x3, vi x4, vi x5, vi x6], []) (qk t u I J) = (if x6 < x3 then (if x6 = x2 then q_E (250, 55, [vr 265, vi x1, vi x2, vi x3, vi x4, vi x5, vi (wr (x6 + 1))], []) (qk t u I J) else (if (0 : Int) ≤ wr ((wr (61 * x1)) + x6) ∧ wr ((wr (61 * x1)) + x6) < 245 then (if (0 : Int) ≤ x5 ∧ x5 < 61 then q_E (250, 55, [vr 265, vi x1, vi x2, vi x3, vi x4, vi (wr (x5 + 1)), vi (wr (x6 + 1))], []) (qk t u (uI I 275 (Int.toNat x5) (wr ((I 272 (Int.toNat (wr ((wr (61 * x1)) + x6)))) + 1))) J) else none) else none)) else q_E (250, 100, [vr 265, vu, vu, vu, vi x4, vi x5, vu], []) (qk t u I J)) := q_it_eq 400 [11, 28, 55, 100] _ _
set_option maxRecDepth 20000 in
theorem e250_100 (t u : Nat) (I J : Nat → Nat → Int) (x4 : Int) (x5 : Int) : q_E (250, 100, [vr 265, vu, vu, vu, vi x4, vi x5, vu], []) (qk t u I J) = (if x5 < x4 then (if (0 : Int) ≤ x5 ∧ x5 < 61 then q_E (250, 100, [vr 265, vu, vu, vu, vi x4, vi (wr (x5 + 1)), vu], []) (qk t u (uI I 275 (Int.toNat x5) 1) J) else none) else some (vu, (qk t u I J))) := q_it_eq 400 [11, 28, 55, 100] _ _
set_option maxRecDepth 20000 in
theorem e250_11 (t u : Nat) (I J : Nat → Nat → Int) (x1 : Int) (x2 : Int) (y0 : Int) : q_E (250, 11, [vr 265, vi x1, vi x2, vu, vu, vu, vu], [vi y0]) (qk t u I J) = (if (0 : Int) ≤ wr ((wr (61 * x1)) + x2) ∧ wr ((wr (61 * x1)) + x2) < 245 then q_E (250, 28, [vr 265, vi x1, vi x2, vi y0, vi (I 272 (Int.toNat (wr ((wr (61 * x1)) + x2)))), vi 0, vu], []) (qk t u I J) else none) := q_it_eq 400 [11, 28, 55, 100] _ _
/-! 251: StewardHeapsModel.source(III)I -/
set_option maxRecDepth 20000 in
theorem e251_0 (t u : Nat) (I J : Nat → Nat → Int) (x1 : Int) (x2 : Int) (x3 : Int) : q_E (251, 0, [vr 265, vi x1, vi x2, vi x3, vu, vu, vu, vu], []) (qk t u I J) = (q_bv (q_E (177, 0, [vr 265], []) (qk t u I J)) fun M1 => q_E (251, 4, [vr 265, vi x1, vi x2, vi x3, vu, vu, vu, vu], []) M1) := q_it_eq 400 [4, 9, 17, 59, 73, 108, 116, 124, 139] _ _
set_option maxRecDepth 20000 in
theorem e251_59 (t u : Nat) (I J : Nat → Nat → Int) (x1 : Int) (x2 : Int) (x3 : Int) (x4 : Int) (x5 : Int) (x6 : Int) (x7 : Int) : q_E (251, 59, [vr 265, vi x1, vi x2, vi x3, vi x4, vi x5, vi x6, vi x7], []) (qk t u I J) = (if x7 < 60 then (q_bi (q_E (248, 0, [vr 265, vi x1, vi x7, vu, vu], []) (qk t u I J)) fun z M1 => q_E (251, 73, [vr 265, vi x1, vi x2, vi x3, vi x4, vi x5, vi x6, vi x7], [vi z]) M1) else (if x5 < 0 then (q_bi (q_E (178, 0, [vr 265, vi 1], []) (qk t u I J)) fun z M1 => q_E (251, 108, [vr 265, vi x1, vi x2, vi x3, vi x4, vi x5, vi x6, vi x7], [vi z]) M1) else (q_bi (q_E (180, 0, [vi x3, vi 0, vi 59], []) (qk t u I J)) fun z M1 => q_E (251, 116, [vr 265, vi x1, vi x2, vi x3, vi x4, vi x5, vi x6, vi x7], [vi z]) M1))) := q_it_eq 400 [4, 9, 17, 59, 73, 108, 116, 124, 139] _ _
set_option maxRecDepth 20000 in
theorem e251_4 (t u : Nat) (I J : Nat → Nat → Int) (x1 : Int) (x2 : Int) (x3 : Int) : q_E (251, 4, [vr 265, vi x1, vi x2, vi x3, vu, vu, vu, vu], []) (qk t u I J) = (q_bi (q_E (210, 0, [vr 265, vi x1], []) (qk t u I J)) fun z M1 => q_E (251, 9, [vr 265, vi x1, vi x2, vi x3, vu, vu, vu, vu], [vi z]) M1) := q_it_eq 400 [4, 9, 17, 59, 73, 108, 116, 124, 139] _ _
set_option maxRecDepth 20000 in
theorem e251_73 (t u : Nat) (I J : Nat → Nat → Int) (x1 : Int) (x2 : Int) (x3 : Int) (x4 : Int) (x5 : Int) (x6 : Int) (x7 : Int) (y0 : Int) : q_E (251, 73, [vr 265, vi x1, vi x2, vi x3, vi x4, vi x5, vi x6, vi x7], [vi y0]) (qk t u I J) = (if y0 = 0 then q_E (251, 59, [vr 265, vi x1, vi x2, vi x3, vi x4, vi x5, vi x6, vi (wr (x7 + 1))], []) (qk t u I J) else (if x6 = x2 then q_E (251, 59, [vr 265, vi x1, vi x2, vi x3, vi x4, vi x7, vi (wr (x6 + 1)), vi (wr (x7 + 1))], []) (qk t u I J) else q_E (251, 59, [vr 265, vi x1, vi x2, vi x3, vi x4, vi x5, vi (wr (x6 + 1)), vi (wr (x7 + 1))], []) (qk t u I J))) := q_it_eq 400 [4, 9, 17, 59, 73, 108, 116, 124, 139] _ _
set_option maxRecDepth 20000 in
theorem e251_108 (t u : Nat) (I J : Nat → Nat → Int) (x1 : Int) (x2 : Int) (x3 : Int) (x4 : Int) (x5 : Int) (x6 : Int) (x7 : Int) (y0 : Int) : q_E (251, 108, [vr 265, vi x1, vi x2, vi x3, vi x4, vi x5, vi x6, vi x7], [vi y0]) (qk t u I J) = some (vi y0, (qk t u I J)) := q_it_eq 400 [4, 9, 17, 59, 73, 108, 116, 124, 139] _ _
set_option maxRecDepth 20000 in
theorem e251_116 (t u : Nat) (I J : Nat → Nat → Int) (x1 : Int) (x2 : Int) (x3 : Int) (x4 : Int) (x5 : Int) (x6 : Int) (x7 : Int) (y0 : Int) : q_E (251, 116, [vr 265, vi x1, vi x2, vi x3, vi x4, vi x5, vi x6, vi x7], [vi y0]) (qk t u I J) = (if y0 = 0 then (q_bi (q_E (178, 0, [vr 265, vi 2], []) (qk t u I J)) fun z M1 => q_E (251, 124, [vr 265, vi x1, vi x2, vi x3, vi x4, vi x5, vi x6, vi x7], [vi z]) M1) else (if x4 = 0 then (q_bv (q_E (250, 0, [vr 265, vi x1, vi x5, vu, vu, vu, vu], []) (qk t u I J)) fun M1 => q_E (251, 139, [vr 265, vi x1, vi x2, vi x3, vi x4, vi x5, vi x6, vi x7], []) M1) else some (vi 0, (qk t u I J)))) := q_it_eq 400 [4, 9, 17, 59, 73, 108, 116, 124, 139] _ _
set_option maxRecDepth 20000 in
theorem e251_9 (t u : Nat) (I J : Nat → Nat → Int) (x1 : Int) (x2 : Int) (x3 : Int) (y0 : Int) : q_E (251, 9, [vr 265, vi x1, vi x2, vi x3, vu, vu, vu, vu], [vi y0]) (qk t u I J) = (if y0 = 0 then (q_bi (q_E (178, 0, [vr 265, vi 1], []) (qk t u I J)) fun z M1 => q_E (251, 17, [vr 265, vi x1, vi x2, vi x3, vu, vu, vu, vu], [vi z]) M1) else (if (0 : Int) ≤ wr (61 * x1) ∧ wr (61 * x1) < 245 then (if I 272 (Int.toNat (wr (61 * x1))) = 0 then (if x2 = 0 then q_E (251, 59, [vr 265, vi x1, vi x2, vi x3, vi 1, vi 0, vi 0, vi 0], []) (qk t u I J) else q_E (251, 59, [vr 265, vi x1, vi x2, vi x3, vi 1, vi (-1), vi 0, vi 0], []) (qk t u I J)) else q_E (251, 59, [vr 265, vi x1, vi x2, vi x3, vi 0, vi (-1), vi 0, vi 0], []) (qk t u I J)) else none)) := q_it_eq 400 [4, 9, 17, 59, 73, 108, 116, 124, 139] _ _
set_option maxRecDepth 20000 in
theorem e251_124 (t u : Nat) (I J : Nat → Nat → Int) (x1 : Int) (x2 : Int) (x3 : Int) (x4 : Int) (x5 : Int) (x6 : Int) (x7 : Int) (y0 : Int) : q_E (251, 124, [vr 265, vi x1, vi x2, vi x3, vi x4, vi x5, vi x6, vi x7], [vi y0]) (qk t u I J) = some (vi y0, (qk t u I J)) := q_it_eq 400 [4, 9, 17, 59, 73, 108, 116, 124, 139] _ _
set_option maxRecDepth 20000 in
theorem e251_139 (t u : Nat) (I J : Nat → Nat → Int) (x1 : Int) (x2 : Int) (x3 : Int) (x4 : Int) (x5 : Int) (x6 : Int) (x7 : Int) : q_E (251, 139, [vr 265, vi x1, vi x2, vi x3, vi x4, vi x5, vi x6, vi x7], []) (qk t u I J) = (if (0 : Int) ≤ x3 ∧ x3 < 61 then some (vi (I 275 (Int.toNat x3)), (qk t u I J)) else none) := q_it_eq 400 [4, 9, 17, 59, 73, 108, 116, 124, 139] _ _
set_option maxRecDepth 20000 in
theorem e251_17 (t u : Nat) (I J : Nat → Nat → Int) (x1 : Int) (x2 : Int) (x3 : Int) (y0 : Int) : q_E (251, 17, [vr 265, vi x1, vi x2, vi x3, vu, vu, vu, vu], [vi y0]) (qk t u I J) = some (vi y0, (qk t u I J)) := q_it_eq 400 [4, 9, 17, 59, 73, 108, 116, 124, 139] _ _
/-! 252: StewardHeapsModel.layWays()V -/
set_option maxRecDepth 20000 in
theorem e252_0 (t u : Nat) (I J : Nat → Nat → Int) : q_E (252, 0, [vr 265, vu, vu, vu, vu], []) (qk t u I J) = q_E (252, 2, [vr 265, vi 0, vu, vu, vu], []) (qk t u I J) := q_it_eq 400 [2, 10, 42, 69] _ _
set_option maxRecDepth 20000 in
theorem e252_2 (t u : Nat) (I J : Nat → Nat → Int) (x1 : Int) : q_E (252, 2, [vr 265, vi x1, vu, vu, vu], []) (qk t u I J) = (if (60 : Int) < x1 then some (vu, (qk t u I J)) else q_E (252, 10, [vr 265, vi x1, vi 0, vu, vu], []) (qk t u I J)) := q_it_eq 400 [2, 10, 42, 69] _ _
set_option maxRecDepth 20000 in
theorem e252_10 (t u : Nat) (I J : Nat → Nat → Int) (x1 : Int) (x2 : Int) : q_E (252, 10, [vr 265, vi x1, vi x2, vu, vu], []) (qk t u I J) = (if (60 : Int) < x2 then q_E (252, 2, [vr 265, vi (wr (x1 + 1)), vu, vu, vu], []) (qk t u I J) else (if (0 : Int) < x1 then (if (0 : Int) < x2 then (if (0 : Int) ≤ wr ((wr ((wr (61 * (wr (x1 - 1)))) + x2)) - 1) ∧ wr ((wr ((wr (61 * (wr (x1 - 1)))) + x2)) - 1) < 3721 then (if x1 < x2 then q_E (252, 69, [vr 265, vi x1, vi x2, vi (I 279 (Int.toNat (wr ((wr ((wr (61 * (wr (x1 - 1)))) + x2)) - 1)))), vu], []) (qk t u I J) else (if (0 : Int) < x2 then (if (0 : Int) ≤ wr ((wr (61 * (wr (x1 - x2)))) + x2) ∧ wr ((wr (61 * (wr (x1 - x2)))) + x2) < 3721 then (if x1 = 0 then (if x2 = 0 then (if (0 : Int) ≤ wr ((wr (61 * x1)) + x2) ∧ wr ((wr (61 * x1)) + x2) < 3721 then q_E (252, 10, [vr 265, vi x1, vi (wr (x2 + 1)), vu, vu], []) (qk t u (uI I 279 (Int.toNat (wr ((wr (61 * x1)) + x2))) 1) J) else none) else (if (0 : Int) ≤ wr ((wr (61 * x1)) + x2) ∧ wr ((wr (61 * x1)) + x2) < 3721 then q_E (252, 10, [vr 265, vi x1, vi (wr (x2 + 1)), vu, vu], []) (qk t u (uI I 279 (Int.toNat (wr ((wr (61 * x1)) + x2))) (wr ((I 279 (Int.toNat (wr ((wr ((wr (61 * (wr (x1 - 1)))) + x2)) - 1)))) + (I 279 (Int.toNat (wr ((wr (61 * (wr (x1 - x2)))) + x2))))))) J) else none)) else (if (0 : Int) ≤ wr ((wr (61 * x1)) + x2) ∧ wr ((wr (61 * x1)) + x2) < 3721 then q_E (252, 10, [vr 265, vi x1, vi (wr (x2 + 1)), vu, vu], []) (qk t u (uI I 279 (Int.toNat (wr ((wr (61 * x1)) + x2))) (wr ((I 279 (Int.toNat (wr ((wr ((wr (61 * (wr (x1 - 1)))) + x2)) - 1)))) + (I 279 (Int.toNat (wr ((wr (61 * (wr (x1 - x2)))) + x2))))))) J) else none)) else none) else q_E (252, 69, [vr 265, vi x1, vi x2, vi (I 279 (Int.toNat (wr ((wr ((wr (61 * (wr (x1 - 1)))) + x2)) - 1)))), vu], []) (qk t u I J))) else none) else q_E (252, 42, [vr 265, vi x1, vi x2, vu, vu], []) (qk t u I J)) else q_E (252, 42, [vr 265, vi x1, vi x2, vu, vu], []) (qk t u I J))) := q_it_eq 400 [2, 10, 42, 69] _ _
set_option maxRecDepth 20000 in
theorem e252_42 (t u : Nat) (I J : Nat → Nat → Int) (x1 : Int) (x2 : Int) : q_E (252, 42, [vr 265, vi x1, vi x2, vu, vu], []) (qk t u I J) = (if x1 < x2 then q_E (252, 69, [vr 265, vi x1, vi x2, vi 0, vu], []) (qk t u I J) else (if (0 : Int) < x2 then (if (0 : Int) ≤ wr ((wr (61 * (wr (x1 - x2)))) + x2) ∧ wr ((wr (61 * (wr (x1 - x2)))) + x2) < 3721 then (if x1 = 0 then (if x2 = 0 then (if (0 : Int) ≤ wr ((wr (61 * x1)) + x2) ∧ wr ((wr (61 * x1)) + x2) < 3721 then q_E (252, 10, [vr 265, vi x1, vi (wr (x2 + 1)), vu, vu], []) (qk t u (uI I 279 (Int.toNat (wr ((wr (61 * x1)) + x2))) 1) J) else none) else (if (0 : Int) ≤ wr ((wr (61 * x1)) + x2) ∧ wr ((wr (61 * x1)) + x2) < 3721 then q_E (252, 10, [vr 265, vi x1, vi (wr (x2 + 1)), vu, vu], []) (qk t u (uI I 279 (Int.toNat (wr ((wr (61 * x1)) + x2))) (wr (0 + (I 279 (Int.toNat (wr ((wr (61 * (wr (x1 - x2)))) + x2))))))) J) else none)) else (if (0 : Int) ≤ wr ((wr (61 * x1)) + x2) ∧ wr ((wr (61 * x1)) + x2) < 3721 then q_E (252, 10, [vr 265, vi x1, vi (wr (x2 + 1)), vu, vu], []) (qk t u (uI I 279 (Int.toNat (wr ((wr (61 * x1)) + x2))) (wr (0 + (I 279 (Int.toNat (wr ((wr (61 * (wr (x1 - x2)))) + x2))))))) J) else none)) else none) else q_E (252, 69, [vr 265, vi x1, vi x2, vi 0, vu], []) (qk t u I J))) := q_it_eq 400 [2, 10, 42, 69] _ _
set_option maxRecDepth 20000 in
theorem e252_69 (t u : Nat) (I J : Nat → Nat → Int) (x1 : Int) (x2 : Int) (x3 : Int) : q_E (252, 69, [vr 265, vi x1, vi x2, vi x3, vu], []) (qk t u I J) = (if x1 = 0 then (if x2 = 0 then (if (0 : Int) ≤ wr ((wr (61 * x1)) + x2) ∧ wr ((wr (61 * x1)) + x2) < 3721 then q_E (252, 10, [vr 265, vi x1, vi (wr (x2 + 1)), vu, vu], []) (qk t u (uI I 279 (Int.toNat (wr ((wr (61 * x1)) + x2))) 1) J) else none) else (if (0 : Int) ≤ wr ((wr (61 * x1)) + x2) ∧ wr ((wr (61 * x1)) + x2) < 3721 then q_E (252, 10, [vr 265, vi x1, vi (wr (x2 + 1)), vu, vu], []) (qk t u (uI I 279 (Int.toNat (wr ((wr (61 * x1)) + x2))) (wr (x3 + 0))) J) else none)) else (if (0 : Int) ≤ wr ((wr (61 * x1)) + x2) ∧ wr ((wr (61 * x1)) + x2) < 3721 then q_E (252, 10, [vr 265, vi x1, vi (wr (x2 + 1)), vu, vu], []) (qk t u (uI I 279 (Int.toNat (wr ((wr (61 * x1)) + x2))) (wr (x3 + 0))) J) else none)) := q_it_eq 400 [2, 10, 42, 69] _ _
/-! 253: StewardHeapsModel.numberWhy(II)I -/
set_option maxRecDepth 20000 in
theorem e253_0 (t u : Nat) (I J : Nat → Nat → Int) (x1 : Int) (x2 : Int) : q_E (253, 0, [vr 265, vi x1, vi x2], []) (qk t u I J) = (q_bi (q_E (180, 0, [vi x1, vi 0, vi 60], []) (qk t u I J)) fun z M1 => q_E (253, 12, [vr 265, vi x1, vi x2], [vi z, vi (I 265 14), vr 265]) M1) := q_it_eq 400 [12, 22, 33] _ _
set_option maxRecDepth 20000 in
theorem e253_12 (t u : Nat) (I J : Nat → Nat → Int) (x1 : Int) (x2 : Int) (y0 : Int) (y1 : Int) (y2 : Nat) : q_E (253, 12, [vr 265, vi x1, vi x2], [vi y0, vi y1, vr y2]) (qk t u I J) = (if y0 = 0 then (if kd y2 = 21 then (q_bi (q_E (212, 0, [vr y2, vi y1, vi 0], []) (qk t u I J)) fun z M1 => q_E (253, 33, [vr 265, vi x1, vi x2], [vi z]) M1) else none) else (q_bi (q_E (180, 0, [vi x2, vi 0, vi 60], []) (qk t u I J)) fun z M1 => q_E (253, 22, [vr 265, vi x1, vi x2], [vi z, vi y1, vr y2]) M1)) := q_it_eq 400 [12, 22, 33] _ _
set_option maxRecDepth 20000 in
theorem e253_33 (t u : Nat) (I J : Nat → Nat → Int) (x1 : Int) (x2 : Int) (y0 : Int) : q_E (253, 33, [vr 265, vi x1, vi x2], [vi y0]) (qk t u I J) = some (vi y0, (qk t u I J)) := q_it_eq 400 [12, 22, 33] _ _
set_option maxRecDepth 20000 in
theorem e253_22 (t u : Nat) (I J : Nat → Nat → Int) (x1 : Int) (x2 : Int) (y0 : Int) (y1 : Int) (y2 : Nat) : q_E (253, 22, [vr 265, vi x1, vi x2], [vi y0, vi y1, vr y2]) (qk t u I J) = (if y0 = 0 then (if kd y2 = 21 then (q_bi (q_E (212, 0, [vr y2, vi y1, vi 0], []) (qk t u I J)) fun z M1 => q_E (253, 33, [vr 265, vi x1, vi x2], [vi z]) M1) else none) else (if kd y2 = 21 then (q_bi (q_E (212, 0, [vr y2, vi y1, vi 1], []) (qk t u I J)) fun z M1 => q_E (253, 33, [vr 265, vi x1, vi x2], [vi z]) M1) else none)) := q_it_eq 400 [12, 22, 33] _ _
/-! 254: StewardHeapsModel.ways(I)I -/
set_option maxRecDepth 20000 in
theorem e254_0 (t u : Nat) (I J : Nat → Nat → Int) (x1 : Int) : q_E (254, 0, [vr 265, vi x1, vu, vu, vu], []) (qk t u I J) = (q_bv (q_E (177, 0, [vr 265], []) (qk t u I J)) fun M1 => q_E (254, 4, [vr 265, vi x1, vu, vu, vu], []) M1) := q_it_eq 400 [4, 10, 20, 25, 30] _ _
set_option maxRecDepth 20000 in
theorem e254_30 (t u : Nat) (I J : Nat → Nat → Int) (x1 : Int) (x3 : Int) (x4 : Int) : q_E (254, 30, [vr 265, vi x1, vu, vi x3, vi x4], []) (qk t u I J) = (if (60 : Int) < x4 then some (vi x3, (qk t u I J)) else (if (0 : Int) ≤ wr ((wr (61 * x1)) + x4) ∧ wr ((wr (61 * x1)) + x4) < 3721 then q_E (254, 30, [vr 265, vi x1, vu, vi (wr (x3 + (I 279 (Int.toNat (wr ((wr (61 * x1)) + x4)))))), vi (wr (x4 + 1))], []) (qk t u I J) else none)) := q_it_eq 400 [4, 10, 20, 25, 30] _ _
set_option maxRecDepth 20000 in
theorem e254_4 (t u : Nat) (I J : Nat → Nat → Int) (x1 : Int) : q_E (254, 4, [vr 265, vi x1, vu, vu, vu], []) (qk t u I J) = (q_bi (q_E (253, 0, [vr 265, vi x1, vi 0], []) (qk t u I J)) fun z M1 => q_E (254, 10, [vr 265, vi x1, vu, vu, vu], [vi z]) M1) := q_it_eq 400 [4, 10, 20, 25, 30] _ _
set_option maxRecDepth 20000 in
theorem e254_10 (t u : Nat) (I J : Nat → Nat → Int) (x1 : Int) (y0 : Int) : q_E (254, 10, [vr 265, vi x1, vu, vu, vu], [vi y0]) (qk t u I J) = (if y0 = 0 then (q_bv (q_E (252, 0, [vr 265, vu, vu, vu, vu], []) (qk t u I J)) fun M1 => q_E (254, 25, [vr 265, vi x1, vi y0, vu, vu], []) M1) else (q_bi (q_E (178, 0, [vr 265, vi y0], []) (qk t u I J)) fun z M1 => q_E (254, 20, [vr 265, vi x1, vi y0, vu, vu], [vi z]) M1)) := q_it_eq 400 [4, 10, 20, 25, 30] _ _
set_option maxRecDepth 20000 in
theorem e254_25 (t u : Nat) (I J : Nat → Nat → Int) (x1 : Int) (x2 : Int) : q_E (254, 25, [vr 265, vi x1, vi x2, vu, vu], []) (qk t u I J) = q_E (254, 30, [vr 265, vi x1, vu, vi 0, vi 0], []) (qk t u I J) := q_it_eq 400 [4, 10, 20, 25, 30] _ _
set_option maxRecDepth 20000 in
theorem e254_20 (t u : Nat) (I J : Nat → Nat → Int) (x1 : Int) (x2 : Int) (y0 : Int) : q_E (254, 20, [vr 265, vi x1, vi x2, vu, vu], [vi y0]) (qk t u I J) = some (vi y0, (qk t u I J)) := q_it_eq 400 [4, 10, 20, 25, 30] _ _
/-! 255: StewardHeapsModel.waysBy(II)I -/
set_option maxRecDepth 20000 in
theorem e255_0 (t u : Nat) (I J : Nat → Nat → Int) (x1 : Int) (x2 : Int) : q_E (255, 0, [vr 265, vi x1, vi x2, vu], []) (qk t u I J) = (q_bv (q_E (177, 0, [vr 265], []) (qk t u I J)) fun M1 => q_E (255, 4, [vr 265, vi x1, vi x2, vu], []) M1) := q_it_eq 400 [4, 10, 20, 25] _ _
set_option maxRecDepth 20000 in
theorem e255_4 (t u : Nat) (I J : Nat → Nat → Int) (x1 : Int) (x2 : Int) : q_E (255, 4, [vr 265, vi x1, vi x2, vu], []) (qk t u I J) = (q_bi (q_E (253, 0, [vr 265, vi x1, vi x2], []) (qk t u I J)) fun z M1 => q_E (255, 10, [vr 265, vi x1, vi x2, vu], [vi z]) M1) := q_it_eq 400 [4, 10, 20, 25] _ _
set_option maxRecDepth 20000 in
theorem e255_10 (t u : Nat) (I J : Nat → Nat → Int) (x1 : Int) (x2 : Int) (y0 : Int) : q_E (255, 10, [vr 265, vi x1, vi x2, vu], [vi y0]) (qk t u I J) = (if y0 = 0 then (q_bv (q_E (252, 0, [vr 265, vu, vu, vu, vu], []) (qk t u I J)) fun M1 => q_E (255, 25, [vr 265, vi x1, vi x2, vi y0], []) M1) else (q_bi (q_E (178, 0, [vr 265, vi y0], []) (qk t u I J)) fun z M1 => q_E (255, 20, [vr 265, vi x1, vi x2, vi y0], [vi z]) M1)) := q_it_eq 400 [4, 10, 20, 25] _ _
set_option maxRecDepth 20000 in
theorem e255_25 (t u : Nat) (I J : Nat → Nat → Int) (x1 : Int) (x2 : Int) (x3 : Int) : q_E (255, 25, [vr 265, vi x1, vi x2, vi x3], []) (qk t u I J) = (if (0 : Int) ≤ wr ((wr (61 * x1)) + x2) ∧ wr ((wr (61 * x1)) + x2) < 3721 then some (vi (I 279 (Int.toNat (wr ((wr (61 * x1)) + x2)))), (qk t u I J)) else none) := q_it_eq 400 [4, 10, 20, 25] _ _
set_option maxRecDepth 20000 in
theorem e255_20 (t u : Nat) (I J : Nat → Nat → Int) (x1 : Int) (x2 : Int) (x3 : Int) (y0 : Int) : q_E (255, 20, [vr 265, vi x1, vi x2, vi x3], [vi y0]) (qk t u I J) = some (vi y0, (qk t u I J)) := q_it_eq 400 [4, 10, 20, 25] _ _
/-! 256: StewardHeapsModel.waysUnlike(I)I -/
set_option maxRecDepth 20000 in
theorem e256_0 (t u : Nat) (I J : Nat → Nat → Int) (x1 : Int) : q_E (256, 0, [vr 265, vi x1, vu, vu, vu], []) (qk t u I J) = (q_bv (q_E (177, 0, [vr 265], []) (qk t u I J)) fun M1 => q_E (256, 4, [vr 265, vi x1, vu, vu, vu], []) M1) := q_it_eq 400 [4, 10, 20, 23, 52, 62] _ _
set_option maxRecDepth 20000 in
theorem e256_23 (t u : Nat) (I J : Nat → Nat → Int) (x1 : Int) (x3 : Int) : q_E (256, 23, [vr 265, vi x1, vu, vi x3, vu], []) (qk t u I J) = (if (60 : Int) < x3 then q_E (256, 52, [vr 265, vi x1, vu, vi 1, vu], []) (qk t u I J) else (if x3 = 0 then (if (0 : Int) ≤ x3 ∧ x3 < 61 then q_E (256, 23, [vr 265, vi x1, vu, vi (wr (x3 + 1)), vu], []) (qk t u (uI I 280 (Int.toNat x3) 1) J) else none) else (if (0 : Int) ≤ x3 ∧ x3 < 61 then q_E (256, 23, [vr 265, vi x1, vu, vi (wr (x3 + 1)), vu], []) (qk t u (uI I 280 (Int.toNat x3) 0) J) else none))) := q_it_eq 400 [4, 10, 20, 23, 52, 62] _ _
set_option maxRecDepth 20000 in
theorem e256_52 (t u : Nat) (I J : Nat → Nat → Int) (x1 : Int) (x3 : Int) : q_E (256, 52, [vr 265, vi x1, vu, vi x3, vu], []) (qk t u I J) = (if (60 : Int) < x3 then (if (0 : Int) ≤ x1 ∧ x1 < 61 then some (vi (I 280 (Int.toNat x1)), (qk t u I J)) else none) else q_E (256, 62, [vr 265, vi x1, vu, vi x3, vi 60], []) (qk t u I J)) := q_it_eq 400 [4, 10, 20, 23, 52, 62] _ _
set_option maxRecDepth 20000 in
theorem e256_62 (t u : Nat) (I J : Nat → Nat → Int) (x1 : Int) (x3 : Int) (x4 : Int) : q_E (256, 62, [vr 265, vi x1, vu, vi x3, vi x4], []) (qk t u I J) = (if x4 < x3 then q_E (256, 52, [vr 265, vi x1, vu, vi (wr (x3 + 1)), vu], []) (qk t u I J) else (if (0 : Int) ≤ x4 ∧ x4 < 61 then (if (0 : Int) ≤ wr (x4 - x3) ∧ wr (x4 - x3) < 61 then (if (0 : Int) ≤ x4 ∧ x4 < 61 then q_E (256, 62, [vr 265, vi x1, vu, vi x3, vi (wr (x4 + (-1)))], []) (qk t u (uI I 280 (Int.toNat x4) (wr ((I 280 (Int.toNat x4)) + (I 280 (Int.toNat (wr (x4 - x3))))))) J) else none) else none) else none)) := q_it_eq 400 [4, 10, 20, 23, 52, 62] _ _
set_option maxRecDepth 20000 in
theorem e256_4 (t u : Nat) (I J : Nat → Nat → Int) (x1 : Int) : q_E (256, 4, [vr 265, vi x1, vu, vu, vu], []) (qk t u I J) = (q_bi (q_E (253, 0, [vr 265, vi x1, vi 0], []) (qk t u I J)) fun z M1 => q_E (256, 10, [vr 265, vi x1, vu, vu, vu], [vi z]) M1) := q_it_eq 400 [4, 10, 20, 23, 52, 62] _ _
set_option maxRecDepth 20000 in
theorem e256_10 (t u : Nat) (I J : Nat → Nat → Int) (x1 : Int) (y0 : Int) : q_E (256, 10, [vr 265, vi x1, vu, vu, vu], [vi y0]) (qk t u I J) = (if y0 = 0 then q_E (256, 23, [vr 265, vi x1, vu, vi 0, vu], []) (qk t u I J) else (q_bi (q_E (178, 0, [vr 265, vi y0], []) (qk t u I J)) fun z M1 => q_E (256, 20, [vr 265, vi x1, vi y0, vu, vu], [vi z]) M1)) := q_it_eq 400 [4, 10, 20, 23, 52, 62] _ _
set_option maxRecDepth 20000 in
theorem e256_20 (t u : Nat) (I J : Nat → Nat → Int) (x1 : Int) (x2 : Int) (y0 : Int) : q_E (256, 20, [vr 265, vi x1, vi x2, vu, vu], [vi y0]) (qk t u I J) = some (vi y0, (qk t u I J)) := q_it_eq 400 [4, 10, 20, 23, 52, 62] _ _
/-! 257: StewardHeapsModel.eatSum(I)I -/
set_option maxRecDepth 20000 in
theorem e257_0 (t u : Nat) (I J : Nat → Nat → Int) (x1 : Int) : q_E (257, 0, [vr 265, vi x1, vu, vu], []) (qk t u I J) = q_E (257, 4, [vr 265, vi x1, vi 0, vi 0], []) (qk t u I J) := q_it_eq 400 [4] _ _
set_option maxRecDepth 20000 in
theorem e257_4 (t u : Nat) (I J : Nat → Nat → Int) (x1 : Int) (x2 : Int) (x3 : Int) : q_E (257, 4, [vr 265, vi x1, vi x2, vi x3], []) (qk t u I J) = (if x3 < 60 then (if (0 : Int) ≤ wr ((wr (61 * x1)) + x3) ∧ wr ((wr (61 * x1)) + x3) < 245 then q_E (257, 4, [vr 265, vi x1, vi (q_xor x2 (Int.tmod (I 272 (Int.toNat (wr ((wr (61 * x1)) + x3)))) 4)), vi (wr (x3 + 1))], []) (qk t u I J) else none) else some (vi x2, (qk t u I J))) := q_it_eq 400 [4] _ _
/-! 258: StewardHeapsModel.eatFrom(II)I -/
set_option maxRecDepth 20000 in
theorem e258_0 (t u : Nat) (I J : Nat → Nat → Int) (x1 : Int) (x2 : Int) : q_E (258, 0, [vr 265, vi x1, vi x2, vu, vu], []) (qk t u I J) = (if (0 : Int) ≤ wr ((wr (61 * x1)) + x2) ∧ wr ((wr (61 * x1)) + x2) < 245 then q_E (258, 15, [vr 265, vi x1, vu, vi (I 272 (Int.toNat (wr ((wr (61 * x1)) + x2)))), vi 1], []) (qk t u I J) else none) := q_it_eq 400 [15, 32] _ _
set_option maxRecDepth 20000 in
theorem e258_15 (t u : Nat) (I J : Nat → Nat → Int) (x1 : Int) (x3 : Int) (x4 : Int) : q_E (258, 15, [vr 265, vi x1, vu, vi x3, vi x4], []) (qk t u I J) = (if (3 : Int) < x4 then some (vi (-2), (qk t u I J)) else (if x3 < x4 then some (vi (-2), (qk t u I J)) else (q_bi (q_E (257, 0, [vr 265, vi x1, vu, vu], []) (qk t u I J)) fun z M1 => q_E (258, 32, [vr 265, vi x1, vu, vi x3, vi x4], [vi z]) M1))) := q_it_eq 400 [15, 32] _ _
set_option maxRecDepth 20000 in
theorem e258_32 (t u : Nat) (I J : Nat → Nat → Int) (x1 : Int) (x3 : Int) (x4 : Int) (y0 : Int) : q_E (258, 32, [vr 265, vi x1, vu, vi x3, vi x4], [vi y0]) (qk t u I J) = (if q_xor (q_xor y0 (Int.tmod x3 4)) (Int.tmod (wr (x3 - x4)) 4) = 0 then some (vi x4, (qk t u I J)) else q_E (258, 15, [vr 265, vi x1, vu, vi x3, vi (wr (x4 + 1))], []) (qk t u I J)) := q_it_eq 400 [15, 32] _ _
/-! 259: StewardHeapsModel.eatHeap(I)I -/
set_option maxRecDepth 20000 in
theorem e259_0 (t u : Nat) (I J : Nat → Nat → Int) (x1 : Int) : q_E (259, 0, [vr 265, vi x1, vu], []) (qk t u I J) = q_E (259, 2, [vr 265, vi x1, vi 0], []) (qk t u I J) := q_it_eq 400 [2, 14] _ _
set_option maxRecDepth 20000 in
theorem e259_2 (t u : Nat) (I J : Nat → Nat → Int) (x1 : Int) (x2 : Int) : q_E (259, 2, [vr 265, vi x1, vi x2], []) (qk t u I J) = (if x2 < 60 then (q_bi (q_E (258, 0, [vr 265, vi x1, vi x2, vu, vu], []) (qk t u I J)) fun z M1 => q_E (259, 14, [vr 265, vi x1, vi x2], [vi z]) M1) else some (vi (-2), (qk t u I J))) := q_it_eq 400 [2, 14] _ _
set_option maxRecDepth 20000 in
theorem e259_14 (t u : Nat) (I J : Nat → Nat → Int) (x1 : Int) (x2 : Int) (y0 : Int) : q_E (259, 14, [vr 265, vi x1, vi x2], [vi y0]) (qk t u I J) = (if (0 : Int) < y0 then some (vi x2, (qk t u I J)) else q_E (259, 2, [vr 265, vi x1, vi (wr (x2 + 1))], []) (qk t u I J)) := q_it_eq 400 [2, 14] _ _

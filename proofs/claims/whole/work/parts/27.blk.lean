/-! 260: StewardHeapsModel.eats(I)I -/
set_option maxRecDepth 20000 in
theorem e260_0 (t u : Nat) (I J : Nat → Nat → Int) (x1 : Int) : q_E (260, 0, [vr 265, vi x1], []) (qk t u I J) = (q_bv (q_E (177, 0, [vr 265], []) (qk t u I J)) fun M1 => q_E (260, 4, [vr 265, vi x1], []) M1) := q_it_eq 400 [4, 9, 17, 23] _ _
set_option maxRecDepth 20000 in
theorem e260_4 (t u : Nat) (I J : Nat → Nat → Int) (x1 : Int) : q_E (260, 4, [vr 265, vi x1], []) (qk t u I J) = (q_bi (q_E (210, 0, [vr 265, vi x1], []) (qk t u I J)) fun z M1 => q_E (260, 9, [vr 265, vi x1], [vi z]) M1) := q_it_eq 400 [4, 9, 17, 23] _ _
set_option maxRecDepth 20000 in
theorem e260_9 (t u : Nat) (I J : Nat → Nat → Int) (x1 : Int) (y0 : Int) : q_E (260, 9, [vr 265, vi x1], [vi y0]) (qk t u I J) = (if y0 = 0 then (q_bi (q_E (178, 0, [vr 265, vi 1], []) (qk t u I J)) fun z M1 => q_E (260, 17, [vr 265, vi x1], [vi z]) M1) else (q_bi (q_E (257, 0, [vr 265, vi x1, vu, vu], []) (qk t u I J)) fun z M1 => q_E (260, 23, [vr 265, vi x1], [vi z]) M1)) := q_it_eq 400 [4, 9, 17, 23] _ _
set_option maxRecDepth 20000 in
theorem e260_17 (t u : Nat) (I J : Nat → Nat → Int) (x1 : Int) (y0 : Int) : q_E (260, 17, [vr 265, vi x1], [vi y0]) (qk t u I J) = some (vi y0, (qk t u I J)) := q_it_eq 400 [4, 9, 17, 23] _ _
set_option maxRecDepth 20000 in
theorem e260_23 (t u : Nat) (I J : Nat → Nat → Int) (x1 : Int) (y0 : Int) : q_E (260, 23, [vr 265, vi x1], [vi y0]) (qk t u I J) = (if y0 = 0 then some (vi 0, (qk t u I J)) else some (vi 1, (qk t u I J))) := q_it_eq 400 [4, 9, 17, 23] _ _
/-! 261: StewardHeapsModel.eatsOf(I)I -/
set_option maxRecDepth 20000 in
theorem e261_0 (t u : Nat) (I J : Nat → Nat → Int) (x1 : Int) : q_E (261, 0, [vr 265, vi x1], []) (qk t u I J) = (q_bv (q_E (177, 0, [vr 265], []) (qk t u I J)) fun M1 => q_E (261, 4, [vr 265, vi x1], []) M1) := q_it_eq 400 [4, 9, 17, 25] _ _
set_option maxRecDepth 20000 in
theorem e261_4 (t u : Nat) (I J : Nat → Nat → Int) (x1 : Int) : q_E (261, 4, [vr 265, vi x1], []) (qk t u I J) = (q_bi (q_E (210, 0, [vr 265, vi x1], []) (qk t u I J)) fun z M1 => q_E (261, 9, [vr 265, vi x1], [vi z]) M1) := q_it_eq 400 [4, 9, 17, 25] _ _
set_option maxRecDepth 20000 in
theorem e261_9 (t u : Nat) (I J : Nat → Nat → Int) (x1 : Int) (y0 : Int) : q_E (261, 9, [vr 265, vi x1], [vi y0]) (qk t u I J) = (if y0 = 0 then (q_bi (q_E (178, 0, [vr 265, vi 1], []) (qk t u I J)) fun z M1 => q_E (261, 25, [vr 265, vi x1], [vi z]) M1) else (q_bi (q_E (259, 0, [vr 265, vi x1, vu], []) (qk t u I J)) fun z M1 => q_E (261, 17, [vr 265, vi x1], [vi z]) M1)) := q_it_eq 400 [4, 9, 17, 25] _ _
set_option maxRecDepth 20000 in
theorem e261_25 (t u : Nat) (I J : Nat → Nat → Int) (x1 : Int) (y0 : Int) : q_E (261, 25, [vr 265, vi x1], [vi y0]) (qk t u I J) = some (vi y0, (qk t u I J)) := q_it_eq 400 [4, 9, 17, 25] _ _
set_option maxRecDepth 20000 in
theorem e261_17 (t u : Nat) (I J : Nat → Nat → Int) (x1 : Int) (y0 : Int) : q_E (261, 17, [vr 265, vi x1], [vi y0]) (qk t u I J) = q_E (261, 25, [vr 265, vi x1], [vi y0]) (qk t u I J) := q_it_eq 400 [4, 9, 17, 25] _ _
/-! 262: StewardHeapsModel.eatsMany(I)I -/
set_option maxRecDepth 20000 in
theorem e262_0 (t u : Nat) (I J : Nat → Nat → Int) (x1 : Int) : q_E (262, 0, [vr 265, vi x1, vu], []) (qk t u I J) = (q_bv (q_E (177, 0, [vr 265], []) (qk t u I J)) fun M1 => q_E (262, 4, [vr 265, vi x1, vu], []) M1) := q_it_eq 400 [4, 9, 17, 23, 39] _ _
set_option maxRecDepth 20000 in
theorem e262_4 (t u : Nat) (I J : Nat → Nat → Int) (x1 : Int) : q_E (262, 4, [vr 265, vi x1, vu], []) (qk t u I J) = (q_bi (q_E (210, 0, [vr 265, vi x1], []) (qk t u I J)) fun z M1 => q_E (262, 9, [vr 265, vi x1, vu], [vi z]) M1) := q_it_eq 400 [4, 9, 17, 23, 39] _ _
set_option maxRecDepth 20000 in
theorem e262_9 (t u : Nat) (I J : Nat → Nat → Int) (x1 : Int) (y0 : Int) : q_E (262, 9, [vr 265, vi x1, vu], [vi y0]) (qk t u I J) = (if y0 = 0 then (q_bi (q_E (178, 0, [vr 265, vi 1], []) (qk t u I J)) fun z M1 => q_E (262, 17, [vr 265, vi x1, vu], [vi z]) M1) else (q_bi (q_E (259, 0, [vr 265, vi x1, vu], []) (qk t u I J)) fun z M1 => q_E (262, 23, [vr 265, vi x1, vu], [vi z]) M1)) := q_it_eq 400 [4, 9, 17, 23, 39] _ _
set_option maxRecDepth 20000 in
theorem e262_17 (t u : Nat) (I J : Nat → Nat → Int) (x1 : Int) (y0 : Int) : q_E (262, 17, [vr 265, vi x1, vu], [vi y0]) (qk t u I J) = some (vi y0, (qk t u I J)) := q_it_eq 400 [4, 9, 17, 23, 39] _ _
set_option maxRecDepth 20000 in
theorem e262_23 (t u : Nat) (I J : Nat → Nat → Int) (x1 : Int) (y0 : Int) : q_E (262, 23, [vr 265, vi x1, vu], [vi y0]) (qk t u I J) = (if y0 < 0 then q_E (262, 39, [vr 265, vi x1, vi y0], [vi (-2)]) (qk t u I J) else (q_bi (q_E (258, 0, [vr 265, vi x1, vi y0, vu, vu], []) (qk t u I J)) fun z M1 => q_E (262, 39, [vr 265, vi x1, vi y0], [vi z]) M1)) := q_it_eq 400 [4, 9, 17, 23, 39] _ _
set_option maxRecDepth 20000 in
theorem e262_39 (t u : Nat) (I J : Nat → Nat → Int) (x1 : Int) (x2 : Int) (y0 : Int) : q_E (262, 39, [vr 265, vi x1, vi x2], [vi y0]) (qk t u I J) = some (vi y0, (qk t u I J)) := q_it_eq 400 [4, 9, 17, 23, 39] _ _
/-! 263: StewardHeapsModel.carry(I)I -/
set_option maxRecDepth 20000 in
theorem e263_0 (t u : Nat) (I J : Nat → Nat → Int) (x1 : Int) : q_E (263, 0, [vr 265, vi x1, vu, vu, vu], []) (qk t u I J) = (q_bv (q_E (177, 0, [vr 265], []) (qk t u I J)) fun M1 => q_E (263, 4, [vr 265, vi x1, vu, vu, vu], []) M1) := q_it_eq 400 [4, 9, 17, 23, 33, 34, 90] _ _
set_option maxRecDepth 20000 in
theorem e263_34 (t u : Nat) (I J : Nat → Nat → Int) (x2 : Int) (x3 : Int) : q_E (263, 34, [vr 265, vu, vi x2, vi x3, vu], []) (qk t u I J) = (if (1 : Int) < x3 then (if (0 : Int) ≤ wr (x3 - 1) ∧ wr (x3 - 1) < 61 then (if (0 : Int) ≤ wr (x3 - 2) ∧ wr (x3 - 2) < 61 then (if (0 : Int) ≤ wr (x3 - 1) ∧ wr (x3 - 1) < 61 then (if (0 : Int) ≤ wr (x3 - 2) ∧ wr (x3 - 2) < 61 then (q_bv (q_E (213, 0, [vr 275, vi 0, vu, vu, vu], []) (qk t u (uI (uI I 275 (Int.toNat (wr (x3 - 1))) 0) 275 (Int.toNat (wr (x3 - 2))) (wr ((I 275 (Int.toNat (wr (x3 - 1)))) + (I 275 (Int.toNat (wr (x3 - 2))))))) J)) fun M1 => q_E (263, 90, [vr 265, vu, vi (wr (x2 + (wr ((I 275 (Int.toNat (wr (x3 - 1)))) + (I 275 (Int.toNat (wr (x3 - 2)))))))), vi x3, vi (wr ((I 275 (Int.toNat (wr (x3 - 1)))) + (I 275 (Int.toNat (wr (x3 - 2))))))], []) M1) else none) else none) else none) else none) else some (vi x2, (qk t u I J))) := q_it_eq 400 [4, 9, 17, 23, 33, 34, 90] _ _
set_option maxRecDepth 20000 in
theorem e263_4 (t u : Nat) (I J : Nat → Nat → Int) (x1 : Int) : q_E (263, 4, [vr 265, vi x1, vu, vu, vu], []) (qk t u I J) = (q_bi (q_E (210, 0, [vr 265, vi x1], []) (qk t u I J)) fun z M1 => q_E (263, 9, [vr 265, vi x1, vu, vu, vu], [vi z]) M1) := q_it_eq 400 [4, 9, 17, 23, 33, 34, 90] _ _
set_option maxRecDepth 20000 in
theorem e263_90 (t u : Nat) (I J : Nat → Nat → Int) (x2 : Int) (x3 : Int) (x4 : Int) : q_E (263, 90, [vr 265, vu, vi x2, vi x3, vi x4], []) (qk t u I J) = q_E (263, 34, [vr 265, vu, vi x2, vi (wr (x3 + (-1))), vu], []) (qk t u I J) := q_it_eq 400 [4, 9, 17, 23, 33, 34, 90] _ _
set_option maxRecDepth 20000 in
theorem e263_9 (t u : Nat) (I J : Nat → Nat → Int) (x1 : Int) (y0 : Int) : q_E (263, 9, [vr 265, vi x1, vu, vu, vu], [vi y0]) (qk t u I J) = (if y0 = 0 then (q_bi (q_E (178, 0, [vr 265, vi 1], []) (qk t u I J)) fun z M1 => q_E (263, 17, [vr 265, vi x1, vu, vu, vu], [vi z]) M1) else (q_bv (q_E (220, 0, [vr 265, vi x1], []) (qk t u I J)) fun M1 => q_E (263, 23, [vr 265, vi x1, vu, vu, vu], []) M1)) := q_it_eq 400 [4, 9, 17, 23, 33, 34, 90] _ _
set_option maxRecDepth 20000 in
theorem e263_17 (t u : Nat) (I J : Nat → Nat → Int) (x1 : Int) (y0 : Int) : q_E (263, 17, [vr 265, vi x1, vu, vu, vu], [vi y0]) (qk t u I J) = some (vi y0, (qk t u I J)) := q_it_eq 400 [4, 9, 17, 23, 33, 34, 90] _ _
set_option maxRecDepth 20000 in
theorem e263_23 (t u : Nat) (I J : Nat → Nat → Int) (x1 : Int) : q_E (263, 23, [vr 265, vi x1, vu, vu, vu], []) (qk t u I J) = (q_bi (q_E (214, 0, [vr 275, vi 0, vu], []) (qk t u I J)) fun z M1 => q_E (263, 33, [vr 265, vi x1, vi 0, vu, vu], [vi z]) M1) := q_it_eq 400 [4, 9, 17, 23, 33, 34, 90] _ _
set_option maxRecDepth 20000 in
theorem e263_33 (t u : Nat) (I J : Nat → Nat → Int) (x1 : Int) (x2 : Int) (y0 : Int) : q_E (263, 33, [vr 265, vi x1, vi x2, vu, vu], [vi y0]) (qk t u I J) = q_E (263, 34, [vr 265, vu, vi x2, vi y0, vu], []) (qk t u I J) := q_it_eq 400 [4, 9, 17, 23, 33, 34, 90] _ _
/-! 264: StewardHeapsModel.level(I)I -/
set_option maxRecDepth 20000 in
theorem e264_0 (t u : Nat) (I J : Nat → Nat → Int) (x1 : Int) : q_E (264, 0, [vr 265, vi x1, vu, vu, vu, vu, vu], []) (qk t u I J) = (q_bv (q_E (177, 0, [vr 265], []) (qk t u I J)) fun M1 => q_E (264, 4, [vr 265, vi x1, vu, vu, vu, vu, vu], []) M1) := q_it_eq 400 [4, 9, 17, 29, 47, 54] _ _
set_option maxRecDepth 20000 in
theorem e264_54 (t u : Nat) (I J : Nat → Nat → Int) (x1 : Int) (x2 : Int) (x3 : Int) (x4 : Int) (x5 : Int) : q_E (264, 54, [vr 265, vi x1, vi x2, vi x3, vi x4, vi x5, vu], []) (qk t u I J) = (if x5 < x2 then (if x2 = 0 then none else (if x2 = 0 then none else (if x5 < Int.tmod x3 x2 then (if (0 : Int) ≤ wr ((wr (61 * x1)) + x5) ∧ wr ((wr (61 * x1)) + x5) < 245 then (if wr ((wr (Int.tdiv x3 x2)) + 1) < I 272 (Int.toNat (wr ((wr (61 * x1)) + x5))) then (if (0 : Int) ≤ wr ((wr (61 * x1)) + x5) ∧ wr ((wr (61 * x1)) + x5) < 245 then q_E (264, 54, [vr 265, vi x1, vi x2, vi x3, vi (wr (x4 + (wr ((I 272 (Int.toNat (wr ((wr (61 * x1)) + x5)))) - (wr ((wr (Int.tdiv x3 x2)) + 1)))))), vi (wr (x5 + 1)), vu], []) (qk t u I J) else none) else q_E (264, 54, [vr 265, vi x1, vi x2, vi x3, vi (wr (x4 + 0)), vi (wr (x5 + 1)), vu], []) (qk t u I J)) else none) else (if (0 : Int) ≤ wr ((wr (61 * x1)) + x5) ∧ wr ((wr (61 * x1)) + x5) < 245 then (if wr ((wr (Int.tdiv x3 x2)) + 0) < I 272 (Int.toNat (wr ((wr (61 * x1)) + x5))) then (if (0 : Int) ≤ wr ((wr (61 * x1)) + x5) ∧ wr ((wr (61 * x1)) + x5) < 245 then q_E (264, 54, [vr 265, vi x1, vi x2, vi x3, vi (wr (x4 + (wr ((I 272 (Int.toNat (wr ((wr (61 * x1)) + x5)))) - (wr ((wr (Int.tdiv x3 x2)) + 0)))))), vi (wr (x5 + 1)), vu], []) (qk t u I J) else none) else q_E (264, 54, [vr 265, vi x1, vi x2, vi x3, vi (wr (x4 + 0)), vi (wr (x5 + 1)), vu], []) (qk t u I J)) else none)))) else some (vi x4, (qk t u I J))) := q_it_eq 400 [4, 9, 17, 29, 47, 54] _ _
set_option maxRecDepth 20000 in
theorem e264_4 (t u : Nat) (I J : Nat → Nat → Int) (x1 : Int) : q_E (264, 4, [vr 265, vi x1, vu, vu, vu, vu, vu], []) (qk t u I J) = (q_bi (q_E (210, 0, [vr 265, vi x1], []) (qk t u I J)) fun z M1 => q_E (264, 9, [vr 265, vi x1, vu, vu, vu, vu, vu], [vi z]) M1) := q_it_eq 400 [4, 9, 17, 29, 47, 54] _ _
set_option maxRecDepth 20000 in
theorem e264_9 (t u : Nat) (I J : Nat → Nat → Int) (x1 : Int) (y0 : Int) : q_E (264, 9, [vr 265, vi x1, vu, vu, vu, vu, vu], [vi y0]) (qk t u I J) = (if y0 = 0 then (q_bi (q_E (178, 0, [vr 265, vi 1], []) (qk t u I J)) fun z M1 => q_E (264, 17, [vr 265, vi x1, vu, vu, vu, vu, vu], [vi z]) M1) else (q_bi (q_E (214, 0, [vr 272, vi (wr (61 * x1)), vu], []) (qk t u I J)) fun z M1 => q_E (264, 29, [vr 265, vi x1, vu, vu, vu, vu, vu], [vi z]) M1)) := q_it_eq 400 [4, 9, 17, 29, 47, 54] _ _
set_option maxRecDepth 20000 in
theorem e264_17 (t u : Nat) (I J : Nat → Nat → Int) (x1 : Int) (y0 : Int) : q_E (264, 17, [vr 265, vi x1, vu, vu, vu, vu, vu], [vi y0]) (qk t u I J) = some (vi y0, (qk t u I J)) := q_it_eq 400 [4, 9, 17, 29, 47, 54] _ _
set_option maxRecDepth 20000 in
theorem e264_29 (t u : Nat) (I J : Nat → Nat → Int) (x1 : Int) (y0 : Int) : q_E (264, 29, [vr 265, vi x1, vu, vu, vu, vu, vu], [vi y0]) (qk t u I J) = (if y0 = 0 then some (vi 0, (qk t u I J)) else (q_bi (q_E (215, 0, [vr 272, vi (wr (61 * x1)), vu, vu], []) (qk t u I J)) fun z M1 => q_E (264, 47, [vr 265, vi x1, vi y0, vu, vu, vu, vu], [vi z]) M1)) := q_it_eq 400 [4, 9, 17, 29, 47, 54] _ _
set_option maxRecDepth 20000 in
theorem e264_47 (t u : Nat) (I J : Nat → Nat → Int) (x1 : Int) (x2 : Int) (y0 : Int) : q_E (264, 47, [vr 265, vi x1, vi x2, vu, vu, vu, vu], [vi y0]) (qk t u I J) = q_E (264, 54, [vr 265, vi x1, vi x2, vi y0, vi 0, vi 0, vu], []) (qk t u I J) := q_it_eq 400 [4, 9, 17, 29, 47, 54] _ _
/-! 265: StewardHeapsModel.laySums(I)V -/
set_option maxRecDepth 20000 in
theorem e265_0 (t u : Nat) (I J : Nat → Nat → Int) (x1 : Int) : q_E (265, 0, [vr 265, vi x1, vu, vu, vu], []) (qk t u I J) = q_E (265, 2, [vr 265, vi x1, vi 0, vu, vu], []) (qk t u I J) := q_it_eq 400 [2, 33, 55] _ _
set_option maxRecDepth 20000 in
theorem e265_2 (t u : Nat) (I J : Nat → Nat → Int) (x1 : Int) (x2 : Int) : q_E (265, 2, [vr 265, vi x1, vi x2, vu, vu], []) (qk t u I J) = (if (60 : Int) < x2 then q_E (265, 33, [vr 265, vi x1, vi 0, vu, vu], []) (qk t u I J) else (if x2 = 0 then (if (0 : Int) ≤ x2 ∧ x2 < 61 then q_E (265, 2, [vr 265, vi x1, vi (wr (x2 + 1)), vu, vu], []) (qk t u (uI I 281 (Int.toNat x2) 0) J) else none) else (if (0 : Int) ≤ x2 ∧ x2 < 61 then q_E (265, 2, [vr 265, vi x1, vi (wr (x2 + 1)), vu, vu], []) (qk t u (uI I 281 (Int.toNat x2) 100000000) J) else none))) := q_it_eq 400 [2, 33, 55] _ _
set_option maxRecDepth 20000 in
theorem e265_33 (t u : Nat) (I J : Nat → Nat → Int) (x1 : Int) (x2 : Int) : q_E (265, 33, [vr 265, vi x1, vi x2, vu, vu], []) (qk t u I J) = (if x2 < 60 then (if (0 : Int) ≤ wr ((wr (61 * x1)) + x2) ∧ wr ((wr (61 * x1)) + x2) < 245 then q_E (265, 55, [vr 265, vi x1, vi x2, vi (I 272 (Int.toNat (wr ((wr (61 * x1)) + x2)))), vi 60], []) (qk t u I J) else none) else some (vu, (qk t u I J))) := q_it_eq 400 [2, 33, 55] _ _
set_option maxRecDepth 20000 in
theorem e265_55 (t u : Nat) (I J : Nat → Nat → Int) (x1 : Int) (x2 : Int) (x3 : Int) (x4 : Int) : q_E (265, 55, [vr 265, vi x1, vi x2, vi x3, vi x4], []) (qk t u I J) = (if x4 < x3 then q_E (265, 33, [vr 265, vi x1, vi (wr (x2 + 1)), vu, vu], []) (qk t u I J) else (if (0 : Int) < x3 then (if (0 : Int) ≤ wr (x4 - x3) ∧ wr (x4 - x3) < 61 then (if (0 : Int) ≤ x4 ∧ x4 < 61 then (if wr ((I 281 (Int.toNat (wr (x4 - x3)))) + 1) < I 281 (Int.toNat x4) then (if (0 : Int) ≤ wr (x4 - x3) ∧ wr (x4 - x3) < 61 then (if (0 : Int) ≤ x4 ∧ x4 < 61 then q_E (265, 55, [vr 265, vi x1, vi x2, vi x3, vi (wr (x4 + (-1)))], []) (qk t u (uI I 281 (Int.toNat x4) (wr ((I 281 (Int.toNat (wr (x4 - x3)))) + 1))) J) else none) else none) else q_E (265, 55, [vr 265, vi x1, vi x2, vi x3, vi (wr (x4 + (-1)))], []) (qk t u I J)) else none) else none) else q_E (265, 33, [vr 265, vi x1, vi (wr (x2 + 1)), vu, vu], []) (qk t u I J))) := q_it_eq 400 [2, 33, 55] _ _
/-! 266: StewardHeapsModel.makes(II)I -/
set_option maxRecDepth 20000 in
theorem e266_0 (t u : Nat) (I J : Nat → Nat → Int) (x1 : Int) (x2 : Int) : q_E (266, 0, [vr 265, vi x1, vi x2, vu], []) (qk t u I J) = (q_bv (q_E (177, 0, [vr 265], []) (qk t u I J)) fun M1 => q_E (266, 4, [vr 265, vi x1, vi x2, vu], []) M1) := q_it_eq 400 [4, 10, 17, 20, 30, 36] _ _
set_option maxRecDepth 20000 in
theorem e266_4 (t u : Nat) (I J : Nat → Nat → Int) (x1 : Int) (x2 : Int) : q_E (266, 4, [vr 265, vi x1, vi x2, vu], []) (qk t u I J) = (q_bi (q_E (210, 0, [vr 265, vi x1], []) (qk t u I J)) fun z M1 => q_E (266, 10, [vr 265, vi x1, vi x2, vu], [vi z, vr 265]) M1) := q_it_eq 400 [4, 10, 17, 20, 30, 36] _ _
set_option maxRecDepth 20000 in
theorem e266_10 (t u : Nat) (I J : Nat → Nat → Int) (x1 : Int) (x2 : Int) (y0 : Int) (y1 : Nat) : q_E (266, 10, [vr 265, vi x1, vi x2, vu], [vi y0, vr y1]) (qk t u I J) = (q_bi (q_E (180, 0, [vi x2, vi 0, vi 60], []) (qk t u I J)) fun z M1 => q_E (266, 17, [vr 265, vi x1, vi x2, vu], [vi z, vi y0, vr y1]) M1) := q_it_eq 400 [4, 10, 17, 20, 30, 36] _ _
set_option maxRecDepth 20000 in
theorem e266_17 (t u : Nat) (I J : Nat → Nat → Int) (x1 : Int) (x2 : Int) (y0 : Int) (y1 : Int) (y2 : Nat) : q_E (266, 17, [vr 265, vi x1, vi x2, vu], [vi y0, vi y1, vr y2]) (qk t u I J) = (if kd y2 = 21 then (q_bi (q_E (212, 0, [vr y2, vi y1, vi y0], []) (qk t u I J)) fun z M1 => q_E (266, 20, [vr 265, vi x1, vi x2, vu], [vi z]) M1) else none) := q_it_eq 400 [4, 10, 17, 20, 30, 36] _ _
set_option maxRecDepth 20000 in
theorem e266_20 (t u : Nat) (I J : Nat → Nat → Int) (x1 : Int) (x2 : Int) (y0 : Int) : q_E (266, 20, [vr 265, vi x1, vi x2, vu], [vi y0]) (qk t u I J) = (if y0 = 0 then (q_bv (q_E (265, 0, [vr 265, vi x1, vu, vu, vu], []) (qk t u I J)) fun M1 => q_E (266, 36, [vr 265, vi x1, vi x2, vi y0], []) M1) else (q_bi (q_E (178, 0, [vr 265, vi y0], []) (qk t u I J)) fun z M1 => q_E (266, 30, [vr 265, vi x1, vi x2, vi y0], [vi z]) M1)) := q_it_eq 400 [4, 10, 17, 20, 30, 36] _ _
set_option maxRecDepth 20000 in
theorem e266_36 (t u : Nat) (I J : Nat → Nat → Int) (x1 : Int) (x2 : Int) (x3 : Int) : q_E (266, 36, [vr 265, vi x1, vi x2, vi x3], []) (qk t u I J) = (if (0 : Int) ≤ x2 ∧ x2 < 61 then (if I 281 (Int.toNat x2) < 100000000 then (if (0 : Int) ≤ x2 ∧ x2 < 61 then some (vi (I 281 (Int.toNat x2)), (qk t u I J)) else none) else some (vi (-2), (qk t u I J))) else none) := q_it_eq 400 [4, 10, 17, 20, 30, 36] _ _
set_option maxRecDepth 20000 in
theorem e266_30 (t u : Nat) (I J : Nat → Nat → Int) (x1 : Int) (x2 : Int) (x3 : Int) (y0 : Int) : q_E (266, 30, [vr 265, vi x1, vi x2, vi x3], [vi y0]) (qk t u I J) = some (vi y0, (qk t u I J)) := q_it_eq 400 [4, 10, 17, 20, 30, 36] _ _
/-! 267: StewardHeapsModel.half(I)I -/
set_option maxRecDepth 20000 in
theorem e267_0 (t u : Nat) (I J : Nat → Nat → Int) (x1 : Int) : q_E (267, 0, [vr 265, vi x1, vu], []) (qk t u I J) = (q_bv (q_E (177, 0, [vr 265], []) (qk t u I J)) fun M1 => q_E (267, 4, [vr 265, vi x1, vu], []) M1) := q_it_eq 400 [4, 9, 17, 23, 34, 37] _ _
set_option maxRecDepth 20000 in
theorem e267_37 (t u : Nat) (I J : Nat → Nat → Int) (x2 : Int) : q_E (267, 37, [vr 265, vu, vi x2], []) (qk t u I J) = (if (0 : Int) ≤ x2 ∧ x2 < 61 then (if I 281 (Int.toNat x2) < 100000000 then some (vi x2, (qk t u I J)) else q_E (267, 37, [vr 265, vu, vi (wr (x2 + (-1)))], []) (qk t u I J)) else none) := q_it_eq 400 [4, 9, 17, 23, 34, 37] _ _
set_option maxRecDepth 20000 in
theorem e267_4 (t u : Nat) (I J : Nat → Nat → Int) (x1 : Int) : q_E (267, 4, [vr 265, vi x1, vu], []) (qk t u I J) = (q_bi (q_E (210, 0, [vr 265, vi x1], []) (qk t u I J)) fun z M1 => q_E (267, 9, [vr 265, vi x1, vu], [vi z]) M1) := q_it_eq 400 [4, 9, 17, 23, 34, 37] _ _
set_option maxRecDepth 20000 in
theorem e267_9 (t u : Nat) (I J : Nat → Nat → Int) (x1 : Int) (y0 : Int) : q_E (267, 9, [vr 265, vi x1, vu], [vi y0]) (qk t u I J) = (if y0 = 0 then (q_bi (q_E (178, 0, [vr 265, vi 1], []) (qk t u I J)) fun z M1 => q_E (267, 17, [vr 265, vi x1, vu], [vi z]) M1) else (q_bv (q_E (265, 0, [vr 265, vi x1, vu, vu, vu], []) (qk t u I J)) fun M1 => q_E (267, 23, [vr 265, vi x1, vu], []) M1)) := q_it_eq 400 [4, 9, 17, 23, 34, 37] _ _
set_option maxRecDepth 20000 in
theorem e267_17 (t u : Nat) (I J : Nat → Nat → Int) (x1 : Int) (y0 : Int) : q_E (267, 17, [vr 265, vi x1, vu], [vi y0]) (qk t u I J) = some (vi y0, (qk t u I J)) := q_it_eq 400 [4, 9, 17, 23, 34, 37] _ _
set_option maxRecDepth 20000 in
theorem e267_23 (t u : Nat) (I J : Nat → Nat → Int) (x1 : Int) : q_E (267, 23, [vr 265, vi x1, vu], []) (qk t u I J) = (q_bi (q_E (215, 0, [vr 272, vi (wr (61 * x1)), vu, vu], []) (qk t u I J)) fun z M1 => q_E (267, 34, [vr 265, vi x1, vu], [vi z]) M1) := q_it_eq 400 [4, 9, 17, 23, 34, 37] _ _
set_option maxRecDepth 20000 in
theorem e267_34 (t u : Nat) (I J : Nat → Nat → Int) (x1 : Int) (y0 : Int) : q_E (267, 34, [vr 265, vi x1, vu], [vi y0]) (qk t u I J) = q_E (267, 37, [vr 265, vu, vi (wr (Int.tdiv y0 2))], []) (qk t u I J) := q_it_eq 400 [4, 9, 17, 23, 34, 37] _ _
/-! 268: StewardHeapsModel.wrongBy(I)I -/
set_option maxRecDepth 20000 in
theorem e268_0 (t u : Nat) (I J : Nat → Nat → Int) (x1 : Int) : q_E (268, 0, [vr 265, vi x1, vu, vu, vu], []) (qk t u I J) = q_E (268, 2, [vr 265, vi x1, vi 0, vu, vu], []) (qk t u I J) := q_it_eq 400 [2, 42, 45, 62, 103, 117, 120, 155, 169] _ _
set_option maxRecDepth 20000 in
theorem e268_2 (t u : Nat) (I J : Nat → Nat → Int) (x1 : Int) (x2 : Int) : q_E (268, 2, [vr 265, vi x1, vi x2, vu, vu], []) (qk t u I J) = (if x2 < I 268 4 then (if (0 : Int) ≤ wr (17 + (wr (3 * x2))) ∧ wr (17 + (wr (3 * x2))) < 71 then (q_bv (q_E (182, 0, [vr 270, vi (wr (61 * (I 268 (Int.toNat (wr (17 + (wr (3 * x2)))))))), vr 275, vi 0, vi 61, vu], []) (qk t u I J)) fun M1 => q_E (268, 42, [vr 265, vi x1, vi x2, vi (I 268 (Int.toNat (wr (17 + (wr (3 * x2)))))), vu], []) M1) else none) else some (vi (-2), (qk t u I J))) := q_it_eq 400 [2, 42, 45, 62, 103, 117, 120, 155, 169] _ _
set_option maxRecDepth 20000 in
theorem e268_45 (t u : Nat) (I J : Nat → Nat → Int) (x1 : Int) (x2 : Int) (x3 : Int) (x4 : Int) : q_E (268, 45, [vr 265, vi x1, vi x2, vi x3, vi x4], []) (qk t u I J) = (if x4 < I 268 3 then (q_bi (q_E (181, 0, [vi x1, vi x4], []) (qk t u I J)) fun z M1 => q_E (268, 62, [vr 265, vi x1, vi x2, vi x3, vi x4], [vi z]) M1) else (q_bv (q_E (213, 0, [vr 275, vi 0, vu, vu, vu], []) (qk t u I J)) fun M1 => q_E (268, 117, [vr 265, vi x1, vi x2, vi x3, vi x4], []) M1)) := q_it_eq 400 [2, 42, 45, 62, 103, 117, 120, 155, 169] _ _
set_option maxRecDepth 20000 in
theorem e268_120 (t u : Nat) (I J : Nat → Nat → Int) (x1 : Int) (x2 : Int) (x3 : Int) (x4 : Int) : q_E (268, 120, [vr 265, vi x1, vi x2, vi x3, vi x4], []) (qk t u I J) = (if (0 : Int) ≤ wr ((wr (17 + (wr (3 * x2)))) + 1) ∧ wr ((wr (17 + (wr (3 * x2)))) + 1) < 71 then (if x4 < I 268 (Int.toNat (wr ((wr (17 + (wr (3 * x2)))) + 1))) then (if (0 : Int) ≤ wr (5 + x3) ∧ wr (5 + x3) < 71 then (q_bv (q_E (219, 0, [vr 265, vr 275, vi 0, vi (I 268 (Int.toNat (wr (5 + x3)))), vu], []) (qk t u I J)) fun M1 => q_E (268, 155, [vr 265, vi x1, vi x2, vi x3, vi x4], []) M1) else none) else (q_bi (q_E (214, 0, [vr 275, vi 0, vu], []) (qk t u I J)) fun z M1 => q_E (268, 169, [vr 265, vi x1, vi x2, vi x3, vi x4], [vi z]) M1)) else none) := q_it_eq 400 [2, 42, 45, 62, 103, 117, 120, 155, 169] _ _
set_option maxRecDepth 20000 in
theorem e268_103 (t u : Nat) (I J : Nat → Nat → Int) (x1 : Int) (x2 : Int) (x3 : Int) (x4 : Int) : q_E (268, 103, [vr 265, vi x1, vi x2, vi x3, vi x4], []) (qk t u I J) = q_E (268, 45, [vr 265, vi x1, vi x2, vi x3, vi (wr (x4 + 1))], []) (qk t u I J) := q_it_eq 400 [2, 42, 45, 62, 103, 117, 120, 155, 169] _ _
set_option maxRecDepth 20000 in
theorem e268_42 (t u : Nat) (I J : Nat → Nat → Int) (x1 : Int) (x2 : Int) (x3 : Int) : q_E (268, 42, [vr 265, vi x1, vi x2, vi x3, vu], []) (qk t u I J) = q_E (268, 45, [vr 265, vi x1, vi x2, vi x3, vi 0], []) (qk t u I J) := q_it_eq 400 [2, 42, 45, 62, 103, 117, 120, 155, 169] _ _
set_option maxRecDepth 20000 in
theorem e268_62 (t u : Nat) (I J : Nat → Nat → Int) (x1 : Int) (x2 : Int) (x3 : Int) (x4 : Int) (y0 : Int) : q_E (268, 62, [vr 265, vi x1, vi x2, vi x3, vi x4], [vi y0]) (qk t u I J) = (if y0 = 0 then q_E (268, 103, [vr 265, vi x1, vi x2, vi x3, vi x4], []) (qk t u I J) else (if (0 : Int) ≤ wr (9 + (wr (2 * x4))) ∧ wr (9 + (wr (2 * x4))) < 71 then (if I 268 (Int.toNat (wr (9 + (wr (2 * x4))))) = x3 then (if (0 : Int) ≤ wr ((wr (9 + (wr (2 * x4)))) + 1) ∧ wr ((wr (9 + (wr (2 * x4)))) + 1) < 71 then (q_bv (q_E (216, 0, [vr 275, vi 0, vi (I 268 (Int.toNat (wr ((wr (9 + (wr (2 * x4)))) + 1))))], []) (qk t u I J)) fun M1 => q_E (268, 103, [vr 265, vi x1, vi x2, vi x3, vi x4], []) M1) else none) else q_E (268, 103, [vr 265, vi x1, vi x2, vi x3, vi x4], []) (qk t u I J)) else none)) := q_it_eq 400 [2, 42, 45, 62, 103, 117, 120, 155, 169] _ _
set_option maxRecDepth 20000 in
theorem e268_117 (t u : Nat) (I J : Nat → Nat → Int) (x1 : Int) (x2 : Int) (x3 : Int) (x4 : Int) : q_E (268, 117, [vr 265, vi x1, vi x2, vi x3, vi x4], []) (qk t u I J) = q_E (268, 120, [vr 265, vi x1, vi x2, vi x3, vi 0], []) (qk t u I J) := q_it_eq 400 [2, 42, 45, 62, 103, 117, 120, 155, 169] _ _
set_option maxRecDepth 20000 in
theorem e268_155 (t u : Nat) (I J : Nat → Nat → Int) (x1 : Int) (x2 : Int) (x3 : Int) (x4 : Int) : q_E (268, 155, [vr 265, vi x1, vi x2, vi x3, vi x4], []) (qk t u I J) = q_E (268, 120, [vr 265, vi x1, vi x2, vi x3, vi (wr (x4 + 1))], []) (qk t u I J) := q_it_eq 400 [2, 42, 45, 62, 103, 117, 120, 155, 169] _ _
set_option maxRecDepth 20000 in
theorem e268_169 (t u : Nat) (I J : Nat → Nat → Int) (x1 : Int) (x2 : Int) (x3 : Int) (x4 : Int) (y0 : Int) : q_E (268, 169, [vr 265, vi x1, vi x2, vi x3, vi x4], [vi y0]) (qk t u I J) = (if (0 : Int) ≤ wr ((wr (17 + (wr (3 * x2)))) + 2) ∧ wr ((wr (17 + (wr (3 * x2)))) + 2) < 71 then (if y0 = I 268 (Int.toNat (wr ((wr (17 + (wr (3 * x2)))) + 2))) then q_E (268, 2, [vr 265, vi x1, vi (wr (x2 + 1)), vu, vu], []) (qk t u I J) else some (vi x2, (qk t u I J))) else none) := q_it_eq 400 [2, 42, 45, 62, 103, 117, 120, 155, 169] _ _
/-! 269: StewardHeapsModel.seekSets(I)I -/
set_option maxRecDepth 20000 in
theorem e269_0 (t u : Nat) (I J : Nat → Nat → Int) (x1 : Int) : q_E (269, 0, [vr 265, vi x1, vu, vu, vu], []) (qk t u I J) = q_E (269, 28, [vr 265, vi x1, vi (-1), vi 0, vu], []) (qk t u (uI (uI (uI I 265 35 0) 265 36 0) 265 37 (wr ((q_shl 1 ((uI (uI I 265 35 0) 265 36 0) 268 3)) - 1))) J) := q_it_eq 400 [28, 48, 65, 116] _ _
set_option maxRecDepth 20000 in
theorem e269_28 (t u : Nat) (I J : Nat → Nat → Int) (x1 : Int) (x2 : Int) (x3 : Int) : q_E (269, 28, [vr 265, vi x1, vi x2, vi x3, vu], []) (qk t u I J) = (if x3 < 4 then (if (0 : Int) ≤ x3 ∧ x3 < 4 then q_E (269, 28, [vr 265, vi x1, vi x2, vi (wr (x3 + 1)), vu], []) (qk t u (uI I 282 (Int.toNat x3) 0) J) else none) else q_E (269, 48, [vr 265, vi x1, vi x2, vi 0, vu], []) (qk t u I J)) := q_it_eq 400 [28, 48, 65, 116] _ _
set_option maxRecDepth 20000 in
theorem e269_48 (t u : Nat) (I J : Nat → Nat → Int) (x1 : Int) (x2 : Int) (x3 : Int) : q_E (269, 48, [vr 265, vi x1, vi x2, vi x3, vu], []) (qk t u I J) = (if x3 < q_shl 1 (I 268 3) then (q_bi (q_E (268, 0, [vr 265, vi x3, vu, vu, vu], []) (qk t u I J)) fun z M1 => q_E (269, 65, [vr 265, vi x1, vi x2, vi x3, vu], [vi z]) M1) else (if I 265 35 = 0 then some (vi x2, (qk t u (uI I 265 37 0) J)) else some (vi x2, (qk t u I J)))) := q_it_eq 400 [28, 48, 65, 116] _ _
set_option maxRecDepth 20000 in
theorem e269_116 (t u : Nat) (I J : Nat → Nat → Int) (x1 : Int) (x2 : Int) (x3 : Int) (x4 : Int) : q_E (269, 116, [vr 265, vi x1, vi x2, vi x3, vi x4], []) (qk t u I J) = (if x4 < I 268 3 then (if (0 : Int) ≤ x4 ∧ x4 < 4 then (if (0 : Int) ≤ x4 ∧ x4 < 4 then q_E (269, 116, [vr 265, vi x1, vi x2, vi x3, vi (wr (x4 + 1))], []) (qk t u (uI I 282 (Int.toNat x4) (wr ((I 282 (Int.toNat x4)) + (q_and (q_shr x3 x4) 1)))) J) else none) else none) else q_E (269, 48, [vr 265, vi x1, vi x2, vi (wr (x3 + 1)), vu], []) (qk t u I J)) := q_it_eq 400 [28, 48, 65, 116] _ _
set_option maxRecDepth 20000 in
theorem e269_65 (t u : Nat) (I J : Nat → Nat → Int) (x1 : Int) (x2 : Int) (x3 : Int) (y0 : Int) : q_E (269, 65, [vr 265, vi x1, vi x2, vi x3, vu], [vi y0]) (qk t u I J) = (if y0 = (-2) then (if I 265 35 = x1 then q_E (269, 116, [vr 265, vi x1, vi x3, vi x3, vi 0], []) (qk t u (uI (uI (uI I 265 35 (wr ((I 265 35) + 1))) 265 36 (q_or ((uI I 265 35 (wr ((I 265 35) + 1))) 265 36) x3)) 265 37 (q_and ((uI (uI I 265 35 (wr ((I 265 35) + 1))) 265 36 (q_or ((uI I 265 35 (wr ((I 265 35) + 1))) 265 36) x3)) 265 37) x3)) J) else q_E (269, 116, [vr 265, vi x1, vi x2, vi x3, vi 0], []) (qk t u (uI (uI (uI I 265 35 (wr ((I 265 35) + 1))) 265 36 (q_or ((uI I 265 35 (wr ((I 265 35) + 1))) 265 36) x3)) 265 37 (q_and ((uI (uI I 265 35 (wr ((I 265 35) + 1))) 265 36 (q_or ((uI I 265 35 (wr ((I 265 35) + 1))) 265 36) x3)) 265 37) x3)) J)) else q_E (269, 48, [vr 265, vi x1, vi x2, vi (wr (x3 + 1)), vu], []) (qk t u I J)) := q_it_eq 400 [28, 48, 65, 116] _ _
/-! 270: StewardHeapsModel.fits()I -/
set_option maxRecDepth 20000 in
theorem e270_0 (t u : Nat) (I J : Nat → Nat → Int) : q_E (270, 0, [vr 265], []) (qk t u I J) = (q_bv (q_E (177, 0, [vr 265], []) (qk t u I J)) fun M1 => q_E (270, 4, [vr 265], []) M1) := q_it_eq 400 [4, 16, 22] _ _
set_option maxRecDepth 20000 in
theorem e270_4 (t u : Nat) (I J : Nat → Nat → Int) : q_E (270, 4, [vr 265], []) (qk t u I J) = (if I 265 14 = 0 then (q_bi (q_E (178, 0, [vr 265, vi 1], []) (qk t u I J)) fun z M1 => q_E (270, 16, [vr 265], [vi z]) M1) else (q_bi (q_E (269, 0, [vr 265, vi (-1), vu, vu, vu], []) (qk t u I J)) fun z M1 => q_E (270, 22, [vr 265], [vi z]) M1)) := q_it_eq 400 [4, 16, 22] _ _
set_option maxRecDepth 20000 in
theorem e270_16 (t u : Nat) (I J : Nat → Nat → Int) (y0 : Int) : q_E (270, 16, [vr 265], [vi y0]) (qk t u I J) = some (vi y0, (qk t u I J)) := q_it_eq 400 [4, 16, 22] _ _
set_option maxRecDepth 20000 in
theorem e270_22 (t u : Nat) (I J : Nat → Nat → Int) (y0 : Int) : q_E (270, 22, [vr 265], [vi y0]) (qk t u I J) = some (vi (I 265 35), (qk t u I J)) := q_it_eq 400 [4, 16, 22] _ _
/-! 271: StewardHeapsModel.fitAt(I)I -/
set_option maxRecDepth 20000 in
theorem e271_0 (t u : Nat) (I J : Nat → Nat → Int) (x1 : Int) : q_E (271, 0, [vr 265, vi x1, vu], []) (qk t u I J) = (q_bv (q_E (177, 0, [vr 265], []) (qk t u I J)) fun M1 => q_E (271, 4, [vr 265, vi x1, vu], []) M1) := q_it_eq 400 [4, 20, 26, 36] _ _
set_option maxRecDepth 20000 in
theorem e271_4 (t u : Nat) (I J : Nat → Nat → Int) (x1 : Int) : q_E (271, 4, [vr 265, vi x1, vu], []) (qk t u I J) = (if I 265 14 = 0 then (q_bi (q_E (178, 0, [vr 265, vi 1], []) (qk t u I J)) fun z M1 => q_E (271, 20, [vr 265, vi x1, vu], [vi z]) M1) else (if x1 < 0 then (q_bi (q_E (178, 0, [vr 265, vi 1], []) (qk t u I J)) fun z M1 => q_E (271, 20, [vr 265, vi x1, vu], [vi z]) M1) else (q_bi (q_E (269, 0, [vr 265, vi x1, vu, vu, vu], []) (qk t u I J)) fun z M1 => q_E (271, 26, [vr 265, vi x1, vu], [vi z]) M1))) := q_it_eq 400 [4, 20, 26, 36] _ _
set_option maxRecDepth 20000 in
theorem e271_20 (t u : Nat) (I J : Nat → Nat → Int) (x1 : Int) (y0 : Int) : q_E (271, 20, [vr 265, vi x1, vu], [vi y0]) (qk t u I J) = some (vi y0, (qk t u I J)) := q_it_eq 400 [4, 20, 26, 36] _ _
set_option maxRecDepth 20000 in
theorem e271_26 (t u : Nat) (I J : Nat → Nat → Int) (x1 : Int) (y0 : Int) : q_E (271, 26, [vr 265, vi x1, vu], [vi y0]) (qk t u I J) = (if y0 < 0 then (q_bi (q_E (178, 0, [vr 265, vi 1], []) (qk t u I J)) fun z M1 => q_E (271, 36, [vr 265, vi x1, vi y0], [vi z]) M1) else some (vi y0, (qk t u I J))) := q_it_eq 400 [4, 20, 26, 36] _ _
set_option maxRecDepth 20000 in
theorem e271_36 (t u : Nat) (I J : Nat → Nat → Int) (x1 : Int) (x2 : Int) (y0 : Int) : q_E (271, 36, [vr 265, vi x1, vi x2], [vi y0]) (qk t u I J) = some (vi y0, (qk t u I J)) := q_it_eq 400 [4, 20, 26, 36] _ _
/-! 272: StewardHeapsModel.could()I -/
set_option maxRecDepth 20000 in
theorem e272_0 (t u : Nat) (I J : Nat → Nat → Int) : q_E (272, 0, [vr 265], []) (qk t u I J) = (q_bv (q_E (177, 0, [vr 265], []) (qk t u I J)) fun M1 => q_E (272, 4, [vr 265], []) M1) := q_it_eq 400 [4, 16, 22] _ _
set_option maxRecDepth 20000 in
theorem e272_4 (t u : Nat) (I J : Nat → Nat → Int) : q_E (272, 4, [vr 265], []) (qk t u I J) = (if I 265 14 = 0 then (q_bi (q_E (178, 0, [vr 265, vi 1], []) (qk t u I J)) fun z M1 => q_E (272, 16, [vr 265], [vi z]) M1) else (q_bi (q_E (269, 0, [vr 265, vi (-1), vu, vu, vu], []) (qk t u I J)) fun z M1 => q_E (272, 22, [vr 265], [vi z]) M1)) := q_it_eq 400 [4, 16, 22] _ _
set_option maxRecDepth 20000 in
theorem e272_16 (t u : Nat) (I J : Nat → Nat → Int) (y0 : Int) : q_E (272, 16, [vr 265], [vi y0]) (qk t u I J) = some (vi y0, (qk t u I J)) := q_it_eq 400 [4, 16, 22] _ _
set_option maxRecDepth 20000 in
theorem e272_22 (t u : Nat) (I J : Nat → Nat → Int) (y0 : Int) : q_E (272, 22, [vr 265], [vi y0]) (qk t u I J) = some (vi (I 265 36), (qk t u I J)) := q_it_eq 400 [4, 16, 22] _ _
/-! 273: StewardHeapsModel.surely()I -/
set_option maxRecDepth 20000 in
theorem e273_0 (t u : Nat) (I J : Nat → Nat → Int) : q_E (273, 0, [vr 265], []) (qk t u I J) = (q_bv (q_E (177, 0, [vr 265], []) (qk t u I J)) fun M1 => q_E (273, 4, [vr 265], []) M1) := q_it_eq 400 [4, 16, 22] _ _
set_option maxRecDepth 20000 in
theorem e273_4 (t u : Nat) (I J : Nat → Nat → Int) : q_E (273, 4, [vr 265], []) (qk t u I J) = (if I 265 14 = 0 then (q_bi (q_E (178, 0, [vr 265, vi 1], []) (qk t u I J)) fun z M1 => q_E (273, 16, [vr 265], [vi z]) M1) else (q_bi (q_E (269, 0, [vr 265, vi (-1), vu, vu, vu], []) (qk t u I J)) fun z M1 => q_E (273, 22, [vr 265], [vi z]) M1)) := q_it_eq 400 [4, 16, 22] _ _
set_option maxRecDepth 20000 in
theorem e273_16 (t u : Nat) (I J : Nat → Nat → Int) (y0 : Int) : q_E (273, 16, [vr 265], [vi y0]) (qk t u I J) = some (vi y0, (qk t u I J)) := q_it_eq 400 [4, 16, 22] _ _
set_option maxRecDepth 20000 in
theorem e273_22 (t u : Nat) (I J : Nat → Nat → Int) (y0 : Int) : q_E (273, 22, [vr 265], [vi y0]) (qk t u I J) = some (vi (I 265 37), (qk t u I J)) := q_it_eq 400 [4, 16, 22] _ _
/-! 274: StewardHeapsModel.leavesOf(I)I -/
set_option maxRecDepth 20000 in
theorem e274_0 (t u : Nat) (I J : Nat → Nat → Int) (x1 : Int) : q_E (274, 0, [vr 265, vi x1], []) (qk t u I J) = (if (0 : Int) ≤ x1 ∧ x1 < 4 then (if (0 : Int) ≤ x1 ∧ x1 < 4 then (if wr ((I 265 35) - (I 282 (Int.toNat x1))) < I 282 (Int.toNat x1) then (if (0 : Int) ≤ x1 ∧ x1 < 4 then some (vi (I 282 (Int.toNat x1)), (qk t u I J)) else none) else (if (0 : Int) ≤ x1 ∧ x1 < 4 then some (vi (wr ((I 265 35) - (I 282 (Int.toNat x1)))), (qk t u I J)) else none)) else none) else none) := q_it_eq 400 [] _ _
/-! 275: StewardHeapsModel.askOf()I -/
set_option maxRecDepth 20000 in
theorem e275_0 (t u : Nat) (I J : Nat → Nat → Int) : q_E (275, 0, [vr 265, vu, vu], []) (qk t u I J) = (q_bi (q_E (269, 0, [vr 265, vi (-1), vu, vu, vu], []) (qk t u I J)) fun z M1 => q_E (275, 5, [vr 265, vu, vu], [vi z]) M1) := q_it_eq 400 [5, 11, 37, 42] _ _
set_option maxRecDepth 20000 in
theorem e275_11 (t u : Nat) (I J : Nat → Nat → Int) (x1 : Int) (x2 : Int) : q_E (275, 11, [vr 265, vi x1, vi x2], []) (qk t u I J) = (if x2 < I 268 3 then (if (0 : Int) < I 265 35 then (if x1 < 0 then q_E (275, 11, [vr 265, vi x2, vi (wr (x2 + 1))], []) (qk t u I J) else (q_bi (q_E (274, 0, [vr 265, vi x2], []) (qk t u I J)) fun z M1 => q_E (275, 37, [vr 265, vi x1, vi x2], [vi z]) M1)) else some (vi x1, (qk t u I J))) else some (vi x1, (qk t u I J))) := q_it_eq 400 [5, 11, 37, 42] _ _
set_option maxRecDepth 20000 in
theorem e275_5 (t u : Nat) (I J : Nat → Nat → Int) (y0 : Int) : q_E (275, 5, [vr 265, vu, vu], [vi y0]) (qk t u I J) = q_E (275, 11, [vr 265, vi (-2), vi 0], []) (qk t u I J) := q_it_eq 400 [5, 11, 37, 42] _ _
set_option maxRecDepth 20000 in
theorem e275_37 (t u : Nat) (I J : Nat → Nat → Int) (x1 : Int) (x2 : Int) (y0 : Int) : q_E (275, 37, [vr 265, vi x1, vi x2], [vi y0]) (qk t u I J) = (q_bi (q_E (274, 0, [vr 265, vi x1], []) (qk t u I J)) fun z M1 => q_E (275, 42, [vr 265, vi x1, vi x2], [vi z, vi y0]) M1) := q_it_eq 400 [5, 11, 37, 42] _ _
set_option maxRecDepth 20000 in
theorem e275_42 (t u : Nat) (I J : Nat → Nat → Int) (x1 : Int) (x2 : Int) (y0 : Int) (y1 : Int) : q_E (275, 42, [vr 265, vi x1, vi x2], [vi y0, vi y1]) (qk t u I J) = (if y1 < y0 then q_E (275, 11, [vr 265, vi x2, vi (wr (x2 + 1))], []) (qk t u I J) else q_E (275, 11, [vr 265, vi x1, vi (wr (x2 + 1))], []) (qk t u I J)) := q_it_eq 400 [5, 11, 37, 42] _ _
/-! 276: StewardHeapsModel.ask()I -/
set_option maxRecDepth 20000 in
theorem e276_0 (t u : Nat) (I J : Nat → Nat → Int) : q_E (276, 0, [vr 265], []) (qk t u I J) = (q_bv (q_E (177, 0, [vr 265], []) (qk t u I J)) fun M1 => q_E (276, 4, [vr 265], []) M1) := q_it_eq 400 [4, 15, 23] _ _
set_option maxRecDepth 20000 in
theorem e276_4 (t u : Nat) (I J : Nat → Nat → Int) : q_E (276, 4, [vr 265], []) (qk t u I J) = (if I 265 14 = 0 then (q_bi (q_E (178, 0, [vr 265, vi 1], []) (qk t u I J)) fun z M1 => q_E (276, 23, [vr 265], [vi z]) M1) else (q_bi (q_E (275, 0, [vr 265, vu, vu], []) (qk t u I J)) fun z M1 => q_E (276, 15, [vr 265], [vi z]) M1)) := q_it_eq 400 [4, 15, 23] _ _
set_option maxRecDepth 20000 in
theorem e276_23 (t u : Nat) (I J : Nat → Nat → Int) (y0 : Int) : q_E (276, 23, [vr 265], [vi y0]) (qk t u I J) = some (vi y0, (qk t u I J)) := q_it_eq 400 [4, 15, 23] _ _
set_option maxRecDepth 20000 in
theorem e276_15 (t u : Nat) (I J : Nat → Nat → Int) (y0 : Int) : q_E (276, 15, [vr 265], [vi y0]) (qk t u I J) = q_E (276, 23, [vr 265], [vi y0]) (qk t u I J) := q_it_eq 400 [4, 15, 23] _ _
/-! 277: StewardHeapsModel.askLeaves()I -/
set_option maxRecDepth 20000 in
theorem e277_0 (t u : Nat) (I J : Nat → Nat → Int) : q_E (277, 0, [vr 265, vu], []) (qk t u I J) = (q_bv (q_E (177, 0, [vr 265], []) (qk t u I J)) fun M1 => q_E (277, 4, [vr 265, vu], []) M1) := q_it_eq 400 [4, 16, 21, 36] _ _
set_option maxRecDepth 20000 in
theorem e277_4 (t u : Nat) (I J : Nat → Nat → Int) : q_E (277, 4, [vr 265, vu], []) (qk t u I J) = (if I 265 14 = 0 then (q_bi (q_E (178, 0, [vr 265, vi 1], []) (qk t u I J)) fun z M1 => q_E (277, 16, [vr 265, vu], [vi z]) M1) else (q_bi (q_E (275, 0, [vr 265, vu, vu], []) (qk t u I J)) fun z M1 => q_E (277, 21, [vr 265, vu], [vi z]) M1)) := q_it_eq 400 [4, 16, 21, 36] _ _
set_option maxRecDepth 20000 in
theorem e277_16 (t u : Nat) (I J : Nat → Nat → Int) (y0 : Int) : q_E (277, 16, [vr 265, vu], [vi y0]) (qk t u I J) = some (vi y0, (qk t u I J)) := q_it_eq 400 [4, 16, 21, 36] _ _
set_option maxRecDepth 20000 in
theorem e277_21 (t u : Nat) (I J : Nat → Nat → Int) (y0 : Int) : q_E (277, 21, [vr 265, vu], [vi y0]) (qk t u I J) = (if y0 < 0 then q_E (277, 36, [vr 265, vi y0], [vi (-2)]) (qk t u I J) else (q_bi (q_E (274, 0, [vr 265, vi y0], []) (qk t u I J)) fun z M1 => q_E (277, 36, [vr 265, vi y0], [vi z]) M1)) := q_it_eq 400 [4, 16, 21, 36] _ _
set_option maxRecDepth 20000 in
theorem e277_36 (t u : Nat) (I J : Nat → Nat → Int) (x1 : Int) (y0 : Int) : q_E (277, 36, [vr 265, vi x1], [vi y0]) (qk t u I J) = some (vi y0, (qk t u I J)) := q_it_eq 400 [4, 16, 21, 36] _ _
/-! 278: StewardHeapsModel.judge()I -/
set_option maxRecDepth 20000 in
theorem e278_0 (t u : Nat) (I J : Nat → Nat → Int) : q_E (278, 0, [vr 265], []) (qk t u I J) = (q_bv (q_E (177, 0, [vr 265], []) (qk t u I J)) fun M1 => q_E (278, 4, [vr 265], []) M1) := q_it_eq 400 [4, 16, 24] _ _
set_option maxRecDepth 20000 in
theorem e278_4 (t u : Nat) (I J : Nat → Nat → Int) : q_E (278, 4, [vr 265], []) (qk t u I J) = (if I 265 14 = 0 then (q_bi (q_E (178, 0, [vr 265, vi 1], []) (qk t u I J)) fun z M1 => q_E (278, 24, [vr 265], [vi z]) M1) else (q_bi (q_E (268, 0, [vr 265, vi 0, vu, vu, vu], []) (qk t u I J)) fun z M1 => q_E (278, 16, [vr 265], [vi z]) M1)) := q_it_eq 400 [4, 16, 24] _ _
set_option maxRecDepth 20000 in
theorem e278_24 (t u : Nat) (I J : Nat → Nat → Int) (y0 : Int) : q_E (278, 24, [vr 265], [vi y0]) (qk t u I J) = some (vi y0, (qk t u I J)) := q_it_eq 400 [4, 16, 24] _ _
set_option maxRecDepth 20000 in
theorem e278_16 (t u : Nat) (I J : Nat → Nat → Int) (y0 : Int) : q_E (278, 16, [vr 265], [vi y0]) (qk t u I J) = q_E (278, 24, [vr 265], [vi y0]) (qk t u I J) := q_it_eq 400 [4, 16, 24] _ _
/-! 279: StewardHeapsModel.stewardHas(IZZ)I -/
set_option maxRecDepth 20000 in
theorem e279_0 (t u : Nat) (I J : Nat → Nat → Int) (x0 : Int) (x1 : Int) (x2 : Int) : q_E (279, 0, [vi x0, vi x1, vi x2], []) (qk t u I J) = (if x1 = 0 then (if x2 = 0 then some (vi 1, (qk t u I J)) else some (vi 0, (qk t u I J))) else (if x2 = 0 then some (vi (-1), (qk t u I J)) else some (vi (wr (-x0)), (qk t u I J)))) := q_it_eq 400 [] _ _
/-! 280: StewardHeapsModel.mouseHas(ZZ)I -/
set_option maxRecDepth 20000 in
theorem e280_0 (t u : Nat) (I J : Nat → Nat → Int) (x0 : Int) (x1 : Int) : q_E (280, 0, [vi x0, vi x1], []) (qk t u I J) = (if x0 = 0 then (if x1 = 0 then some (vi 2, (qk t u I J)) else some (vi 4, (qk t u I J))) else (if x1 = 0 then some (vi 0, (qk t u I J)) else some (vi 1, (qk t u I J)))) := q_it_eq 400 [] _ _
/-! 281: StewardHeapsModel.comes(IZZZ)I -/
set_option maxRecDepth 20000 in
theorem e281_0 (t u : Nat) (I J : Nat → Nat → Int) (x1 : Int) (x2 : Int) (x3 : Int) (x4 : Int) : q_E (281, 0, [vr 265, vi x1, vi x2, vi x3, vi x4, vu], []) (qk t u I J) = (q_bv (q_E (177, 0, [vr 265], []) (qk t u I J)) fun M1 => q_E (281, 4, [vr 265, vi x1, vi x2, vi x3, vi x4, vu], []) M1) := q_it_eq 400 [4, 16, 19, 36, 45] _ _
set_option maxRecDepth 20000 in
theorem e281_4 (t u : Nat) (I J : Nat → Nat → Int) (x1 : Int) (x2 : Int) (x3 : Int) (x4 : Int) : q_E (281, 4, [vr 265, vi x1, vi x2, vi x3, vi x4, vu], []) (qk t u I J) = (q_bi (q_E (180, 0, [vi x1, vi 0, vi 9], []) (qk t u I J)) fun z M1 => q_E (281, 16, [vr 265, vi x1, vi x2, vi x3, vi x4, vu], [vi z, vi (I 265 14), vr 265]) M1) := q_it_eq 400 [4, 16, 19, 36, 45] _ _
set_option maxRecDepth 20000 in
theorem e281_16 (t u : Nat) (I J : Nat → Nat → Int) (x1 : Int) (x2 : Int) (x3 : Int) (x4 : Int) (y0 : Int) (y1 : Int) (y2 : Nat) : q_E (281, 16, [vr 265, vi x1, vi x2, vi x3, vi x4, vu], [vi y0, vi y1, vr y2]) (qk t u I J) = (if kd y2 = 21 then (q_bi (q_E (212, 0, [vr y2, vi y1, vi y0], []) (qk t u I J)) fun z M1 => q_E (281, 19, [vr 265, vi x1, vi x2, vi x3, vi x4, vu], [vi z]) M1) else none) := q_it_eq 400 [4, 16, 19, 36, 45] _ _
set_option maxRecDepth 20000 in
theorem e281_19 (t u : Nat) (I J : Nat → Nat → Int) (x1 : Int) (x2 : Int) (x3 : Int) (x4 : Int) (y0 : Int) : q_E (281, 19, [vr 265, vi x1, vi x2, vi x3, vi x4, vu], [vi y0]) (qk t u I J) = (if y0 = 0 then (if x4 = 0 then (q_bi (q_E (279, 0, [vi x1, vi x2, vi x3], []) (qk t u I J)) fun z M1 => q_E (281, 45, [vr 265, vi x1, vi x2, vi x3, vi x4, vi y0], [vi z]) M1) else (q_bi (q_E (280, 0, [vi x2, vi x3], []) (qk t u I J)) fun z M1 => q_E (281, 36, [vr 265, vi x1, vi x2, vi x3, vi x4, vi y0], [vi z]) M1)) else some (vi (-100), (qk t u (uI I 265 11 y0) J))) := q_it_eq 400 [4, 16, 19, 36, 45] _ _
set_option maxRecDepth 20000 in
theorem e281_45 (t u : Nat) (I J : Nat → Nat → Int) (x1 : Int) (x2 : Int) (x3 : Int) (x4 : Int) (x5 : Int) (y0 : Int) : q_E (281, 45, [vr 265, vi x1, vi x2, vi x3, vi x4, vi x5], [vi y0]) (qk t u I J) = some (vi y0, (qk t u I J)) := q_it_eq 400 [4, 16, 19, 36, 45] _ _
set_option maxRecDepth 20000 in
theorem e281_36 (t u : Nat) (I J : Nat → Nat → Int) (x1 : Int) (x2 : Int) (x3 : Int) (x4 : Int) (x5 : Int) (y0 : Int) : q_E (281, 36, [vr 265, vi x1, vi x2, vi x3, vi x4, vi x5], [vi y0]) (qk t u I J) = q_E (281, 45, [vr 265, vi x1, vi x2, vi x3, vi x4, vi x5], [vi y0]) (qk t u I J) := q_it_eq 400 [4, 16, 19, 36, 45] _ _
/-! 282: StewardHeapsModel.seekRests(I)I -/
set_option maxRecDepth 20000 in
theorem e282_0 (t u : Nat) (I J : Nat → Nat → Int) (x1 : Int) : q_E (282, 0, [vr 265, vi x1, vu, vu, vu, vu], []) (qk t u I J) = q_E (282, 2, [vr 265, vi x1, vi 0, vu, vu, vu], []) (qk t u I J) := q_it_eq 400 [2, 8, 10, 27, 41, 57, 65, 83, 90, 114, 117] _ _
set_option maxRecDepth 20000 in
theorem e282_2 (t u : Nat) (I J : Nat → Nat → Int) (x1 : Int) (x2 : Int) : q_E (282, 2, [vr 265, vi x1, vi x2, vu, vu, vu], []) (qk t u I J) = q_E (282, 8, [vr 265, vi x1, vi x2, vu, vu, vu], []) (qk t u (uI I 265 38 (-2)) J) := q_it_eq 400 [2, 8, 10, 27, 41, 57, 65, 83, 90, 114, 117] _ _
set_option maxRecDepth 20000 in
theorem e282_8 (t u : Nat) (I J : Nat → Nat → Int) (x1 : Int) (x2 : Int) : q_E (282, 8, [vr 265, vi x1, vi x2, vu, vu, vu], []) (qk t u I J) = q_E (282, 10, [vr 265, vi x1, vi x2, vi 0, vu, vu], []) (qk t u I J) := q_it_eq 400 [2, 8, 10, 27, 41, 57, 65, 83, 90, 114, 117] _ _
set_option maxRecDepth 20000 in
theorem e282_10 (t u : Nat) (I J : Nat → Nat → Int) (x1 : Int) (x2 : Int) (x3 : Int) : q_E (282, 10, [vr 265, vi x1, vi x2, vi x3, vu, vu], []) (qk t u I J) = (if x3 < 4 then (if (1 : Int) < x3 then q_E (282, 27, [vr 265, vi x1, vi x2, vi x3, vi 1, vu], []) (qk t u I J) else q_E (282, 27, [vr 265, vi x1, vi x2, vi x3, vi 0, vu], []) (qk t u I J)) else some (vi x2, (qk t u I J))) := q_it_eq 400 [2, 8, 10, 27, 41, 57, 65, 83, 90, 114, 117] _ _
set_option maxRecDepth 20000 in
theorem e282_27 (t u : Nat) (I J : Nat → Nat → Int) (x1 : Int) (x2 : Int) (x3 : Int) (x4 : Int) : q_E (282, 27, [vr 265, vi x1, vi x2, vi x3, vi x4, vu], []) (qk t u I J) = (if Int.tmod x3 2 = 1 then q_E (282, 41, [vr 265, vi x1, vi x2, vi x3, vi x4, vi 1], []) (qk t u I J) else q_E (282, 41, [vr 265, vi x1, vi x2, vi x3, vi x4, vi 0], []) (qk t u I J)) := q_it_eq 400 [2, 8, 10, 27, 41, 57, 65, 83, 90, 114, 117] _ _
set_option maxRecDepth 20000 in
theorem e282_41 (t u : Nat) (I J : Nat → Nat → Int) (x1 : Int) (x2 : Int) (x3 : Int) (x4 : Int) (x5 : Int) : q_E (282, 41, [vr 265, vi x1, vi x2, vi x3, vi x4, vi x5], []) (qk t u I J) = (if x4 = 0 then (q_bi (q_E (279, 0, [vi x1, vi 1, vi x5], []) (qk t u I J)) fun z M1 => q_E (282, 57, [vr 265, vi x1, vi x2, vi x3, vi x4, vi x5], [vi z]) M1) else (q_bi (q_E (279, 0, [vi x1, vi 0, vi x5], []) (qk t u I J)) fun z M1 => q_E (282, 57, [vr 265, vi x1, vi x2, vi x3, vi x4, vi x5], [vi z]) M1)) := q_it_eq 400 [2, 8, 10, 27, 41, 57, 65, 83, 90, 114, 117] _ _
set_option maxRecDepth 20000 in
theorem e282_114 (t u : Nat) (I J : Nat → Nat → Int) (x1 : Int) (x2 : Int) (x3 : Int) : q_E (282, 114, [vr 265, vi x1, vi x2, vi x3, vu, vu], []) (qk t u I J) = q_E (282, 117, [vr 265, vi x1, vi (wr (x2 + 1)), vi x3, vu, vu], []) (qk t u I J) := q_it_eq 400 [2, 8, 10, 27, 41, 57, 65, 83, 90, 114, 117] _ _
set_option maxRecDepth 20000 in
theorem e282_117 (t u : Nat) (I J : Nat → Nat → Int) (x1 : Int) (x2 : Int) (x3 : Int) : q_E (282, 117, [vr 265, vi x1, vi x2, vi x3, vu, vu], []) (qk t u I J) = q_E (282, 10, [vr 265, vi x1, vi x2, vi (wr (x3 + 1)), vu, vu], []) (qk t u I J) := q_it_eq 400 [2, 8, 10, 27, 41, 57, 65, 83, 90, 114, 117] _ _
set_option maxRecDepth 20000 in
theorem e282_57 (t u : Nat) (I J : Nat → Nat → Int) (x1 : Int) (x2 : Int) (x3 : Int) (x4 : Int) (x5 : Int) (y0 : Int) : q_E (282, 57, [vr 265, vi x1, vi x2, vi x3, vi x4, vi x5], [vi y0]) (qk t u I J) = (q_bi (q_E (279, 0, [vi x1, vi x4, vi x5], []) (qk t u I J)) fun z M1 => q_E (282, 65, [vr 265, vi x1, vi x2, vi x3, vi x4, vi x5], [vi z, vi y0]) M1) := q_it_eq 400 [2, 8, 10, 27, 41, 57, 65, 83, 90, 114, 117] _ _
set_option maxRecDepth 20000 in
theorem e282_65 (t u : Nat) (I J : Nat → Nat → Int) (x1 : Int) (x2 : Int) (x3 : Int) (x4 : Int) (x5 : Int) (y0 : Int) (y1 : Int) : q_E (282, 65, [vr 265, vi x1, vi x2, vi x3, vi x4, vi x5], [vi y0, vi y1]) (qk t u I J) = (if y0 < y1 then q_E (282, 117, [vr 265, vi x1, vi x2, vi x3, vu, vu], []) (qk t u I J) else (if x5 = 0 then (q_bi (q_E (280, 0, [vi x4, vi 1], []) (qk t u I J)) fun z M1 => q_E (282, 83, [vr 265, vi x1, vi x2, vi x3, vi x4, vi x5], [vi z]) M1) else (q_bi (q_E (280, 0, [vi x4, vi 0], []) (qk t u I J)) fun z M1 => q_E (282, 83, [vr 265, vi x1, vi x2, vi x3, vi x4, vi x5], [vi z]) M1))) := q_it_eq 400 [2, 8, 10, 27, 41, 57, 65, 83, 90, 114, 117] _ _
set_option maxRecDepth 20000 in
theorem e282_83 (t u : Nat) (I J : Nat → Nat → Int) (x1 : Int) (x2 : Int) (x3 : Int) (x4 : Int) (x5 : Int) (y0 : Int) : q_E (282, 83, [vr 265, vi x1, vi x2, vi x3, vi x4, vi x5], [vi y0]) (qk t u I J) = (q_bi (q_E (280, 0, [vi x4, vi x5], []) (qk t u I J)) fun z M1 => q_E (282, 90, [vr 265, vi x1, vi x2, vi x3, vi x4, vi x5], [vi z, vi y0]) M1) := q_it_eq 400 [2, 8, 10, 27, 41, 57, 65, 83, 90, 114, 117] _ _
set_option maxRecDepth 20000 in
theorem e282_90 (t u : Nat) (I J : Nat → Nat → Int) (x1 : Int) (x2 : Int) (x3 : Int) (x4 : Int) (x5 : Int) (y0 : Int) (y1 : Int) : q_E (282, 90, [vr 265, vi x1, vi x2, vi x3, vi x4, vi x5], [vi y0, vi y1]) (qk t u I J) = (if y0 < y1 then q_E (282, 117, [vr 265, vi x1, vi x2, vi x3, vu, vu], []) (qk t u I J) else (if x2 = 0 then q_E (282, 114, [vr 265, vi x1, vi x2, vi x3, vu, vu], []) (qk t u (uI I 265 38 (wr ((wr (10 * (wr (Int.tdiv x3 2)))) + (Int.tmod x3 2)))) J) else q_E (282, 114, [vr 265, vi x1, vi x2, vi x3, vu, vu], []) (qk t u I J))) := q_it_eq 400 [2, 8, 10, 27, 41, 57, 65, 83, 90, 114, 117] _ _
/-! 283: StewardHeapsModel.rests(I)I -/
set_option maxRecDepth 20000 in
theorem e283_0 (t u : Nat) (I J : Nat → Nat → Int) (x1 : Int) : q_E (283, 0, [vr 265, vi x1, vu], []) (qk t u I J) = (q_bv (q_E (177, 0, [vr 265], []) (qk t u I J)) fun M1 => q_E (283, 4, [vr 265, vi x1, vu], []) M1) := q_it_eq 400 [4, 16, 19, 29, 37] _ _
set_option maxRecDepth 20000 in
theorem e283_4 (t u : Nat) (I J : Nat → Nat → Int) (x1 : Int) : q_E (283, 4, [vr 265, vi x1, vu], []) (qk t u I J) = (q_bi (q_E (180, 0, [vi x1, vi 0, vi 9], []) (qk t u I J)) fun z M1 => q_E (283, 16, [vr 265, vi x1, vu], [vi z, vi (I 265 14), vr 265]) M1) := q_it_eq 400 [4, 16, 19, 29, 37] _ _
set_option maxRecDepth 20000 in
theorem e283_16 (t u : Nat) (I J : Nat → Nat → Int) (x1 : Int) (y0 : Int) (y1 : Int) (y2 : Nat) : q_E (283, 16, [vr 265, vi x1, vu], [vi y0, vi y1, vr y2]) (qk t u I J) = (if kd y2 = 21 then (q_bi (q_E (212, 0, [vr y2, vi y1, vi y0], []) (qk t u I J)) fun z M1 => q_E (283, 19, [vr 265, vi x1, vu], [vi z]) M1) else none) := q_it_eq 400 [4, 16, 19, 29, 37] _ _
set_option maxRecDepth 20000 in
theorem e283_19 (t u : Nat) (I J : Nat → Nat → Int) (x1 : Int) (y0 : Int) : q_E (283, 19, [vr 265, vi x1, vu], [vi y0]) (qk t u I J) = (if y0 = 0 then (q_bi (q_E (282, 0, [vr 265, vi x1, vu, vu, vu, vu], []) (qk t u I J)) fun z M1 => q_E (283, 37, [vr 265, vi x1, vi y0], [vi z]) M1) else (q_bi (q_E (178, 0, [vr 265, vi y0], []) (qk t u I J)) fun z M1 => q_E (283, 29, [vr 265, vi x1, vi y0], [vi z]) M1)) := q_it_eq 400 [4, 16, 19, 29, 37] _ _
set_option maxRecDepth 20000 in
theorem e283_37 (t u : Nat) (I J : Nat → Nat → Int) (x1 : Int) (x2 : Int) (y0 : Int) : q_E (283, 37, [vr 265, vi x1, vi x2], [vi y0]) (qk t u I J) = some (vi y0, (qk t u I J)) := q_it_eq 400 [4, 16, 19, 29, 37] _ _
set_option maxRecDepth 20000 in
theorem e283_29 (t u : Nat) (I J : Nat → Nat → Int) (x1 : Int) (x2 : Int) (y0 : Int) : q_E (283, 29, [vr 265, vi x1, vi x2], [vi y0]) (qk t u I J) = q_E (283, 37, [vr 265, vi x1, vi x2], [vi y0]) (qk t u I J) := q_it_eq 400 [4, 16, 19, 29, 37] _ _
/-! 284: StewardHeapsModel.rest(I)I -/
set_option maxRecDepth 20000 in
theorem e284_0 (t u : Nat) (I J : Nat → Nat → Int) (x1 : Int) : q_E (284, 0, [vr 265, vi x1, vu], []) (qk t u I J) = (q_bv (q_E (177, 0, [vr 265], []) (qk t u I J)) fun M1 => q_E (284, 4, [vr 265, vi x1, vu], []) M1) := q_it_eq 400 [4, 16, 19, 29, 35] _ _
set_option maxRecDepth 20000 in
theorem e284_4 (t u : Nat) (I J : Nat → Nat → Int) (x1 : Int) : q_E (284, 4, [vr 265, vi x1, vu], []) (qk t u I J) = (q_bi (q_E (180, 0, [vi x1, vi 0, vi 9], []) (qk t u I J)) fun z M1 => q_E (284, 16, [vr 265, vi x1, vu], [vi z, vi (I 265 14), vr 265]) M1) := q_it_eq 400 [4, 16, 19, 29, 35] _ _
set_option maxRecDepth 20000 in
theorem e284_16 (t u : Nat) (I J : Nat → Nat → Int) (x1 : Int) (y0 : Int) (y1 : Int) (y2 : Nat) : q_E (284, 16, [vr 265, vi x1, vu], [vi y0, vi y1, vr y2]) (qk t u I J) = (if kd y2 = 21 then (q_bi (q_E (212, 0, [vr y2, vi y1, vi y0], []) (qk t u I J)) fun z M1 => q_E (284, 19, [vr 265, vi x1, vu], [vi z]) M1) else none) := q_it_eq 400 [4, 16, 19, 29, 35] _ _
set_option maxRecDepth 20000 in
theorem e284_19 (t u : Nat) (I J : Nat → Nat → Int) (x1 : Int) (y0 : Int) : q_E (284, 19, [vr 265, vi x1, vu], [vi y0]) (qk t u I J) = (if y0 = 0 then (q_bi (q_E (282, 0, [vr 265, vi x1, vu, vu, vu, vu], []) (qk t u I J)) fun z M1 => q_E (284, 35, [vr 265, vi x1, vi y0], [vi z]) M1) else (q_bi (q_E (178, 0, [vr 265, vi y0], []) (qk t u I J)) fun z M1 => q_E (284, 29, [vr 265, vi x1, vi y0], [vi z]) M1)) := q_it_eq 400 [4, 16, 19, 29, 35] _ _
set_option maxRecDepth 20000 in
theorem e284_35 (t u : Nat) (I J : Nat → Nat → Int) (x1 : Int) (x2 : Int) (y0 : Int) : q_E (284, 35, [vr 265, vi x1, vi x2], [vi y0]) (qk t u I J) = some (vi (I 265 38), (qk t u I J)) := q_it_eq 400 [4, 16, 19, 29, 35] _ _
set_option maxRecDepth 20000 in
theorem e284_29 (t u : Nat) (I J : Nat → Nat → Int) (x1 : Int) (x2 : Int) (y0 : Int) : q_E (284, 29, [vr 265, vi x1, vi x2], [vi y0]) (qk t u I J) = some (vi y0, (qk t u I J)) := q_it_eq 400 [4, 16, 19, 29, 35] _ _
/-! 285: StewardHeapsModel.trySleep(III)V -/
set_option maxRecDepth 20000 in
theorem e285_0 (t u : Nat) (I J : Nat → Nat → Int) (x1 : Int) (x2 : Int) (x3 : Int) : q_E (285, 0, [vr 265, vi x1, vi x2, vi x3, vu, vu, vu, vu], []) (qk t u I J) = q_E (285, 18, [vr 265, vi x1, vi x2, vi x3, vi 0, vu, vu, vu], []) (qk t u I (uI (uI (uI J 265 39 0) 265 40 0) 265 41 0)) := q_it_eq 400 [18, 34, 37, 52, 85, 105, 135, 164] _ _
set_option maxRecDepth 20000 in
theorem e285_18 (t u : Nat) (I J : Nat → Nat → Int) (x1 : Int) (x2 : Int) (x3 : Int) (x4 : Int) : q_E (285, 18, [vr 265, vi x1, vi x2, vi x3, vi x4, vu, vu, vu], []) (qk t u I J) = (if x4 < q_shl 1 x2 then (q_bv (q_E (220, 0, [vr 265, vi x1], []) (qk t u I J)) fun M1 => q_E (285, 34, [vr 265, vi x1, vi x2, vi x3, vi x4, vl 1, vu, vu], []) M1) else some (vu, (qk t u I J))) := q_it_eq 400 [18, 34, 37, 52, 85, 105, 135, 164] _ _
set_option maxRecDepth 20000 in
theorem e285_37 (t u : Nat) (I J : Nat → Nat → Int) (x1 : Int) (x2 : Int) (x3 : Int) (x4 : Int) (x5 : Int) (x7 : Int) : q_E (285, 37, [vr 265, vi x1, vi x2, vi x3, vi x4, vl x5, vu, vi x7], []) (qk t u I J) = (if x7 < x2 then (q_bi (q_E (181, 0, [vi x4, vi x7], []) (qk t u I J)) fun z M1 => q_E (285, 52, [vr 265, vi x1, vi x2, vi x3, vi x4, vl x5, vu, vi x7], [vi z, vl x5]) M1) else (q_bi (q_E (214, 0, [vr 275, vi 0, vu], []) (qk t u I (uI J 265 39 (wl ((J 265 39) + x5))))) fun z M1 => q_E (285, 135, [vr 265, vi x1, vi x2, vi x3, vi x4, vl x5, vu, vi x7], [vi z, vl ((uI J 265 39 (wl ((J 265 39) + x5))) 265 40), vr 265]) M1)) := q_it_eq 400 [18, 34, 37, 52, 85, 105, 135, 164] _ _
set_option maxRecDepth 20000 in
theorem e285_105 (t u : Nat) (I J : Nat → Nat → Int) (x1 : Int) (x2 : Int) (x3 : Int) (x4 : Int) (x5 : Int) (x7 : Int) : q_E (285, 105, [vr 265, vi x1, vi x2, vi x3, vi x4, vl x5, vu, vi x7], []) (qk t u I J) = q_E (285, 37, [vr 265, vi x1, vi x2, vi x3, vi x4, vl x5, vu, vi (wr (x7 + 1))], []) (qk t u I J) := q_it_eq 400 [18, 34, 37, 52, 85, 105, 135, 164] _ _
set_option maxRecDepth 20000 in
theorem e285_34 (t u : Nat) (I J : Nat → Nat → Int) (x1 : Int) (x2 : Int) (x3 : Int) (x4 : Int) (x5 : Int) : q_E (285, 34, [vr 265, vi x1, vi x2, vi x3, vi x4, vl x5, vu, vu], []) (qk t u I J) = q_E (285, 37, [vr 265, vi x1, vi x2, vi x3, vi x4, vl x5, vu, vi 0], []) (qk t u I J) := q_it_eq 400 [18, 34, 37, 52, 85, 105, 135, 164] _ _
set_option maxRecDepth 20000 in
theorem e285_52 (t u : Nat) (I J : Nat → Nat → Int) (x1 : Int) (x2 : Int) (x3 : Int) (x4 : Int) (x5 : Int) (x7 : Int) (y0 : Int) (y1 : Int) : q_E (285, 52, [vr 265, vi x1, vi x2, vi x3, vi x4, vl x5, vu, vi x7], [vi y0, vl y1]) (qk t u I J) = (if y0 = 0 then (q_bi (q_E (181, 0, [vi x4, vi x7], []) (qk t u I J)) fun z M1 => q_E (285, 85, [vr 265, vi x1, vi x2, vi x3, vi x4, vl (wl (y1 * (wr (100 - (I 268 1))))), vu, vi x7], [vi z]) M1) else (q_bi (q_E (181, 0, [vi x4, vi x7], []) (qk t u I J)) fun z M1 => q_E (285, 85, [vr 265, vi x1, vi x2, vi x3, vi x4, vl (wl (y1 * (I 268 1))), vu, vi x7], [vi z]) M1)) := q_it_eq 400 [18, 34, 37, 52, 85, 105, 135, 164] _ _
set_option maxRecDepth 20000 in
theorem e285_135 (t u : Nat) (I J : Nat → Nat → Int) (x1 : Int) (x2 : Int) (x3 : Int) (x4 : Int) (x5 : Int) (x7 : Int) (y0 : Int) (y1 : Int) (y2 : Nat) : q_E (285, 135, [vr 265, vi x1, vi x2, vi x3, vi x4, vl x5, vu, vi x7], [vi y0, vl y1, vr y2]) (qk t u I J) = (if y0 < x3 then (if kd y2 = 21 then (q_bi (q_E (214, 0, [vr 275, vi 0, vu], []) (qk t u I (uI J y2 40 (wl (y1 + 0))))) fun z M1 => q_E (285, 164, [vr 265, vi x1, vi x2, vi x3, vi x4, vl x5, vu, vi x7], [vi z, vl x5, vl ((uI J y2 40 (wl (y1 + 0))) 265 41), vr 265]) M1) else none) else (if kd y2 = 21 then (q_bi (q_E (214, 0, [vr 275, vi 0, vu], []) (qk t u I (uI J y2 40 (wl (y1 + x5))))) fun z M1 => q_E (285, 164, [vr 265, vi x1, vi x2, vi x3, vi x4, vl x5, vu, vi x7], [vi z, vl x5, vl ((uI J y2 40 (wl (y1 + x5))) 265 41), vr 265]) M1) else none)) := q_it_eq 400 [18, 34, 37, 52, 85, 105, 135, 164] _ _
set_option maxRecDepth 20000 in
theorem e285_85 (t u : Nat) (I J : Nat → Nat → Int) (x1 : Int) (x2 : Int) (x3 : Int) (x4 : Int) (x5 : Int) (x7 : Int) (y0 : Int) : q_E (285, 85, [vr 265, vi x1, vi x2, vi x3, vi x4, vl x5, vu, vi x7], [vi y0]) (qk t u I J) = (if y0 = 0 then (if (0 : Int) ≤ wr (5 + x1) ∧ wr (5 + x1) < 71 then (q_bv (q_E (219, 0, [vr 265, vr 275, vi 0, vi (I 268 (Int.toNat (wr (5 + x1)))), vu], []) (qk t u I J)) fun M1 => q_E (285, 105, [vr 265, vi x1, vi x2, vi x3, vi x4, vl x5, vu, vi x7], []) M1) else none) else q_E (285, 105, [vr 265, vi x1, vi x2, vi x3, vi x4, vl x5, vu, vi x7], []) (qk t u I J)) := q_it_eq 400 [18, 34, 37, 52, 85, 105, 135, 164] _ _
set_option maxRecDepth 20000 in
theorem e285_164 (t u : Nat) (I J : Nat → Nat → Int) (x1 : Int) (x2 : Int) (x3 : Int) (x4 : Int) (x5 : Int) (x7 : Int) (y0 : Int) (y1 : Int) (y2 : Int) (y3 : Nat) : q_E (285, 164, [vr 265, vi x1, vi x2, vi x3, vi x4, vl x5, vu, vi x7], [vi y0, vl y1, vl y2, vr y3]) (qk t u I J) = (if kd y3 = 21 then q_E (285, 18, [vr 265, vi x1, vi x2, vi x3, vi (wr (x4 + 1)), vu, vu, vu], []) (qk t u I (uI J y3 41 (wl (y2 + (wl (y1 * y0)))))) else none) := q_it_eq 400 [18, 34, 37, 52, 85, 105, 135, 164] _ _
/-! 286: StewardHeapsModel.odds(IIIZ)J -/
set_option maxRecDepth 20000 in
theorem e286_0 (t u : Nat) (I J : Nat → Nat → Int) (x1 : Int) (x2 : Int) (x3 : Int) (x4 : Int) : q_E (286, 0, [vr 265, vi x1, vi x2, vi x3, vi x4, vu], []) (qk t u I J) = (q_bv (q_E (177, 0, [vr 265], []) (qk t u I J)) fun M1 => q_E (286, 4, [vr 265, vi x1, vi x2, vi x3, vi x4, vu], []) M1) := q_it_eq 400 [4, 10, 17, 27, 38, 51, 60, 73] _ _
set_option maxRecDepth 20000 in
theorem e286_4 (t u : Nat) (I J : Nat → Nat → Int) (x1 : Int) (x2 : Int) (x3 : Int) (x4 : Int) : q_E (286, 4, [vr 265, vi x1, vi x2, vi x3, vi x4, vu], []) (qk t u I J) = (q_bi (q_E (210, 0, [vr 265, vi x1], []) (qk t u I J)) fun z M1 => q_E (286, 10, [vr 265, vi x1, vi x2, vi x3, vi x4, vu], [vi z, vr 265]) M1) := q_it_eq 400 [4, 10, 17, 27, 38, 51, 60, 73] _ _
set_option maxRecDepth 20000 in
theorem e286_10 (t u : Nat) (I J : Nat → Nat → Int) (x1 : Int) (x2 : Int) (x3 : Int) (x4 : Int) (y0 : Int) (y1 : Nat) : q_E (286, 10, [vr 265, vi x1, vi x2, vi x3, vi x4, vu], [vi y0, vr y1]) (qk t u I J) = (q_bi (q_E (180, 0, [vi x2, vi 0, vi 8], []) (qk t u I J)) fun z M1 => q_E (286, 17, [vr 265, vi x1, vi x2, vi x3, vi x4, vu], [vi z, vi y0, vr y1]) M1) := q_it_eq 400 [4, 10, 17, 27, 38, 51, 60, 73] _ _
set_option maxRecDepth 20000 in
theorem e286_17 (t u : Nat) (I J : Nat → Nat → Int) (x1 : Int) (x2 : Int) (x3 : Int) (x4 : Int) (y0 : Int) (y1 : Int) (y2 : Nat) : q_E (286, 17, [vr 265, vi x1, vi x2, vi x3, vi x4, vu], [vi y0, vi y1, vr y2]) (qk t u I J) = (if y0 = 0 then (if kd y2 = 21 then (q_bi (q_E (212, 0, [vr y2, vi y1, vi 0], []) (qk t u I J)) fun z M1 => q_E (286, 38, [vr 265, vi x1, vi x2, vi x3, vi x4, vu], [vi z]) M1) else none) else (q_bi (q_E (180, 0, [vi x3, vi 0, vi 60], []) (qk t u I J)) fun z M1 => q_E (286, 27, [vr 265, vi x1, vi x2, vi x3, vi x4, vu], [vi z, vi y1, vr y2]) M1)) := q_it_eq 400 [4, 10, 17, 27, 38, 51, 60, 73] _ _
set_option maxRecDepth 20000 in
theorem e286_38 (t u : Nat) (I J : Nat → Nat → Int) (x1 : Int) (x2 : Int) (x3 : Int) (x4 : Int) (y0 : Int) : q_E (286, 38, [vr 265, vi x1, vi x2, vi x3, vi x4, vu], [vi y0]) (qk t u I J) = (if y0 = 0 then (q_bv (q_E (285, 0, [vr 265, vi x1, vi x2, vi x3, vu, vu, vu, vu], []) (qk t u I J)) fun M1 => q_E (286, 60, [vr 265, vi x1, vi x2, vi x3, vi x4, vi y0], []) M1) else (q_bi (q_E (178, 0, [vr 265, vi y0], []) (qk t u I J)) fun z M1 => q_E (286, 51, [vr 265, vi x1, vi x2, vi x3, vi x4, vi y0], [vi z]) M1)) := q_it_eq 400 [4, 10, 17, 27, 38, 51, 60, 73] _ _
set_option maxRecDepth 20000 in
theorem e286_27 (t u : Nat) (I J : Nat → Nat → Int) (x1 : Int) (x2 : Int) (x3 : Int) (x4 : Int) (y0 : Int) (y1 : Int) (y2 : Nat) : q_E (286, 27, [vr 265, vi x1, vi x2, vi x3, vi x4, vu], [vi y0, vi y1, vr y2]) (qk t u I J) = (if y0 = 0 then (if kd y2 = 21 then (q_bi (q_E (212, 0, [vr y2, vi y1, vi 0], []) (qk t u I J)) fun z M1 => q_E (286, 38, [vr 265, vi x1, vi x2, vi x3, vi x4, vu], [vi z]) M1) else none) else (if kd y2 = 21 then (q_bi (q_E (212, 0, [vr y2, vi y1, vi 1], []) (qk t u I J)) fun z M1 => q_E (286, 38, [vr 265, vi x1, vi x2, vi x3, vi x4, vu], [vi z]) M1) else none)) := q_it_eq 400 [4, 10, 17, 27, 38, 51, 60, 73] _ _
set_option maxRecDepth 20000 in
theorem e286_60 (t u : Nat) (I J : Nat → Nat → Int) (x1 : Int) (x2 : Int) (x3 : Int) (x4 : Int) (x5 : Int) : q_E (286, 60, [vr 265, vi x1, vi x2, vi x3, vi x4, vi x5], []) (qk t u I J) = (q_bl (q_E (183, 0, [vl (J 265 40), vu, vl (J 265 39), vu, vi x4, vu, vu, vu, vu, vu, vu], []) (qk t u I J)) fun z M1 => q_E (286, 73, [vr 265, vi x1, vi x2, vi x3, vi x4, vi x5], [vl z]) M1) := q_it_eq 400 [4, 10, 17, 27, 38, 51, 60, 73] _ _
set_option maxRecDepth 20000 in
theorem e286_51 (t u : Nat) (I J : Nat → Nat → Int) (x1 : Int) (x2 : Int) (x3 : Int) (x4 : Int) (x5 : Int) (y0 : Int) : q_E (286, 51, [vr 265, vi x1, vi x2, vi x3, vi x4, vi x5], [vi y0]) (qk t u I J) = some (vl y0, (qk t u I J)) := q_it_eq 400 [4, 10, 17, 27, 38, 51, 60, 73] _ _
set_option maxRecDepth 20000 in
theorem e286_73 (t u : Nat) (I J : Nat → Nat → Int) (x1 : Int) (x2 : Int) (x3 : Int) (x4 : Int) (x5 : Int) (y0 : Int) : q_E (286, 73, [vr 265, vi x1, vi x2, vi x3, vi x4, vi x5], [vl y0]) (qk t u I J) = some (vl y0, (qk t u I J)) := q_it_eq 400 [4, 10, 17, 27, 38, 51, 60, 73] _ _
/-! 287: StewardHeapsModel.mean(IIZ)J -/
set_option maxRecDepth 20000 in
theorem e287_0 (t u : Nat) (I J : Nat → Nat → Int) (x1 : Int) (x2 : Int) (x3 : Int) : q_E (287, 0, [vr 265, vi x1, vi x2, vi x3, vu], []) (qk t u I J) = (q_bv (q_E (177, 0, [vr 265], []) (qk t u I J)) fun M1 => q_E (287, 4, [vr 265, vi x1, vi x2, vi x3, vu], []) M1) := q_it_eq 400 [4, 10, 17, 20, 33, 42, 54] _ _
set_option maxRecDepth 20000 in
theorem e287_4 (t u : Nat) (I J : Nat → Nat → Int) (x1 : Int) (x2 : Int) (x3 : Int) : q_E (287, 4, [vr 265, vi x1, vi x2, vi x3, vu], []) (qk t u I J) = (q_bi (q_E (210, 0, [vr 265, vi x1], []) (qk t u I J)) fun z M1 => q_E (287, 10, [vr 265, vi x1, vi x2, vi x3, vu], [vi z, vr 265]) M1) := q_it_eq 400 [4, 10, 17, 20, 33, 42, 54] _ _
set_option maxRecDepth 20000 in
theorem e287_10 (t u : Nat) (I J : Nat → Nat → Int) (x1 : Int) (x2 : Int) (x3 : Int) (y0 : Int) (y1 : Nat) : q_E (287, 10, [vr 265, vi x1, vi x2, vi x3, vu], [vi y0, vr y1]) (qk t u I J) = (q_bi (q_E (180, 0, [vi x2, vi 0, vi 8], []) (qk t u I J)) fun z M1 => q_E (287, 17, [vr 265, vi x1, vi x2, vi x3, vu], [vi z, vi y0, vr y1]) M1) := q_it_eq 400 [4, 10, 17, 20, 33, 42, 54] _ _
set_option maxRecDepth 20000 in
theorem e287_17 (t u : Nat) (I J : Nat → Nat → Int) (x1 : Int) (x2 : Int) (x3 : Int) (y0 : Int) (y1 : Int) (y2 : Nat) : q_E (287, 17, [vr 265, vi x1, vi x2, vi x3, vu], [vi y0, vi y1, vr y2]) (qk t u I J) = (if kd y2 = 21 then (q_bi (q_E (212, 0, [vr y2, vi y1, vi y0], []) (qk t u I J)) fun z M1 => q_E (287, 20, [vr 265, vi x1, vi x2, vi x3, vu], [vi z]) M1) else none) := q_it_eq 400 [4, 10, 17, 20, 33, 42, 54] _ _
set_option maxRecDepth 20000 in
theorem e287_20 (t u : Nat) (I J : Nat → Nat → Int) (x1 : Int) (x2 : Int) (x3 : Int) (y0 : Int) : q_E (287, 20, [vr 265, vi x1, vi x2, vi x3, vu], [vi y0]) (qk t u I J) = (if y0 = 0 then (q_bv (q_E (285, 0, [vr 265, vi x1, vi x2, vi 0, vu, vu, vu, vu], []) (qk t u I J)) fun M1 => q_E (287, 42, [vr 265, vi x1, vi x2, vi x3, vi y0], []) M1) else (q_bi (q_E (178, 0, [vr 265, vi y0], []) (qk t u I J)) fun z M1 => q_E (287, 33, [vr 265, vi x1, vi x2, vi x3, vi y0], [vi z]) M1)) := q_it_eq 400 [4, 10, 17, 20, 33, 42, 54] _ _
set_option maxRecDepth 20000 in
theorem e287_42 (t u : Nat) (I J : Nat → Nat → Int) (x1 : Int) (x2 : Int) (x3 : Int) (x4 : Int) : q_E (287, 42, [vr 265, vi x1, vi x2, vi x3, vi x4], []) (qk t u I J) = (q_bl (q_E (183, 0, [vl (J 265 41), vu, vl (J 265 39), vu, vi x3, vu, vu, vu, vu, vu, vu], []) (qk t u I J)) fun z M1 => q_E (287, 54, [vr 265, vi x1, vi x2, vi x3, vi x4], [vl z]) M1) := q_it_eq 400 [4, 10, 17, 20, 33, 42, 54] _ _
set_option maxRecDepth 20000 in
theorem e287_33 (t u : Nat) (I J : Nat → Nat → Int) (x1 : Int) (x2 : Int) (x3 : Int) (x4 : Int) (y0 : Int) : q_E (287, 33, [vr 265, vi x1, vi x2, vi x3, vi x4], [vi y0]) (qk t u I J) = some (vl y0, (qk t u I J)) := q_it_eq 400 [4, 10, 17, 20, 33, 42, 54] _ _
set_option maxRecDepth 20000 in
theorem e287_54 (t u : Nat) (I J : Nat → Nat → Int) (x1 : Int) (x2 : Int) (x3 : Int) (x4 : Int) (y0 : Int) : q_E (287, 54, [vr 265, vi x1, vi x2, vi x3, vi x4], [vl y0]) (qk t u I J) = some (vl y0, (qk t u I J)) := q_it_eq 400 [4, 10, 17, 20, 33, 42, 54] _ _
/-! 288: StewardHeapsModel.drawn(III)I -/
set_option maxRecDepth 20000 in
theorem e288_0 (t u : Nat) (I J : Nat → Nat → Int) (x1 : Int) (x2 : Int) (x3 : Int) : q_E (288, 0, [vr 265, vi x1, vi x2, vi x3, vu, vu, vu], []) (qk t u I J) = (q_bv (q_E (177, 0, [vr 265], []) (qk t u I J)) fun M1 => q_E (288, 4, [vr 265, vi x1, vi x2, vi x3, vu, vu, vu], []) M1) := q_it_eq 400 [4, 10, 18, 29, 40, 53, 59, 65, 116, 130] _ _
set_option maxRecDepth 20000 in
theorem e288_65 (t u : Nat) (I J : Nat → Nat → Int) (x1 : Int) (x3 : Int) (x5 : Int) (x6 : Int) : q_E (288, 65, [vr 265, vi x1, vu, vi x3, vu, vi x5, vi x6], []) (qk t u I J) = (if x6 < x3 then (if Int.tmod (Int.tmod (wr ((wr (75 * x5)) + 74)) 65537) 100 < I 268 1 then q_E (288, 116, [vr 265, vi x1, vu, vi x3, vu, vi (Int.tmod (wr ((wr (75 * x5)) + 74)) 65537), vi x6], []) (qk t u I J) else (if (0 : Int) ≤ wr (5 + x1) ∧ wr (5 + x1) < 71 then (q_bv (q_E (219, 0, [vr 265, vr 275, vi 0, vi (I 268 (Int.toNat (wr (5 + x1)))), vu], []) (qk t u I J)) fun M1 => q_E (288, 116, [vr 265, vi x1, vu, vi x3, vu, vi (Int.tmod (wr ((wr (75 * x5)) + 74)) 65537), vi x6], []) M1) else none)) else (q_bi (q_E (214, 0, [vr 275, vi 0, vu], []) (qk t u I J)) fun z M1 => q_E (288, 130, [vr 265, vi x1, vu, vi x3, vu, vi x5, vi x6], [vi z]) M1)) := q_it_eq 400 [4, 10, 18, 29, 40, 53, 59, 65, 116, 130] _ _
set_option maxRecDepth 20000 in
theorem e288_116 (t u : Nat) (I J : Nat → Nat → Int) (x1 : Int) (x3 : Int) (x5 : Int) (x6 : Int) : q_E (288, 116, [vr 265, vi x1, vu, vi x3, vu, vi x5, vi x6], []) (qk t u I J) = q_E (288, 65, [vr 265, vi x1, vu, vi x3, vu, vi x5, vi (wr (x6 + 1))], []) (qk t u I J) := q_it_eq 400 [4, 10, 18, 29, 40, 53, 59, 65, 116, 130] _ _
set_option maxRecDepth 20000 in
theorem e288_4 (t u : Nat) (I J : Nat → Nat → Int) (x1 : Int) (x2 : Int) (x3 : Int) : q_E (288, 4, [vr 265, vi x1, vi x2, vi x3, vu, vu, vu], []) (qk t u I J) = (q_bi (q_E (210, 0, [vr 265, vi x1], []) (qk t u I J)) fun z M1 => q_E (288, 10, [vr 265, vi x1, vi x2, vi x3, vu, vu, vu], [vi z, vr 265]) M1) := q_it_eq 400 [4, 10, 18, 29, 40, 53, 59, 65, 116, 130] _ _
set_option maxRecDepth 20000 in
theorem e288_130 (t u : Nat) (I J : Nat → Nat → Int) (x1 : Int) (x3 : Int) (x5 : Int) (x6 : Int) (y0 : Int) : q_E (288, 130, [vr 265, vi x1, vu, vi x3, vu, vi x5, vi x6], [vi y0]) (qk t u I J) = some (vi y0, (qk t u I J)) := q_it_eq 400 [4, 10, 18, 29, 40, 53, 59, 65, 116, 130] _ _
set_option maxRecDepth 20000 in
theorem e288_10 (t u : Nat) (I J : Nat → Nat → Int) (x1 : Int) (x2 : Int) (x3 : Int) (y0 : Int) (y1 : Nat) : q_E (288, 10, [vr 265, vi x1, vi x2, vi x3, vu, vu, vu], [vi y0, vr y1]) (qk t u I J) = (q_bi (q_E (180, 0, [vi x2, vi 0, vi 65536], []) (qk t u I J)) fun z M1 => q_E (288, 18, [vr 265, vi x1, vi x2, vi x3, vu, vu, vu], [vi z, vi y0, vr y1]) M1) := q_it_eq 400 [4, 10, 18, 29, 40, 53, 59, 65, 116, 130] _ _
set_option maxRecDepth 20000 in
theorem e288_18 (t u : Nat) (I J : Nat → Nat → Int) (x1 : Int) (x2 : Int) (x3 : Int) (y0 : Int) (y1 : Int) (y2 : Nat) : q_E (288, 18, [vr 265, vi x1, vi x2, vi x3, vu, vu, vu], [vi y0, vi y1, vr y2]) (qk t u I J) = (if y0 = 0 then (if kd y2 = 21 then (q_bi (q_E (212, 0, [vr y2, vi y1, vi 0], []) (qk t u I J)) fun z M1 => q_E (288, 40, [vr 265, vi x1, vi x2, vi x3, vu, vu, vu], [vi z]) M1) else none) else (q_bi (q_E (180, 0, [vi x3, vi 0, vi 200], []) (qk t u I J)) fun z M1 => q_E (288, 29, [vr 265, vi x1, vi x2, vi x3, vu, vu, vu], [vi z, vi y1, vr y2]) M1)) := q_it_eq 400 [4, 10, 18, 29, 40, 53, 59, 65, 116, 130] _ _
set_option maxRecDepth 20000 in
theorem e288_40 (t u : Nat) (I J : Nat → Nat → Int) (x1 : Int) (x2 : Int) (x3 : Int) (y0 : Int) : q_E (288, 40, [vr 265, vi x1, vi x2, vi x3, vu, vu, vu], [vi y0]) (qk t u I J) = (if y0 = 0 then (q_bv (q_E (220, 0, [vr 265, vi x1], []) (qk t u I J)) fun M1 => q_E (288, 59, [vr 265, vi x1, vi x2, vi x3, vi y0, vu, vu], []) M1) else (q_bi (q_E (178, 0, [vr 265, vi y0], []) (qk t u I J)) fun z M1 => q_E (288, 53, [vr 265, vi x1, vi x2, vi x3, vi y0, vu, vu], [vi z]) M1)) := q_it_eq 400 [4, 10, 18, 29, 40, 53, 59, 65, 116, 130] _ _
set_option maxRecDepth 20000 in
theorem e288_29 (t u : Nat) (I J : Nat → Nat → Int) (x1 : Int) (x2 : Int) (x3 : Int) (y0 : Int) (y1 : Int) (y2 : Nat) : q_E (288, 29, [vr 265, vi x1, vi x2, vi x3, vu, vu, vu], [vi y0, vi y1, vr y2]) (qk t u I J) = (if y0 = 0 then (if kd y2 = 21 then (q_bi (q_E (212, 0, [vr y2, vi y1, vi 0], []) (qk t u I J)) fun z M1 => q_E (288, 40, [vr 265, vi x1, vi x2, vi x3, vu, vu, vu], [vi z]) M1) else none) else (if kd y2 = 21 then (q_bi (q_E (212, 0, [vr y2, vi y1, vi 1], []) (qk t u I J)) fun z M1 => q_E (288, 40, [vr 265, vi x1, vi x2, vi x3, vu, vu, vu], [vi z]) M1) else none)) := q_it_eq 400 [4, 10, 18, 29, 40, 53, 59, 65, 116, 130] _ _
set_option maxRecDepth 20000 in
theorem e288_59 (t u : Nat) (I J : Nat → Nat → Int) (x1 : Int) (x2 : Int) (x3 : Int) (x4 : Int) : q_E (288, 59, [vr 265, vi x1, vi x2, vi x3, vi x4, vu, vu], []) (qk t u I J) = q_E (288, 65, [vr 265, vi x1, vu, vi x3, vu, vi x2, vi 0], []) (qk t u I J) := q_it_eq 400 [4, 10, 18, 29, 40, 53, 59, 65, 116, 130] _ _
set_option maxRecDepth 20000 in
theorem e288_53 (t u : Nat) (I J : Nat → Nat → Int) (x1 : Int) (x2 : Int) (x3 : Int) (x4 : Int) (y0 : Int) : q_E (288, 53, [vr 265, vi x1, vi x2, vi x3, vi x4, vu, vu], [vi y0]) (qk t u I J) = some (vi y0, (qk t u I J)) := q_it_eq 400 [4, 10, 18, 29, 40, 53, 59, 65, 116, 130] _ _
/-! 289: StewardHeapsModel.note()V -/
set_option maxRecDepth 20000 in
theorem e289_0 (t u : Nat) (I J : Nat → Nat → Int) : q_E (289, 0, [vr 265, vu], []) (qk t u I J) = (if I 265 22 = 16 then q_E (289, 11, [vr 265, vi 0], []) (qk t u I J) else (q_bv (q_E (182, 0, [vr 272, vi 0, vr 273, vi (wr (245 * (I 265 22))), vi 245, vu], []) (qk t u I J)) fun M1 => q_E (289, 73, [vr 265, vu], []) M1)) := q_it_eq 400 [11, 73] _ _
set_option maxRecDepth 20000 in
theorem e289_11 (t u : Nat) (I J : Nat → Nat → Int) (x1 : Int) : q_E (289, 11, [vr 265, vi x1], []) (qk t u I J) = (if x1 < 3675 then (if (0 : Int) ≤ wr (x1 + 245) ∧ wr (x1 + 245) < 3920 then (if (0 : Int) ≤ x1 ∧ x1 < 3920 then q_E (289, 11, [vr 265, vi (wr (x1 + 1))], []) (qk t u (uI I 273 (Int.toNat x1) (I 273 (Int.toNat (wr (x1 + 245))))) J) else none) else none) else (q_bv (q_E (182, 0, [vr 272, vi 0, vr 273, vi (wr (245 * ((uI I 265 22 (wr ((I 265 22) - 1))) 265 22))), vi 245, vu], []) (qk t u (uI I 265 22 (wr ((I 265 22) - 1))) J)) fun M1 => q_E (289, 73, [vr 265, vi x1], []) M1)) := q_it_eq 400 [11, 73] _ _
set_option maxRecDepth 20000 in
theorem e289_73 (t u : Nat) (I J : Nat → Nat → Int) : q_E (289, 73, [vr 265, vu], []) (qk t u I J) = some (vu, (qk t u (uI I 265 22 (wr ((I 265 22) + 1))) J)) := q_it_eq 400 [11, 73] _ _
set_option maxRecDepth 20000 in
theorem e289_73_1 (t u : Nat) (I J : Nat → Nat → Int) (x1 : Int) : q_E (289, 73, [vr 265, vi x1], []) (qk t u I J) = some (vu, (qk t u (uI I 265 22 (wr ((I 265 22) + 1))) J)) := q_it_eq 400 [11, 73] _ _
/-! 290: StewardHeapsModel.night()I -/
set_option maxRecDepth 20000 in
theorem e290_0 (t u : Nat) (I J : Nat → Nat → Int) : q_E (290, 0, [vr 265, vu, vu], []) (qk t u I J) = (q_bv (q_E (177, 0, [vr 265], []) (qk t u I J)) fun M1 => q_E (290, 4, [vr 265, vu, vu], []) M1) := q_it_eq 400 [4, 16, 36, 41, 57, 79, 93, 123] _ _
set_option maxRecDepth 20000 in
theorem e290_41 (t u : Nat) (I J : Nat → Nat → Int) (x1 : Int) (x2 : Int) : q_E (290, 41, [vr 265, vi x1, vi x2], []) (qk t u I J) = (if x2 < I 268 2 then (q_bi (q_E (225, 0, [vr 265, vi x2], []) (qk t u I J)) fun z M1 => q_E (290, 57, [vr 265, vi x1, vi x2], [vi z, vi x1]) M1) else (q_bv (q_E (289, 0, [vr 265, vu], []) (qk t u I J)) fun M1 => q_E (290, 79, [vr 265, vi x1, vi x2], []) M1)) := q_it_eq 400 [4, 16, 36, 41, 57, 79, 93, 123] _ _
set_option maxRecDepth 20000 in
theorem e290_93 (t u : Nat) (I J : Nat → Nat → Int) (x1 : Int) (x2 : Int) : q_E (290, 93, [vr 265, vi x1, vi x2], []) (qk t u I J) = (if x2 < I 268 2 then (if (0 : Int) ≤ wr (5 + x2) ∧ wr (5 + x2) < 71 then (q_bv (q_E (219, 0, [vr 265, vr 272, vi (wr (61 * x2)), vi (I 268 (Int.toNat (wr (5 + x2)))), vu], []) (qk t u I J)) fun M1 => q_E (290, 123, [vr 265, vi x1, vi x2], []) M1) else none) else some (vi x1, (qk t u I J))) := q_it_eq 400 [4, 16, 36, 41, 57, 79, 93, 123] _ _
set_option maxRecDepth 20000 in
theorem e290_4 (t u : Nat) (I J : Nat → Nat → Int) : q_E (290, 4, [vr 265, vu, vu], []) (qk t u I J) = (if I 265 14 = 0 then (q_bi (q_E (178, 0, [vr 265, vi 1], []) (qk t u I J)) fun z M1 => q_E (290, 16, [vr 265, vu, vu], [vi z]) M1) else (if I 272 244 = 999 then (q_bi (q_E (178, 0, [vr 265, vi 3], []) (qk t u I J)) fun z M1 => q_E (290, 36, [vr 265, vu, vu], [vi z]) M1) else q_E (290, 41, [vr 265, vi 0, vi 0], []) (qk t u I J))) := q_it_eq 400 [4, 16, 36, 41, 57, 79, 93, 123] _ _
set_option maxRecDepth 20000 in
theorem e290_57 (t u : Nat) (I J : Nat → Nat → Int) (x1 : Int) (x2 : Int) (y0 : Int) (y1 : Int) : q_E (290, 57, [vr 265, vi x1, vi x2], [vi y0, vi y1]) (qk t u I J) = (if y0 = 0 then q_E (290, 41, [vr 265, vi (q_or y1 (q_shl 1 x2)), vi (wr (x2 + 1))], []) (qk t u I J) else q_E (290, 41, [vr 265, vi (q_or y1 0), vi (wr (x2 + 1))], []) (qk t u I J)) := q_it_eq 400 [4, 16, 36, 41, 57, 79, 93, 123] _ _
set_option maxRecDepth 20000 in
theorem e290_79 (t u : Nat) (I J : Nat → Nat → Int) (x1 : Int) (x2 : Int) : q_E (290, 79, [vr 265, vi x1, vi x2], []) (qk t u I J) = q_E (290, 93, [vr 265, vi x1, vi 0], []) (qk t u (uI I 272 244 (wr ((I 272 244) + 1))) J) := q_it_eq 400 [4, 16, 36, 41, 57, 79, 93, 123] _ _
set_option maxRecDepth 20000 in
theorem e290_123 (t u : Nat) (I J : Nat → Nat → Int) (x1 : Int) (x2 : Int) : q_E (290, 123, [vr 265, vi x1, vi x2], []) (qk t u I J) = q_E (290, 93, [vr 265, vi x1, vi (wr (x2 + 1))], []) (qk t u I J) := q_it_eq 400 [4, 16, 36, 41, 57, 79, 93, 123] _ _
set_option maxRecDepth 20000 in
theorem e290_16 (t u : Nat) (I J : Nat → Nat → Int) (y0 : Int) : q_E (290, 16, [vr 265, vu, vu], [vi y0]) (qk t u I J) = some (vi y0, (qk t u I J)) := q_it_eq 400 [4, 16, 36, 41, 57, 79, 93, 123] _ _
set_option maxRecDepth 20000 in
theorem e290_36 (t u : Nat) (I J : Nat → Nat → Int) (y0 : Int) : q_E (290, 36, [vr 265, vu, vu], [vi y0]) (qk t u I J) = some (vi y0, (qk t u I J)) := q_it_eq 400 [4, 16, 36, 41, 57, 79, 93, 123] _ _
/-! 291: StewardHeapsModel.add(II)I -/
set_option maxRecDepth 20000 in
theorem e291_0 (t u : Nat) (I J : Nat → Nat → Int) (x1 : Int) (x2 : Int) : q_E (291, 0, [vr 265, vi x1, vi x2, vu], []) (qk t u I J) = (q_bv (q_E (177, 0, [vr 265], []) (qk t u I J)) fun M1 => q_E (291, 4, [vr 265, vi x1, vi x2, vu], []) M1) := q_it_eq 400 [4, 10, 17, 20, 36, 67, 72, 84, 95, 106] _ _
set_option maxRecDepth 20000 in
theorem e291_4 (t u : Nat) (I J : Nat → Nat → Int) (x1 : Int) (x2 : Int) : q_E (291, 4, [vr 265, vi x1, vi x2, vu], []) (qk t u I J) = (q_bi (q_E (210, 0, [vr 265, vi x1], []) (qk t u I J)) fun z M1 => q_E (291, 10, [vr 265, vi x1, vi x2, vu], [vi z, vr 265]) M1) := q_it_eq 400 [4, 10, 17, 20, 36, 67, 72, 84, 95, 106] _ _
set_option maxRecDepth 20000 in
theorem e291_10 (t u : Nat) (I J : Nat → Nat → Int) (x1 : Int) (x2 : Int) (y0 : Int) (y1 : Nat) : q_E (291, 10, [vr 265, vi x1, vi x2, vu], [vi y0, vr y1]) (qk t u I J) = (q_bi (q_E (180, 0, [vi x2, vi 1, vi 30], []) (qk t u I J)) fun z M1 => q_E (291, 17, [vr 265, vi x1, vi x2, vu], [vi z, vi y0, vr y1]) M1) := q_it_eq 400 [4, 10, 17, 20, 36, 67, 72, 84, 95, 106] _ _
set_option maxRecDepth 20000 in
theorem e291_17 (t u : Nat) (I J : Nat → Nat → Int) (x1 : Int) (x2 : Int) (y0 : Int) (y1 : Int) (y2 : Nat) : q_E (291, 17, [vr 265, vi x1, vi x2, vu], [vi y0, vi y1, vr y2]) (qk t u I J) = (if kd y2 = 21 then (q_bi (q_E (212, 0, [vr y2, vi y1, vi y0], []) (qk t u I J)) fun z M1 => q_E (291, 20, [vr 265, vi x1, vi x2, vu], [vi z]) M1) else none) := q_it_eq 400 [4, 10, 17, 20, 36, 67, 72, 84, 95, 106] _ _
set_option maxRecDepth 20000 in
theorem e291_20 (t u : Nat) (I J : Nat → Nat → Int) (x1 : Int) (x2 : Int) (y0 : Int) : q_E (291, 20, [vr 265, vi x1, vi x2, vu], [vi y0]) (qk t u I J) = (if y0 = 0 then (q_bi (q_E (215, 0, [vr 272, vi (wr (61 * x1)), vu, vu], []) (qk t u I J)) fun z M1 => q_E (291, 36, [vr 265, vi x1, vi x2, vi y0], [vi z]) M1) else (if y0 = 0 then (q_bv (q_E (289, 0, [vr 265, vu], []) (qk t u I J)) fun M1 => q_E (291, 72, [vr 265, vi x1, vi x2, vi y0], []) M1) else (q_bi (q_E (178, 0, [vr 265, vi y0], []) (qk t u I J)) fun z M1 => q_E (291, 67, [vr 265, vi x1, vi x2, vi y0], [vi z]) M1))) := q_it_eq 400 [4, 10, 17, 20, 36, 67, 72, 84, 95, 106] _ _
set_option maxRecDepth 20000 in
theorem e291_36 (t u : Nat) (I J : Nat → Nat → Int) (x1 : Int) (x2 : Int) (x3 : Int) (y0 : Int) : q_E (291, 36, [vr 265, vi x1, vi x2, vi x3], [vi y0]) (qk t u I J) = (if (0 : Int) ≤ wr ((wr (61 * x1)) + 60) ∧ wr ((wr (61 * x1)) + 60) < 245 then (if (60 : Int) < wr ((wr (y0 + (I 272 (Int.toNat (wr ((wr (61 * x1)) + 60)))))) + x2) then (q_bi (q_E (178, 0, [vr 265, vi 3], []) (qk t u I J)) fun z M1 => q_E (291, 67, [vr 265, vi x1, vi x2, vi 3], [vi z]) M1) else (if x3 = 0 then (q_bv (q_E (289, 0, [vr 265, vu], []) (qk t u I J)) fun M1 => q_E (291, 72, [vr 265, vi x1, vi x2, vi x3], []) M1) else (q_bi (q_E (178, 0, [vr 265, vi x3], []) (qk t u I J)) fun z M1 => q_E (291, 67, [vr 265, vi x1, vi x2, vi x3], [vi z]) M1))) else none) := q_it_eq 400 [4, 10, 17, 20, 36, 67, 72, 84, 95, 106] _ _
set_option maxRecDepth 20000 in
theorem e291_72 (t u : Nat) (I J : Nat → Nat → Int) (x1 : Int) (x2 : Int) (x3 : Int) : q_E (291, 72, [vr 265, vi x1, vi x2, vi x3], []) (qk t u I J) = (q_bv (q_E (216, 0, [vr 272, vi (wr (61 * x1)), vi x2], []) (qk t u I J)) fun M1 => q_E (291, 84, [vr 265, vi x1, vi x2, vi x3], []) M1) := q_it_eq 400 [4, 10, 17, 20, 36, 67, 72, 84, 95, 106] _ _
set_option maxRecDepth 20000 in
theorem e291_67 (t u : Nat) (I J : Nat → Nat → Int) (x1 : Int) (x2 : Int) (x3 : Int) (y0 : Int) : q_E (291, 67, [vr 265, vi x1, vi x2, vi x3], [vi y0]) (qk t u I J) = some (vi y0, (qk t u I J)) := q_it_eq 400 [4, 10, 17, 20, 36, 67, 72, 84, 95, 106] _ _
set_option maxRecDepth 20000 in
theorem e291_84 (t u : Nat) (I J : Nat → Nat → Int) (x1 : Int) (x2 : Int) (x3 : Int) : q_E (291, 84, [vr 265, vi x1, vi x2, vi x3], []) (qk t u I J) = (q_bv (q_E (213, 0, [vr 272, vi (wr (61 * x1)), vu, vu, vu], []) (qk t u I J)) fun M1 => q_E (291, 95, [vr 265, vi x1, vi x2, vi x3], []) M1) := q_it_eq 400 [4, 10, 17, 20, 36, 67, 72, 84, 95, 106] _ _
set_option maxRecDepth 20000 in
theorem e291_95 (t u : Nat) (I J : Nat → Nat → Int) (x1 : Int) (x2 : Int) (x3 : Int) : q_E (291, 95, [vr 265, vi x1, vi x2, vi x3], []) (qk t u I J) = (q_bi (q_E (214, 0, [vr 272, vi (wr (61 * x1)), vu], []) (qk t u I J)) fun z M1 => q_E (291, 106, [vr 265, vi x1, vi x2, vi x3], [vi z]) M1) := q_it_eq 400 [4, 10, 17, 20, 36, 67, 72, 84, 95, 106] _ _
set_option maxRecDepth 20000 in
theorem e291_106 (t u : Nat) (I J : Nat → Nat → Int) (x1 : Int) (x2 : Int) (x3 : Int) (y0 : Int) : q_E (291, 106, [vr 265, vi x1, vi x2, vi x3], [vi y0]) (qk t u I J) = some (vi y0, (qk t u I J)) := q_it_eq 400 [4, 10, 17, 20, 36, 67, 72, 84, 95, 106] _ _
/-! 292: StewardHeapsModel.isHeap(II)Z -/
set_option maxRecDepth 20000 in
theorem e292_0 (t u : Nat) (I J : Nat → Nat → Int) (x1 : Int) (x2 : Int) : q_E (292, 0, [vr 265, vi x1, vi x2], []) (qk t u I J) = (q_bi (q_E (210, 0, [vr 265, vi x1], []) (qk t u I J)) fun z M1 => q_E (292, 5, [vr 265, vi x1, vi x2], [vi z]) M1) := q_it_eq 400 [5, 21, 26] _ _
set_option maxRecDepth 20000 in
theorem e292_5 (t u : Nat) (I J : Nat → Nat → Int) (x1 : Int) (x2 : Int) (y0 : Int) : q_E (292, 5, [vr 265, vi x1, vi x2], [vi y0]) (qk t u I J) = (if y0 = 0 then some (vi 0, (qk t u I J)) else (q_bi (q_E (214, 0, [vr 272, vi (wr (61 * x1)), vu], []) (qk t u I J)) fun z M1 => q_E (292, 21, [vr 265, vi x1, vi x2], [vi z, vi 0, vi x2]) M1)) := q_it_eq 400 [5, 21, 26] _ _
set_option maxRecDepth 20000 in
theorem e292_21 (t u : Nat) (I J : Nat → Nat → Int) (x1 : Int) (x2 : Int) (y0 : Int) (y1 : Int) (y2 : Int) : q_E (292, 21, [vr 265, vi x1, vi x2], [vi y0, vi y1, vi y2]) (qk t u I J) = (q_bi (q_E (180, 0, [vi y2, vi y1, vi (wr (y0 - 1))], []) (qk t u I J)) fun z M1 => q_E (292, 26, [vr 265, vi x1, vi x2], [vi z]) M1) := q_it_eq 400 [5, 21, 26] _ _
set_option maxRecDepth 20000 in
theorem e292_26 (t u : Nat) (I J : Nat → Nat → Int) (x1 : Int) (x2 : Int) (y0 : Int) : q_E (292, 26, [vr 265, vi x1, vi x2], [vi y0]) (qk t u I J) = (if y0 = 0 then some (vi 0, (qk t u I J)) else some (vi 1, (qk t u I J))) := q_it_eq 400 [5, 21, 26] _ _
/-! 293: StewardHeapsModel.take(II)I -/
set_option maxRecDepth 20000 in
theorem e293_0 (t u : Nat) (I J : Nat → Nat → Int) (x1 : Int) (x2 : Int) : q_E (293, 0, [vr 265, vi x1, vi x2], []) (qk t u I J) = (q_bv (q_E (177, 0, [vr 265], []) (qk t u I J)) fun M1 => q_E (293, 4, [vr 265, vi x1, vi x2], []) M1) := q_it_eq 400 [4, 10, 18, 23, 49, 60] _ _
set_option maxRecDepth 20000 in
theorem e293_4 (t u : Nat) (I J : Nat → Nat → Int) (x1 : Int) (x2 : Int) : q_E (293, 4, [vr 265, vi x1, vi x2], []) (qk t u I J) = (q_bi (q_E (292, 0, [vr 265, vi x1, vi x2], []) (qk t u I J)) fun z M1 => q_E (293, 10, [vr 265, vi x1, vi x2], [vi z]) M1) := q_it_eq 400 [4, 10, 18, 23, 49, 60] _ _
set_option maxRecDepth 20000 in
theorem e293_10 (t u : Nat) (I J : Nat → Nat → Int) (x1 : Int) (x2 : Int) (y0 : Int) : q_E (293, 10, [vr 265, vi x1, vi x2], [vi y0]) (qk t u I J) = (if y0 = 0 then (q_bi (q_E (178, 0, [vr 265, vi 1], []) (qk t u I J)) fun z M1 => q_E (293, 18, [vr 265, vi x1, vi x2], [vi z]) M1) else (q_bv (q_E (289, 0, [vr 265, vu], []) (qk t u I J)) fun M1 => q_E (293, 23, [vr 265, vi x1, vi x2], []) M1)) := q_it_eq 400 [4, 10, 18, 23, 49, 60] _ _
set_option maxRecDepth 20000 in
theorem e293_18 (t u : Nat) (I J : Nat → Nat → Int) (x1 : Int) (x2 : Int) (y0 : Int) : q_E (293, 18, [vr 265, vi x1, vi x2], [vi y0]) (qk t u I J) = some (vi y0, (qk t u I J)) := q_it_eq 400 [4, 10, 18, 23, 49, 60] _ _
set_option maxRecDepth 20000 in
theorem e293_23 (t u : Nat) (I J : Nat → Nat → Int) (x1 : Int) (x2 : Int) : q_E (293, 23, [vr 265, vi x1, vi x2], []) (qk t u I J) = (if (0 : Int) ≤ wr ((wr (61 * x1)) + x2) ∧ wr ((wr (61 * x1)) + x2) < 245 then (if (0 : Int) ≤ wr ((wr (61 * x1)) + x2) ∧ wr ((wr (61 * x1)) + x2) < 245 then (q_bv (q_E (213, 0, [vr 272, vi (wr (61 * x1)), vu, vu, vu], []) (qk t u (uI I 272 (Int.toNat (wr ((wr (61 * x1)) + x2))) (wr ((I 272 (Int.toNat (wr ((wr (61 * x1)) + x2)))) - 1))) J)) fun M1 => q_E (293, 49, [vr 265, vi x1, vi x2], []) M1) else none) else none) := q_it_eq 400 [4, 10, 18, 23, 49, 60] _ _
set_option maxRecDepth 20000 in
theorem e293_49 (t u : Nat) (I J : Nat → Nat → Int) (x1 : Int) (x2 : Int) : q_E (293, 49, [vr 265, vi x1, vi x2], []) (qk t u I J) = (q_bi (q_E (215, 0, [vr 272, vi (wr (61 * x1)), vu, vu], []) (qk t u I J)) fun z M1 => q_E (293, 60, [vr 265, vi x1, vi x2], [vi z]) M1) := q_it_eq 400 [4, 10, 18, 23, 49, 60] _ _
set_option maxRecDepth 20000 in
theorem e293_60 (t u : Nat) (I J : Nat → Nat → Int) (x1 : Int) (x2 : Int) (y0 : Int) : q_E (293, 60, [vr 265, vi x1, vi x2], [vi y0]) (qk t u I J) = (if (0 : Int) ≤ wr ((wr (61 * x1)) + 60) ∧ wr ((wr (61 * x1)) + 60) < 245 then some (vi (wr (y0 + (I 272 (Int.toNat (wr ((wr (61 * x1)) + 60)))))), (qk t u I J)) else none) := q_it_eq 400 [4, 10, 18, 23, 49, 60] _ _
/-! 294: StewardHeapsModel.join(III)I -/
set_option maxRecDepth 20000 in
theorem e294_0 (t u : Nat) (I J : Nat → Nat → Int) (x1 : Int) (x2 : Int) (x3 : Int) : q_E (294, 0, [vr 265, vi x1, vi x2, vi x3, vu], []) (qk t u I J) = (q_bv (q_E (177, 0, [vr 265], []) (qk t u I J)) fun M1 => q_E (294, 4, [vr 265, vi x1, vi x2, vi x3, vu], []) M1) := q_it_eq 400 [4, 10, 19, 32, 37, 98] _ _
set_option maxRecDepth 20000 in
theorem e294_4 (t u : Nat) (I J : Nat → Nat → Int) (x1 : Int) (x2 : Int) (x3 : Int) : q_E (294, 4, [vr 265, vi x1, vi x2, vi x3, vu], []) (qk t u I J) = (q_bi (q_E (292, 0, [vr 265, vi x1, vi x2], []) (qk t u I J)) fun z M1 => q_E (294, 10, [vr 265, vi x1, vi x2, vi x3, vu], [vi z]) M1) := q_it_eq 400 [4, 10, 19, 32, 37, 98] _ _
set_option maxRecDepth 20000 in
theorem e294_10 (t u : Nat) (I J : Nat → Nat → Int) (x1 : Int) (x2 : Int) (x3 : Int) (y0 : Int) : q_E (294, 10, [vr 265, vi x1, vi x2, vi x3, vu], [vi y0]) (qk t u I J) = (if y0 = 0 then (q_bi (q_E (178, 0, [vr 265, vi 1], []) (qk t u I J)) fun z M1 => q_E (294, 32, [vr 265, vi x1, vi x2, vi x3, vu], [vi z]) M1) else (q_bi (q_E (292, 0, [vr 265, vi x1, vi x3], []) (qk t u I J)) fun z M1 => q_E (294, 19, [vr 265, vi x1, vi x2, vi x3, vu], [vi z]) M1)) := q_it_eq 400 [4, 10, 19, 32, 37, 98] _ _
set_option maxRecDepth 20000 in
theorem e294_32 (t u : Nat) (I J : Nat → Nat → Int) (x1 : Int) (x2 : Int) (x3 : Int) (y0 : Int) : q_E (294, 32, [vr 265, vi x1, vi x2, vi x3, vu], [vi y0]) (qk t u I J) = some (vi y0, (qk t u I J)) := q_it_eq 400 [4, 10, 19, 32, 37, 98] _ _
set_option maxRecDepth 20000 in
theorem e294_19 (t u : Nat) (I J : Nat → Nat → Int) (x1 : Int) (x2 : Int) (x3 : Int) (y0 : Int) : q_E (294, 19, [vr 265, vi x1, vi x2, vi x3, vu], [vi y0]) (qk t u I J) = (if y0 = 0 then (q_bi (q_E (178, 0, [vr 265, vi 1], []) (qk t u I J)) fun z M1 => q_E (294, 32, [vr 265, vi x1, vi x2, vi x3, vu], [vi z]) M1) else (if x2 = x3 then (q_bi (q_E (178, 0, [vr 265, vi 1], []) (qk t u I J)) fun z M1 => q_E (294, 32, [vr 265, vi x1, vi x2, vi x3, vu], [vi z]) M1) else (q_bv (q_E (289, 0, [vr 265, vu], []) (qk t u I J)) fun M1 => q_E (294, 37, [vr 265, vi x1, vi x2, vi x3, vu], []) M1))) := q_it_eq 400 [4, 10, 19, 32, 37, 98] _ _
set_option maxRecDepth 20000 in
theorem e294_37 (t u : Nat) (I J : Nat → Nat → Int) (x1 : Int) (x2 : Int) (x3 : Int) : q_E (294, 37, [vr 265, vi x1, vi x2, vi x3, vu], []) (qk t u I J) = (if (0 : Int) ≤ wr ((wr (61 * x1)) + x2) ∧ wr ((wr (61 * x1)) + x2) < 245 then (if (0 : Int) ≤ wr ((wr (61 * x1)) + x3) ∧ wr ((wr (61 * x1)) + x3) < 245 then (if (0 : Int) ≤ wr ((wr (61 * x1)) + x2) ∧ wr ((wr (61 * x1)) + x2) < 245 then (if (0 : Int) ≤ wr ((wr (61 * x1)) + x3) ∧ wr ((wr (61 * x1)) + x3) < 245 then (q_bv (q_E (213, 0, [vr 272, vi (wr (61 * x1)), vu, vu, vu], []) (qk t u (uI (uI I 272 (Int.toNat (wr ((wr (61 * x1)) + x2))) (wr ((I 272 (Int.toNat (wr ((wr (61 * x1)) + x2)))) + (I 272 (Int.toNat (wr ((wr (61 * x1)) + x3))))))) 272 (Int.toNat (wr ((wr (61 * x1)) + x3))) 0) J)) fun M1 => q_E (294, 98, [vr 265, vi x1, vi x2, vi x3, vi (wr ((I 272 (Int.toNat (wr ((wr (61 * x1)) + x2)))) + (I 272 (Int.toNat (wr ((wr (61 * x1)) + x3))))))], []) M1) else none) else none) else none) else none) := q_it_eq 400 [4, 10, 19, 32, 37, 98] _ _
set_option maxRecDepth 20000 in
theorem e294_98 (t u : Nat) (I J : Nat → Nat → Int) (x1 : Int) (x2 : Int) (x3 : Int) (x4 : Int) : q_E (294, 98, [vr 265, vi x1, vi x2, vi x3, vi x4], []) (qk t u I J) = some (vi x4, (qk t u I J)) := q_it_eq 400 [4, 10, 19, 32, 37, 98] _ _
/-! 295: StewardHeapsModel.undo()Z -/
set_option maxRecDepth 20000 in
theorem e295_0 (t u : Nat) (I J : Nat → Nat → Int) : q_E (295, 0, [vr 265], []) (qk t u I J) = (q_bv (q_E (177, 0, [vr 265], []) (qk t u I J)) fun M1 => q_E (295, 4, [vr 265], []) M1) := q_it_eq 400 [4, 17, 51] _ _
set_option maxRecDepth 20000 in
theorem e295_4 (t u : Nat) (I J : Nat → Nat → Int) : q_E (295, 4, [vr 265], []) (qk t u I J) = (if I 265 22 = 0 then (q_bi (q_E (179, 0, [vr 265, vi 6], []) (qk t u I J)) fun z M1 => q_E (295, 17, [vr 265], [vi z]) M1) else (q_bv (q_E (182, 0, [vr 273, vi (wr (245 * ((uI I 265 22 (wr ((I 265 22) - 1))) 265 22))), vr 272, vi 0, vi 245, vu], []) (qk t u (uI I 265 22 (wr ((I 265 22) - 1))) J)) fun M1 => q_E (295, 51, [vr 265], []) M1)) := q_it_eq 400 [4, 17, 51] _ _
set_option maxRecDepth 20000 in
theorem e295_17 (t u : Nat) (I J : Nat → Nat → Int) (y0 : Int) : q_E (295, 17, [vr 265], [vi y0]) (qk t u I J) = (if y0 = 0 ∨ y0 = 1 then some (vi y0, (qk t u I J)) else none) := q_it_eq 400 [4, 17, 51] _ _
set_option maxRecDepth 20000 in
theorem e295_51 (t u : Nat) (I J : Nat → Nat → Int) : q_E (295, 51, [vr 265], []) (qk t u I J) = some (vi 1, (qk t u I J)) := q_it_eq 400 [4, 17, 51] _ _
/-! 296: StewardHeapsModel.image()I -/
set_option maxRecDepth 20000 in
theorem e296_0 (t u : Nat) (I J : Nat → Nat → Int) : q_E (296, 0, [vr 265], []) (qk t u I J) = (q_bv (q_E (177, 0, [vr 265], []) (qk t u I J)) fun M1 => q_E (296, 4, [vr 265], []) M1) := q_it_eq 400 [4, 16, 30, 54] _ _
set_option maxRecDepth 20000 in
theorem e296_4 (t u : Nat) (I J : Nat → Nat → Int) : q_E (296, 4, [vr 265], []) (qk t u I J) = (if I 265 14 = 0 then (q_bi (q_E (178, 0, [vr 265, vi 1], []) (qk t u I J)) fun z M1 => q_E (296, 16, [vr 265], [vi z]) M1) else (if I 265 23 = 3 then (q_bi (q_E (178, 0, [vr 265, vi 3], []) (qk t u I J)) fun z M1 => q_E (296, 30, [vr 265], [vi z]) M1) else (q_bv (q_E (182, 0, [vr 272, vi 0, vr 274, vi (wr (245 * (I 265 23))), vi 245, vu], []) (qk t u I J)) fun M1 => q_E (296, 54, [vr 265], []) M1))) := q_it_eq 400 [4, 16, 30, 54] _ _
set_option maxRecDepth 20000 in
theorem e296_16 (t u : Nat) (I J : Nat → Nat → Int) (y0 : Int) : q_E (296, 16, [vr 265], [vi y0]) (qk t u I J) = some (vi y0, (qk t u I J)) := q_it_eq 400 [4, 16, 30, 54] _ _
set_option maxRecDepth 20000 in
theorem e296_30 (t u : Nat) (I J : Nat → Nat → Int) (y0 : Int) : q_E (296, 30, [vr 265], [vi y0]) (qk t u I J) = some (vi y0, (qk t u I J)) := q_it_eq 400 [4, 16, 30, 54] _ _
set_option maxRecDepth 20000 in
theorem e296_54 (t u : Nat) (I J : Nat → Nat → Int) : q_E (296, 54, [vr 265], []) (qk t u I J) = some (vi (wr (((uI I 265 23 (wr ((I 265 23) + 1))) 265 23) - 1)), (qk t u (uI I 265 23 (wr ((I 265 23) + 1))) J)) := q_it_eq 400 [4, 16, 30, 54] _ _
/-! 297: StewardHeapsModel.back(I)Z -/
set_option maxRecDepth 20000 in
theorem e297_0 (t u : Nat) (I J : Nat → Nat → Int) (x1 : Int) : q_E (297, 0, [vr 265, vi x1], []) (qk t u I J) = (q_bv (q_E (177, 0, [vr 265], []) (qk t u I J)) fun M1 => q_E (297, 4, [vr 265, vi x1], []) M1) := q_it_eq 400 [4, 15, 23, 44] _ _
set_option maxRecDepth 20000 in
theorem e297_4 (t u : Nat) (I J : Nat → Nat → Int) (x1 : Int) : q_E (297, 4, [vr 265, vi x1], []) (qk t u I J) = (q_bi (q_E (180, 0, [vi x1, vi 0, vi (wr ((I 265 23) - 1))], []) (qk t u I J)) fun z M1 => q_E (297, 15, [vr 265, vi x1], [vi z]) M1) := q_it_eq 400 [4, 15, 23, 44] _ _
set_option maxRecDepth 20000 in
theorem e297_15 (t u : Nat) (I J : Nat → Nat → Int) (x1 : Int) (y0 : Int) : q_E (297, 15, [vr 265, vi x1], [vi y0]) (qk t u I J) = (if y0 = 0 then (q_bi (q_E (179, 0, [vr 265, vi 1], []) (qk t u I J)) fun z M1 => q_E (297, 23, [vr 265, vi x1], [vi z]) M1) else (q_bv (q_E (182, 0, [vr 274, vi (wr (245 * x1)), vr 272, vi 0, vi 245, vu], []) (qk t u I J)) fun M1 => q_E (297, 44, [vr 265, vi x1], []) M1)) := q_it_eq 400 [4, 15, 23, 44] _ _
set_option maxRecDepth 20000 in
theorem e297_23 (t u : Nat) (I J : Nat → Nat → Int) (x1 : Int) (y0 : Int) : q_E (297, 23, [vr 265, vi x1], [vi y0]) (qk t u I J) = (if y0 = 0 ∨ y0 = 1 then some (vi y0, (qk t u I J)) else none) := q_it_eq 400 [4, 15, 23, 44] _ _
set_option maxRecDepth 20000 in
theorem e297_44 (t u : Nat) (I J : Nat → Nat → Int) (x1 : Int) : q_E (297, 44, [vr 265, vi x1], []) (qk t u I J) = some (vi 1, (qk t u (uI I 265 22 0) J)) := q_it_eq 400 [4, 15, 23, 44] _ _
/-! 298: StewardHeapsModel.led(I)I -/
set_option maxRecDepth 20000 in
theorem e298_0 (t u : Nat) (I J : Nat → Nat → Int) (x1 : Int) : q_E (298, 0, [vr 265, vi x1, vu, vu], []) (qk t u I J) = q_E (298, 4, [vr 265, vi x1, vi 0, vi 0], []) (qk t u I J) := q_it_eq 400 [4, 26] _ _
set_option maxRecDepth 20000 in
theorem e298_4 (t u : Nat) (I J : Nat → Nat → Int) (x1 : Int) (x2 : Int) (x3 : Int) : q_E (298, 4, [vr 265, vi x1, vi x2, vi x3], []) (qk t u I J) = (if I 265 14 = 0 then some (vi 0, (qk t u (uI I 265 0 1) J)) else (if x3 < I 268 2 then (q_bi (q_E (225, 0, [vr 265, vi x3], []) (qk t u I J)) fun z M1 => q_E (298, 26, [vr 265, vi x1, vi x2, vi x3], [vi z]) M1) else some (vi 0, (qk t u (uI I 265 0 1) J)))) := q_it_eq 400 [4, 26] _ _
set_option maxRecDepth 20000 in
theorem e298_26 (t u : Nat) (I J : Nat → Nat → Int) (x1 : Int) (x2 : Int) (x3 : Int) (y0 : Int) : q_E (298, 26, [vr 265, vi x1, vi x2, vi x3], [vi y0]) (qk t u I J) = (if y0 = 0 then q_E (298, 4, [vr 265, vi x1, vi x2, vi (wr (x3 + 1))], []) (qk t u I J) else (if x2 = x1 then some (vi x3, (qk t u (uI I 265 0 0) J)) else q_E (298, 4, [vr 265, vi x1, vi (wr (x2 + 1)), vi (wr (x3 + 1))], []) (qk t u I J))) := q_it_eq 400 [4, 26] _ _
/-! 299: StewardHeapsModel.allStones()I -/
set_option maxRecDepth 20000 in
theorem e299_0 (t u : Nat) (I J : Nat → Nat → Int) : q_E (299, 0, [vr 265, vu, vu], []) (qk t u I J) = q_E (299, 4, [vr 265, vi 0, vi 0], []) (qk t u I J) := q_it_eq 400 [4, 26] _ _
set_option maxRecDepth 20000 in
theorem e299_4 (t u : Nat) (I J : Nat → Nat → Int) (x1 : Int) (x2 : Int) : q_E (299, 4, [vr 265, vi x1, vi x2], []) (qk t u I J) = (if x2 < I 268 2 then (q_bi (q_E (215, 0, [vr 272, vi (wr (61 * x2)), vu, vu], []) (qk t u I J)) fun z M1 => q_E (299, 26, [vr 265, vi x1, vi x2], [vi z, vi x1]) M1) else some (vi x1, (qk t u I J))) := q_it_eq 400 [4, 26] _ _
set_option maxRecDepth 20000 in
theorem e299_26 (t u : Nat) (I J : Nat → Nat → Int) (x1 : Int) (x2 : Int) (y0 : Int) (y1 : Int) : q_E (299, 26, [vr 265, vi x1, vi x2], [vi y0, vi y1]) (qk t u I J) = (if (0 : Int) ≤ wr ((wr (61 * x2)) + 60) ∧ wr ((wr (61 * x2)) + 60) < 245 then q_E (299, 4, [vr 265, vi (wr (y1 + (wr (y0 + (I 272 (Int.toNat (wr ((wr (61 * x2)) + 60)))))))), vi (wr (x2 + 1))], []) (qk t u I J) else none) := q_it_eq 400 [4, 26] _ _
/-! 300: StewardHeapsModel.size(I)I -/
set_option maxRecDepth 20000 in
theorem e300_0 (t u : Nat) (I J : Nat → Nat → Int) (x1 : Int) : q_E (300, 0, [vr 265, vi x1], []) (qk t u I J) = (if x1 = 9 then some (vi ((uI I 265 0 0) 265 2), (qk t u (uI I 265 0 0) J)) else (if (uI I 265 0 0) 265 14 = 0 then (q_bi (q_E (180, 0, [vi x1, vi 0, vi 8], []) (qk t u (uI I 265 0 0) J)) fun z M1 => q_E (300, 30, [vr 265, vi x1], [vi z]) M1) else (q_bi (q_E (180, 0, [vi x1, vi 0, vi 4], []) (qk t u (uI I 265 0 0) J)) fun z M1 => q_E (300, 45, [vr 265, vi x1], [vi z]) M1))) := q_it_eq 400 [30, 45, 81] _ _
set_option maxRecDepth 20000 in
theorem e300_30 (t u : Nat) (I J : Nat → Nat → Int) (x1 : Int) (y0 : Int) : q_E (300, 30, [vr 265, vi x1], [vi y0]) (qk t u I J) = (if y0 = 0 then some (vi (-1), (qk t u I J)) else some (vi 0, (qk t u I J))) := q_it_eq 400 [30, 45, 81] _ _
set_option maxRecDepth 20000 in
theorem e300_45 (t u : Nat) (I J : Nat → Nat → Int) (x1 : Int) (y0 : Int) : q_E (300, 45, [vr 265, vi x1], [vi y0]) (qk t u I J) = (if y0 = 0 then (if x1 = 5 then some (vi (I 272 244), (qk t u I J)) else (if x1 = 6 then (q_bi (q_E (299, 0, [vr 265, vu, vu], []) (qk t u I J)) fun z M1 => q_E (300, 81, [vr 265, vi x1], [vi z]) M1) else (if x1 = 7 then some (vi (I 265 22), (qk t u I J)) else (if x1 = 8 then some (vi (I 265 23), (qk t u I J)) else some (vi (-1), (qk t u I J)))))) else (if (0 : Int) ≤ x1 ∧ x1 < 71 then some (vi (I 268 (Int.toNat x1)), (qk t u I J)) else none)) := q_it_eq 400 [30, 45, 81] _ _
set_option maxRecDepth 20000 in
theorem e300_81 (t u : Nat) (I J : Nat → Nat → Int) (x1 : Int) (y0 : Int) : q_E (300, 81, [vr 265, vi x1], [vi y0]) (qk t u I J) = some (vi y0, (qk t u I J)) := q_it_eq 400 [30, 45, 81] _ _
/-! 301: StewardHeapsModel.trouble()I -/
set_option maxRecDepth 20000 in
theorem e301_0 (t u : Nat) (I J : Nat → Nat → Int) : q_E (301, 0, [vr 265], []) (qk t u I J) = some (vi ((uI I 265 0 0) 265 11), (qk t u (uI I 265 0 0) J)) := q_it_eq 400 [] _ _

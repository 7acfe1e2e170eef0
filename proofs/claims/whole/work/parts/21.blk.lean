/-! 4: StewardHeaps$Chance.oddsWeighed(LStewardHeaps$Walk;III)J -/
set_option maxRecDepth 20000 in
theorem e4_0 (t u : Nat) (I J : Nat → Nat → Int) (x0 : Nat) (x1 : Int) (x2 : Int) (x3 : Int) : q_E (4, 0, [vr x0, vi x1, vi x2, vi x3, vu, vu, vu], []) (qk t u I J) = q_E (4, 6, [vr x0, vi x1, vi x2, vi x3, vl 0, vu, vi 0], []) (qk t u I J) := q_it_eq 400 [6, 32, 39] _ _
set_option maxRecDepth 20000 in
theorem e4_6 (t u : Nat) (I J : Nat → Nat → Int) (x0 : Nat) (x1 : Int) (x2 : Int) (x3 : Int) (x4 : Int) (x6 : Int) : q_E (4, 6, [vr x0, vi x1, vi x2, vi x3, vl x4, vu, vi x6], []) (qk t u I J) = (if x2 < x6 then some (vl x4, (qk t u I J)) else (if kd x0 = 19 then (if kd (q_R t u x0 0) = 12 then (if I (q_R t u x0 0) 1 < x3 then (if kd x0 = 19 then (q_bi (q_E (98, 0, [vr x0], []) (qk t u I J)) fun z M1 => q_E (4, 39, [vr x0, vi x1, vi x2, vi x3, vl x4, vu, vi x6], [vi z]) M1) else none) else (q_bl (q_E (6, 0, [vi x1, vi x2, vi x6], []) (qk t u I J)) fun z M1 => q_E (4, 32, [vr x0, vi x1, vi x2, vi x3, vl x4, vu, vi x6], [vl z, vl x4]) M1)) else none) else none)) := q_it_eq 400 [6, 32, 39] _ _
set_option maxRecDepth 20000 in
theorem e4_39 (t u : Nat) (I J : Nat → Nat → Int) (x0 : Nat) (x1 : Int) (x2 : Int) (x3 : Int) (x4 : Int) (x6 : Int) (y0 : Int) : q_E (4, 39, [vr x0, vi x1, vi x2, vi x3, vl x4, vu, vi x6], [vi y0]) (qk t u I J) = q_E (4, 6, [vr x0, vi x1, vi x2, vi x3, vl x4, vu, vi (wr (x6 + 1))], []) (qk t u I J) := q_it_eq 400 [6, 32, 39] _ _
set_option maxRecDepth 20000 in
theorem e4_32 (t u : Nat) (I J : Nat → Nat → Int) (x0 : Nat) (x1 : Int) (x2 : Int) (x3 : Int) (x4 : Int) (x6 : Int) (y0 : Int) (y1 : Int) : q_E (4, 32, [vr x0, vi x1, vi x2, vi x3, vl x4, vu, vi x6], [vl y0, vl y1]) (qk t u I J) = (if kd x0 = 19 then (q_bi (q_E (98, 0, [vr x0], []) (qk t u I J)) fun z M1 => q_E (4, 39, [vr x0, vi x1, vi x2, vi x3, vl (wl (y1 + y0)), vu, vi x6], [vi z]) M1) else none) := q_it_eq 400 [6, 32, 39] _ _
/-! 5: StewardHeaps$Chance.heapsWeighed(LStewardHeaps$Walk;II)J -/
set_option maxRecDepth 20000 in
theorem e5_0 (t u : Nat) (I J : Nat → Nat → Int) (x0 : Nat) (x1 : Int) (x2 : Int) : q_E (5, 0, [vr x0, vi x1, vi x2, vu, vu, vu], []) (qk t u I J) = q_E (5, 5, [vr x0, vi x1, vi x2, vl 0, vu, vi 0], []) (qk t u I J) := q_it_eq 400 [5, 27, 34] _ _
set_option maxRecDepth 20000 in
theorem e5_5 (t u : Nat) (I J : Nat → Nat → Int) (x0 : Nat) (x1 : Int) (x2 : Int) (x3 : Int) (x5 : Int) : q_E (5, 5, [vr x0, vi x1, vi x2, vl x3, vu, vi x5], []) (qk t u I J) = (if x2 < x5 then some (vl x3, (qk t u I J)) else (if kd x0 = 19 then (if kd (q_R t u x0 0) = 12 then (q_bl (q_E (6, 0, [vi x1, vi x2, vi x5], []) (qk t u I J)) fun z M1 => q_E (5, 27, [vr x0, vi x1, vi x2, vl x3, vu, vi x5], [vl z, vl (I (q_R t u x0 0) 1), vl x3]) M1) else none) else none)) := q_it_eq 400 [5, 27, 34] _ _
set_option maxRecDepth 20000 in
theorem e5_27 (t u : Nat) (I J : Nat → Nat → Int) (x0 : Nat) (x1 : Int) (x2 : Int) (x3 : Int) (x5 : Int) (y0 : Int) (y1 : Int) (y2 : Int) : q_E (5, 27, [vr x0, vi x1, vi x2, vl x3, vu, vi x5], [vl y0, vl y1, vl y2]) (qk t u I J) = (if kd x0 = 19 then (q_bi (q_E (98, 0, [vr x0], []) (qk t u I J)) fun z M1 => q_E (5, 34, [vr x0, vi x1, vi x2, vl (wl (y2 + (wl (y1 * y0)))), vu, vi x5], [vi z]) M1) else none) := q_it_eq 400 [5, 27, 34] _ _
set_option maxRecDepth 20000 in
theorem e5_34 (t u : Nat) (I J : Nat → Nat → Int) (x0 : Nat) (x1 : Int) (x2 : Int) (x3 : Int) (x5 : Int) (y0 : Int) : q_E (5, 34, [vr x0, vi x1, vi x2, vl x3, vu, vi x5], [vi y0]) (qk t u I J) = q_E (5, 5, [vr x0, vi x1, vi x2, vl x3, vu, vi (wr (x5 + 1))], []) (qk t u I J) := q_it_eq 400 [5, 27, 34] _ _
/-! 6: StewardHeaps$Chance.weight(III)J -/
set_option maxRecDepth 20000 in
theorem e6_0 (t u : Nat) (I J : Nat → Nat → Int) (x0 : Int) (x1 : Int) (x2 : Int) : q_E (6, 0, [vi x0, vi x1, vi x2], []) (qk t u I J) = (q_bl (q_E (7, 0, [vi x1, vi x2, vu, vu, vu], []) (qk t u I J)) fun z M1 => q_E (6, 5, [vi x0, vi x1, vi x2], [vl z]) M1) := q_it_eq 400 [5, 13, 21] _ _
set_option maxRecDepth 20000 in
theorem e6_5 (t u : Nat) (I J : Nat → Nat → Int) (x0 : Int) (x1 : Int) (x2 : Int) (y0 : Int) : q_E (6, 5, [vi x0, vi x1, vi x2], [vl y0]) (qk t u I J) = (q_bl (q_E (8, 0, [vi (wr (100 - x0)), vi x2, vu, vu, vu], []) (qk t u I J)) fun z M1 => q_E (6, 13, [vi x0, vi x1, vi x2], [vl z, vl y0]) M1) := q_it_eq 400 [5, 13, 21] _ _
set_option maxRecDepth 20000 in
theorem e6_13 (t u : Nat) (I J : Nat → Nat → Int) (x0 : Int) (x1 : Int) (x2 : Int) (y0 : Int) (y1 : Int) : q_E (6, 13, [vi x0, vi x1, vi x2], [vl y0, vl y1]) (qk t u I J) = (q_bl (q_E (8, 0, [vi x0, vi (wr (x1 - x2)), vu, vu, vu], []) (qk t u I J)) fun z M1 => q_E (6, 21, [vi x0, vi x1, vi x2], [vl z, vl (wl (y1 * y0))]) M1) := q_it_eq 400 [5, 13, 21] _ _
set_option maxRecDepth 20000 in
theorem e6_21 (t u : Nat) (I J : Nat → Nat → Int) (x0 : Int) (x1 : Int) (x2 : Int) (y0 : Int) (y1 : Int) : q_E (6, 21, [vi x0, vi x1, vi x2], [vl y0, vl y1]) (qk t u I J) = some (vl (wl (y1 * y0)), (qk t u I J)) := q_it_eq 400 [5, 13, 21] _ _
/-! 7: StewardHeaps$Chance.choices(II)J -/
set_option maxRecDepth 20000 in
theorem e7_0 (t u : Nat) (I J : Nat → Nat → Int) (x0 : Int) (x1 : Int) : q_E (7, 0, [vi x0, vi x1, vu, vu, vu], []) (qk t u I J) = q_E (7, 5, [vi x0, vi x1, vl 1, vu, vi 0], []) (qk t u I J) := q_it_eq 400 [5] _ _
set_option maxRecDepth 20000 in
theorem e7_5 (t u : Nat) (I J : Nat → Nat → Int) (x0 : Int) (x1 : Int) (x2 : Int) (x4 : Int) : q_E (7, 5, [vi x0, vi x1, vl x2, vu, vi x4], []) (qk t u I J) = (if x4 < x1 then (if wr (x4 + 1) = 0 then none else q_E (7, 5, [vi x0, vi x1, vl (wl (Int.tdiv (wl (x2 * (wr (x0 - x4)))) (wr (x4 + 1)))), vu, vi (wr (x4 + 1))], []) (qk t u I J)) else some (vl x2, (qk t u I J))) := q_it_eq 400 [5] _ _
/-! 8: StewardHeaps$Chance.power(II)J -/
set_option maxRecDepth 20000 in
theorem e8_0 (t u : Nat) (I J : Nat → Nat → Int) (x0 : Int) (x1 : Int) : q_E (8, 0, [vi x0, vi x1, vu, vu, vu], []) (qk t u I J) = q_E (8, 5, [vi x0, vi x1, vl 1, vu, vi 0], []) (qk t u I J) := q_it_eq 400 [5] _ _
set_option maxRecDepth 20000 in
theorem e8_5 (t u : Nat) (I J : Nat → Nat → Int) (x0 : Int) (x1 : Int) (x2 : Int) (x4 : Int) : q_E (8, 5, [vi x0, vi x1, vl x2, vu, vi x4], []) (qk t u I J) = (if x4 < x1 then q_E (8, 5, [vi x0, vi x1, vl (wl (x2 * x0)), vu, vi (wr (x4 + 1))], []) (qk t u I J) else some (vl x2, (qk t u I J))) := q_it_eq 400 [5] _ _
/-! 9: StewardHeaps$Chance.lowestTerms(JJZ)J -/
set_option maxRecDepth 20000 in
theorem e9_0 (t u : Nat) (I J : Nat → Nat → Int) (x0 : Int) (x2 : Int) (x4 : Int) : q_E (9, 0, [vl x0, vu, vl x2, vu, vi x4, vu, vu], []) (qk t u I J) = (q_bl (q_E (10, 0, [vl x0, vu, vl x2, vu, vu, vu, vu, vu, vu, vu, vu], []) (qk t u I J)) fun z M1 => q_E (9, 5, [vl x0, vu, vl x2, vu, vi x4, vu, vu], [vl z]) M1) := q_it_eq 400 [5] _ _
set_option maxRecDepth 20000 in
theorem e9_5 (t u : Nat) (I J : Nat → Nat → Int) (x0 : Int) (x2 : Int) (x4 : Int) (y0 : Int) : q_E (9, 5, [vl x0, vu, vl x2, vu, vi x4, vu, vu], [vl y0]) (qk t u I J) = (if y0 < 0 then (if x4 = 0 then (if y0 = 0 then none else some (vl (wl (Int.tdiv x0 y0)), (qk t u I J))) else (if y0 = 0 then none else some (vl (wl (Int.tdiv x2 y0)), (qk t u I J)))) else (if y0 = 0 then some (vl 0, (qk t u I J)) else (if x4 = 0 then (if y0 = 0 then none else some (vl (wl (Int.tdiv x0 y0)), (qk t u I J))) else (if y0 = 0 then none else some (vl (wl (Int.tdiv x2 y0)), (qk t u I J)))))) := q_it_eq 400 [5] _ _
/-! 10: StewardHeaps$Chance.commonDivisor(JJ)J -/
set_option maxRecDepth 20000 in
theorem e10_0 (t u : Nat) (I J : Nat → Nat → Int) (x0 : Int) (x2 : Int) : q_E (10, 0, [vl x0, vu, vl x2, vu, vu, vu, vu, vu, vu, vu, vu], []) (qk t u I J) = q_E (10, 9, [vu, vu, vu, vu, vl x0, vu, vl x2, vu, vi 0, vu, vu], []) (qk t u I J) := q_it_eq 400 [9] _ _
set_option maxRecDepth 20000 in
theorem e10_9 (t u : Nat) (I J : Nat → Nat → Int) (x4 : Int) (x6 : Int) (x8 : Int) : q_E (10, 9, [vu, vu, vu, vu, vl x4, vu, vl x6, vu, vi x8, vu, vu], []) (qk t u I J) = (if x8 < 200 then (if x6 < 0 then (if x6 = 0 then none else q_E (10, 9, [vu, vu, vu, vu, vl x6, vu, vl (Int.tmod x4 x6), vu, vi (wr (x8 + 1)), vu, vu], []) (qk t u I J)) else (if x6 = 0 then some (vl x4, (qk t u I J)) else (if x6 = 0 then none else q_E (10, 9, [vu, vu, vu, vu, vl x6, vu, vl (Int.tmod x4 x6), vu, vi (wr (x8 + 1)), vu, vu], []) (qk t u I J)))) else some (vl x4, (qk t u I J))) := q_it_eq 400 [9] _ _
/-! 12: StewardHeaps$Guesses.work(LStewardHeaps$Told;LStewardHeaps$Walk;)V -/
set_option maxRecDepth 20000 in
theorem e12_0 (t u : Nat) (I J : Nat → Nat → Int) (x1 : Nat) (x2 : Nat) : q_E (12, 0, [vr 227, vr x1, vr x2, vu, vu, vu, vu], []) (qk t u I J) = q_E (12, 13, [vr 227, vr x1, vr x2, vi 0, vu, vu, vu], []) (qk t u (uI (uI I 227 2 (-2)) 227 5 1) J) := q_it_eq 400 [13, 33, 51, 61, 83, 104, 117, 143] _ _
set_option maxRecDepth 20000 in
theorem e12_13 (t u : Nat) (I J : Nat → Nat → Int) (x1 : Nat) (x2 : Nat) (x3 : Int) : q_E (12, 13, [vr 227, vr x1, vr x2, vi x3, vu, vu, vu], []) (qk t u I J) = (if x3 < 4 then (if (0 : Int) ≤ x3 ∧ x3 < 4 then q_E (12, 13, [vr 227, vr x1, vr x2, vi (wr (x3 + 1)), vu, vu, vu], []) (qk t u (uI I 229 (Int.toNat x3) 3) J) else none) else q_E (12, 33, [vr 227, vr x1, vr x2, vi 0, vu, vu, vu], []) (qk t u I J)) := q_it_eq 400 [13, 33, 51, 61, 83, 104, 117, 143] _ _
set_option maxRecDepth 20000 in
theorem e12_33 (t u : Nat) (I J : Nat → Nat → Int) (x1 : Nat) (x2 : Nat) (x3 : Int) : q_E (12, 33, [vr 227, vr x1, vr x2, vi x3, vu, vu, vu], []) (qk t u I J) = (if kd x1 = 18 then (if x3 < I x1 11 then (if kd x1 = 18 then (if kd (q_R t u x1 4) = 1 then (if (0 : Int) ≤ x3 ∧ x3 < ln (q_R t u x1 4) then (if kd x1 = 18 then (q_bi (q_E (94, 0, [vr x1, vi (I (q_R t u x1 4) (Int.toNat x3)), vu], []) (qk t u I J)) fun z M1 => q_E (12, 51, [vr 227, vr x1, vr x2, vi x3, vu, vu, vu], [vi z]) M1) else none) else none) else none) else none) else q_E (12, 117, [vr 227, vr x1, vu, vi 0, vu, vu, vu], []) (qk t u (uI I 227 1 0) J)) else none) := q_it_eq 400 [13, 33, 51, 61, 83, 104, 117, 143] _ _
set_option maxRecDepth 20000 in
theorem e12_117 (t u : Nat) (I J : Nat → Nat → Int) (x1 : Nat) (x3 : Int) : q_E (12, 117, [vr 227, vr x1, vu, vi x3, vu, vu, vu], []) (qk t u I J) = (if kd x1 = 18 then (if x3 < q_shl 1 (I x1 10) then (if I 227 5 = 0 then q_E (12, 117, [vr 227, vr x1, vu, vi (wr (x3 + 1)), vu, vu, vu], []) (qk t u I J) else (if kd x1 = 18 then (q_bi (q_E (15, 0, [vr 227, vi x3, vi (I x1 10), vu, vu], []) (qk t u I J)) fun z M1 => q_E (12, 143, [vr 227, vr x1, vu, vi x3, vu, vu, vu], [vi z]) M1) else none)) else some (vu, (qk t u I J))) else none) := q_it_eq 400 [13, 33, 51, 61, 83, 104, 117, 143] _ _
set_option maxRecDepth 20000 in
theorem e12_51 (t u : Nat) (I J : Nat → Nat → Int) (x1 : Nat) (x2 : Nat) (x3 : Int) (y0 : Int) : q_E (12, 51, [vr 227, vr x1, vr x2, vi x3, vu, vu, vu], [vi y0]) (qk t u I J) = (q_bi (q_E (14, 0, [vr 227, vr x1, vi x3, vi 0, vr x2, vu], []) (qk t u I J)) fun z M1 => q_E (12, 61, [vr 227, vr x1, vr x2, vi x3, vi y0, vu, vu], [vi z]) M1) := q_it_eq 400 [13, 33, 51, 61, 83, 104, 117, 143] _ _
set_option maxRecDepth 20000 in
theorem e12_143 (t u : Nat) (I J : Nat → Nat → Int) (x1 : Nat) (x3 : Int) (y0 : Int) : q_E (12, 143, [vr 227, vr x1, vu, vi x3, vu, vu, vu], [vi y0]) (qk t u I J) = (if y0 = 0 then q_E (12, 117, [vr 227, vr x1, vu, vi (wr (x3 + 1)), vu, vu, vu], []) (qk t u I J) else (if (0 : Int) ≤ I 227 1 ∧ I 227 1 < 16 then q_E (12, 117, [vr 227, vr x1, vu, vi (wr (x3 + 1)), vu, vu, vu], []) (qk t u (uI (uI I 228 (Int.toNat (I 227 1)) x3) 227 1 (wr (((uI I 228 (Int.toNat (I 227 1)) x3) 227 1) + 1))) J) else none)) := q_it_eq 400 [13, 33, 51, 61, 83, 104, 117, 143] _ _
set_option maxRecDepth 20000 in
theorem e12_61 (t u : Nat) (I J : Nat → Nat → Int) (x1 : Nat) (x2 : Nat) (x3 : Int) (x4 : Int) (y0 : Int) : q_E (12, 61, [vr 227, vr x1, vr x2, vi x3, vi x4, vu, vu], [vi y0]) (qk t u I J) = (if x4 = (-1) then (q_bv (q_E (13, 0, [vr 227, vi x3, vi x4, vi y0, vi 0], []) (qk t u I J)) fun M1 => q_E (12, 104, [vr 227, vr x1, vr x2, vi x3, vi x4, vi y0, vi 0], []) M1) else (if kd x1 = 18 then (if kd (q_R t u x1 3) = 1 then (if (0 : Int) ≤ x4 ∧ x4 < ln (q_R t u x1 3) then (q_bi (q_E (14, 0, [vr 227, vr x1, vi x3, vi (I (q_R t u x1 3) (Int.toNat x4)), vr x2, vu], []) (qk t u I J)) fun z M1 => q_E (12, 83, [vr 227, vr x1, vr x2, vi x3, vi x4, vi y0, vu], [vi z]) M1) else none) else none) else none)) := q_it_eq 400 [13, 33, 51, 61, 83, 104, 117, 143] _ _
set_option maxRecDepth 20000 in
theorem e12_104 (t u : Nat) (I J : Nat → Nat → Int) (x1 : Nat) (x2 : Nat) (x3 : Int) (x4 : Int) (x5 : Int) (x6 : Int) : q_E (12, 104, [vr 227, vr x1, vr x2, vi x3, vi x4, vi x5, vi x6], []) (qk t u I J) = q_E (12, 33, [vr 227, vr x1, vr x2, vi (wr (x3 + 1)), vu, vu, vu], []) (qk t u I J) := q_it_eq 400 [13, 33, 51, 61, 83, 104, 117, 143] _ _
set_option maxRecDepth 20000 in
theorem e12_83 (t u : Nat) (I J : Nat → Nat → Int) (x1 : Nat) (x2 : Nat) (x3 : Int) (x4 : Int) (x5 : Int) (y0 : Int) : q_E (12, 83, [vr 227, vr x1, vr x2, vi x3, vi x4, vi x5, vu], [vi y0]) (qk t u I J) = (if y0 = 0 then (q_bv (q_E (13, 0, [vr 227, vi x3, vi x4, vi x5, vi 0], []) (qk t u I J)) fun M1 => q_E (12, 104, [vr 227, vr x1, vr x2, vi x3, vi x4, vi x5, vi 0], []) M1) else (q_bv (q_E (13, 0, [vr 227, vi x3, vi x4, vi x5, vi 1], []) (qk t u I J)) fun M1 => q_E (12, 104, [vr 227, vr x1, vr x2, vi x3, vi x4, vi x5, vi 1], []) M1)) := q_it_eq 400 [13, 33, 51, 61, 83, 104, 117, 143] _ _
/-! 13: StewardHeaps$Guesses.note(IIZZ)V -/
set_option maxRecDepth 20000 in
theorem e13_0 (t u : Nat) (I J : Nat → Nat → Int) (x1 : Int) (x2 : Int) (x3 : Int) (x4 : Int) : q_E (13, 0, [vr 227, vi x1, vi x2, vi x3, vi x4], []) (qk t u I J) = (if x3 = 0 then (if I 227 2 = (-2) then q_E (13, 18, [vr 227, vu, vi x2, vi x3, vi x4], []) (qk t u (uI I 227 2 x1) J) else q_E (13, 18, [vr 227, vu, vi x2, vi x3, vi x4], []) (qk t u I J)) else q_E (13, 18, [vr 227, vu, vi x2, vi x3, vi x4], []) (qk t u I J)) := q_it_eq 400 [18, 59, 75] _ _
set_option maxRecDepth 20000 in
theorem e13_18 (t u : Nat) (I J : Nat → Nat → Int) (x2 : Int) (x3 : Int) (x4 : Int) : q_E (13, 18, [vr 227, vu, vi x2, vi x3, vi x4], []) (qk t u I J) = (if x2 = (-1) then (if I 227 5 = 0 then some (vu, (qk t u (uI I 227 5 0) J)) else (if x3 = 0 then some (vu, (qk t u (uI I 227 5 0) J)) else some (vu, (qk t u (uI I 227 5 1) J)))) else (if x3 = 0 then (if (0 : Int) ≤ x2 ∧ x2 < 4 then (if (0 : Int) ≤ x2 ∧ x2 < 4 then q_E (13, 59, [vr 227, vu, vi x2, vu, vi x4], []) (qk t u (uI I 229 (Int.toNat x2) (q_and (I 229 (Int.toNat x2)) (-2))) J) else none) else none) else q_E (13, 59, [vr 227, vu, vi x2, vu, vi x4], []) (qk t u I J))) := q_it_eq 400 [18, 59, 75] _ _
set_option maxRecDepth 20000 in
theorem e13_59 (t u : Nat) (I J : Nat → Nat → Int) (x2 : Int) (x4 : Int) : q_E (13, 59, [vr 227, vu, vi x2, vu, vi x4], []) (qk t u I J) = (if x4 = 0 then (if (0 : Int) ≤ x2 ∧ x2 < 4 then (if (0 : Int) ≤ x2 ∧ x2 < 4 then q_E (13, 75, [vu, vu, vu, vu, vu], []) (qk t u (uI I 229 (Int.toNat x2) (q_and (I 229 (Int.toNat x2)) (-3))) J) else none) else none) else q_E (13, 75, [vu, vu, vu, vu, vu], []) (qk t u I J)) := q_it_eq 400 [18, 59, 75] _ _
set_option maxRecDepth 20000 in
theorem e13_75 (t u : Nat) (I J : Nat → Nat → Int) : q_E (13, 75, [vu, vu, vu, vu, vu], []) (qk t u I J) = some (vu, (qk t u I J)) := q_it_eq 400 [18, 59, 75] _ _
/-! 14: StewardHeaps$Guesses.isSo(LStewardHeaps$Told;IILStewardHeaps$Walk;)Z -/
set_option maxRecDepth 20000 in
theorem e14_0 (t u : Nat) (I J : Nat → Nat → Int) (x1 : Nat) (x2 : Int) (x3 : Int) (x4 : Nat) : q_E (14, 0, [vr 227, vr x1, vi x2, vi x3, vr x4, vu], []) (qk t u I J) = (if kd x1 = 18 then (if kd (q_R t u x1 4) = 1 then (if (0 : Int) ≤ x2 ∧ x2 < ln (q_R t u x1 4) then (if kd x1 = 18 then (if kd (q_R t u x1 0) = 10 then (if kd (q_R t u (q_R t u x1 0) 0) = 4 then (if (0 : Int) ≤ I (q_R t u x1 4) (Int.toNat x2) ∧ I (q_R t u x1 4) (Int.toNat x2) < ln (q_R t u (q_R t u x1 0) 0) then (q_bv (q_E (22, 0, [vr 230, vr (q_R t u (q_R t u (q_R t u x1 0) 0) (Int.toNat (I (q_R t u x1 4) (Int.toNat x2))))], []) (qk t u I J)) fun M1 => q_E (14, 25, [vr 227, vr x1, vi x2, vi x3, vr x4, vi (I (q_R t u x1 4) (Int.toNat x2))], []) M1) else none) else none) else none) else none) else none) else none) else none) := q_it_eq 400 [25, 33, 53, 64] _ _
set_option maxRecDepth 20000 in
theorem e14_25 (t u : Nat) (I J : Nat → Nat → Int) (x1 : Nat) (x2 : Int) (x3 : Int) (x4 : Nat) (x5 : Int) : q_E (14, 25, [vr 227, vr x1, vi x2, vi x3, vr x4, vi x5], []) (qk t u I J) = (q_bv (q_E (29, 0, [vr 230, vi x3, vu], []) (qk t u I J)) fun M1 => q_E (14, 33, [vr 227, vr x1, vi x2, vi x3, vr x4, vi x5], []) M1) := q_it_eq 400 [25, 33, 53, 64] _ _
set_option maxRecDepth 20000 in
theorem e14_33 (t u : Nat) (I J : Nat → Nat → Int) (x1 : Nat) (x2 : Int) (x3 : Int) (x4 : Nat) (x5 : Int) : q_E (14, 33, [vr 227, vr x1, vi x2, vi x3, vr x4, vi x5], []) (qk t u I J) = (if kd x1 = 18 then (if kd (q_R t u x1 1) = 1 then (if (0 : Int) ≤ x5 ∧ x5 < ln (q_R t u x1 1) then (if kd x1 = 18 then (if kd x4 = 19 then (q_bv (q_E (97, 0, [vr x4, vr 230, vi (I (q_R t u x1 1) (Int.toNat x5)), vi (I x1 7)], []) (qk t u I J)) fun M1 => q_E (14, 53, [vr 227, vr x1, vi x2, vi x3, vr x4, vi x5], []) M1) else none) else none) else none) else none) else none) := q_it_eq 400 [25, 33, 53, 64] _ _
set_option maxRecDepth 20000 in
theorem e14_53 (t u : Nat) (I J : Nat → Nat → Int) (x1 : Nat) (x2 : Int) (x3 : Int) (x4 : Nat) (x5 : Int) : q_E (14, 53, [vr 227, vr x1, vi x2, vi x3, vr x4, vi x5], []) (qk t u I J) = (if kd x1 = 18 then (if kd (q_R t u x1 5) = 1 then (if (0 : Int) ≤ x2 ∧ x2 < ln (q_R t u x1 5) then (if kd x4 = 19 then (q_bv (q_E (99, 0, [vr x4, vi (I (q_R t u x1 5) (Int.toNat x2)), vu, vu, vu], []) (qk t u I J)) fun M1 => q_E (14, 64, [vr 227, vr x1, vi x2, vi x3, vr x4, vi x5], []) M1) else none) else none) else none) else none) := q_it_eq 400 [25, 33, 53, 64] _ _
set_option maxRecDepth 20000 in
theorem e14_64 (t u : Nat) (I J : Nat → Nat → Int) (x1 : Nat) (x2 : Int) (x3 : Int) (x4 : Nat) (x5 : Int) : q_E (14, 64, [vr 227, vr x1, vi x2, vi x3, vr x4, vi x5], []) (qk t u I J) = (if kd x4 = 19 then (if kd (q_R t u x4 0) = 12 then (if kd x1 = 18 then (if kd (q_R t u x1 6) = 1 then (if (0 : Int) ≤ x2 ∧ x2 < ln (q_R t u x1 6) then (if I (q_R t u x4 0) 1 = I (q_R t u x1 6) (Int.toNat x2) then some (vi 1, (qk t u I J)) else some (vi 0, (qk t u I J))) else none) else none) else none) else none) else none) := q_it_eq 400 [25, 33, 53, 64] _ _
/-! 15: StewardHeaps$Guesses.mayBe(II)Z -/
set_option maxRecDepth 20000 in
theorem e15_0 (t u : Nat) (I J : Nat → Nat → Int) (x1 : Int) (x2 : Int) : q_E (15, 0, [vr 227, vi x1, vi x2, vu, vu], []) (qk t u I J) = q_E (15, 2, [vr 227, vi x1, vi x2, vi 0, vu], []) (qk t u I J) := q_it_eq 400 [2] _ _
set_option maxRecDepth 20000 in
theorem e15_2 (t u : Nat) (I J : Nat → Nat → Int) (x1 : Int) (x2 : Int) (x3 : Int) : q_E (15, 2, [vr 227, vi x1, vi x2, vi x3, vu], []) (qk t u I J) = (if x3 < x2 then (if q_and (q_shr x1 x3) 1 = 1 then (if (0 : Int) ≤ x3 ∧ x3 < 4 then (if q_and (I 229 (Int.toNat x3)) 2 = 0 then some (vi 0, (qk t u I J)) else q_E (15, 2, [vr 227, vi x1, vi x2, vi (wr (x3 + 1)), vu], []) (qk t u I J)) else none) else (if (0 : Int) ≤ x3 ∧ x3 < 4 then (if q_and (I 229 (Int.toNat x3)) 1 = 0 then some (vi 0, (qk t u I J)) else q_E (15, 2, [vr 227, vi x1, vi x2, vi (wr (x3 + 1)), vu], []) (qk t u I J)) else none)) else some (vi 1, (qk t u I J))) := q_it_eq 400 [2] _ _
/-! 16: StewardHeaps$Guesses.inSome()I -/
set_option maxRecDepth 20000 in
theorem e16_0 (t u : Nat) (I J : Nat → Nat → Int) : q_E (16, 0, [vr 227, vu, vu], []) (qk t u I J) = q_E (16, 4, [vr 227, vi 0, vi 0], []) (qk t u I J) := q_it_eq 400 [4] _ _
set_option maxRecDepth 20000 in
theorem e16_4 (t u : Nat) (I J : Nat → Nat → Int) (x1 : Int) (x2 : Int) : q_E (16, 4, [vr 227, vi x1, vi x2], []) (qk t u I J) = (if x2 < I 227 1 then (if (0 : Int) ≤ x2 ∧ x2 < 16 then q_E (16, 4, [vr 227, vi (q_or x1 (I 228 (Int.toNat x2))), vi (wr (x2 + 1))], []) (qk t u I J) else none) else some (vi x1, (qk t u I J))) := q_it_eq 400 [4] _ _
/-! 17: StewardHeaps$Guesses.inAll()I -/
set_option maxRecDepth 20000 in
theorem e17_0 (t u : Nat) (I J : Nat → Nat → Int) : q_E (17, 0, [vr 227, vu, vu], []) (qk t u I J) = (if (0 : Int) < I 227 1 then q_E (17, 20, [vr 227, vi (I 228 0), vi 1], []) (qk t u I J) else q_E (17, 20, [vr 227, vi 0, vi 1], []) (qk t u I J)) := q_it_eq 400 [20] _ _
set_option maxRecDepth 20000 in
theorem e17_20 (t u : Nat) (I J : Nat → Nat → Int) (x1 : Int) (x2 : Int) : q_E (17, 20, [vr 227, vi x1, vi x2], []) (qk t u I J) = (if x2 < I 227 1 then (if (0 : Int) ≤ x2 ∧ x2 < 16 then q_E (17, 20, [vr 227, vi (q_and x1 (I 228 (Int.toNat x2))), vi (wr (x2 + 1))], []) (qk t u I J) else none) else some (vi x1, (qk t u I J))) := q_it_eq 400 [20] _ _
/-! 18: StewardHeaps$Guesses.leftAtMost(I)I -/
set_option maxRecDepth 20000 in
theorem e18_0 (t u : Nat) (I J : Nat → Nat → Int) (x1 : Int) : q_E (18, 0, [vr 227, vi x1, vu, vu], []) (qk t u I J) = q_E (18, 4, [vr 227, vi x1, vi 0, vi 0], []) (qk t u I J) := q_it_eq 400 [4] _ _
set_option maxRecDepth 20000 in
theorem e18_4 (t u : Nat) (I J : Nat → Nat → Int) (x1 : Int) (x2 : Int) (x3 : Int) : q_E (18, 4, [vr 227, vi x1, vi x2, vi x3], []) (qk t u I J) = (if x3 < I 227 1 then (if (0 : Int) ≤ x3 ∧ x3 < 16 then q_E (18, 4, [vr 227, vi x1, vi (wr (x2 + (q_and (q_shr (I 228 (Int.toNat x3)) x1) 1))), vi (wr (x3 + 1))], []) (qk t u I J) else none) else (if x2 < wr ((I 227 1) - x2) then some (vi (wr ((I 227 1) - x2)), (qk t u I J)) else some (vi x2, (qk t u I J)))) := q_it_eq 400 [4] _ _
/-! 19: StewardHeaps$Guesses.bestAsked(I)I -/
set_option maxRecDepth 20000 in
theorem e19_0 (t u : Nat) (I J : Nat → Nat → Int) (x1 : Int) : q_E (19, 0, [vr 227, vi x1, vu, vu], []) (qk t u I J) = q_E (19, 5, [vr 227, vi x1, vi (-2), vi 0], []) (qk t u I J) := q_it_eq 400 [5, 28, 33] _ _
set_option maxRecDepth 20000 in
theorem e19_5 (t u : Nat) (I J : Nat → Nat → Int) (x1 : Int) (x2 : Int) (x3 : Int) : q_E (19, 5, [vr 227, vi x1, vi x2, vi x3], []) (qk t u I J) = (if x3 < x1 then (if (0 : Int) < I 227 1 then (if x2 = (-2) then q_E (19, 5, [vr 227, vi x1, vi x3, vi (wr (x3 + 1))], []) (qk t u I J) else (q_bi (q_E (18, 0, [vr 227, vi x3, vu, vu], []) (qk t u I J)) fun z M1 => q_E (19, 28, [vr 227, vi x1, vi x2, vi x3], [vi z]) M1)) else some (vi x2, (qk t u I J))) else some (vi x2, (qk t u I J))) := q_it_eq 400 [5, 28, 33] _ _
set_option maxRecDepth 20000 in
theorem e19_28 (t u : Nat) (I J : Nat → Nat → Int) (x1 : Int) (x2 : Int) (x3 : Int) (y0 : Int) : q_E (19, 28, [vr 227, vi x1, vi x2, vi x3], [vi y0]) (qk t u I J) = (q_bi (q_E (18, 0, [vr 227, vi x2, vu, vu], []) (qk t u I J)) fun z M1 => q_E (19, 33, [vr 227, vi x1, vi x2, vi x3], [vi z, vi y0]) M1) := q_it_eq 400 [5, 28, 33] _ _
set_option maxRecDepth 20000 in
theorem e19_33 (t u : Nat) (I J : Nat → Nat → Int) (x1 : Int) (x2 : Int) (x3 : Int) (y0 : Int) (y1 : Int) : q_E (19, 33, [vr 227, vi x1, vi x2, vi x3], [vi y0, vi y1]) (qk t u I J) = (if y1 < y0 then q_E (19, 5, [vr 227, vi x1, vi x3, vi (wr (x3 + 1))], []) (qk t u I J) else q_E (19, 5, [vr 227, vi x1, vi x2, vi (wr (x3 + 1))], []) (qk t u I J)) := q_it_eq 400 [5, 28, 33] _ _
/-! 36: StewardHeaps$Past.forget()V -/
set_option maxRecDepth 20000 in
theorem e36_0 (t u : Nat) (I J : Nat → Nat → Int) : q_E (36, 0, [vr 34], []) (qk t u I J) = some (vu, (qk t u (uI (uI I 34 2 0) 34 3 0) J)) := q_it_eq 400 [] _ _
/-! 37: StewardHeaps$Past.keep(LStewardHeaps$Cellars;)LStewardHeaps$Cellars; -/
set_option maxRecDepth 20000 in
theorem e37_0 (t u : Nat) (I J : Nat → Nat → Int) (x1 : Nat) : q_E (37, 0, [vr 34, vr x1, vu], []) (qk t u I J) = (if I 34 2 = 16 then q_E (37, 32, [vr 34, vr x1, vu], []) (qk t u (uI (uI I 34 4 (Int.tmod (wr ((I 34 4) + 1)) 16)) 34 2 (wr (((uI I 34 4 (Int.tmod (wr ((I 34 4) + 1)) 16)) 34 2) - 1))) J) else q_E (37, 32, [vr 34, vr x1, vu], []) (qk t u I J)) := q_it_eq 400 [32, 55] _ _
set_option maxRecDepth 20000 in
theorem e37_32 (t u : Nat) (I J : Nat → Nat → Int) (x1 : Nat) : q_E (37, 32, [vr 34, vr x1, vu], []) (qk t u I J) = (if (0 : Int) ≤ Int.tmod (wr ((I 34 4) + (I 34 2))) 16 ∧ Int.tmod (wr ((I 34 4) + (I 34 2))) 16 < 16 then (if kd (q_R t u 35 (Int.toNat (Int.tmod (wr ((I 34 4) + (I 34 2))) 16))) = 10 then (q_bv (q_E (2, 0, [vr (q_R t u 35 (Int.toNat (Int.tmod (wr ((I 34 4) + (I 34 2))) 16))), vr x1, vu], []) (qk t u I J)) fun M1 => q_E (37, 55, [vr 34, vr x1, vr (q_R t u 35 (Int.toNat (Int.tmod (wr ((I 34 4) + (I 34 2))) 16)))], []) M1) else none) else none) := q_it_eq 400 [32, 55] _ _
set_option maxRecDepth 20000 in
theorem e37_55 (t u : Nat) (I J : Nat → Nat → Int) (x1 : Nat) (x2 : Nat) : q_E (37, 55, [vr 34, vr x1, vr x2], []) (qk t u I J) = some (vr x2, (qk t u (uI I 34 2 (wr ((I 34 2) + 1))) J)) := q_it_eq 400 [32, 55] _ _
/-! 38: StewardHeaps$Past.returnTo(LStewardHeaps$Cellars;)V -/
set_option maxRecDepth 20000 in
theorem e38_0 (t u : Nat) (I J : Nat → Nat → Int) (x1 : Nat) : q_E (38, 0, [vr 34, vr x1], []) (qk t u I J) = (if (0 : Int) < I 34 2 then (if (0 : Int) ≤ Int.tmod (wr (((uI I 34 2 (wr ((I 34 2) - 1))) 34 4) + ((uI I 34 2 (wr ((I 34 2) - 1))) 34 2))) 16 ∧ Int.tmod (wr (((uI I 34 2 (wr ((I 34 2) - 1))) 34 4) + ((uI I 34 2 (wr ((I 34 2) - 1))) 34 2))) 16 < 16 then (if kd x1 = 10 then (q_bv (q_E (2, 0, [vr x1, vr (q_R t u 35 (Int.toNat (Int.tmod (wr (((uI I 34 2 (wr ((I 34 2) - 1))) 34 4) + ((uI I 34 2 (wr ((I 34 2) - 1))) 34 2))) 16))), vu], []) (qk t u (uI I 34 2 (wr ((I 34 2) - 1))) J)) fun M1 => q_E (38, 38, [vr 34, vr x1], []) M1) else none) else none) else q_E (38, 38, [vr 34, vr x1], []) (qk t u I J)) := q_it_eq 400 [38] _ _
set_option maxRecDepth 20000 in
theorem e38_38 (t u : Nat) (I J : Nat → Nat → Int) : q_E (38, 38, [vu, vu], []) (qk t u I J) = some (vu, (qk t u I J)) := q_it_eq 400 [38] _ _
/-! 39: StewardHeaps$Past.keepImage(LStewardHeaps$Cellars;)I -/
set_option maxRecDepth 20000 in
theorem e39_0 (t u : Nat) (I J : Nat → Nat → Int) (x1 : Nat) : q_E (39, 0, [vr 34, vr x1], []) (qk t u I J) = (if I 34 3 < 3 then (if (0 : Int) ≤ I 34 3 ∧ I 34 3 < 3 then (if kd (q_R t u 36 (Int.toNat (I 34 3))) = 10 then (q_bv (q_E (2, 0, [vr (q_R t u 36 (Int.toNat (I 34 3))), vr x1, vu], []) (qk t u I J)) fun M1 => q_E (39, 23, [vr 34, vr x1], []) M1) else none) else none) else some (vi (-1), (qk t u I J))) := q_it_eq 400 [23] _ _
set_option maxRecDepth 20000 in
theorem e39_23 (t u : Nat) (I J : Nat → Nat → Int) (x1 : Nat) : q_E (39, 23, [vr 34, vr x1], []) (qk t u I J) = some (vi (wr (((uI I 34 3 (wr ((I 34 3) + 1))) 34 3) - 1)), (qk t u (uI I 34 3 (wr ((I 34 3) + 1))) J)) := q_it_eq 400 [23] _ _
/-! 40: StewardHeaps$Past.returnToImage(ILStewardHeaps$Cellars;)V -/
set_option maxRecDepth 20000 in
theorem e40_0 (t u : Nat) (I J : Nat → Nat → Int) (x1 : Int) (x2 : Nat) : q_E (40, 0, [vr 34, vi x1, vr x2], []) (qk t u I J) = (if x1 < 0 then some (vu, (qk t u I J)) else (if x1 < I 34 3 then (if (0 : Int) ≤ x1 ∧ x1 < 3 then (if kd x2 = 10 then (q_bv (q_E (2, 0, [vr x2, vr (q_R t u 36 (Int.toNat x1)), vu], []) (qk t u I J)) fun M1 => q_E (40, 22, [vr 34, vi x1, vr x2], []) M1) else none) else none) else some (vu, (qk t u I J)))) := q_it_eq 400 [22] _ _
set_option maxRecDepth 20000 in
theorem e40_22 (t u : Nat) (I J : Nat → Nat → Int) (x1 : Int) (x2 : Nat) : q_E (40, 22, [vr 34, vi x1, vr x2], []) (qk t u I J) = some (vu, (qk t u (uI I 34 2 0) J)) := q_it_eq 400 [22] _ _
/-! 59: StewardHeaps$Shapes.longestSquare(LStewardHeaps$Heaps;)I -/
set_option maxRecDepth 20000 in
theorem e59_0 (t u : Nat) (I J : Nat → Nat → Int) (x0 : Nat) : q_E (59, 0, [vr x0, vu], []) (qk t u I J) = q_E (59, 2, [vr x0, vi 0], []) (qk t u I J) := q_it_eq 400 [2, 15] _ _
set_option maxRecDepth 20000 in
theorem e59_2 (t u : Nat) (I J : Nat → Nat → Int) (x0 : Nat) (x1 : Int) : q_E (59, 2, [vr x0, vi x1], []) (qk t u I J) = (if kd x0 = 12 then (if x1 < I x0 1 then (if kd x0 = 12 then (q_bi (q_E (25, 0, [vr x0, vi x1], []) (qk t u I J)) fun z M1 => q_E (59, 15, [vr x0, vi x1], [vi z]) M1) else none) else some (vi x1, (qk t u I J))) else none) := q_it_eq 400 [2, 15] _ _
set_option maxRecDepth 20000 in
theorem e59_15 (t u : Nat) (I J : Nat → Nat → Int) (x0 : Nat) (x1 : Int) (y0 : Int) : q_E (59, 15, [vr x0, vi x1], [vi y0]) (qk t u I J) = (if x1 < y0 then q_E (59, 2, [vr x0, vi (wr (x1 + 1))], []) (qk t u I J) else some (vi x1, (qk t u I J))) := q_it_eq 400 [2, 15] _ _
/-! 60: StewardHeaps$Shapes.unlikeHeights(LStewardHeaps$Heaps;)I -/
set_option maxRecDepth 20000 in
theorem e60_0 (t u : Nat) (I J : Nat → Nat → Int) (x0 : Nat) : q_E (60, 0, [vr x0, vu, vu], []) (qk t u I J) = q_E (60, 4, [vr x0, vi 0, vi 0], []) (qk t u I J) := q_it_eq 400 [4, 17] _ _
set_option maxRecDepth 20000 in
theorem e60_4 (t u : Nat) (I J : Nat → Nat → Int) (x0 : Nat) (x1 : Int) (x2 : Int) : q_E (60, 4, [vr x0, vi x1, vi x2], []) (qk t u I J) = (if kd x0 = 12 then (if x2 < I x0 1 then (q_bi (q_E (61, 0, [vr x0, vi x2], []) (qk t u I J)) fun z M1 => q_E (60, 17, [vr x0, vi x1, vi x2], [vi z]) M1) else some (vi x1, (qk t u I J))) else none) := q_it_eq 400 [4, 17] _ _
set_option maxRecDepth 20000 in
theorem e60_17 (t u : Nat) (I J : Nat → Nat → Int) (x0 : Nat) (x1 : Int) (x2 : Int) (y0 : Int) : q_E (60, 17, [vr x0, vi x1, vi x2], [vi y0]) (qk t u I J) = (if y0 = 0 then q_E (60, 4, [vr x0, vi x1, vi (wr (x2 + 1))], []) (qk t u I J) else q_E (60, 4, [vr x0, vi (wr (x1 + 1)), vi (wr (x2 + 1))], []) (qk t u I J)) := q_it_eq 400 [4, 17] _ _
/-! 61: StewardHeaps$Shapes.isFirstOfHeight(LStewardHeaps$Heaps;I)Z -/
set_option maxRecDepth 20000 in
theorem e61_0 (t u : Nat) (I J : Nat → Nat → Int) (x0 : Nat) (x1 : Int) : q_E (61, 0, [vr x0, vi x1], []) (qk t u I J) = (if x1 = 0 then some (vi 1, (qk t u I J)) else (if kd x0 = 12 then (q_bi (q_E (25, 0, [vr x0, vi x1], []) (qk t u I J)) fun z M1 => q_E (61, 9, [vr x0, vi x1], [vi z]) M1) else none)) := q_it_eq 400 [9, 16] _ _
set_option maxRecDepth 20000 in
theorem e61_9 (t u : Nat) (I J : Nat → Nat → Int) (x0 : Nat) (x1 : Int) (y0 : Int) : q_E (61, 9, [vr x0, vi x1], [vi y0]) (qk t u I J) = (if kd x0 = 12 then (q_bi (q_E (25, 0, [vr x0, vi (wr (x1 - 1))], []) (qk t u I J)) fun z M1 => q_E (61, 16, [vr x0, vi x1], [vi z, vi y0]) M1) else none) := q_it_eq 400 [9, 16] _ _
set_option maxRecDepth 20000 in
theorem e61_16 (t u : Nat) (I J : Nat → Nat → Int) (x0 : Nat) (x1 : Int) (y0 : Int) (y1 : Int) : q_E (61, 16, [vr x0, vi x1], [vi y0, vi y1]) (qk t u I J) = (if y1 = y0 then some (vi 0, (qk t u I J)) else some (vi 1, (qk t u I J))) := q_it_eq 400 [9, 16] _ _
/-! 62: StewardHeaps$Shapes.hookOf(LStewardHeaps$Heaps;II)I -/
set_option maxRecDepth 20000 in
theorem e62_0 (t u : Nat) (I J : Nat → Nat → Int) (x0 : Nat) (x1 : Int) (x2 : Int) : q_E (62, 0, [vr x0, vi x1, vi x2], []) (qk t u I J) = (if kd x0 = 12 then (q_bi (q_E (25, 0, [vr x0, vi x1], []) (qk t u I J)) fun z M1 => q_E (62, 5, [vr x0, vi x1, vi x2], [vi z]) M1) else none) := q_it_eq 400 [5, 12] _ _
set_option maxRecDepth 20000 in
theorem e62_5 (t u : Nat) (I J : Nat → Nat → Int) (x0 : Nat) (x1 : Int) (x2 : Int) (y0 : Int) : q_E (62, 5, [vr x0, vi x1, vi x2], [vi y0]) (qk t u I J) = (if kd x0 = 12 then (q_bi (q_E (26, 0, [vr x0, vi x2, vu], []) (qk t u I J)) fun z M1 => q_E (62, 12, [vr x0, vi x1, vi x2], [vi z, vi (wr (y0 - x2))]) M1) else none) := q_it_eq 400 [5, 12] _ _
set_option maxRecDepth 20000 in
theorem e62_12 (t u : Nat) (I J : Nat → Nat → Int) (x0 : Nat) (x1 : Int) (x2 : Int) (y0 : Int) (y1 : Int) : q_E (62, 12, [vr x0, vi x1, vi x2], [vi y0, vi y1]) (qk t u I J) = some (vi (wr ((wr ((wr (y1 + y0)) - x1)) - 1)), (qk t u I J)) := q_it_eq 400 [5, 12] _ _
/-! 63: StewardHeaps$Shapes.countOrders(LStewardHeaps$Heaps;)J -/
set_option maxRecDepth 20000 in
theorem e63_0 (t u : Nat) (I J : Nat → Nat → Int) (x1 : Nat) : q_E (63, 0, [vr 242, vr x1, vu, vu, vu, vu, vu], []) (qk t u I J) = q_E (63, 2, [vr 242, vr x1, vi 0, vu, vu, vu, vu], []) (qk t u I J) := q_it_eq 400 [2, 28, 31, 42, 50, 61, 68, 79, 83, 100, 113] _ _
set_option maxRecDepth 20000 in
theorem e63_2 (t u : Nat) (I J : Nat → Nat → Int) (x1 : Nat) (x2 : Int) : q_E (63, 2, [vr 242, vr x1, vi x2, vu, vu, vu, vu], []) (qk t u I J) = (if x2 < 31 then (if (0 : Int) ≤ x2 ∧ x2 < 31 then q_E (63, 2, [vr 242, vr x1, vi (wr (x2 + 1)), vu, vu, vu, vu], []) (qk t u (uI I 243 (Int.toNat x2) 0) J) else none) else (if kd x1 = 12 then (q_bi (q_E (27, 0, [vr x1, vu, vu], []) (qk t u I J)) fun z M1 => q_E (63, 28, [vr 242, vr x1, vi x2, vu, vu, vu, vu], [vi z]) M1) else none)) := q_it_eq 400 [2, 28, 31, 42, 50, 61, 68, 79, 83, 100, 113] _ _
set_option maxRecDepth 20000 in
theorem e63_31 (t u : Nat) (I J : Nat → Nat → Int) (x1 : Nat) (x2 : Int) (x3 : Int) : q_E (63, 31, [vr 242, vr x1, vi x2, vi x3, vu, vu, vu], []) (qk t u I J) = (if x2 < x3 then q_E (63, 50, [vr 242, vr x1, vu, vi 0, vu, vu, vu], []) (qk t u I J) else (q_bv (q_E (64, 0, [vr 242, vi x3, vi 1, vu, vu], []) (qk t u I J)) fun M1 => q_E (63, 42, [vr 242, vr x1, vi x2, vi x3, vu, vu, vu], []) M1)) := q_it_eq 400 [2, 28, 31, 42, 50, 61, 68, 79, 83, 100, 113] _ _
set_option maxRecDepth 20000 in
theorem e63_50 (t u : Nat) (I J : Nat → Nat → Int) (x1 : Nat) (x3 : Int) : q_E (63, 50, [vr 242, vr x1, vu, vi x3, vu, vu, vu], []) (qk t u I J) = (if kd x1 = 12 then (if x3 < I x1 1 then q_E (63, 61, [vr 242, vr x1, vu, vi x3, vi 0, vu, vu], []) (qk t u I J) else q_E (63, 100, [vr 242, vu, vu, vl 1, vu, vi 2, vu], []) (qk t u I J)) else none) := q_it_eq 400 [2, 28, 31, 42, 50, 61, 68, 79, 83, 100, 113] _ _
set_option maxRecDepth 20000 in
theorem e63_61 (t u : Nat) (I J : Nat → Nat → Int) (x1 : Nat) (x3 : Int) (x4 : Int) : q_E (63, 61, [vr 242, vr x1, vu, vi x3, vi x4, vu, vu], []) (qk t u I J) = (if kd x1 = 12 then (q_bi (q_E (25, 0, [vr x1, vi x3], []) (qk t u I J)) fun z M1 => q_E (63, 68, [vr 242, vr x1, vu, vi x3, vi x4, vu, vu], [vi z, vi x4]) M1) else none) := q_it_eq 400 [2, 28, 31, 42, 50, 61, 68, 79, 83, 100, 113] _ _
set_option maxRecDepth 20000 in
theorem e63_100 (t u : Nat) (I J : Nat → Nat → Int) (x3 : Int) (x5 : Int) : q_E (63, 100, [vr 242, vu, vu, vl x3, vu, vi x5, vu], []) (qk t u I J) = (if x5 < 31 then q_E (63, 113, [vr 242, vu, vu, vl x3, vu, vi x5, vi 0], []) (qk t u I J) else some (vl x3, (qk t u I J))) := q_it_eq 400 [2, 28, 31, 42, 50, 61, 68, 79, 83, 100, 113] _ _
set_option maxRecDepth 20000 in
theorem e63_113 (t u : Nat) (I J : Nat → Nat → Int) (x3 : Int) (x5 : Int) (x6 : Int) : q_E (63, 113, [vr 242, vu, vu, vl x3, vu, vi x5, vi x6], []) (qk t u I J) = (if (0 : Int) ≤ x5 ∧ x5 < 31 then (if x6 < I 243 (Int.toNat x5) then q_E (63, 113, [vr 242, vu, vu, vl (wl (x3 * x5)), vu, vi x5, vi (wr (x6 + 1))], []) (qk t u I J) else q_E (63, 100, [vr 242, vu, vu, vl x3, vu, vi (wr (x5 + 1)), vu], []) (qk t u I J)) else none) := q_it_eq 400 [2, 28, 31, 42, 50, 61, 68, 79, 83, 100, 113] _ _
set_option maxRecDepth 20000 in
theorem e63_28 (t u : Nat) (I J : Nat → Nat → Int) (x1 : Nat) (x2 : Int) (y0 : Int) : q_E (63, 28, [vr 242, vr x1, vi x2, vu, vu, vu, vu], [vi y0]) (qk t u I J) = q_E (63, 31, [vr 242, vr x1, vi y0, vi 2, vu, vu, vu], []) (qk t u I J) := q_it_eq 400 [2, 28, 31, 42, 50, 61, 68, 79, 83, 100, 113] _ _
set_option maxRecDepth 20000 in
theorem e63_42 (t u : Nat) (I J : Nat → Nat → Int) (x1 : Nat) (x2 : Int) (x3 : Int) : q_E (63, 42, [vr 242, vr x1, vi x2, vi x3, vu, vu, vu], []) (qk t u I J) = q_E (63, 31, [vr 242, vr x1, vi x2, vi (wr (x3 + 1)), vu, vu, vu], []) (qk t u I J) := q_it_eq 400 [2, 28, 31, 42, 50, 61, 68, 79, 83, 100, 113] _ _
set_option maxRecDepth 20000 in
theorem e63_68 (t u : Nat) (I J : Nat → Nat → Int) (x1 : Nat) (x3 : Int) (x4 : Int) (y0 : Int) (y1 : Int) : q_E (63, 68, [vr 242, vr x1, vu, vi x3, vi x4, vu, vu], [vi y0, vi y1]) (qk t u I J) = (if y1 < y0 then (q_bi (q_E (62, 0, [vr x1, vi x3, vi x4], []) (qk t u I J)) fun z M1 => q_E (63, 79, [vr 242, vr x1, vu, vi x3, vi x4, vu, vu], [vi z, vr 242]) M1) else q_E (63, 50, [vr 242, vr x1, vu, vi (wr (x3 + 1)), vu, vu, vu], []) (qk t u I J)) := q_it_eq 400 [2, 28, 31, 42, 50, 61, 68, 79, 83, 100, 113] _ _
set_option maxRecDepth 20000 in
theorem e63_79 (t u : Nat) (I J : Nat → Nat → Int) (x1 : Nat) (x3 : Int) (x4 : Int) (y0 : Int) (y1 : Nat) : q_E (63, 79, [vr 242, vr x1, vu, vi x3, vi x4, vu, vu], [vi y0, vr y1]) (qk t u I J) = (if kd y1 = 15 then (q_bv (q_E (64, 0, [vr y1, vi y0, vi (-1), vu, vu], []) (qk t u I J)) fun M1 => q_E (63, 83, [vr 242, vr x1, vu, vi x3, vi x4, vu, vu], []) M1) else none) := q_it_eq 400 [2, 28, 31, 42, 50, 61, 68, 79, 83, 100, 113] _ _
set_option maxRecDepth 20000 in
theorem e63_83 (t u : Nat) (I J : Nat → Nat → Int) (x1 : Nat) (x3 : Int) (x4 : Int) : q_E (63, 83, [vr 242, vr x1, vu, vi x3, vi x4, vu, vu], []) (qk t u I J) = q_E (63, 61, [vr 242, vr x1, vu, vi x3, vi (wr (x4 + 1)), vu, vu], []) (qk t u I J) := q_it_eq 400 [2, 28, 31, 42, 50, 61, 68, 79, 83, 100, 113] _ _
/-! 64: StewardHeaps$Shapes.countPrimes(II)V -/
set_option maxRecDepth 20000 in
theorem e64_0 (t u : Nat) (I J : Nat → Nat → Int) (x1 : Int) (x2 : Int) : q_E (64, 0, [vr 242, vi x1, vi x2, vu, vu], []) (qk t u I J) = q_E (64, 5, [vr 242, vu, vi x2, vi x1, vi 2], []) (qk t u I J) := q_it_eq 400 [5, 20] _ _
set_option maxRecDepth 20000 in
theorem e64_5 (t u : Nat) (I J : Nat → Nat → Int) (x2 : Int) (x3 : Int) (x4 : Int) : q_E (64, 5, [vr 242, vu, vi x2, vi x3, vi x4], []) (qk t u I J) = (if x4 < 31 then (if (1 : Int) < x3 then q_E (64, 20, [vr 242, vu, vi x2, vi x3, vi x4], []) (qk t u I J) else some (vu, (qk t u I J))) else some (vu, (qk t u I J))) := q_it_eq 400 [5, 20] _ _
set_option maxRecDepth 20000 in
theorem e64_20 (t u : Nat) (I J : Nat → Nat → Int) (x2 : Int) (x3 : Int) (x4 : Int) : q_E (64, 20, [vr 242, vu, vi x2, vi x3, vi x4], []) (qk t u I J) = (if (1 : Int) < x3 then (if x4 = 0 then none else (if Int.tmod x3 x4 = 0 then (if x4 = 0 then none else (if (0 : Int) ≤ x4 ∧ x4 < 31 then (if (0 : Int) ≤ x4 ∧ x4 < 31 then q_E (64, 20, [vr 242, vu, vi x2, vi (wr (Int.tdiv x3 x4)), vi x4], []) (qk t u (uI I 243 (Int.toNat x4) (wr ((I 243 (Int.toNat x4)) + x2))) J) else none) else none)) else q_E (64, 5, [vr 242, vu, vi x2, vi x3, vi (wr (x4 + 1))], []) (qk t u I J))) else q_E (64, 5, [vr 242, vu, vi x2, vi x3, vi (wr (x4 + 1))], []) (qk t u I J)) := q_it_eq 400 [5, 20] _ _
/-! 65: StewardHeaps$Shapes.inBoth(LStewardHeaps$Heaps;LStewardHeaps$Heaps;)I -/
set_option maxRecDepth 20000 in
theorem e65_0 (t u : Nat) (I J : Nat → Nat → Int) (x0 : Nat) (x1 : Nat) : q_E (65, 0, [vr x0, vr x1, vu, vu], []) (qk t u I J) = q_E (65, 4, [vr x0, vr x1, vi 0, vi 0], []) (qk t u I J) := q_it_eq 400 [4, 18, 23] _ _
set_option maxRecDepth 20000 in
theorem e65_4 (t u : Nat) (I J : Nat → Nat → Int) (x0 : Nat) (x1 : Nat) (x2 : Int) (x3 : Int) : q_E (65, 4, [vr x0, vr x1, vi x2, vi x3], []) (qk t u I J) = (if kd x0 = 12 then (if x3 < I x0 1 then (if kd x0 = 12 then (q_bi (q_E (25, 0, [vr x0, vi x3], []) (qk t u I J)) fun z M1 => q_E (65, 18, [vr x0, vr x1, vi x2, vi x3], [vi z, vi x2]) M1) else none) else some (vi x2, (qk t u I J))) else none) := q_it_eq 400 [4, 18, 23] _ _
set_option maxRecDepth 20000 in
theorem e65_18 (t u : Nat) (I J : Nat → Nat → Int) (x0 : Nat) (x1 : Nat) (x2 : Int) (x3 : Int) (y0 : Int) (y1 : Int) : q_E (65, 18, [vr x0, vr x1, vi x2, vi x3], [vi y0, vi y1]) (qk t u I J) = (if kd x1 = 12 then (q_bi (q_E (25, 0, [vr x1, vi x3], []) (qk t u I J)) fun z M1 => q_E (65, 23, [vr x0, vr x1, vi x2, vi x3], [vi z, vi y0, vi y1]) M1) else none) := q_it_eq 400 [4, 18, 23] _ _
set_option maxRecDepth 20000 in
theorem e65_23 (t u : Nat) (I J : Nat → Nat → Int) (x0 : Nat) (x1 : Nat) (x2 : Int) (x3 : Int) (y0 : Int) (y1 : Int) (y2 : Int) : q_E (65, 23, [vr x0, vr x1, vi x2, vi x3], [vi y0, vi y1, vi y2]) (qk t u I J) = (if y1 < y0 then q_E (65, 4, [vr x0, vr x1, vi (wr (y2 + y1)), vi (wr (x3 + 1))], []) (qk t u I J) else q_E (65, 4, [vr x0, vr x1, vi (wr (y2 + y0)), vi (wr (x3 + 1))], []) (qk t u I J)) := q_it_eq 400 [4, 18, 23] _ _
/-! 66: StewardHeaps$Shapes.areMirrors(LStewardHeaps$Heaps;LStewardHeaps$Heaps;)Z -/
set_option maxRecDepth 20000 in
theorem e66_0 (t u : Nat) (I J : Nat → Nat → Int) (x0 : Nat) (x1 : Nat) : q_E (66, 0, [vr x0, vr x1, vu], []) (qk t u I J) = (if kd x0 = 12 then (q_bi (q_E (25, 0, [vr x0, vi 0], []) (qk t u I J)) fun z M1 => q_E (66, 5, [vr x0, vr x1, vu], [vi z]) M1) else none) := q_it_eq 400 [5, 16, 29, 34] _ _
set_option maxRecDepth 20000 in
theorem e66_16 (t u : Nat) (I J : Nat → Nat → Int) (x0 : Nat) (x1 : Nat) (x2 : Int) : q_E (66, 16, [vr x0, vr x1, vi x2], []) (qk t u I J) = (if kd x1 = 12 then (if x2 < I x1 1 then (if kd x0 = 12 then (q_bi (q_E (26, 0, [vr x0, vi x2, vu], []) (qk t u I J)) fun z M1 => q_E (66, 29, [vr x0, vr x1, vi x2], [vi z]) M1) else none) else some (vi 1, (qk t u I J))) else none) := q_it_eq 400 [5, 16, 29, 34] _ _
set_option maxRecDepth 20000 in
theorem e66_5 (t u : Nat) (I J : Nat → Nat → Int) (x0 : Nat) (x1 : Nat) (y0 : Int) : q_E (66, 5, [vr x0, vr x1, vu], [vi y0]) (qk t u I J) = (if kd x1 = 12 then (if y0 = I x1 1 then q_E (66, 16, [vr x0, vr x1, vi 0], []) (qk t u I J) else some (vi 0, (qk t u I J))) else none) := q_it_eq 400 [5, 16, 29, 34] _ _
set_option maxRecDepth 20000 in
theorem e66_29 (t u : Nat) (I J : Nat → Nat → Int) (x0 : Nat) (x1 : Nat) (x2 : Int) (y0 : Int) : q_E (66, 29, [vr x0, vr x1, vi x2], [vi y0]) (qk t u I J) = (if kd x1 = 12 then (q_bi (q_E (25, 0, [vr x1, vi x2], []) (qk t u I J)) fun z M1 => q_E (66, 34, [vr x0, vr x1, vi x2], [vi z, vi y0]) M1) else none) := q_it_eq 400 [5, 16, 29, 34] _ _
set_option maxRecDepth 20000 in
theorem e66_34 (t u : Nat) (I J : Nat → Nat → Int) (x0 : Nat) (x1 : Nat) (x2 : Int) (y0 : Int) (y1 : Int) : q_E (66, 34, [vr x0, vr x1, vi x2], [vi y0, vi y1]) (qk t u I J) = (if y1 = y0 then q_E (66, 16, [vr x0, vr x1, vi (wr (x2 + 1))], []) (qk t u I J) else some (vi 0, (qk t u I J))) := q_it_eq 400 [5, 16, 29, 34] _ _
/-! 67: StewardHeaps$Shapes.canBeNew(LStewardHeaps$Heaps;I)Z -/
set_option maxRecDepth 20000 in
theorem e67_0 (t u : Nat) (I J : Nat → Nat → Int) (x0 : Nat) (x1 : Int) : q_E (67, 0, [vr x0, vi x1], []) (qk t u I J) = (q_bi (q_E (61, 0, [vr x0, vi x1], []) (qk t u I J)) fun z M1 => q_E (67, 5, [vr x0, vi x1], [vi z]) M1) := q_it_eq 400 [5, 13] _ _
set_option maxRecDepth 20000 in
theorem e67_5 (t u : Nat) (I J : Nat → Nat → Int) (x0 : Nat) (x1 : Int) (y0 : Int) : q_E (67, 5, [vr x0, vi x1], [vi y0]) (qk t u I J) = (if y0 = 0 then some (vi 0, (qk t u I J)) else (if kd x0 = 12 then (q_bi (q_E (25, 0, [vr x0, vi x1], []) (qk t u I J)) fun z M1 => q_E (67, 13, [vr x0, vi x1], [vi z]) M1) else none)) := q_it_eq 400 [5, 13] _ _
set_option maxRecDepth 20000 in
theorem e67_13 (t u : Nat) (I J : Nat → Nat → Int) (x0 : Nat) (x1 : Int) (y0 : Int) : q_E (67, 13, [vr x0, vi x1], [vi y0]) (qk t u I J) = (if kd x0 = 12 then (if y0 < wr ((I x0 1) - 1) then some (vi 0, (qk t u I J)) else some (vi 1, (qk t u I J))) else none) := q_it_eq 400 [5, 13] _ _
/-! 68: StewardHeaps$Shapes.countSources(LStewardHeaps$Heaps;)I -/
set_option maxRecDepth 20000 in
theorem e68_0 (t u : Nat) (I J : Nat → Nat → Int) (x0 : Nat) : q_E (68, 0, [vr x0, vu, vu], []) (qk t u I J) = (if kd x0 = 12 then (if I x0 1 = 0 then some (vi 1, (qk t u I J)) else q_E (68, 13, [vr x0, vi 0, vi 0], []) (qk t u I J)) else none) := q_it_eq 400 [13, 26] _ _
set_option maxRecDepth 20000 in
theorem e68_13 (t u : Nat) (I J : Nat → Nat → Int) (x0 : Nat) (x1 : Int) (x2 : Int) : q_E (68, 13, [vr x0, vi x1, vi x2], []) (qk t u I J) = (if kd x0 = 12 then (if x2 < I x0 1 then (q_bi (q_E (67, 0, [vr x0, vi x2], []) (qk t u I J)) fun z M1 => q_E (68, 26, [vr x0, vi x1, vi x2], [vi z]) M1) else some (vi x1, (qk t u I J))) else none) := q_it_eq 400 [13, 26] _ _
set_option maxRecDepth 20000 in
theorem e68_26 (t u : Nat) (I J : Nat → Nat → Int) (x0 : Nat) (x1 : Int) (x2 : Int) (y0 : Int) : q_E (68, 26, [vr x0, vi x1, vi x2], [vi y0]) (qk t u I J) = (if y0 = 0 then q_E (68, 13, [vr x0, vi x1, vi (wr (x2 + 1))], []) (qk t u I J) else q_E (68, 13, [vr x0, vi (wr (x1 + 1)), vi (wr (x2 + 1))], []) (qk t u I J)) := q_it_eq 400 [13, 26] _ _
/-! 69: StewardHeaps$Shapes.sourceHeight(LStewardHeaps$Heaps;II)I -/
set_option maxRecDepth 20000 in
theorem e69_0 (t u : Nat) (I J : Nat → Nat → Int) (x0 : Nat) (x1 : Int) (x2 : Int) : q_E (69, 0, [vr x0, vi x1, vi x2, vu, vu], []) (qk t u I J) = q_E (69, 5, [vr x0, vi x1, vi x2, vi 0, vi 0], []) (qk t u I J) := q_it_eq 400 [5, 20, 35] _ _
set_option maxRecDepth 20000 in
theorem e69_5 (t u : Nat) (I J : Nat → Nat → Int) (x0 : Nat) (x1 : Int) (x2 : Int) (x3 : Int) (x4 : Int) : q_E (69, 5, [vr x0, vi x1, vi x2, vi x3, vi x4], []) (qk t u I J) = (if kd x0 = 12 then (if x4 < I x0 1 then (q_bi (q_E (67, 0, [vr x0, vi x4], []) (qk t u I J)) fun z M1 => q_E (69, 20, [vr x0, vi x1, vi x2, vi x3, vi x4], [vi z]) M1) else some (vi 0, (qk t u I J))) else none) := q_it_eq 400 [5, 20, 35] _ _
set_option maxRecDepth 20000 in
theorem e69_20 (t u : Nat) (I J : Nat → Nat → Int) (x0 : Nat) (x1 : Int) (x2 : Int) (x3 : Int) (x4 : Int) (y0 : Int) : q_E (69, 20, [vr x0, vi x1, vi x2, vi x3, vi x4], [vi y0]) (qk t u I J) = (if y0 = 0 then q_E (69, 5, [vr x0, vi x1, vi x2, vi x3, vi (wr (x4 + 1))], []) (qk t u I J) else (if x3 = x1 then (q_bi (q_E (70, 0, [vr x0, vi x4, vi x2], []) (qk t u I J)) fun z M1 => q_E (69, 35, [vr x0, vi x1, vi x2, vi x3, vi x4], [vi z]) M1) else q_E (69, 5, [vr x0, vi x1, vi x2, vi (wr (x3 + 1)), vi (wr (x4 + 1))], []) (qk t u I J))) := q_it_eq 400 [5, 20, 35] _ _
set_option maxRecDepth 20000 in
theorem e69_35 (t u : Nat) (I J : Nat → Nat → Int) (x0 : Nat) (x1 : Int) (x2 : Int) (x3 : Int) (x4 : Int) (y0 : Int) : q_E (69, 35, [vr x0, vi x1, vi x2, vi x3, vi x4], [vi y0]) (qk t u I J) = some (vi y0, (qk t u I J)) := q_it_eq 400 [5, 20, 35] _ _
/-! 70: StewardHeaps$Shapes.heightBefore(LStewardHeaps$Heaps;II)I -/
set_option maxRecDepth 20000 in
theorem e70_0 (t u : Nat) (I J : Nat → Nat → Int) (x0 : Nat) (x1 : Int) (x2 : Int) : q_E (70, 0, [vr x0, vi x1, vi x2], []) (qk t u I J) = (if kd x0 = 12 then (if x2 < wr ((I x0 1) - 1) then (if x2 < x1 then (if kd x0 = 12 then (q_bi (q_E (25, 0, [vr x0, vi x2], []) (qk t u I J)) fun z M1 => q_E (70, 26, [vr x0, vi x1, vi x2], [vi z]) M1) else none) else (if kd x0 = 12 then (q_bi (q_E (25, 0, [vr x0, vi (wr (x2 + 1))], []) (qk t u I J)) fun z M1 => q_E (70, 26, [vr x0, vi x1, vi x2], [vi z]) M1) else none)) else (if kd x0 = 12 then (q_bi (q_E (25, 0, [vr x0, vi x1], []) (qk t u I J)) fun z M1 => q_E (70, 35, [vr x0, vi x1, vi x2], [vi z, vi x2]) M1) else none)) else none) := q_it_eq 400 [26, 35] _ _
set_option maxRecDepth 20000 in
theorem e70_26 (t u : Nat) (I J : Nat → Nat → Int) (x0 : Nat) (x1 : Int) (x2 : Int) (y0 : Int) : q_E (70, 26, [vr x0, vi x1, vi x2], [vi y0]) (qk t u I J) = some (vi (wr (y0 + 1)), (qk t u I J)) := q_it_eq 400 [26, 35] _ _
set_option maxRecDepth 20000 in
theorem e70_35 (t u : Nat) (I J : Nat → Nat → Int) (x0 : Nat) (x1 : Int) (x2 : Int) (y0 : Int) (y1 : Int) : q_E (70, 35, [vr x0, vi x1, vi x2], [vi y0, vi y1]) (qk t u I J) = (if y1 < y0 then some (vi 1, (qk t u I J)) else some (vi 0, (qk t u I J))) := q_it_eq 400 [26, 35] _ _
/-! 72: StewardHeaps$Sums.countWays(II)I -/
set_option maxRecDepth 20000 in
theorem e72_0 (t u : Nat) (I J : Nat → Nat → Int) (x1 : Int) (x2 : Int) : q_E (72, 0, [vr 244, vi x1, vi x2, vu, vu], []) (qk t u I J) = (q_bv (q_E (74, 0, [vr 244, vi 0, vu], []) (qk t u I J)) fun M1 => q_E (72, 5, [vr 244, vi x1, vi x2, vu, vu], []) M1) := q_it_eq 400 [5, 14, 22, 74] _ _
set_option maxRecDepth 20000 in
theorem e72_14 (t u : Nat) (I J : Nat → Nat → Int) (x1 : Int) (x2 : Int) (x3 : Int) : q_E (72, 14, [vr 244, vi x1, vi x2, vi x3, vu], []) (qk t u I J) = (if x2 < x3 then (q_bi (q_E (75, 0, [vr 244, vi x1], []) (qk t u I J)) fun z M1 => q_E (72, 74, [vr 244, vi x1, vi x2, vi x3, vu], [vi z]) M1) else q_E (72, 22, [vr 244, vi x1, vi x2, vi x3, vi x3], []) (qk t u I J)) := q_it_eq 400 [5, 14, 22, 74] _ _
set_option maxRecDepth 20000 in
theorem e72_22 (t u : Nat) (I J : Nat → Nat → Int) (x1 : Int) (x2 : Int) (x3 : Int) (x4 : Int) : q_E (72, 22, [vr 244, vi x1, vi x2, vi x3, vi x4], []) (qk t u I J) = (if x1 < x4 then q_E (72, 14, [vr 244, vi x1, vi x2, vi (wr (x3 + 1)), vu], []) (qk t u I J) else (if x4 < 61 then (if (0 : Int) ≤ x4 ∧ x4 < 61 then (if (0 : Int) ≤ wr (x4 - x3) ∧ wr (x4 - x3) < 61 then (if (0 : Int) ≤ x4 ∧ x4 < 61 then q_E (72, 22, [vr 244, vi x1, vi x2, vi x3, vi (wr (x4 + 1))], []) (qk t u (uI I 245 (Int.toNat x4) (wr ((I 245 (Int.toNat x4)) + (I 245 (Int.toNat (wr (x4 - x3))))))) J) else none) else none) else none) else q_E (72, 14, [vr 244, vi x1, vi x2, vi (wr (x3 + 1)), vu], []) (qk t u I J))) := q_it_eq 400 [5, 14, 22, 74] _ _
set_option maxRecDepth 20000 in
theorem e72_5 (t u : Nat) (I J : Nat → Nat → Int) (x1 : Int) (x2 : Int) : q_E (72, 5, [vr 244, vi x1, vi x2, vu, vu], []) (qk t u I J) = q_E (72, 14, [vr 244, vi x1, vi x2, vi 1, vu], []) (qk t u (uI I 245 0 1) J) := q_it_eq 400 [5, 14, 22, 74] _ _
set_option maxRecDepth 20000 in
theorem e72_74 (t u : Nat) (I J : Nat → Nat → Int) (x1 : Int) (x2 : Int) (x3 : Int) (y0 : Int) : q_E (72, 74, [vr 244, vi x1, vi x2, vi x3, vu], [vi y0]) (qk t u I J) = some (vi y0, (qk t u I J)) := q_it_eq 400 [5, 14, 22, 74] _ _
/-! 73: StewardHeaps$Sums.countUnlikeWays(I)I -/
set_option maxRecDepth 20000 in
theorem e73_0 (t u : Nat) (I J : Nat → Nat → Int) (x1 : Int) : q_E (73, 0, [vr 244, vi x1, vu, vu], []) (qk t u I J) = (q_bv (q_E (74, 0, [vr 244, vi 0, vu], []) (qk t u I J)) fun M1 => q_E (73, 5, [vr 244, vi x1, vu, vu], []) M1) := q_it_eq 400 [5, 14, 26, 65] _ _
set_option maxRecDepth 20000 in
theorem e73_14 (t u : Nat) (I J : Nat → Nat → Int) (x1 : Int) (x2 : Int) : q_E (73, 14, [vr 244, vi x1, vi x2, vu], []) (qk t u I J) = (if x1 < x2 then (q_bi (q_E (75, 0, [vr 244, vi x1], []) (qk t u I J)) fun z M1 => q_E (73, 65, [vr 244, vi x1, vi x2, vu], [vi z]) M1) else (if x1 < 60 then q_E (73, 26, [vr 244, vi x1, vi x2, vi x1], []) (qk t u I J) else q_E (73, 26, [vr 244, vi x1, vi x2, vi 60], []) (qk t u I J))) := q_it_eq 400 [5, 14, 26, 65] _ _
set_option maxRecDepth 20000 in
theorem e73_26 (t u : Nat) (I J : Nat → Nat → Int) (x1 : Int) (x2 : Int) (x3 : Int) : q_E (73, 26, [vr 244, vi x1, vi x2, vi x3], []) (qk t u I J) = (if x3 < x2 then q_E (73, 14, [vr 244, vi x1, vi (wr (x2 + 1)), vu], []) (qk t u I J) else (if (0 : Int) ≤ x3 ∧ x3 < 61 then (if (0 : Int) ≤ wr (x3 - x2) ∧ wr (x3 - x2) < 61 then (if (0 : Int) ≤ x3 ∧ x3 < 61 then q_E (73, 26, [vr 244, vi x1, vi x2, vi (wr (x3 + (-1)))], []) (qk t u (uI I 245 (Int.toNat x3) (wr ((I 245 (Int.toNat x3)) + (I 245 (Int.toNat (wr (x3 - x2))))))) J) else none) else none) else none)) := q_it_eq 400 [5, 14, 26, 65] _ _
set_option maxRecDepth 20000 in
theorem e73_5 (t u : Nat) (I J : Nat → Nat → Int) (x1 : Int) : q_E (73, 5, [vr 244, vi x1, vu, vu], []) (qk t u I J) = q_E (73, 14, [vr 244, vi x1, vi 1, vu], []) (qk t u (uI I 245 0 1) J) := q_it_eq 400 [5, 14, 26, 65] _ _
set_option maxRecDepth 20000 in
theorem e73_65 (t u : Nat) (I J : Nat → Nat → Int) (x1 : Int) (x2 : Int) (y0 : Int) : q_E (73, 65, [vr 244, vi x1, vi x2, vu], [vi y0]) (qk t u I J) = some (vi y0, (qk t u I J)) := q_it_eq 400 [5, 14, 26, 65] _ _
/-! 74: StewardHeaps$Sums.clearRow(I)V -/
set_option maxRecDepth 20000 in
theorem e74_0 (t u : Nat) (I J : Nat → Nat → Int) (x1 : Int) : q_E (74, 0, [vr 244, vi x1, vu], []) (qk t u I J) = q_E (74, 2, [vr 244, vi x1, vi 0], []) (qk t u I J) := q_it_eq 400 [2] _ _
set_option maxRecDepth 20000 in
theorem e74_2 (t u : Nat) (I J : Nat → Nat → Int) (x1 : Int) (x2 : Int) : q_E (74, 2, [vr 244, vi x1, vi x2], []) (qk t u I J) = (if x2 < 61 then (if (0 : Int) ≤ x2 ∧ x2 < 61 then q_E (74, 2, [vr 244, vi x1, vi (wr (x2 + 1))], []) (qk t u (uI I 245 (Int.toNat x2) x1) J) else none) else some (vu, (qk t u I J))) := q_it_eq 400 [2] _ _
/-! 75: StewardHeaps$Sums.rowAt(I)I -/
set_option maxRecDepth 20000 in
theorem e75_0 (t u : Nat) (I J : Nat → Nat → Int) (x1 : Int) : q_E (75, 0, [vr 244, vi x1], []) (qk t u I J) = (if x1 < 0 then some (vi 0, (qk t u I J)) else (if x1 < 61 then (if (0 : Int) ≤ x1 ∧ x1 < 61 then some (vi (I 245 (Int.toNat x1)), (qk t u I J)) else none) else some (vi 0, (qk t u I J)))) := q_it_eq 400 [] _ _
/-! 76: StewardHeaps$Sums.eatersBalance(LStewardHeaps$Heaps;)I -/
set_option maxRecDepth 20000 in
theorem e76_0 (t u : Nat) (I J : Nat → Nat → Int) (x0 : Nat) : q_E (76, 0, [vr x0, vu, vu], []) (qk t u I J) = q_E (76, 4, [vr x0, vi 0, vi 0], []) (qk t u I J) := q_it_eq 400 [4, 18] _ _
set_option maxRecDepth 20000 in
theorem e76_4 (t u : Nat) (I J : Nat → Nat → Int) (x0 : Nat) (x1 : Int) (x2 : Int) : q_E (76, 4, [vr x0, vi x1, vi x2], []) (qk t u I J) = (if kd x0 = 12 then (if x2 < I x0 1 then (if kd x0 = 12 then (q_bi (q_E (25, 0, [vr x0, vi x2], []) (qk t u I J)) fun z M1 => q_E (76, 18, [vr x0, vi x1, vi x2], [vi z, vi x1]) M1) else none) else some (vi x1, (qk t u I J))) else none) := q_it_eq 400 [4, 18] _ _
set_option maxRecDepth 20000 in
theorem e76_18 (t u : Nat) (I J : Nat → Nat → Int) (x0 : Nat) (x1 : Int) (x2 : Int) (y0 : Int) (y1 : Int) : q_E (76, 18, [vr x0, vi x1, vi x2], [vi y0, vi y1]) (qk t u I J) = q_E (76, 4, [vr x0, vi (q_xor y1 (Int.tmod y0 4)), vi (wr (x2 + 1))], []) (qk t u I J) := q_it_eq 400 [4, 18] _ _
/-! 77: StewardHeaps$Sums.winningBite(LStewardHeaps$Heaps;I)I -/
set_option maxRecDepth 20000 in
theorem e77_0 (t u : Nat) (I J : Nat → Nat → Int) (x0 : Nat) (x1 : Int) : q_E (77, 0, [vr x0, vi x1, vu, vu, vu], []) (qk t u I J) = (if kd x0 = 12 then (q_bi (q_E (25, 0, [vr x0, vi x1], []) (qk t u I J)) fun z M1 => q_E (77, 5, [vr x0, vi x1, vu, vu, vu], [vi z]) M1) else none) := q_it_eq 400 [5, 10, 18] _ _
set_option maxRecDepth 20000 in
theorem e77_18 (t u : Nat) (I J : Nat → Nat → Int) (x2 : Int) (x3 : Int) (x4 : Int) : q_E (77, 18, [vu, vu, vi x2, vi x3, vi x4], []) (qk t u I J) = (if (3 : Int) < x4 then some (vi (-2), (qk t u I J)) else (if x2 < x4 then some (vi (-2), (qk t u I J)) else (if Int.tmod (wr (x2 - x4)) 4 = x3 then some (vi x4, (qk t u I J)) else q_E (77, 18, [vu, vu, vi x2, vi x3, vi (wr (x4 + 1))], []) (qk t u I J)))) := q_it_eq 400 [5, 10, 18] _ _
set_option maxRecDepth 20000 in
theorem e77_5 (t u : Nat) (I J : Nat → Nat → Int) (x0 : Nat) (x1 : Int) (y0 : Int) : q_E (77, 5, [vr x0, vi x1, vu, vu, vu], [vi y0]) (qk t u I J) = (q_bi (q_E (76, 0, [vr x0, vu, vu], []) (qk t u I J)) fun z M1 => q_E (77, 10, [vr x0, vi x1, vi y0, vu, vu], [vi z]) M1) := q_it_eq 400 [5, 10, 18] _ _
set_option maxRecDepth 20000 in
theorem e77_10 (t u : Nat) (I J : Nat → Nat → Int) (x0 : Nat) (x1 : Int) (x2 : Int) (y0 : Int) : q_E (77, 10, [vr x0, vi x1, vi x2, vu, vu], [vi y0]) (qk t u I J) = q_E (77, 18, [vu, vu, vi x2, vi (q_xor y0 (Int.tmod x2 4)), vi 1], []) (qk t u I J) := q_it_eq 400 [5, 10, 18] _ _
/-! 78: StewardHeaps$Sums.leastCarried(LStewardHeaps$Heaps;)I -/
set_option maxRecDepth 20000 in
theorem e78_0 (t u : Nat) (I J : Nat → Nat → Int) (x1 : Nat) : q_E (78, 0, [vr 244, vr x1, vu, vu, vu, vu], []) (qk t u I J) = (q_bv (q_E (22, 0, [vr 246, vr x1], []) (qk t u I J)) fun M1 => q_E (78, 8, [vr 244, vr x1, vu, vu, vu, vu], []) M1) := q_it_eq 400 [8, 12, 36, 56, 68] _ _
set_option maxRecDepth 20000 in
theorem e78_12 (t u : Nat) (I J : Nat → Nat → Int) (x1 : Nat) (x2 : Int) (x3 : Int) : q_E (78, 12, [vr 244, vr x1, vi x2, vi x3, vu, vu], []) (qk t u I J) = (if kd x1 = 12 then (if x3 < I x1 1 then (q_bi (q_E (30, 0, [vr 246, vi (wr ((I 246 1) - 1)), vu, vu], []) (qk t u I J)) fun z M1 => q_E (78, 36, [vr 244, vr x1, vi x2, vi x3, vu, vu], [vi z]) M1) else some (vi x2, (qk t u I J))) else none) := q_it_eq 400 [8, 12, 36, 56, 68] _ _
set_option maxRecDepth 20000 in
theorem e78_8 (t u : Nat) (I J : Nat → Nat → Int) (x1 : Nat) : q_E (78, 8, [vr 244, vr x1, vu, vu, vu, vu], []) (qk t u I J) = q_E (78, 12, [vr 244, vr x1, vi 0, vi 1, vu, vu], []) (qk t u I J) := q_it_eq 400 [8, 12, 36, 56, 68] _ _
set_option maxRecDepth 20000 in
theorem e78_36 (t u : Nat) (I J : Nat → Nat → Int) (x1 : Nat) (x2 : Int) (x3 : Int) (y0 : Int) : q_E (78, 36, [vr 244, vr x1, vi x2, vi x3, vu, vu], [vi y0]) (qk t u I J) = (q_bi (q_E (30, 0, [vr 246, vi (wr ((I 246 1) - 1)), vu, vu], []) (qk t u I J)) fun z M1 => q_E (78, 56, [vr 244, vr x1, vi x2, vi x3, vi y0, vu], [vi z, vi y0]) M1) := q_it_eq 400 [8, 12, 36, 56, 68] _ _
set_option maxRecDepth 20000 in
theorem e78_56 (t u : Nat) (I J : Nat → Nat → Int) (x1 : Nat) (x2 : Int) (x3 : Int) (x4 : Int) (y0 : Int) (y1 : Int) : q_E (78, 56, [vr 244, vr x1, vi x2, vi x3, vi x4, vu], [vi y0, vi y1]) (qk t u I J) = (q_bv (q_E (29, 0, [vr 246, vi (wr (y1 + y0)), vu], []) (qk t u I J)) fun M1 => q_E (78, 68, [vr 244, vr x1, vi x2, vi x3, vi x4, vi (wr (y1 + y0))], []) M1) := q_it_eq 400 [8, 12, 36, 56, 68] _ _
set_option maxRecDepth 20000 in
theorem e78_68 (t u : Nat) (I J : Nat → Nat → Int) (x1 : Nat) (x2 : Int) (x3 : Int) (x4 : Int) (x5 : Int) : q_E (78, 68, [vr 244, vr x1, vi x2, vi x3, vi x4, vi x5], []) (qk t u I J) = q_E (78, 12, [vr 244, vr x1, vi (wr (x2 + x5)), vi (wr (x3 + 1)), vu, vu], []) (qk t u I J) := q_it_eq 400 [8, 12, 36, 56, 68] _ _
/-! 79: StewardHeaps$Sums.fewestLaidOver(LStewardHeaps$Heaps;)I -/
set_option maxRecDepth 20000 in
theorem e79_0 (t u : Nat) (I J : Nat → Nat → Int) (x0 : Nat) : q_E (79, 0, [vr x0, vu, vu, vu, vu, vu, vu], []) (qk t u I J) = (if kd x0 = 12 then (if I x0 1 = 0 then some (vi 0, (qk t u I J)) else (if kd x0 = 12 then (q_bi (q_E (27, 0, [vr x0, vu, vu], []) (qk t u I J)) fun z M1 => q_E (79, 13, [vr x0, vu, vu, vu, vu, vu, vu], [vi z]) M1) else none)) else none) := q_it_eq 400 [13, 34, 67] _ _
set_option maxRecDepth 20000 in
theorem e79_34 (t u : Nat) (I J : Nat → Nat → Int) (x0 : Nat) (x2 : Int) (x3 : Int) (x4 : Int) (x5 : Int) : q_E (79, 34, [vr x0, vu, vi x2, vi x3, vi x4, vi x5, vu], []) (qk t u I J) = (if kd x0 = 12 then (if x5 < I x0 1 then (if x5 < x3 then (if kd x0 = 12 then (q_bi (q_E (25, 0, [vr x0, vi x5], []) (qk t u I J)) fun z M1 => q_E (79, 67, [vr x0, vu, vi x2, vi x3, vi x4, vi x5, vi (wr (x2 + 1))], [vi z, vi 0, vi x4]) M1) else none) else (if kd x0 = 12 then (q_bi (q_E (25, 0, [vr x0, vi x5], []) (qk t u I J)) fun z M1 => q_E (79, 67, [vr x0, vu, vi x2, vi x3, vi x4, vi x5, vi x2], [vi z, vi 0, vi x4]) M1) else none)) else some (vi x4, (qk t u I J))) else none) := q_it_eq 400 [13, 34, 67] _ _
set_option maxRecDepth 20000 in
theorem e79_13 (t u : Nat) (I J : Nat → Nat → Int) (x0 : Nat) (y0 : Int) : q_E (79, 13, [vr x0, vu, vu, vu, vu, vu, vu], [vi y0]) (qk t u I J) = (if kd x0 = 12 then (if I x0 1 = 0 then none else (if kd x0 = 12 then (if I x0 1 = 0 then none else q_E (79, 34, [vr x0, vu, vi (wr (Int.tdiv y0 (I x0 1))), vi (Int.tmod y0 (I x0 1)), vi 0, vi 0, vu], []) (qk t u I J)) else none)) else none) := q_it_eq 400 [13, 34, 67] _ _
set_option maxRecDepth 20000 in
theorem e79_67 (t u : Nat) (I J : Nat → Nat → Int) (x0 : Nat) (x2 : Int) (x3 : Int) (x4 : Int) (x5 : Int) (x6 : Int) (y0 : Int) (y1 : Int) (y2 : Int) : q_E (79, 67, [vr x0, vu, vi x2, vi x3, vi x4, vi x5, vi x6], [vi y0, vi y1, vi y2]) (qk t u I J) = (if y1 < wr (y0 - x6) then q_E (79, 34, [vr x0, vu, vi x2, vi x3, vi (wr (y2 + (wr (y0 - x6)))), vi (wr (x5 + 1)), vu], []) (qk t u I J) else q_E (79, 34, [vr x0, vu, vi x2, vi x3, vi (wr (y2 + y1)), vi (wr (x5 + 1)), vu], []) (qk t u I J)) := q_it_eq 400 [13, 34, 67] _ _
/-! 80: StewardHeaps$Sums.fewestThatMake(LStewardHeaps$Heaps;I)I -/
set_option maxRecDepth 20000 in
theorem e80_0 (t u : Nat) (I J : Nat → Nat → Int) (x1 : Nat) (x2 : Int) : q_E (80, 0, [vr 244, vr x1, vi x2], []) (qk t u I J) = (q_bv (q_E (82, 0, [vr 244, vr x1, vu, vu, vu, vu], []) (qk t u I J)) fun M1 => q_E (80, 5, [vr 244, vr x1, vi x2], []) M1) := q_it_eq 400 [5, 10] _ _
set_option maxRecDepth 20000 in
theorem e80_5 (t u : Nat) (I J : Nat → Nat → Int) (x1 : Nat) (x2 : Int) : q_E (80, 5, [vr 244, vr x1, vi x2], []) (qk t u I J) = (q_bi (q_E (75, 0, [vr 244, vi x2], []) (qk t u I J)) fun z M1 => q_E (80, 10, [vr 244, vr x1, vi x2], [vi z]) M1) := q_it_eq 400 [5, 10] _ _
set_option maxRecDepth 20000 in
theorem e80_10 (t u : Nat) (I J : Nat → Nat → Int) (x1 : Nat) (x2 : Int) (y0 : Int) : q_E (80, 10, [vr 244, vr x1, vi x2], [vi y0]) (qk t u I J) = some (vi y0, (qk t u I J)) := q_it_eq 400 [5, 10] _ _
/-! 81: StewardHeaps$Sums.lighterPart(LStewardHeaps$Heaps;)I -/
set_option maxRecDepth 20000 in
theorem e81_0 (t u : Nat) (I J : Nat → Nat → Int) (x1 : Nat) : q_E (81, 0, [vr 244, vr x1, vu], []) (qk t u I J) = (q_bv (q_E (82, 0, [vr 244, vr x1, vu, vu, vu, vu], []) (qk t u I J)) fun M1 => q_E (81, 5, [vr 244, vr x1, vu], []) M1) := q_it_eq 400 [5, 9, 12, 21] _ _
set_option maxRecDepth 20000 in
theorem e81_12 (t u : Nat) (I J : Nat → Nat → Int) (x2 : Int) : q_E (81, 12, [vr 244, vu, vi x2], []) (qk t u I J) = (if (0 : Int) < x2 then (q_bi (q_E (75, 0, [vr 244, vi x2], []) (qk t u I J)) fun z M1 => q_E (81, 21, [vr 244, vu, vi x2], [vi z]) M1) else some (vi x2, (qk t u I J))) := q_it_eq 400 [5, 9, 12, 21] _ _
set_option maxRecDepth 20000 in
theorem e81_5 (t u : Nat) (I J : Nat → Nat → Int) (x1 : Nat) : q_E (81, 5, [vr 244, vr x1, vu], []) (qk t u I J) = (if kd x1 = 12 then (q_bi (q_E (27, 0, [vr x1, vu, vu], []) (qk t u I J)) fun z M1 => q_E (81, 9, [vr 244, vr x1, vu], [vi z]) M1) else none) := q_it_eq 400 [5, 9, 12, 21] _ _
set_option maxRecDepth 20000 in
theorem e81_21 (t u : Nat) (I J : Nat → Nat → Int) (x2 : Int) (y0 : Int) : q_E (81, 21, [vr 244, vu, vi x2], [vi y0]) (qk t u I J) = (if y0 = (-2) then q_E (81, 12, [vr 244, vu, vi (wr (x2 + (-1)))], []) (qk t u I J) else some (vi x2, (qk t u I J))) := q_it_eq 400 [5, 9, 12, 21] _ _
set_option maxRecDepth 20000 in
theorem e81_9 (t u : Nat) (I J : Nat → Nat → Int) (x1 : Nat) (y0 : Int) : q_E (81, 9, [vr 244, vr x1, vu], [vi y0]) (qk t u I J) = q_E (81, 12, [vr 244, vu, vi (wr (Int.tdiv y0 2))], []) (qk t u I J) := q_it_eq 400 [5, 9, 12, 21] _ _
/-! 82: StewardHeaps$Sums.fillFewest(LStewardHeaps$Heaps;)V -/
set_option maxRecDepth 20000 in
theorem e82_0 (t u : Nat) (I J : Nat → Nat → Int) (x1 : Nat) : q_E (82, 0, [vr 244, vr x1, vu, vu, vu, vu], []) (qk t u I J) = (q_bv (q_E (74, 0, [vr 244, vi (-2), vu], []) (qk t u I J)) fun M1 => q_E (82, 6, [vr 244, vr x1, vu, vu, vu, vu], []) M1) := q_it_eq 400 [6, 15, 28, 33, 47] _ _
set_option maxRecDepth 20000 in
theorem e82_15 (t u : Nat) (I J : Nat → Nat → Int) (x1 : Nat) (x2 : Int) : q_E (82, 15, [vr 244, vr x1, vi x2, vu, vu, vu], []) (qk t u I J) = (if kd x1 = 12 then (if x2 < I x1 1 then (if kd x1 = 12 then (q_bi (q_E (25, 0, [vr x1, vi x2], []) (qk t u I J)) fun z M1 => q_E (82, 28, [vr 244, vr x1, vi x2, vu, vu, vu], [vi z]) M1) else none) else some (vu, (qk t u I J))) else none) := q_it_eq 400 [6, 15, 28, 33, 47] _ _
set_option maxRecDepth 20000 in
theorem e82_33 (t u : Nat) (I J : Nat → Nat → Int) (x1 : Nat) (x2 : Int) (x3 : Int) (x4 : Int) : q_E (82, 33, [vr 244, vr x1, vi x2, vi x3, vi x4, vu], []) (qk t u I J) = (if x4 < x3 then q_E (82, 15, [vr 244, vr x1, vi (wr (x2 + 1)), vu, vu, vu], []) (qk t u I J) else (q_bi (q_E (75, 0, [vr 244, vi (wr (x4 - x3))], []) (qk t u I J)) fun z M1 => q_E (82, 47, [vr 244, vr x1, vi x2, vi x3, vi x4, vu], [vi z]) M1)) := q_it_eq 400 [6, 15, 28, 33, 47] _ _
set_option maxRecDepth 20000 in
theorem e82_6 (t u : Nat) (I J : Nat → Nat → Int) (x1 : Nat) : q_E (82, 6, [vr 244, vr x1, vu, vu, vu, vu], []) (qk t u I J) = q_E (82, 15, [vr 244, vr x1, vi 0, vu, vu, vu], []) (qk t u (uI I 245 0 0) J) := q_it_eq 400 [6, 15, 28, 33, 47] _ _
set_option maxRecDepth 20000 in
theorem e82_28 (t u : Nat) (I J : Nat → Nat → Int) (x1 : Nat) (x2 : Int) (y0 : Int) : q_E (82, 28, [vr 244, vr x1, vi x2, vu, vu, vu], [vi y0]) (qk t u I J) = q_E (82, 33, [vr 244, vr x1, vi x2, vi y0, vi 60, vu], []) (qk t u I J) := q_it_eq 400 [6, 15, 28, 33, 47] _ _
set_option maxRecDepth 20000 in
theorem e82_47 (t u : Nat) (I J : Nat → Nat → Int) (x1 : Nat) (x2 : Int) (x3 : Int) (x4 : Int) (y0 : Int) : q_E (82, 47, [vr 244, vr x1, vi x2, vi x3, vi x4, vu], [vi y0]) (qk t u I J) = (if y0 = (-2) then q_E (82, 33, [vr 244, vr x1, vi x2, vi x3, vi (wr (x4 + (-1))), vu], []) (qk t u I J) else (if (0 : Int) ≤ x4 ∧ x4 < 61 then (if I 245 (Int.toNat x4) = (-2) then (if (0 : Int) ≤ x4 ∧ x4 < 61 then q_E (82, 33, [vr 244, vr x1, vi x2, vi x3, vi (wr (x4 + (-1))), vu], []) (qk t u (uI I 245 (Int.toNat x4) (wr (y0 + 1))) J) else none) else (if (0 : Int) ≤ x4 ∧ x4 < 61 then (if wr (y0 + 1) < I 245 (Int.toNat x4) then (if (0 : Int) ≤ x4 ∧ x4 < 61 then q_E (82, 33, [vr 244, vr x1, vi x2, vi x3, vi (wr (x4 + (-1))), vu], []) (qk t u (uI I 245 (Int.toNat x4) (wr (y0 + 1))) J) else none) else q_E (82, 33, [vr 244, vr x1, vi x2, vi x3, vi (wr (x4 + (-1))), vu], []) (qk t u I J)) else none)) else none)) := q_it_eq 400 [6, 15, 28, 33, 47] _ _

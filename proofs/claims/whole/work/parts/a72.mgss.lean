/-! the model goes through the sets -/
section
variable {t u : Nat} {I J : Nat → Nat → Int} {S : St}

def bsP (T : Tt) (set c i : Nat) : List Nat := (tB T c).1 ++ if upl T c < i ∧ bt set (upl T c) = 1 then [tUs T (upl T c)] else []
theorem upl_u {T : Tt} (ok : TOk T) {c i : Nat} (hi : i < tU T) (h : tUc T i = c) : upl T c = i := by
  obtain ⟨o1, o2, o3, o4, o5, o6, o7, o8, o9, o10, o11, o12⟩ := ok
  exact fsti_eq (by omega) (fun j hj => decide_eq_false (fun z => o10 j i hj hi (z.trans h.symm))) (fun _ => decide_eq_true h)
theorem bsP_0 (T : Tt) (set c : Nat) : bsP T set c 0 = (tB T c).1 := by
  unfold bsP
  rw [if_neg (fun z => by omega), List.append_nil]
theorem bsP_y {T : Tt} (ok : TOk T) {set c i : Nat} (hi : i < tU T) (h1 : tUc T i = c) (h2 : bt set i = 1) : bsP T set c i = (tB T c).1 ∧ bsP T set c (i + 1) = (tB T c).1 ++ [tUs T i] := by
  have e := upl_u ok hi h1
  unfold bsP
  rw [e, if_neg (fun z => by omega), if_pos ⟨by omega, h2⟩, List.append_nil]
  exact ⟨rfl, rfl⟩
theorem bsP_n {T : Tt} {set c i : Nat} (hi : i < tU T) (h : ¬ (tUc T i = c ∧ bt set i = 1)) : bsP T set c (i + 1) = bsP T set c i := by
  unfold bsP
  congr 1
  by_cases q : upl T c = i
  · have t : decide (tUc T (upl T c) = c) = true := fsti_t (tU T) (fun u => decide (tUc T u = c)) (by show upl T c < tU T; omega)
    have t := of_decide_eq_true t
    rw [q] at t ⊢
    rw [if_neg (fun z => h ⟨t, z.2⟩), if_neg (fun z => by omega)]
  · by_cases z : upl T c < i ∧ bt set (upl T c) = 1
    · rw [if_pos z, if_pos ⟨by omega, z.2⟩]
    · rw [if_neg z, if_neg (fun w => z ⟨by omega, w.2⟩)]
theorem bsP_e {T : Tt} (ok : TOk T) {set c : Nat} : (bsP T set c (tU T)).Perm (if mor T set c = 0 then tB T c else (ins (mor T set c) (tB T c).1, 0)).1 ∧ PS (bsP T set c (tU T)) ∧ mor T set c ≤ 9 := by
  obtain ⟨o1, o2, o3, o4, o5, o6, o7, o8, o9, o10, o11, o12⟩ := ok
  have p := (o6 c).2.1
  unfold bsP mor
  by_cases q : upl T c < tU T ∧ bt set (upl T c) = 1
  · have w := o9 _ q.1
    rw [if_pos q, if_pos q, if_neg (by omega)]
    refine ⟨(List.perm_append_comm (l₂ := [_])).trans (ins_perm _ _).symm, fun a ha => ?_, w.2.2⟩
    rcases List.mem_append.mp ha with z | z
    · exact p a z
    · rw [List.mem_singleton.mp z]; omega
  · rw [if_neg q, if_neg q, if_pos rfl, List.append_nil]
    exact ⟨List.Perm.refl _, p, by omega⟩
theorem m_has {s v : Nat} (hs : s < 16) (hv : v < 4) : q_E (181, 0, [vi (s : Int), vi (v : Int)], []) (qk t u I J) = some (vi (bt s v : Int), qk t u I J) := by
  rcases bt_01 s v with q | q
  · simp (disch := omega) only [↓reduceIte, lt_TI, lt_FI, le_TI, le_FI, eq_TI, eq_FI, lt_TN, lt_FN, le_TN, le_FN, eq_TN, eq_FN, and_self, and_true, true_and, and_false, false_and, or_true, true_or, or_false, false_or, not_true_eq_false, not_false_eq_true, wr_of, uI_at, uC_at, q_bi_s, q_bl_s, q_br_s, q_bv_s, Int.toNat_natCast, tn_1, tn_m, tn_n, Int.toNat_zero, Int.toNat_one, e181_0, b_bit s hs v hv, q, Int.natCast_zero]
  · simp (disch := omega) only [↓reduceIte, lt_TI, lt_FI, le_TI, le_FI, eq_TI, eq_FI, lt_TN, lt_FN, le_TN, le_FN, eq_TN, eq_FN, and_self, and_true, true_and, and_false, false_and, or_true, true_or, or_false, false_or, not_true_eq_false, not_false_eq_true, wr_of, uI_at, uC_at, q_bi_s, q_bl_s, q_br_s, q_bv_s, Int.toNat_natCast, tn_1, tn_m, tn_n, Int.toNat_zero, Int.toNat_one, e181_0, b_bit s hs v hv, q, Int.natCast_one]
/-- one more heap, if there was one -/
theorem m_wb1 {T : Tt} (ok : TOk T) (H : MT I T) {set k : Nat} (hs : set < 16) (hk : k < tE T) : ∀ (r i : Nat) (I1 : Nat → Nat → Int), i + r = tU T → FrA 275 0 61 I I1 → LA I1 275 0 (bsP T set (tEc T k) i) → ∃ I', q_E (268, 45, [vr 265, vi (set : Int), vi (k : Int), vi (tEc T k : Int), vi (i : Int)], []) (qk t u I1 J) = q_E (268, 120, [vr 265, vi (set : Int), vi (k : Int), vi (tEc T k : Int), vi 0], []) (qk t u I' J) ∧ FrA 275 0 61 I I' ∧ LA I' 275 0 (if mor T set (tEc T k) = 0 then tB T (tEc T k) else (ins (mor T set (tEc T k)) (tB T (tEc T k)).1, 0)).1 ∧ I' 275 60 = I1 275 60 := by
  obtain ⟨o1, o2, o3, o4, o5, o6, o7, o8, o9, o10, o11, o12⟩ := id ok
  have ck := o12 k hk
  have bt' := o6 (tEc T k)
  have bl := len_sum bt'.2.1
  intro r
  induction r with
  | zero =>
    intro i I1 hi F L
    have e : i = tU T := by omega
    subst e
    have m3 := H.2.2.2.1
    have f8 := FrA_o (b := 268) F (by omega)
    rw [← f8] at m3
    obtain ⟨w1, w2, w3⟩ := bsP_e ok (set := set) (c := tEc T k)
    have ho := bx_ok ok (tEc T k) (mor T set (tEc T k)) w3
    obtain ⟨h1, h2, h3⟩ := ho
    have sm := w1.sum_nat
    have ll := len_sum w2
    obtain ⟨I2, x1, x2, x3⟩ := c_sortOf (t := t) (u := u) (J := J) A275 (p := 0) (by omega) L (by omega) (fun j => by have := gD_sum (l := bsP T set (tEc T k) (tU T)) j; omega) h1 h2 (by rw [pos_id w2]; exact w1.symm)
    rw [Int.natCast_zero] at x1
    refine ⟨I2, ?_, FrA_tr F x3 (by omega) (by omega) (by omega) (by omega), x2, x3 275 60 (fun z => by omega)⟩
    rw [e268_45]
    simp (disch := omega) only [↓reduceIte, lt_TI, lt_FI, le_TI, le_FI, eq_TI, eq_FI, lt_TN, lt_FN, le_TN, le_FN, eq_TN, eq_FN, and_self, and_true, true_and, and_false, false_and, or_true, true_or, or_false, false_or, not_true_eq_false, not_false_eq_true, wr_of, uI_at, uC_at, q_bi_s, q_bl_s, q_br_s, q_bv_s, Int.toNat_natCast, tn_1, tn_m, tn_n, Int.toNat_zero, Int.toNat_one, m3, x1]
    rw [e268_117]
  | succ r ih =>
    intro i I1 hi F L
    have m3 := H.2.2.2.1
    have f8 := FrA_o (b := 268) F (by omega)
    have mu := H.2.2.2.2.2.2.1 i (by omega)
    rw [← f8] at m3 mu
    obtain ⟨mu1, mu2⟩ := mu
    have oi := o9 i (by omega)
    have t1 : (9 + 2 * (i : Int)).toNat = 9 + 2 * i := by omega
    have t2 : (9 + 2 * (i : Int) + 1).toNat = 9 + 2 * i + 1 := by omega
    rw [e268_45]
    simp (disch := omega) only [↓reduceIte, lt_TI, lt_FI, le_TI, le_FI, eq_TI, eq_FI, lt_TN, lt_FN, le_TN, le_FN, eq_TN, eq_FN, and_self, and_true, true_and, and_false, false_and, or_true, true_or, or_false, false_or, not_true_eq_false, not_false_eq_true, wr_of, uI_at, uC_at, q_bi_s, q_bl_s, q_br_s, q_bv_s, Int.toNat_natCast, tn_1, tn_m, tn_n, Int.toNat_zero, Int.toNat_one, m3, m_has hs (show i < 4 by omega)]
    rw [e268_62]
    by_cases q : bt set i = 1
    · rw [q]
      by_cases y : tUc T i = tEc T k
      · obtain ⟨y1, y2⟩ := bsP_y ok (show i < tU T by omega) y q
        rw [y1] at L
        obtain ⟨I2, x1, x2, x3⟩ := c_layOn (t := t) (u := u) (J := J) A275 (p := 0) (by omega) L bt'.2.1 (by omega) (z := tUs T i) (by omega) (by omega)
        rw [Int.natCast_zero] at x1
        obtain ⟨I3, z1, z2, z3, z4⟩ := ih (i + 1) I2 (by omega) (FrA_tr F x3 (by omega) (by omega) (by omega) (by omega)) (by rw [y2]; exact x2)
        refine ⟨I3, ?_, z2, z3, z4.trans (x3 275 60 (fun z => by omega))⟩
        simp (disch := omega) only [↓reduceIte, lt_TI, lt_FI, le_TI, le_FI, eq_TI, eq_FI, lt_TN, lt_FN, le_TN, le_FN, eq_TN, eq_FN, and_self, and_true, true_and, and_false, false_and, or_true, true_or, or_false, false_or, not_true_eq_false, not_false_eq_true, wr_of, uI_at, uC_at, q_bi_s, q_bl_s, q_br_s, q_bv_s, Int.toNat_natCast, tn_1, tn_m, tn_n, Int.toNat_zero, Int.toNat_one, Int.natCast_one, t1, mu1, t2, mu2, x1]
        rw [e268_103]
        simp (disch := omega) only [↓reduceIte, lt_TI, lt_FI, le_TI, le_FI, eq_TI, eq_FI, lt_TN, lt_FN, le_TN, le_FN, eq_TN, eq_FN, and_self, and_true, true_and, and_false, false_and, or_true, true_or, or_false, false_or, not_true_eq_false, not_false_eq_true, wr_of, uI_at, uC_at, q_bi_s, q_bl_s, q_br_s, q_bv_s, Int.toNat_natCast, tn_1, tn_m, tn_n, Int.toNat_zero, Int.toNat_one]
        exact z1
      · obtain ⟨I3, z1, z2, z3, z4⟩ := ih (i + 1) I1 (by omega) F (by rw [bsP_n (show i < tU T by omega) (fun w => y w.1)]; exact L)
        refine ⟨I3, ?_, z2, z3, z4⟩
        simp (disch := omega) only [↓reduceIte, lt_TI, lt_FI, le_TI, le_FI, eq_TI, eq_FI, lt_TN, lt_FN, le_TN, le_FN, eq_TN, eq_FN, and_self, and_true, true_and, and_false, false_and, or_true, true_or, or_false, false_or, not_true_eq_false, not_false_eq_true, wr_of, uI_at, uC_at, q_bi_s, q_bl_s, q_br_s, q_bv_s, Int.toNat_natCast, tn_1, tn_m, tn_n, Int.toNat_zero, Int.toNat_one, Int.natCast_one, t1, mu1]
        rw [e268_103]
        simp (disch := omega) only [↓reduceIte, lt_TI, lt_FI, le_TI, le_FI, eq_TI, eq_FI, lt_TN, lt_FN, le_TN, le_FN, eq_TN, eq_FN, and_self, and_true, true_and, and_false, false_and, or_true, true_or, or_false, false_or, not_true_eq_false, not_false_eq_true, wr_of, uI_at, uC_at, q_bi_s, q_bl_s, q_br_s, q_bv_s, Int.toNat_natCast, tn_1, tn_m, tn_n, Int.toNat_zero, Int.toNat_one]
        exact z1
    · have b0 : bt set i = 0 := (bt_01 set i).resolve_right q
      obtain ⟨I3, z1, z2, z3, z4⟩ := ih (i + 1) I1 (by omega) F (by rw [bsP_n (show i < tU T by omega) (fun w => q w.2)]; exact L)
      refine ⟨I3, ?_, z2, z3, z4⟩
      rw [b0]
      simp (disch := omega) only [↓reduceIte, lt_TI, lt_FI, le_TI, le_FI, eq_TI, eq_FI, lt_TN, lt_FN, le_TN, le_FN, eq_TN, eq_FN, and_self, and_true, true_and, and_false, false_and, or_true, true_or, or_false, false_or, not_true_eq_false, not_false_eq_true, wr_of, uI_at, uC_at, q_bi_s, q_bl_s, q_br_s, q_bv_s, Int.toNat_natCast, tn_1, tn_m, tn_n, Int.toNat_zero, Int.toNat_one, Int.natCast_zero]
      rw [e268_103]
      simp (disch := omega) only [↓reduceIte, lt_TI, lt_FI, le_TI, le_FI, eq_TI, eq_FI, lt_TN, lt_FN, le_TN, le_FN, eq_TN, eq_FN, and_self, and_true, true_and, and_false, false_and, or_true, true_or, or_false, false_or, not_true_eq_false, not_false_eq_true, wr_of, uI_at, uC_at, q_bi_s, q_bl_s, q_br_s, q_bv_s, Int.toNat_natCast, tn_1, tn_m, tn_n, Int.toNat_zero, Int.toNat_one]
      exact z1
def bx (T : Tt) (set c : Nat) : Hp := if mor T set c = 0 then tB T c else (ins (mor T set c) (tB T c).1, 0)
theorem bx_2 {T : Tt} (ok : TOk T) {set c : Nat} : (bx T set c).2 = 0 := by
  obtain ⟨o1, o2, o3, o4, o5, o6, o7, o8, o9, o10, o11, o12⟩ := ok
  unfold bx
  split
  · exact (o6 c).2.2.2
  · rfl
theorem m_wb2 {T : Tt} (ok : TOk T) (H : MT I T) {set k : Nat} (hk : k < tE T) : ∀ (r n : Nat) (I1 : Nat → Nat → Int), n + r = tEn T k → FrA 275 0 61 I I1 → mRw I1 275 0 (nti (tL T (tEc T k)) (tH T) n (bx T set (tEc T k))) → ∃ I', q_E (268, 120, [vr 265, vi (set : Int), vi (k : Int), vi (tEc T k : Int), vi (n : Int)], []) (qk t u I1 J) = (if so T k (mor T set (tEc T k)) = true then q_E (268, 2, [vr 265, vi (set : Int), vi ((k : Int) + 1), vu, vu], []) (qk t u I' J) else some (vi (k : Int), qk t u I' J)) ∧ FrA 275 0 61 I I' := by
  obtain ⟨o1, o2, o3, o4, o5, o6, o7, o8, o9, o10, o11, o12⟩ := id ok
  have ck := o12 k hk
  have ho := bx_ok ok (tEc T k) (mor T set (tEc T k)) (bsP_e ok (set := set) (c := tEc T k)).2.2
  have law := o5 _ ck.1
  have t1 : (17 + 3 * (k : Int) + 1).toNat = 17 + 3 * k + 1 := by omega
  have t2 : (17 + 3 * (k : Int) + 2).toNat = 17 + 3 * k + 2 := by omega
  intro r
  induction r with
  | zero =>
    intro n I1 hn F R
    have f8 := FrA_o (b := 268) F (by omega)
    have mk := H.2.2.2.2.2.2.2 k hk
    rw [← f8] at mk
    obtain ⟨mk1, mk2, mk3⟩ := mk
    have hx := nti_ok (law := tL T (tEc T k)) o1 ho n
    have hl := HOk_len hx
    have cm := c_manyOf (t := t) (u := u) (J := J) A275 (p := 0) (by omega) R.1 hx.2.1 hl
    rw [Int.natCast_zero] at cm
    refine ⟨I1, ?_, F⟩
    rw [e268_120]
    simp (disch := omega) only [↓reduceIte, lt_TI, lt_FI, le_TI, le_FI, eq_TI, eq_FI, lt_TN, lt_FN, le_TN, le_FN, eq_TN, eq_FN, and_self, and_true, true_and, and_false, false_and, or_true, true_or, or_false, false_or, not_true_eq_false, not_false_eq_true, wr_of, uI_at, uC_at, q_bi_s, q_bl_s, q_br_s, q_bv_s, Int.toNat_natCast, tn_1, tn_m, tn_n, Int.toNat_zero, Int.toNat_one, t1, mk2]
    unfold bx at cm
    simp (disch := omega) only [↓reduceIte, lt_TI, lt_FI, le_TI, le_FI, eq_TI, eq_FI, lt_TN, lt_FN, le_TN, le_FN, eq_TN, eq_FN, and_self, and_true, true_and, and_false, false_and, or_true, true_or, or_false, false_or, not_true_eq_false, not_false_eq_true, wr_of, uI_at, uC_at, q_bi_s, q_bl_s, q_br_s, q_bv_s, Int.toNat_natCast, tn_1, tn_m, tn_n, Int.toNat_zero, Int.toNat_one, cm]
    rw [e268_169]
    simp (disch := omega) only [↓reduceIte, lt_TI, lt_FI, le_TI, le_FI, eq_TI, eq_FI, lt_TN, lt_FN, le_TN, le_FN, eq_TN, eq_FN, and_self, and_true, true_and, and_false, false_and, or_true, true_or, or_false, false_or, not_true_eq_false, not_false_eq_true, wr_of, uI_at, uC_at, q_bi_s, q_bl_s, q_br_s, q_bv_s, Int.toNat_natCast, tn_1, tn_m, tn_n, Int.toNat_zero, Int.toNat_one, t2, mk3]
    have en : n = tEn T k := by omega
    subst en
    unfold so
    by_cases q : (nti (tL T (tEc T k)) (tH T) (tEn T k) (if mor T set (tEc T k) = 0 then tB T (tEc T k) else (ins (mor T set (tEc T k)) (tB T (tEc T k)).1, 0))).1.length = tEh T k
    · rw [if_pos (decide_eq_true q)]
      simp (disch := omega) only [↓reduceIte, lt_TI, lt_FI, le_TI, le_FI, eq_TI, eq_FI, lt_TN, lt_FN, le_TN, le_FN, eq_TN, eq_FN, and_self, and_true, true_and, and_false, false_and, or_true, true_or, or_false, false_or, not_true_eq_false, not_false_eq_true, wr_of, uI_at, uC_at, q_bi_s, q_bl_s, q_br_s, q_bv_s, Int.toNat_natCast, tn_1, tn_m, tn_n, Int.toNat_zero, Int.toNat_one, q]
    · rw [if_neg (fun z => q (of_decide_eq_true z))]
      simp (disch := omega) only [↓reduceIte, lt_TI, lt_FI, le_TI, le_FI, eq_TI, eq_FI, lt_TN, lt_FN, le_TN, le_FN, eq_TN, eq_FN, and_self, and_true, true_and, and_false, false_and, or_true, true_or, or_false, false_or, not_true_eq_false, not_false_eq_true, wr_of, uI_at, uC_at, q_bi_s, q_bl_s, q_br_s, q_bv_s, Int.toNat_natCast, tn_1, tn_m, tn_n, Int.toNat_zero, Int.toNat_one]
  | succ r ih =>
    intro n I1 hn F R
    have f8 := FrA_o (b := 268) F (by omega)
    have mk := H.2.2.2.2.2.2.2 k hk
    have ml := H.2.2.2.2.2.1 _ ck.1
    have m0 := H.1
    rw [← f8] at mk ml m0
    obtain ⟨mk1, mk2, mk3⟩ := mk
    have hx := nti_ok (law := tL T (tEc T k)) o1 ho n
    obtain ⟨I2, x1, x2, x3⟩ := c_nightOf (t := t) (u := u) (J := J) A275 (p := 0) (by omega) (by omega) R hx o1 o2 law m0
    rw [Int.natCast_zero] at x1
    obtain ⟨I3, y1, y2⟩ := ih (n + 1) I2 (by omega) (FrA_tr F x3 (by omega) (by omega) (by omega) (by omega)) x2
    refine ⟨I3, ?_, y2⟩
    rw [← y1, e268_120]
    simp (disch := omega) only [↓reduceIte, lt_TI, lt_FI, le_TI, le_FI, eq_TI, eq_FI, lt_TN, lt_FN, le_TN, le_FN, eq_TN, eq_FN, and_self, and_true, true_and, and_false, false_and, or_true, true_or, or_false, false_or, not_true_eq_false, not_false_eq_true, wr_of, uI_at, uC_at, q_bi_s, q_bl_s, q_br_s, q_bv_s, Int.toNat_natCast, tn_1, tn_m, tn_n, Int.toNat_zero, Int.toNat_one, t1, mk2, tn_5, ml, x1]
    rw [e268_155]
    simp (disch := omega) only [↓reduceIte, lt_TI, lt_FI, le_TI, le_FI, eq_TI, eq_FI, lt_TN, lt_FN, le_TN, le_FN, eq_TN, eq_FN, and_self, and_true, true_and, and_false, false_and, or_true, true_or, or_false, false_or, not_true_eq_false, not_false_eq_true, wr_of, uI_at, uC_at, q_bi_s, q_bl_s, q_br_s, q_bv_s, Int.toNat_natCast, tn_1, tn_m, tn_n, Int.toNat_zero, Int.toNat_one]
    rfl
theorem m_wrongBy {T : Tt} (ok : TOk T) (H : MT I T) (B : SnA I 270 0 (tB T, 0)) {set : Nat} (hs : set < 16) : ∃ I', q_E (268, 0, [vr 265, vi (set : Int), vu, vu, vu], []) (qk t u I J) = some (vi (fint (fun s => !so T s (mor T set (tEc T s))) (tE T)), qk t u I' J) ∧ FrA 275 0 61 I I' := by
  obtain ⟨o1, o2, o3, o4, o5, o6, o7, o8, o9, o10, o11, o12⟩ := id ok
  have loop : ∀ (r k : Nat) (I1 : Nat → Nat → Int), k + r = tE T → FrA 275 0 61 I I1 → (∀ a, a < k → so T a (mor T set (tEc T a)) = true) → ∃ I', q_E (268, 2, [vr 265, vi (set : Int), vi (k : Int), vu, vu], []) (qk t u I1 J) = some (vi (fint (fun s => !so T s (mor T set (tEc T s))) (tE T)), qk t u I' J) ∧ FrA 275 0 61 I I' := by
    intro r
    induction r with
    | zero =>
      intro k I1 hk F h
      have f8 := FrA_o (b := 268) F (by omega)
      have m4 := H.2.2.2.2.1
      rw [← f8] at m4
      have e : fsti (fun s => !so T s (mor T set (tEc T s))) (tE T) = tE T := fsti_eq (Nat.le_refl _) (fun a ha => by show (!so T a _) = false; rw [h a (by omega)]; rfl) (fun z => by omega)
      unfold fint
      rw [e, if_neg (Nat.lt_irrefl _), e268_2]
      simp (disch := omega) only [↓reduceIte, lt_TI, lt_FI, le_TI, le_FI, eq_TI, eq_FI, lt_TN, lt_FN, le_TN, le_FN, eq_TN, eq_FN, and_self, and_true, true_and, and_false, false_and, or_true, true_or, or_false, false_or, not_true_eq_false, not_false_eq_true, wr_of, uI_at, uC_at, q_bi_s, q_bl_s, q_br_s, q_bv_s, Int.toNat_natCast, tn_1, tn_m, tn_n, Int.toNat_zero, Int.toNat_one, m4]
      exact ⟨I1, rfl, F⟩
    | succ r ih =>
      intro k I1 hk F h
      have f8 := FrA_o (b := 268) F (by omega)
      have f0 := FrA_o (b := 270) F (by omega)
      have m4 := H.2.2.2.2.1
      have mk := H.2.2.2.2.2.2.2 k (by omega)
      have B1 := SnA_rw B f0
      rw [← f8] at m4 mk
      obtain ⟨mk1, mk2, mk3⟩ := mk
      have ck := o12 k (by omega)
      have rw4 := B1.1 (tEc T k) (by omega)
      rw [Nat.zero_add] at rw4
      obtain ⟨I2, x1, x2, x3⟩ := c_mcopy (t := t) (u := u) (I := I1) (J := J) (p := 61 * tEc T k) (s := 0) (n := 61) A270 A275 (by omega) (by omega) (by omega)
      rw [c_61, Int.natCast_zero, show ((61 : Nat) : Int) = 61 from rfl] at x1
      have L2 : LA I2 275 0 (bsP T set (tEc T k) 0) := fun i hi => by
        rw [bsP_0, x2 i (by omega)]; exact rw4.1 i hi
      have F2 : FrA 275 0 61 I I2 := FrA_tr F x3 (by omega) (by omega) (by omega) (by omega)
      obtain ⟨I3, y1, y2, y3, y4⟩ := m_wb1 (t := t) (u := u) (J := J) ok H hs (show k < tE T by omega) (tU T) 0 I2 (by omega) F2 L2
      have hh : I3 275 (0 + 60) = ((bx T set (tEc T k)).2 : Int) := by
        rw [Nat.zero_add, y4, x2 60 (by omega), bx_2 ok]
        have := rw4.2
        rw [this]
        exact congrArg _ (o6 (tEc T k)).2.2.2
      obtain ⟨I4, z1, z2⟩ := m_wb2 (t := t) (u := u) (J := J) (set := set) ok H (show k < tE T by omega) (tEn T k) 0 I3 (by omega) y2 ⟨y3, hh⟩
      rw [Int.natCast_zero] at y1 z1
      have t0 : (17 + 3 * (k : Int)).toNat = 17 + 3 * k := by omega
      rw [e268_2]
      simp (disch := omega) only [↓reduceIte, lt_TI, lt_FI, le_TI, le_FI, eq_TI, eq_FI, lt_TN, lt_FN, le_TN, le_FN, eq_TN, eq_FN, and_self, and_true, true_and, and_false, false_and, or_true, true_or, or_false, false_or, not_true_eq_false, not_false_eq_true, wr_of, uI_at, uC_at, q_bi_s, q_bl_s, q_br_s, q_bv_s, Int.toNat_natCast, tn_1, tn_m, tn_n, Int.toNat_zero, Int.toNat_one, m4, t0, mk1, x1]
      rw [e268_42, y1, z1]
      cases hso : so T k (mor T set (tEc T k)) with
      | true =>
        rw [if_pos rfl]
        exact ih (k + 1) I4 (by omega) z2 (fun a ha => by
          by_cases q : a = k
          · rw [q]; exact hso
          · exact h a (by omega))
      | false =>
        rw [if_neg (by decide)]
        have e : fsti (fun s => !so T s (mor T set (tEc T s))) (tE T) = k := fsti_eq (by omega) (fun a ha => by show (!so T a _) = false; rw [h a ha]; rfl) (fun _ => by show (!so T k _) = true; rw [hso]; rfl)
        unfold fint
        rw [e, if_pos (show k < tE T by omega)]
        exact ⟨I4, rfl, z2⟩
  obtain ⟨I2, x1, x2⟩ := loop (tE T) 0 I (by omega) FrA_rf (fun a ha => by omega)
  rw [Int.natCast_zero] at x1
  rw [e268_0]
  exact ⟨I2, x1, x2⟩
theorem fint_2 {p : Nat → Bool} {n : Nat} : fint p n = -2 ↔ ∀ i, i < n → p i = false := by
  unfold fint
  constructor
  · intro h i hi
    by_cases q : fsti p n < n
    · rw [if_pos q] at h; omega
    · exact fsti_f n p i (by omega)
  · intro h
    rw [if_neg (fun q => by have := fsti_t n p q; rw [h _ q] at this; exact absurd this (by decide))]
abbrev soP (T : Tt) (set : Nat) : Bool := (List.range (tE T)).all (fun s => so T s (mor T set (tEc T s)))
theorem wb_so (T : Tt) (set : Nat) : fint (fun s => !so T s (mor T set (tEc T s))) (tE T) = -2 ↔ soP T set = true := by
  rw [fint_2, List.all_eq_true]
  constructor
  · intro h s hs
    have := h s (List.mem_range.mp hs)
    cases hq : so T s (mor T set (tEc T s)) with
    | true => rfl
    | false => rw [hq] at this; exact absurd this (by decide)
  · intro h s hs
    rw [h s (List.mem_range.mpr hs)]; rfl
theorem b_an : ∀ n : Nat, n < 5 → ∀ f : Nat, f < 16 → f < 2 ^ n → (2 ^ n - 1) &&& f = f := by decide +kernel
def andL (n : Nat) (F : List Nat) : Nat := F.foldl (fun a b => a &&& b) (2 ^ n - 1)
theorem andL_e {n : Nat} (hn : n < 5) {F : List Nat} (hF : F ≠ []) (h : ∀ f ∈ F, f < 2 ^ n) (h16 : ∀ f ∈ F, f < 16) : andL n F = allL F := by
  cases F with
  | nil => exact absurd rfl hF
  | cons a l =>
    unfold andL allL
    rw [List.foldl_cons, b_an n hn a (h16 a (List.mem_cons_self)) (h a (List.mem_cons_self))]
    rfl
theorem fold_or16 : ∀ (F : List Nat) (a : Nat), a < 16 → (∀ f ∈ F, f < 16) → F.foldl (fun a b => a ||| b) a < 16
  | [], a, h, _ => h
  | f :: F, a, h, hf => fold_or16 F (a ||| f) (b_or16 a h f (hf f List.mem_cons_self)) (fun g hg => hf g (List.mem_cons_of_mem _ hg))
theorem fold_and16 : ∀ (F : List Nat) (a : Nat), a < 16 → (∀ f ∈ F, f < 16) → F.foldl (fun a b => a &&& b) a < 16
  | [], a, h, _ => h
  | f :: F, a, h, hf => fold_and16 F (a &&& f) (b_and16 a h f (hf f List.mem_cons_self)) (fun g hg => hf g (List.mem_cons_of_mem _ hg))
def fndI (w : Int) (F : List Nat) : Int := if 0 ≤ w ∧ w < (F.length : Int) then (F.getD w.toNat 0 : Int) else -1
/-- of the sets gone through: how many fit, in some, in all, how often -/
def SkA (I : Nat → Nat → Int) (n : Nat) (F : List Nat) : Prop := I 265 35 = (F.length : Int) ∧ I 265 36 = (someL F : Int) ∧ I 265 37 = (andL n F : Int) ∧ ∀ v, v < n → I 282 v = (wth F v : Int)
theorem m_seek {T : Tt} (ok : TOk T) (H : MT I T) (B : SnA I 270 0 (tB T, 0)) (w : Int) : ∃ I', q_E (269, 0, [vr 265, vi w, vu, vu, vu], []) (qk t u I J) = some (vi (fndI w (fitL T)), qk t u I' J) ∧ QF I I' ∧ I' 265 35 = ((fitL T).length : Int) ∧ I' 265 36 = (someL (fitL T) : Int) ∧ I' 265 37 = (allL (fitL T) : Int) ∧ ∀ v, v < tU T → I' 282 v = (wth (fitL T) v : Int) := by
  obtain ⟨o1, o2, o3, o4, o5, o6, o7, o8, o9, o10, o11, o12⟩ := id ok
  have p16 := pow_le_16 o8
  have shl := b_shl (tU T) (by omega)
  have H3 := H.2.2.2.1
  have fr : ∀ i, ((List.range i).filter (soP T)).length ≤ i := fr_len (soP T)
  have lt2 : ∀ i f, f ∈ (List.range i).filter (soP T) → f < i := fun i f hf => List.mem_range.mp (List.mem_filter.mp hf).1
  have z0 : ∃ I1, q_E (269, 28, [vr 265, vi w, vi (-1), vi 0, vu], []) (qk t u (uI (uI (uI I 265 35 0) 265 36 0) 265 37 (((2 ^ tU T - 1 : Nat)) : Int)) J) = q_E (269, 48, [vr 265, vi w, vi (-1), vi 0, vu], []) (qk t u I1 J) ∧ QF I I1 ∧ SkA I1 (tU T) [] := by
    refine ⟨uI (uI (uI (uI (uI (uI (uI I 265 35 0) 265 36 0) 265 37 (((2 ^ tU T - 1 : Nat)) : Int)) 282 0 0) 282 1 0) 282 2 0) 282 3 0, ?_, ?_, ?_⟩
    · rw [e269_28]; simp (disch := omega) only [↓reduceIte, lt_TI, lt_FI, le_TI, le_FI, eq_TI, eq_FI, lt_TN, lt_FN, le_TN, le_FN, eq_TN, eq_FN, and_self, and_true, true_and, and_false, false_and, or_true, true_or, or_false, false_or, not_true_eq_false, not_false_eq_true, wr_of, uI_at, uC_at, q_bi_s, q_bl_s, q_br_s, q_bv_s, Int.toNat_natCast, tn_1, tn_m, tn_n, Int.toNat_zero, Int.toNat_one]
      rw [e269_28]; simp (disch := omega) only [↓reduceIte, lt_TI, lt_FI, le_TI, le_FI, eq_TI, eq_FI, lt_TN, lt_FN, le_TN, le_FN, eq_TN, eq_FN, and_self, and_true, true_and, and_false, false_and, or_true, true_or, or_false, false_or, not_true_eq_false, not_false_eq_true, wr_of, uI_at, uC_at, q_bi_s, q_bl_s, q_br_s, q_bv_s, Int.toNat_natCast, tn_1, tn_m, tn_n, Int.toNat_zero, Int.toNat_one]
      rw [e269_28]; simp (disch := omega) only [↓reduceIte, lt_TI, lt_FI, le_TI, le_FI, eq_TI, eq_FI, lt_TN, lt_FN, le_TN, le_FN, eq_TN, eq_FN, and_self, and_true, true_and, and_false, false_and, or_true, true_or, or_false, false_or, not_true_eq_false, not_false_eq_true, wr_of, uI_at, uC_at, q_bi_s, q_bl_s, q_br_s, q_bv_s, Int.toNat_natCast, tn_1, tn_m, tn_n, Int.toNat_zero, Int.toNat_one]
      rw [e269_28]; simp (disch := omega) only [↓reduceIte, lt_TI, lt_FI, le_TI, le_FI, eq_TI, eq_FI, lt_TN, lt_FN, le_TN, le_FN, eq_TN, eq_FN, and_self, and_true, true_and, and_false, false_and, or_true, true_or, or_false, false_or, not_true_eq_false, not_false_eq_true, wr_of, uI_at, uC_at, q_bi_s, q_bl_s, q_br_s, q_bv_s, Int.toNat_natCast, tn_1, tn_m, tn_n, Int.toNat_zero, Int.toNat_one]
      rw [e269_28]; simp (disch := omega) only [↓reduceIte, lt_TI, lt_FI, le_TI, le_FI, eq_TI, eq_FI, lt_TN, lt_FN, le_TN, le_FN, eq_TN, eq_FN, and_self, and_true, true_and, and_false, false_and, or_true, true_or, or_false, false_or, not_true_eq_false, not_false_eq_true, wr_of, uI_at, uC_at, q_bi_s, q_bl_s, q_br_s, q_bv_s, Int.toNat_natCast, tn_1, tn_m, tn_n, Int.toNat_zero, Int.toNat_one]
      rfl
    · exact QF_uI (QF_uI (QF_uI (QF_uI (QF_uI (QF_uI (QF_uI QF_rf (by omega)) (by omega)) (by omega)) (by omega)) (by omega)) (by omega)) (by omega)
    · refine ⟨by simp (disch := omega) only [↓reduceIte, lt_TI, lt_FI, le_TI, le_FI, eq_TI, eq_FI, lt_TN, lt_FN, le_TN, le_FN, eq_TN, eq_FN, and_self, and_true, true_and, and_false, false_and, or_true, true_or, or_false, false_or, not_true_eq_false, not_false_eq_true, wr_of, uI_at, uC_at, q_bi_s, q_bl_s, q_br_s, q_bv_s, Int.toNat_natCast, tn_1, tn_m, tn_n, Int.toNat_zero, Int.toNat_one] <;> rfl, by simp (disch := omega) only [↓reduceIte, lt_TI, lt_FI, le_TI, le_FI, eq_TI, eq_FI, lt_TN, lt_FN, le_TN, le_FN, eq_TN, eq_FN, and_self, and_true, true_and, and_false, false_and, or_true, true_or, or_false, false_or, not_true_eq_false, not_false_eq_true, wr_of, uI_at, uC_at, q_bi_s, q_bl_s, q_br_s, q_bv_s, Int.toNat_natCast, tn_1, tn_m, tn_n, Int.toNat_zero, Int.toNat_one] <;> rfl, by simp (disch := omega) only [↓reduceIte, lt_TI, lt_FI, le_TI, le_FI, eq_TI, eq_FI, lt_TN, lt_FN, le_TN, le_FN, eq_TN, eq_FN, and_self, and_true, true_and, and_false, false_and, or_true, true_or, or_false, false_or, not_true_eq_false, not_false_eq_true, wr_of, uI_at, uC_at, q_bi_s, q_bl_s, q_br_s, q_bv_s, Int.toNat_natCast, tn_1, tn_m, tn_n, Int.toNat_zero, Int.toNat_one] <;> rfl, fun v hv => ?_⟩
      have : v = 0 ∨ v = 1 ∨ v = 2 ∨ v = 3 := by omega
      rcases this with q | q | q | q <;> subst q <;> simp (disch := omega) only [↓reduceIte, lt_TI, lt_FI, le_TI, le_FI, eq_TI, eq_FI, lt_TN, lt_FN, le_TN, le_FN, eq_TN, eq_FN, and_self, and_true, true_and, and_false, false_and, or_true, true_or, or_false, false_or, not_true_eq_false, not_false_eq_true, wr_of, uI_at, uC_at, q_bi_s, q_bl_s, q_br_s, q_bv_s, Int.toNat_natCast, tn_1, tn_m, tn_n, Int.toNat_zero, Int.toNat_one] <;> rfl
  have z1 : ∀ (r v set : Nat) (f : Int) (F : List Nat) (I1 : Nat → Nat → Int), v + r = tU T → set < 16 → F.length ≤ 16 → QF I I1 → I1 265 35 = ((F ++ [set]).length : Int) → I1 265 36 = (someL (F ++ [set]) : Int) → I1 265 37 = (andL (tU T) (F ++ [set]) : Int) → (∀ a, a < v → I1 282 a = (wth (F ++ [set]) a : Int)) → (∀ a, v ≤ a → a < tU T → I1 282 a = (wth F a : Int)) → ∃ I', q_E (269, 116, [vr 265, vi w, vi f, vi (set : Int), vi (v : Int)], []) (qk t u I1 J) = q_E (269, 48, [vr 265, vi w, vi f, vi ((set : Int) + 1), vu], []) (qk t u I' J) ∧ QF I I' ∧ SkA I' (tU T) (F ++ [set]) := by
    intro r
    induction r with
    | zero =>
      intro v set f F I1 hv hs hF Q e1 e2 e3 e4 e5
      have H3 := H3
      rw [← Q.1 268 (by omega) (by omega)] at H3
      rw [e269_116]
      simp (disch := omega) only [↓reduceIte, lt_TI, lt_FI, le_TI, le_FI, eq_TI, eq_FI, lt_TN, lt_FN, le_TN, le_FN, eq_TN, eq_FN, and_self, and_true, true_and, and_false, false_and, or_true, true_or, or_false, false_or, not_true_eq_false, not_false_eq_true, wr_of, uI_at, uC_at, q_bi_s, q_bl_s, q_br_s, q_bv_s, Int.toNat_natCast, tn_1, tn_m, tn_n, Int.toNat_zero, Int.toNat_one, H3]
      exact ⟨I1, rfl, Q, e1, e2, e3, fun a ha => e4 a (by omega)⟩
    | succ r ih =>
      intro v set f F I1 hv hs hF Q e1 e2 e3 e4 e5
      have H3 := H3
      rw [← Q.1 268 (by omega) (by omega)] at H3
      have v5 := e5 v (by omega) (by omega)
      have wb : wth F v ≤ F.length := List.countP_le_length
      have b1 := b_bit set hs v (by omega)
      have bb := bt_01 set v
      obtain ⟨I2, x1, x2, x3⟩ := ih (v + 1) set f F (uI I1 282 v ((wth F v : Int) + (bt set v : Int))) (by omega) hs hF (QF_uI Q (by omega)) (by rw [uI_ne (by omega)]; exact e1) (by rw [uI_ne (by omega)]; exact e2) (by rw [uI_ne (by omega)]; exact e3) (fun a ha => by
        by_cases q : a = v
        · subst q
          rw [uI_at, if_pos ⟨rfl, rfl⟩]
          unfold wth
          rw [List.countP_append, List.countP_singleton]
          rcases bb with q | q
          · rw [q]; rfl
          · rw [q]; rfl
        · rw [uI_ne (Or.inr q)]; exact e4 a (by omega)) (fun a h1 h2 => by rw [uI_ne (by omega)]; exact e5 a (by omega) h2)
      refine ⟨I2, ?_, x2, x3⟩
      rw [← x1, e269_116]
      simp (disch := omega) only [↓reduceIte, lt_TI, lt_FI, le_TI, le_FI, eq_TI, eq_FI, lt_TN, lt_FN, le_TN, le_FN, eq_TN, eq_FN, and_self, and_true, true_and, and_false, false_and, or_true, true_or, or_false, false_or, not_true_eq_false, not_false_eq_true, wr_of, uI_at, uC_at, q_bi_s, q_bl_s, q_br_s, q_bv_s, Int.toNat_natCast, tn_1, tn_m, tn_n, Int.toNat_zero, Int.toNat_one, H3, v5, b1]
      rfl
  have z2 : ∀ (r set : Nat) (I1 : Nat → Nat → Int), set + r = 2 ^ tU T → QF I I1 → SkA I1 (tU T) ((List.range set).filter (soP T)) → ∃ I', q_E (269, 48, [vr 265, vi w, vi (fndI w ((List.range set).filter (soP T))), vi (set : Int), vu], []) (qk t u I1 J) = some (vi (fndI w (fitL T)), qk t u I' J) ∧ QF I I' ∧ I' 265 35 = ((fitL T).length : Int) ∧ I' 265 36 = (someL (fitL T) : Int) ∧ I' 265 37 = (allL (fitL T) : Int) ∧ ∀ v, v < tU T → I' 282 v = (wth (fitL T) v : Int) := by
    intro r
    induction r with
    | zero =>
      intro set I1 hr Q K
      have e : set = 2 ^ tU T := by omega
      subst e
      have H3 := H3
      rw [← Q.1 268 (by omega) (by omega)] at H3
      have ef : (List.range (2 ^ tU T)).filter (soP T) = fitL T := rfl
      rw [ef] at K ⊢
      obtain ⟨k1, k2, k3, k4⟩ := K
      rw [e269_48]
      by_cases q : fitL T = []
      · have l0 : (fitL T).length = 0 := by rw [q]; rfl
        have a0 : allL (fitL T) = 0 := by rw [q]; rfl
        simp (disch := omega) only [↓reduceIte, lt_TI, lt_FI, le_TI, le_FI, eq_TI, eq_FI, lt_TN, lt_FN, le_TN, le_FN, eq_TN, eq_FN, and_self, and_true, true_and, and_false, false_and, or_true, true_or, or_false, false_or, not_true_eq_false, not_false_eq_true, wr_of, uI_at, uC_at, q_bi_s, q_bl_s, q_br_s, q_bv_s, Int.toNat_natCast, tn_1, tn_m, tn_n, Int.toNat_zero, Int.toNat_one, H3, shl, k1, l0, Int.natCast_zero]
        refine ⟨_, rfl, QF_uI Q (by omega), ?_, ?_, ?_, fun v hv => ?_⟩
        · rw [uI_ne (by omega), k1, l0]; rfl
        · rw [uI_ne (by omega)]; exact k2
        · rw [a0]; exact if_pos ⟨rfl, rfl⟩
        · rw [uI_ne (by omega)]; exact k4 v hv
      · have l0 : 0 < (fitL T).length := by cases h : fitL T with | nil => exact absurd h q | cons a l => simp
        simp (disch := omega) only [↓reduceIte, lt_TI, lt_FI, le_TI, le_FI, eq_TI, eq_FI, lt_TN, lt_FN, le_TN, le_FN, eq_TN, eq_FN, and_self, and_true, true_and, and_false, false_and, or_true, true_or, or_false, false_or, not_true_eq_false, not_false_eq_true, wr_of, uI_at, uC_at, q_bi_s, q_bl_s, q_br_s, q_bv_s, Int.toNat_natCast, tn_1, tn_m, tn_n, Int.toNat_zero, Int.toNat_one, H3, shl, k1]
        exact ⟨I1, rfl, Q, k1, k2, by rw [k3, andL_e (by omega) q (fun f hf => fit_lt hf) (fun f hf => by have := fit_lt hf; omega)], k4⟩
    | succ r ih =>
      intro set I1 hr Q K
      have H3 := H3
      rw [← Q.1 268 (by omega) (by omega)] at H3
      obtain ⟨I2, x1, x2⟩ := m_wrongBy (t := t) (u := u) (J := J) ok (MT_rw H (Q.1 268 (by omega) (by omega))) (SnA_rw B (Q.1 270 (by omega) (by omega))) (show set < 16 by omega)
      have Q2 := QF_fr Q x2 (by omega) (by omega)
      obtain ⟨k1, k2, k3, k4⟩ := K
      have f5 := FrA_o (b := 265) x2 (by omega)
      have f2 := FrA_o (b := 282) x2 (by omega)
      rw [← f5] at k1 k2 k3
      rw [← f2] at k4
      have fl := fr set
      have f16 : ∀ f ∈ (List.range set).filter (soP T), f < 16 := fun f hf => by have := lt2 set f hf; omega
      rw [e269_48]
      simp (disch := omega) only [↓reduceIte, lt_TI, lt_FI, le_TI, le_FI, eq_TI, eq_FI, lt_TN, lt_FN, le_TN, le_FN, eq_TN, eq_FN, and_self, and_true, true_and, and_false, false_and, or_true, true_or, or_false, false_or, not_true_eq_false, not_false_eq_true, wr_of, uI_at, uC_at, q_bi_s, q_bl_s, q_br_s, q_bv_s, Int.toNat_natCast, tn_1, tn_m, tn_n, Int.toNat_zero, Int.toNat_one, H3, shl, x1]
      rw [e269_65]
      cases hp : soP T set with
      | false =>
        have e : (List.range (set + 1)).filter (soP T) = (List.range set).filter (soP T) := by rw [fr_s, hp]; simp
        have ne : ¬ fint (fun s => !so T s (mor T set (tEc T s))) (tE T) = -2 := fun z => by
          rw [(wb_so T set).mp z] at hp; cases hp
        rw [if_neg ne]
        have en := ih (set + 1) I2 (by omega) Q2 (by rw [e]; exact ⟨k1, k2, k3, k4⟩)
        rw [e] at en
        simp (disch := omega) only [↓reduceIte, lt_TI, lt_FI, le_TI, le_FI, eq_TI, eq_FI, lt_TN, lt_FN, le_TN, le_FN, eq_TN, eq_FN, and_self, and_true, true_and, and_false, false_and, or_true, true_or, or_false, false_or, not_true_eq_false, not_false_eq_true, wr_of, uI_at, uC_at, q_bi_s, q_bl_s, q_br_s, q_bv_s, Int.toNat_natCast, tn_1, tn_m, tn_n, Int.toNat_zero, Int.toNat_one]
        exact en
      | true =>
        have e : (List.range (set + 1)).filter (soP T) = (List.range set).filter (soP T) ++ [set] := by rw [fr_s, hp]; rfl
        have ye := (wb_so T set).mpr hp
        rw [if_pos ye]
        have o16 : someL ((List.range set).filter (soP T)) < 16 := fold_or16 _ 0 (by omega) f16
        have a16 : andL (tU T) ((List.range set).filter (soP T)) < 16 := fold_and16 _ _ (by omega) f16
        have bo := b_or _ o16 set (by omega)
        have ba := b_and _ a16 set (by omega)
        have go : ∀ f : Int, f = fndI w ((List.range (set + 1)).filter (soP T)) → ∃ I', q_E (269, 116, [vr 265, vi w, vi f, vi (set : Int), vi 0], []) (qk t u (uI (uI (uI I2 265 35 ((((List.range set).filter (soP T)).length : Int) + 1)) 265 36 ((someL ((List.range set).filter (soP T)) ||| set : Nat) : Int)) 265 37 ((andL (tU T) ((List.range set).filter (soP T)) &&& set : Nat) : Int)) J) = some (vi (fndI w (fitL T)), qk t u I' J) ∧ QF I I' ∧ I' 265 35 = ((fitL T).length : Int) ∧ I' 265 36 = (someL (fitL T) : Int) ∧ I' 265 37 = (allL (fitL T) : Int) ∧ ∀ v, v < tU T → I' 282 v = (wth (fitL T) v : Int) := by
          intro f hf
          obtain ⟨I3, y1, y2, y3⟩ := z1 (tU T) 0 set f ((List.range set).filter (soP T)) (uI (uI (uI I2 265 35 ((((List.range set).filter (soP T)).length : Int) + 1)) 265 36 ((someL ((List.range set).filter (soP T)) ||| set : Nat) : Int)) 265 37 ((andL (tU T) ((List.range set).filter (soP T)) &&& set : Nat) : Int)) (by omega) (by omega) (by omega) (QF_uI (QF_uI (QF_uI Q2 (by omega)) (by omega)) (by omega)) (by
            rw [uI_ne (by omega), uI_ne (by omega), uI_at, if_pos ⟨rfl, rfl⟩, List.length_append]; rfl) (by
            rw [uI_ne (by omega), uI_at, if_pos ⟨rfl, rfl⟩]
            unfold someL
            rw [List.foldl_append]; rfl) (by
            rw [uI_at, if_pos ⟨rfl, rfl⟩]
            unfold andL
            rw [List.foldl_append]; rfl) (fun a ha => by omega) (fun a h1 h2 => by
            rw [uI_ne (by omega), uI_ne (by omega), uI_ne (by omega)]; exact k4 a h2)
          rw [← e] at y3
          have en := ih (set + 1) I3 (by omega) y2 y3
          rw [← hf] at en
          rw [Int.natCast_zero] at y1
          rw [y1]
          exact en
        by_cases hw : (((List.range set).filter (soP T)).length : Int) = w
        · simp (disch := omega) only [↓reduceIte, lt_TI, lt_FI, le_TI, le_FI, eq_TI, eq_FI, lt_TN, lt_FN, le_TN, le_FN, eq_TN, eq_FN, and_self, and_true, true_and, and_false, false_and, or_true, true_or, or_false, false_or, not_true_eq_false, not_false_eq_true, wr_of, uI_at, uC_at, q_bi_s, q_bl_s, q_br_s, q_bv_s, Int.toNat_natCast, tn_1, tn_m, tn_n, Int.toNat_zero, Int.toNat_one, k1, k2, k3, bo, ba, hw]
          have gg := go (set : Int) (by
            rw [e]
            unfold fndI
            rw [if_pos ⟨by omega, by rw [List.length_append, ← hw]; simp; omega⟩, ← hw, Int.toNat_natCast, gD_app, if_neg (by omega), Nat.sub_self, List.getD_cons_zero])
          rw [← hw] at gg ⊢
          exact gg
        · simp (disch := omega) only [↓reduceIte, lt_TI, lt_FI, le_TI, le_FI, eq_TI, eq_FI, lt_TN, lt_FN, le_TN, le_FN, eq_TN, eq_FN, and_self, and_true, true_and, and_false, false_and, or_true, true_or, or_false, false_or, not_true_eq_false, not_false_eq_true, wr_of, uI_at, uC_at, q_bi_s, q_bl_s, q_br_s, q_bv_s, Int.toNat_natCast, tn_1, tn_m, tn_n, Int.toNat_zero, Int.toNat_one, k1, k2, k3, bo, ba, hw]
          exact go (fndI w ((List.range set).filter (soP T))) (by
            rw [e]
            unfold fndI
            rw [List.length_append]
            by_cases y : 0 ≤ w ∧ w < (((List.range set).filter (soP T)).length : Int)
            · rw [if_pos y, if_pos ⟨y.1, by simp; omega⟩, gD_app, if_pos (by omega)]
            · rw [if_neg y, if_neg (fun z => by
                have z2 := z.2
                simp at z2
                omega)])
  obtain ⟨I1, x1, x2, x3⟩ := z0
  have f0 : fndI w [] = -1 := by
    unfold fndI
    rw [if_neg (fun z => by have := z.2; simp at this; omega)]
  obtain ⟨I2, y1, y2, y3⟩ := z2 (2 ^ tU T) 0 I1 (by omega) x2 (by rw [List.range_zero]; exact x3)
  rw [List.range_zero, Int.natCast_zero] at y1
  have f0' : fndI w (List.filter (soP T) []) = -1 := f0
  rw [f0'] at y1
  have p1 : 1 ≤ 2 ^ tU T := Nat.one_le_two_pow
  have es : (((2 ^ tU T : Nat) : Int)) - 1 = (((2 ^ tU T - 1 : Nat)) : Int) := by omega
  refine ⟨I2, ?_, y2, y3⟩
  rw [← y1, ← x1, e269_0]
  simp (disch := omega) only [↓reduceIte, lt_TI, lt_FI, le_TI, le_FI, eq_TI, eq_FI, lt_TN, lt_FN, le_TN, le_FN, eq_TN, eq_FN, and_self, and_true, true_and, and_false, false_and, or_true, true_or, or_false, false_or, not_true_eq_false, not_false_eq_true, wr_of, uI_at, uC_at, q_bi_s, q_bl_s, q_br_s, q_bv_s, Int.toNat_natCast, tn_1, tn_m, tn_n, Int.toNat_zero, Int.toNat_one, H3, shl, es]
theorem m_leaves {F : List Nat} {v : Nat} (hl : F.length ≤ 16) (e1 : I 265 35 = (F.length : Int)) (e2 : I 282 v = (wth F v : Int)) (hv : v < 4) : q_E (274, 0, [vr 265, vi (v : Int)], []) (qk t u I J) = some (vi (lvs F v : Int), qk t u I J) := by
  have wb : wth F v ≤ F.length := List.countP_le_length
  rw [e274_0]
  unfold lvs
  by_cases q : F.length - wth F v < wth F v
  · rw [Nat.max_eq_left (by omega)]
    simp (disch := omega) only [↓reduceIte, lt_TI, lt_FI, le_TI, le_FI, eq_TI, eq_FI, lt_TN, lt_FN, le_TN, le_FN, eq_TN, eq_FN, and_self, and_true, true_and, and_false, false_and, or_true, true_or, or_false, false_or, not_true_eq_false, not_false_eq_true, wr_of, uI_at, uC_at, q_bi_s, q_bl_s, q_br_s, q_bv_s, Int.toNat_natCast, tn_1, tn_m, tn_n, Int.toNat_zero, Int.toNat_one, e1, e2]
  · rw [Nat.max_eq_right (by omega)]
    simp (disch := omega) only [↓reduceIte, lt_TI, lt_FI, le_TI, le_FI, eq_TI, eq_FI, lt_TN, lt_FN, le_TN, le_FN, eq_TN, eq_FN, and_self, and_true, true_and, and_false, false_and, or_true, true_or, or_false, false_or, not_true_eq_false, not_false_eq_true, wr_of, uI_at, uC_at, q_bi_s, q_bl_s, q_br_s, q_bv_s, Int.toNat_natCast, tn_1, tn_m, tn_n, Int.toNat_zero, Int.toNat_one, e1, e2]
    rw [show ((F.length : Int) - (wth F v : Int)) = ((F.length - wth F v : Nat) : Int) by omega]
theorem m_askOf {T : Tt} (ok : TOk T) (H : MT I T) (B : SnA I 270 0 (tB T, 0)) : ∃ I', q_E (275, 0, [vr 265, vu, vu], []) (qk t u I J) = some (vi (askI (fitL T) (tU T)), qk t u I' J) ∧ QF I I' ∧ I' 265 35 = ((fitL T).length : Int) ∧ ∀ v, v < tU T → I' 282 v = (wth (fitL T) v : Int) := by
  obtain ⟨o1, o2, o3, o4, o5, o6, o7, o8, o9, o10, o11, o12⟩ := id ok
  obtain ⟨I1, x1, Q, k1, -, -, k4⟩ := m_seek (t := t) (u := u) (J := J) ok H B (-1)
  have H3 := H.2.2.2.1
  rw [← Q.1 268 (by omega) (by omega)] at H3
  have fl := fit_len o8
  have st : q_E (275, 11, [vr 265, vi (-2), vi 0], []) (qk t u I1 J) = some (vi (askI (fitL T) (tU T)), qk t u I1 J) := by
    unfold askI
    by_cases hF : fitL T = []
    · have l0 : (fitL T).length = 0 := by rw [hF]; rfl
      rw [if_pos hF, e275_11]
      simp (disch := omega) only [↓reduceIte, lt_TI, lt_FI, le_TI, le_FI, eq_TI, eq_FI, lt_TN, lt_FN, le_TN, le_FN, eq_TN, eq_FN, and_self, and_true, true_and, and_false, false_and, or_true, true_or, or_false, false_or, not_true_eq_false, not_false_eq_true, wr_of, uI_at, uC_at, q_bi_s, q_bl_s, q_br_s, q_bv_s, Int.toNat_natCast, tn_1, tn_m, tn_n, Int.toNat_zero, Int.toNat_one, k1, l0, Int.natCast_zero]
      split <;> rfl
    · rw [if_neg hF]
      have l0 : 0 < (fitL T).length := by cases h : fitL T with | nil => exact absurd h hF | cons a l => simp
      have loop : ∀ r i : Nat, i + r = tU T → q_E (275, 11, [vr 265, vi (bstI (fitL T) i), vi (i : Int)], []) (qk t u I1 J) = some (vi (bstI (fitL T) (tU T)), qk t u I1 J) := by
        intro r
        induction r with
        | zero =>
          intro i hi
          have e : i = tU T := by omega
          subst e
          rw [e275_11]
          simp (disch := omega) only [↓reduceIte, lt_TI, lt_FI, le_TI, le_FI, eq_TI, eq_FI, lt_TN, lt_FN, le_TN, le_FN, eq_TN, eq_FN, and_self, and_true, true_and, and_false, false_and, or_true, true_or, or_false, false_or, not_true_eq_false, not_false_eq_true, wr_of, uI_at, uC_at, q_bi_s, q_bl_s, q_br_s, q_bv_s, Int.toNat_natCast, tn_1, tn_m, tn_n, Int.toNat_zero, Int.toNat_one, H3]
        | succ r ih =>
          intro i hi
          have e := ih (i + 1) (by omega)
          have eb : bstI (fitL T) (i + 1) = if bstI (fitL T) i = -2 ∨ lvs (fitL T) i < lvs (fitL T) (bstI (fitL T) i).toNat then (i : Int) else bstI (fitL T) i := rfl
          rw [e275_11]
          rcases bstI_lt (fitL T) i with h | ⟨k, h1, h2⟩
          · rw [eb, if_pos (Or.inl h)] at e
            simp (disch := omega) only [↓reduceIte, lt_TI, lt_FI, le_TI, le_FI, eq_TI, eq_FI, lt_TN, lt_FN, le_TN, le_FN, eq_TN, eq_FN, and_self, and_true, true_and, and_false, false_and, or_true, true_or, or_false, false_or, not_true_eq_false, not_false_eq_true, wr_of, uI_at, uC_at, q_bi_s, q_bl_s, q_br_s, q_bv_s, Int.toNat_natCast, tn_1, tn_m, tn_n, Int.toNat_zero, Int.toNat_one, H3, k1, h]
            exact e
          · rw [h2, Int.toNat_natCast] at eb
            have c1 := m_leaves (t := t) (u := u) (J := J) fl k1 (k4 i (by omega)) (by omega)
            have c2 := m_leaves (t := t) (u := u) (J := J) fl k1 (k4 k (by omega)) (by omega)
            simp (disch := omega) only [↓reduceIte, lt_TI, lt_FI, le_TI, le_FI, eq_TI, eq_FI, lt_TN, lt_FN, le_TN, le_FN, eq_TN, eq_FN, and_self, and_true, true_and, and_false, false_and, or_true, true_or, or_false, false_or, not_true_eq_false, not_false_eq_true, wr_of, uI_at, uC_at, q_bi_s, q_bl_s, q_br_s, q_bv_s, Int.toNat_natCast, tn_1, tn_m, tn_n, Int.toNat_zero, Int.toNat_one, H3, k1, h2, c1]
            rw [e275_37, c2]
            simp (disch := omega) only [↓reduceIte, lt_TI, lt_FI, le_TI, le_FI, eq_TI, eq_FI, lt_TN, lt_FN, le_TN, le_FN, eq_TN, eq_FN, and_self, and_true, true_and, and_false, false_and, or_true, true_or, or_false, false_or, not_true_eq_false, not_false_eq_true, wr_of, uI_at, uC_at, q_bi_s, q_bl_s, q_br_s, q_bv_s, Int.toNat_natCast, tn_1, tn_m, tn_n, Int.toNat_zero, Int.toNat_one]
            rw [e275_42]
            by_cases q : lvs (fitL T) i < lvs (fitL T) k
            · rw [eb, if_pos (Or.inr q)] at e
              simp (disch := omega) only [↓reduceIte, lt_TI, lt_FI, le_TI, le_FI, eq_TI, eq_FI, lt_TN, lt_FN, le_TN, le_FN, eq_TN, eq_FN, and_self, and_true, true_and, and_false, false_and, or_true, true_or, or_false, false_or, not_true_eq_false, not_false_eq_true, wr_of, uI_at, uC_at, q_bi_s, q_bl_s, q_br_s, q_bv_s, Int.toNat_natCast, tn_1, tn_m, tn_n, Int.toNat_zero, Int.toNat_one]
              exact e
            · rw [eb, if_neg (fun z => z.elim (fun w => by omega) q)] at e
              simp (disch := omega) only [↓reduceIte, lt_TI, lt_FI, le_TI, le_FI, eq_TI, eq_FI, lt_TN, lt_FN, le_TN, le_FN, eq_TN, eq_FN, and_self, and_true, true_and, and_false, false_and, or_true, true_or, or_false, false_or, not_true_eq_false, not_false_eq_true, wr_of, uI_at, uC_at, q_bi_s, q_bl_s, q_br_s, q_bv_s, Int.toNat_natCast, tn_1, tn_m, tn_n, Int.toNat_zero, Int.toNat_one]
              exact e
      exact loop (tU T) 0 (by omega)
  refine ⟨I1, ?_, Q, k1, k4⟩
  simp (disch := omega) only [↓reduceIte, lt_TI, lt_FI, le_TI, le_FI, eq_TI, eq_FI, lt_TN, lt_FN, le_TN, le_FN, eq_TN, eq_FN, and_self, and_true, true_and, and_false, false_and, or_true, true_or, or_false, false_or, not_true_eq_false, not_false_eq_true, wr_of, uI_at, uC_at, q_bi_s, q_bl_s, q_br_s, q_bv_s, Int.toNat_natCast, tn_1, tn_m, tn_n, Int.toNat_zero, Int.toNat_one, e275_0, x1]
  rw [e275_5]
  exact st
theorem m_fits (V : MInv S I) : ∃ I', q_E (270, 0, [vr 265], []) (qk t u I J) = some (vi (sp_fits S).1, qk t u I' J) ∧ QM (sp_fits S).2 I I' := by
  have A := MInv_A V
  have hs := V.1.2.1
  unfold sp_fits spS
  by_cases hc : 0 < tC (sTo S)
  · simp only [if_pos hc]
    rw [if_pos hc] at hs
    have ok := SOk_T V.1.1 hc
    obtain ⟨I1, x1, Q, k1, k2, k3, k4⟩ := m_seek (t := t) (u := u) (J := J) ok A.2.2.1 A.2.2.2.1 (-1)
    simp (disch := omega) only [↓reduceIte, lt_TI, lt_FI, le_TI, le_FI, eq_TI, eq_FI, lt_TN, lt_FN, le_TN, le_FN, eq_TN, eq_FN, and_self, and_true, true_and, and_false, false_and, or_true, true_or, or_false, false_or, not_true_eq_false, not_false_eq_true, wr_of, uI_at, uC_at, q_bi_s, q_bl_s, q_br_s, q_bv_s, Int.toNat_natCast, tn_1, tn_m, tn_n, Int.toNat_zero, Int.toNat_one, e177_0, e178_0, e270_0, e270_4, e270_16, e270_22, hs, x1, k1]
    exact ⟨_, rfl, QM_ok Q⟩
  · simp only [if_neg hc]
    rw [if_neg hc] at hs
    simp (disch := omega) only [↓reduceIte, lt_TI, lt_FI, le_TI, le_FI, eq_TI, eq_FI, lt_TN, lt_FN, le_TN, le_FN, eq_TN, eq_FN, and_self, and_true, true_and, and_false, false_and, or_true, true_or, or_false, false_or, not_true_eq_false, not_false_eq_true, wr_of, uI_at, uC_at, q_bi_s, q_bl_s, q_br_s, q_bv_s, Int.toNat_natCast, tn_1, tn_m, tn_n, Int.toNat_zero, Int.toNat_one, e177_0, e178_0, e270_0, e270_4, e270_16, e270_22, hs]
    exact ⟨_, rfl, QM_no QF_rf⟩
theorem m_could (V : MInv S I) : ∃ I', q_E (272, 0, [vr 265], []) (qk t u I J) = some (vi (sp_could S).1, qk t u I' J) ∧ QM (sp_could S).2 I I' := by
  have A := MInv_A V
  have hs := V.1.2.1
  unfold sp_could spS
  by_cases hc : 0 < tC (sTo S)
  · simp only [if_pos hc]
    rw [if_pos hc] at hs
    have ok := SOk_T V.1.1 hc
    obtain ⟨I1, x1, Q, k1, k2, k3, k4⟩ := m_seek (t := t) (u := u) (J := J) ok A.2.2.1 A.2.2.2.1 (-1)
    simp (disch := omega) only [↓reduceIte, lt_TI, lt_FI, le_TI, le_FI, eq_TI, eq_FI, lt_TN, lt_FN, le_TN, le_FN, eq_TN, eq_FN, and_self, and_true, true_and, and_false, false_and, or_true, true_or, or_false, false_or, not_true_eq_false, not_false_eq_true, wr_of, uI_at, uC_at, q_bi_s, q_bl_s, q_br_s, q_bv_s, Int.toNat_natCast, tn_1, tn_m, tn_n, Int.toNat_zero, Int.toNat_one, e177_0, e178_0, e272_0, e272_4, e272_16, e272_22, hs, x1, k2]
    exact ⟨_, rfl, QM_ok Q⟩
  · simp only [if_neg hc]
    rw [if_neg hc] at hs
    simp (disch := omega) only [↓reduceIte, lt_TI, lt_FI, le_TI, le_FI, eq_TI, eq_FI, lt_TN, lt_FN, le_TN, le_FN, eq_TN, eq_FN, and_self, and_true, true_and, and_false, false_and, or_true, true_or, or_false, false_or, not_true_eq_false, not_false_eq_true, wr_of, uI_at, uC_at, q_bi_s, q_bl_s, q_br_s, q_bv_s, Int.toNat_natCast, tn_1, tn_m, tn_n, Int.toNat_zero, Int.toNat_one, e177_0, e178_0, e272_0, e272_4, e272_16, e272_22, hs]
    exact ⟨_, rfl, QM_no QF_rf⟩
theorem m_surely (V : MInv S I) : ∃ I', q_E (273, 0, [vr 265], []) (qk t u I J) = some (vi (sp_surely S).1, qk t u I' J) ∧ QM (sp_surely S).2 I I' := by
  have A := MInv_A V
  have hs := V.1.2.1
  unfold sp_surely spS
  by_cases hc : 0 < tC (sTo S)
  · simp only [if_pos hc]
    rw [if_pos hc] at hs
    have ok := SOk_T V.1.1 hc
    obtain ⟨I1, x1, Q, k1, k2, k3, k4⟩ := m_seek (t := t) (u := u) (J := J) ok A.2.2.1 A.2.2.2.1 (-1)
    simp (disch := omega) only [↓reduceIte, lt_TI, lt_FI, le_TI, le_FI, eq_TI, eq_FI, lt_TN, lt_FN, le_TN, le_FN, eq_TN, eq_FN, and_self, and_true, true_and, and_false, false_and, or_true, true_or, or_false, false_or, not_true_eq_false, not_false_eq_true, wr_of, uI_at, uC_at, q_bi_s, q_bl_s, q_br_s, q_bv_s, Int.toNat_natCast, tn_1, tn_m, tn_n, Int.toNat_zero, Int.toNat_one, e177_0, e178_0, e273_0, e273_4, e273_16, e273_22, hs, x1, k3]
    exact ⟨_, rfl, QM_ok Q⟩
  · simp only [if_neg hc]
    rw [if_neg hc] at hs
    simp (disch := omega) only [↓reduceIte, lt_TI, lt_FI, le_TI, le_FI, eq_TI, eq_FI, lt_TN, lt_FN, le_TN, le_FN, eq_TN, eq_FN, and_self, and_true, true_and, and_false, false_and, or_true, true_or, or_false, false_or, not_true_eq_false, not_false_eq_true, wr_of, uI_at, uC_at, q_bi_s, q_bl_s, q_br_s, q_bv_s, Int.toNat_natCast, tn_1, tn_m, tn_n, Int.toNat_zero, Int.toNat_one, e177_0, e178_0, e273_0, e273_4, e273_16, e273_22, hs]
    exact ⟨_, rfl, QM_no QF_rf⟩
theorem m_ask (V : MInv S I) : ∃ I', q_E (276, 0, [vr 265], []) (qk t u I J) = some (vi (sp_ask S).1, qk t u I' J) ∧ QM (sp_ask S).2 I I' := by
  have A := MInv_A V
  have hs := V.1.2.1
  unfold sp_ask spS
  by_cases hc : 0 < tC (sTo S)
  · simp only [if_pos hc]
    rw [if_pos hc] at hs
    have ok := SOk_T V.1.1 hc
    obtain ⟨I1, x1, Q, k1, k4⟩ := m_askOf (t := t) (u := u) (J := J) ok A.2.2.1 A.2.2.2.1
    simp (disch := omega) only [↓reduceIte, lt_TI, lt_FI, le_TI, le_FI, eq_TI, eq_FI, lt_TN, lt_FN, le_TN, le_FN, eq_TN, eq_FN, and_self, and_true, true_and, and_false, false_and, or_true, true_or, or_false, false_or, not_true_eq_false, not_false_eq_true, wr_of, uI_at, uC_at, q_bi_s, q_bl_s, q_br_s, q_bv_s, Int.toNat_natCast, tn_1, tn_m, tn_n, Int.toNat_zero, Int.toNat_one, e177_0, e178_0, e276_0, e276_4, e276_23, e276_15, hs, x1]
    exact ⟨_, rfl, QM_ok Q⟩
  · simp only [if_neg hc]
    rw [if_neg hc] at hs
    simp (disch := omega) only [↓reduceIte, lt_TI, lt_FI, le_TI, le_FI, eq_TI, eq_FI, lt_TN, lt_FN, le_TN, le_FN, eq_TN, eq_FN, and_self, and_true, true_and, and_false, false_and, or_true, true_or, or_false, false_or, not_true_eq_false, not_false_eq_true, wr_of, uI_at, uC_at, q_bi_s, q_bl_s, q_br_s, q_bv_s, Int.toNat_natCast, tn_1, tn_m, tn_n, Int.toNat_zero, Int.toNat_one, e177_0, e178_0, e276_0, e276_4, e276_23, e276_15, hs]
    exact ⟨_, rfl, QM_no QF_rf⟩
theorem m_askLeaves (V : MInv S I) : ∃ I', q_E (277, 0, [vr 265, vu], []) (qk t u I J) = some (vi (sp_askLeaves S).1, qk t u I' J) ∧ QM (sp_askLeaves S).2 I I' := by
  have A := MInv_A V
  have hs := V.1.2.1
  unfold sp_askLeaves spS
  by_cases hc : 0 < tC (sTo S)
  · simp only [if_pos hc]
    rw [if_pos hc] at hs
    have ok := SOk_T V.1.1 hc
    obtain ⟨I1, x1, Q, k1, k4⟩ := m_askOf (t := t) (u := u) (J := J) ok A.2.2.1 A.2.2.2.1
    obtain ⟨o1, o2, o3, o4, o5, o6, o7, o8, o9, o10, o11, o12⟩ := id ok
    have fl := fit_len o8
    have av : askI (fitL (sTo S)) (tU (sTo S)) = -2 ∨ ∃ k : Nat, k < tU (sTo S) ∧ askI (fitL (sTo S)) (tU (sTo S)) = (k : Int) := by
      unfold askI
      split
      · exact Or.inl rfl
      · exact bstI_lt _ _
    rcases av with z | ⟨k, z1, z2⟩
    · rw [z] at x1
      simp only [if_pos z]
      simp (disch := omega) only [↓reduceIte, lt_TI, lt_FI, le_TI, le_FI, eq_TI, eq_FI, lt_TN, lt_FN, le_TN, le_FN, eq_TN, eq_FN, and_self, and_true, true_and, and_false, false_and, or_true, true_or, or_false, false_or, not_true_eq_false, not_false_eq_true, wr_of, uI_at, uC_at, q_bi_s, q_bl_s, q_br_s, q_bv_s, Int.toNat_natCast, tn_1, tn_m, tn_n, Int.toNat_zero, Int.toNat_one, e177_0, hs, x1, e277_0, e277_4, e277_16, e277_21, e277_36]
      exact ⟨_, rfl, QM_ok Q⟩
    have c1 := m_leaves (t := t) (u := u) (J := J) fl k1 (k4 k z1) (by omega)
    rw [z2] at x1
    simp only [z2, if_neg (show ¬ (k : Int) = -2 by omega), Int.toNat_natCast]
    simp (disch := omega) only [↓reduceIte, lt_TI, lt_FI, le_TI, le_FI, eq_TI, eq_FI, lt_TN, lt_FN, le_TN, le_FN, eq_TN, eq_FN, and_self, and_true, true_and, and_false, false_and, or_true, true_or, or_false, false_or, not_true_eq_false, not_false_eq_true, wr_of, uI_at, uC_at, q_bi_s, q_bl_s, q_br_s, q_bv_s, Int.toNat_natCast, tn_1, tn_m, tn_n, Int.toNat_zero, Int.toNat_one, e177_0, e178_0, e277_0, e277_4, e277_16, e277_21, e277_36, hs, x1, c1]
    exact ⟨_, rfl, QM_ok Q⟩
  · simp only [if_neg hc]
    rw [if_neg hc] at hs
    simp (disch := omega) only [↓reduceIte, lt_TI, lt_FI, le_TI, le_FI, eq_TI, eq_FI, lt_TN, lt_FN, le_TN, le_FN, eq_TN, eq_FN, and_self, and_true, true_and, and_false, false_and, or_true, true_or, or_false, false_or, not_true_eq_false, not_false_eq_true, wr_of, uI_at, uC_at, q_bi_s, q_bl_s, q_br_s, q_bv_s, Int.toNat_natCast, tn_1, tn_m, tn_n, Int.toNat_zero, Int.toNat_one, e177_0, e178_0, e277_0, e277_4, e277_16, e277_21, e277_36, hs]
    exact ⟨_, rfl, QM_no QF_rf⟩
theorem m_judge (V : MInv S I) : ∃ I', q_E (278, 0, [vr 265], []) (qk t u I J) = some (vi (sp_judge S).1, qk t u I' J) ∧ QM (sp_judge S).2 I I' := by
  have A := MInv_A V
  have hs := V.1.2.1
  unfold sp_judge spS
  by_cases hc : 0 < tC (sTo S)
  · simp only [if_pos hc]
    rw [if_pos hc] at hs
    have ok := SOk_T V.1.1 hc
    obtain ⟨I1, x1, x2⟩ := m_wrongBy (t := t) (u := u) (J := J) ok A.2.2.1 A.2.2.2.1 (set := 0) (by omega)
    have Q := QF_fr QF_rf x2 (by omega) (by omega)
    have m0 : ∀ c, mor (sTo S) 0 c = 0 := fun c => by
      unfold mor
      rw [if_neg (fun z => by have := z.2; unfold bt at this; rw [Nat.zero_div] at this; omega)]
    have ef : fint (fun s => !so (sTo S) s (mor (sTo S) 0 (tEc (sTo S) s))) (tE (sTo S)) = fnso (sTo S) := by
      unfold fint fnso
      have : (fun s => !so (sTo S) s (mor (sTo S) 0 (tEc (sTo S) s))) = (fun s => !so (sTo S) s 0) := by funext s; rw [m0]
      rw [this]
    rw [ef, Int.natCast_zero] at x1
    simp (disch := omega) only [↓reduceIte, lt_TI, lt_FI, le_TI, le_FI, eq_TI, eq_FI, lt_TN, lt_FN, le_TN, le_FN, eq_TN, eq_FN, and_self, and_true, true_and, and_false, false_and, or_true, true_or, or_false, false_or, not_true_eq_false, not_false_eq_true, wr_of, uI_at, uC_at, q_bi_s, q_bl_s, q_br_s, q_bv_s, Int.toNat_natCast, tn_1, tn_m, tn_n, Int.toNat_zero, Int.toNat_one, e177_0, e178_0, e278_0, e278_4, e278_24, e278_16, hs, x1]
    exact ⟨_, rfl, QM_ok Q⟩
  · simp only [if_neg hc]
    rw [if_neg hc] at hs
    simp (disch := omega) only [↓reduceIte, lt_TI, lt_FI, le_TI, le_FI, eq_TI, eq_FI, lt_TN, lt_FN, le_TN, le_FN, eq_TN, eq_FN, and_self, and_true, true_and, and_false, false_and, or_true, true_or, or_false, false_or, not_true_eq_false, not_false_eq_true, wr_of, uI_at, uC_at, q_bi_s, q_bl_s, q_br_s, q_bv_s, Int.toNat_natCast, tn_1, tn_m, tn_n, Int.toNat_zero, Int.toNat_one, e177_0, e178_0, e278_0, e278_4, e278_24, e278_16, hs]
    exact ⟨_, rfl, QM_no QF_rf⟩
theorem m_fitAt (V : MInv S I) (i : Int) : ∃ I', q_E (271, 0, [vr 265, vi i, vu], []) (qk t u I J) = some (vi (sp_fitAt S i).1, qk t u I' J) ∧ QM (sp_fitAt S i).2 I I' := by
  have A := MInv_A V
  have hs := V.1.2.1
  unfold sp_fitAt
  by_cases hc : 0 < tC (sTo S)
  · rw [if_pos hc] at hs
    have ok := SOk_T V.1.1 hc
    by_cases hi : 0 ≤ i
    · obtain ⟨I1, x1, Q, k1, k2, k3, k4⟩ := m_seek (t := t) (u := u) (J := J) ok A.2.2.1 A.2.2.2.1 i
      unfold fndI at x1
      by_cases hl : i < ((fitL (sTo S)).length : Int)
      · rw [if_pos ⟨hi, hl⟩] at x1
        simp only [if_pos (show 0 < tC (sTo S) ∧ 0 ≤ i ∧ i < ((fitL (sTo S)).length : Int) from ⟨hc, hi, hl⟩)]
        simp (disch := omega) only [↓reduceIte, lt_TI, lt_FI, le_TI, le_FI, eq_TI, eq_FI, lt_TN, lt_FN, le_TN, le_FN, eq_TN, eq_FN, and_self, and_true, true_and, and_false, false_and, or_true, true_or, or_false, false_or, not_true_eq_false, not_false_eq_true, wr_of, uI_at, uC_at, q_bi_s, q_bl_s, q_br_s, q_bv_s, Int.toNat_natCast, tn_1, tn_m, tn_n, Int.toNat_zero, Int.toNat_one, e177_0, e178_0, hs, x1, e271_0, e271_4, e271_20, e271_26, e271_36]
        exact ⟨_, rfl, QM_ok Q⟩
      · rw [if_neg (fun z => hl z.2)] at x1
        simp only [if_neg (show ¬ (0 < tC (sTo S) ∧ 0 ≤ i ∧ i < ((fitL (sTo S)).length : Int)) from fun z => hl z.2.2)]
        simp (disch := omega) only [↓reduceIte, lt_TI, lt_FI, le_TI, le_FI, eq_TI, eq_FI, lt_TN, lt_FN, le_TN, le_FN, eq_TN, eq_FN, and_self, and_true, true_and, and_false, false_and, or_true, true_or, or_false, false_or, not_true_eq_false, not_false_eq_true, wr_of, uI_at, uC_at, q_bi_s, q_bl_s, q_br_s, q_bv_s, Int.toNat_natCast, tn_1, tn_m, tn_n, Int.toNat_zero, Int.toNat_one, e177_0, e178_0, hs, x1, e271_0, e271_4, e271_20, e271_26, e271_36]
        exact ⟨_, rfl, QM_no Q⟩
    · simp only [if_neg (show ¬ (0 < tC (sTo S) ∧ 0 ≤ i ∧ i < ((fitL (sTo S)).length : Int)) from fun z => hi z.2.1)]
      simp (disch := omega) only [↓reduceIte, lt_TI, lt_FI, le_TI, le_FI, eq_TI, eq_FI, lt_TN, lt_FN, le_TN, le_FN, eq_TN, eq_FN, and_self, and_true, true_and, and_false, false_and, or_true, true_or, or_false, false_or, not_true_eq_false, not_false_eq_true, wr_of, uI_at, uC_at, q_bi_s, q_bl_s, q_br_s, q_bv_s, Int.toNat_natCast, tn_1, tn_m, tn_n, Int.toNat_zero, Int.toNat_one, e177_0, e178_0, hs, e271_0, e271_4, e271_20, e271_26, e271_36]
      exact ⟨_, rfl, QM_no QF_rf⟩
  · rw [if_neg hc] at hs
    simp only [if_neg (show ¬ (0 < tC (sTo S) ∧ 0 ≤ i ∧ i < ((fitL (sTo S)).length : Int)) from fun z => hc z.1)]
    simp (disch := omega) only [↓reduceIte, lt_TI, lt_FI, le_TI, le_FI, eq_TI, eq_FI, lt_TN, lt_FN, le_TN, le_FN, eq_TN, eq_FN, and_self, and_true, true_and, and_false, false_and, or_true, true_or, or_false, false_or, not_true_eq_false, not_false_eq_true, wr_of, uI_at, uC_at, q_bi_s, q_bl_s, q_br_s, q_bv_s, Int.toNat_natCast, tn_1, tn_m, tn_n, Int.toNat_zero, Int.toNat_one, e177_0, e178_0, hs, e271_0, e271_4, e271_20, e271_26, e271_36]
    exact ⟨_, rfl, QM_no QF_rf⟩
end

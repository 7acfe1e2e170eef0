/-! the class's queries, the rest -/
section
variable {t u : Nat} {I J : Nat → Nat → Int} {S : St}
theorem row_q (V : CInv S t u I) {m : Nat} (hm : m < 4) : HAt (uI I 1 10 0) (26 + 2 * m) ((sNw S).1 m).1 ((sNw S).1 m).2 ∧ HAt I (26 + 2 * m) ((sNw S).1 m).1 ((sNw S).1 m).2 := by
  have K1 : Kp 1 1 I (uI I 1 10 0) := Kp_uI Kp_rf (by omega) (by omega)
  have H := V.2.2.2.2.2.2.2.2.1.2.2 m hm
  exact ⟨HAt_kp H K1 (by omega), H⟩
theorem k_hook (V : CInv S t u I) (c i j : Int) : ∃ I', q_E (121, 0, [vr 1, vi c, vi i, vi j], []) (qk t u I J) = some (vi (sp_hook S c i j).1, qk t u I' J) ∧ QC (sp_hook S c i j).2 I I' := by
  have h4 := tC_4 V.1
  obtain ⟨a1, a2⟩ := h_heap (u := u) (J := J) (c := c) (i := i) V
  unfold sp_hook
  by_cases h : isHp S c i
  · obtain ⟨b1, b2, b3, b4⟩ := id h
    obtain ⟨m, rfl⟩ : ∃ m : Nat, c = (m : Int) := ⟨c.toNat, by omega⟩
    obtain ⟨i, rfl⟩ : ∃ j : Nat, i = (j : Int) := ⟨i.toNat, by omega⟩
    simp only [Int.toNat_natCast] at b4 ⊢
    obtain ⟨HQ, H⟩ := row_q V (m := m) (by omega)
    obtain ⟨o1, o2, o3⟩ := V.1.2.1.1 m
    have len := len_sum o2
    have H0 := H.1.1
    have rn := R_now t u m (by omega)
    have gb := gD_sum (l := ((sNw S).1 m).1) i
    have g := c_heightAt (t := t) (u := u) (J := J) H i
    by_cases hj : 0 ≤ j ∧ j < (((sNw S).1 m).1.getD i 0 : Int)
    · simp only [if_pos (show isHp S (m : Int) (i : Int) ∧ 0 ≤ j ∧ j < (((sNw S).1 m).1.getD i 0 : Int) from ⟨h, hj⟩)]
      obtain ⟨hj1, hj2⟩ := hj
      obtain ⟨j, rfl⟩ : ∃ k : Nat, j = (k : Int) := ⟨j.toNat, by omega⟩
      simp only [Int.toNat_natCast]
      have g2 := c_hookOf (t := t) (u := u) (J := J) HQ o1 (by omega) (i := i) (j := j) (by omega) (by omega)
      simp (disch := omega) only [↓reduceIte, lt_TI, lt_FI, le_TI, le_FI, eq_TI, eq_FI, lt_TN, lt_FN, le_TN, le_FN, eq_TN, eq_FN, and_self, and_true, true_and, and_false, false_and, or_true, true_or, or_false, false_or, not_true_eq_false, not_false_eq_true, wr_of, uI_at, uC_at, q_bi_s, q_bl_s, q_br_s, q_bv_s, Int.toNat_natCast, tn_1, tn_m, tn_n, Int.toNat_zero, Int.toNat_one, e121_0, e121_8, e121_40, e121_29, e121_59, k20, e160_0, a1 h, rn, H0, g, g2]
      exact ⟨_, rfl, QC_rf⟩
    · simp only [if_neg (show ¬ (isHp S (m : Int) (i : Int) ∧ 0 ≤ j ∧ j < (((sNw S).1 m).1.getD i 0 : Int)) from fun z => hj z.2)]
      rcases Classical.em (j < 0) with z | z <;> simp (disch := omega) only [↓reduceIte, lt_TI, lt_FI, le_TI, le_FI, eq_TI, eq_FI, lt_TN, lt_FN, le_TN, le_FN, eq_TN, eq_FN, and_self, and_true, true_and, and_false, false_and, or_true, true_or, or_false, false_or, not_true_eq_false, not_false_eq_true, wr_of, uI_at, uC_at, q_bi_s, q_bl_s, q_br_s, q_bv_s, Int.toNat_natCast, tn_1, tn_m, tn_n, Int.toNat_zero, Int.toNat_one, e121_0, e121_8, e121_40, e121_29, e121_59, k20, e160_0, a1 h, rn, H0, g] <;> exact ⟨_, rfl, QC_rf⟩
  · simp only [if_neg (show ¬ (isHp S c i ∧ 0 ≤ j ∧ j < ((rw1 S c.toNat).getD i.toNat 0 : Int)) from fun z => h z.1)]
    simp (disch := omega) only [↓reduceIte, lt_TI, lt_FI, le_TI, le_FI, eq_TI, eq_FI, lt_TN, lt_FN, le_TN, le_FN, eq_TN, eq_FN, and_self, and_true, true_and, and_false, false_and, or_true, true_or, or_false, false_or, not_true_eq_false, not_false_eq_true, wr_of, uI_at, uC_at, q_bi_s, q_bl_s, q_br_s, q_bv_s, Int.toNat_natCast, tn_1, tn_m, tn_n, Int.toNat_zero, Int.toNat_one, e121_0, e121_8, e121_40, e121_29, e121_59, k20, e160_0, a2 h]
    exact ⟨_, rfl, QC_rf⟩
theorem k_orders (V : CInv S t u I) (c : Int) : ∃ I', q_E (122, 0, [vr 1, vi c], []) (qk t u I J) = some (vl (sp_orders S c).1, qk t u I' J) ∧ QC (sp_orders S c).2 I I' := by
  obtain ⟨V2, e9, k18⟩ := CInv_qi V 0
  have h4 := tC_4 V.1
  unfold sp_orders
  by_cases hc : isCl S c
  · simp only [if_pos hc]
    obtain ⟨hc1, hc2⟩ := hc
    obtain ⟨m, rfl⟩ : ∃ m : Nat, c = (m : Int) := ⟨c.toNat, by omega⟩
    have r1 := r_cell_ok (u := u) (J := J) k18 e9 hc1 hc2
    obtain ⟨HQ, H⟩ := row_q V (m := m) (by omega)
    obtain ⟨o1, o2, o3⟩ := V.1.2.1.1 m
    have H0 := H.1.1
    have rn := R_now t u m (by omega)
    have s1 := c_inHeaps (t := t) (u := u) (J := J) HQ (by omega)
    simp only [Int.toNat_natCast]
    by_cases q : 30 < ((sNw S).1 m).1.sum
    · simp only [if_pos q]
      simp (disch := omega) only [↓reduceIte, lt_TI, lt_FI, le_TI, le_FI, eq_TI, eq_FI, lt_TN, lt_FN, le_TN, le_FN, eq_TN, eq_FN, and_self, and_true, true_and, and_false, false_and, or_true, true_or, or_false, false_or, not_true_eq_false, not_false_eq_true, wr_of, uI_at, uC_at, q_bi_s, q_bl_s, q_br_s, q_bv_s, Int.toNat_natCast, tn_1, tn_m, tn_n, Int.toNat_zero, Int.toNat_one, r1, e122_0, e122_5, e122_22, e122_35, e122_58, rn, H0, s1, k20, e160_0, uI_uI]
      exact ⟨_, rfl, QC_rf⟩
    · simp only [if_neg q]
      obtain ⟨I', b1, b2⟩ := c_orders (t := t) (u := u) (J := J) HQ o1 o2 (by omega) (by omega)
      simp (disch := omega) only [↓reduceIte, lt_TI, lt_FI, le_TI, le_FI, eq_TI, eq_FI, lt_TN, lt_FN, le_TN, le_FN, eq_TN, eq_FN, and_self, and_true, true_and, and_false, false_and, or_true, true_or, or_false, false_or, not_true_eq_false, not_false_eq_true, wr_of, uI_at, uC_at, q_bi_s, q_bl_s, q_br_s, q_bv_s, Int.toNat_natCast, tn_1, tn_m, tn_n, Int.toNat_zero, Int.toNat_one, r1, e122_0, e122_5, e122_22, e122_35, e122_58, rn, H0, s1, k20, e160_0, uI_uI, b1]
      exact ⟨I', rfl, QC_kp b2 (by omega) (by omega)⟩
  · simp only [if_neg hc]
    have r1 := r_cell_no (c := c) (u := u) (J := J) k18 e9 (by omega)
    simp (disch := omega) only [↓reduceIte, lt_TI, lt_FI, le_TI, le_FI, eq_TI, eq_FI, lt_TN, lt_FN, le_TN, le_FN, eq_TN, eq_FN, and_self, and_true, true_and, and_false, false_and, or_true, true_or, or_false, false_or, not_true_eq_false, not_false_eq_true, wr_of, uI_at, uC_at, q_bi_s, q_bl_s, q_br_s, q_bv_s, Int.toNat_natCast, tn_1, tn_m, tn_n, Int.toNat_zero, Int.toNat_one, r1, e122_0, e122_5, e122_22, e122_35, e122_58]
    exact ⟨_, rfl, QC_rf⟩
theorem k_common (V : CInv S t u I) (c d : Int) : ∃ I', q_E (123, 0, [vr 1, vi c, vi d], []) (qk t u I J) = some (vi (sp_common S c d).1, qk t u I' J) ∧ QC (sp_common S c d).2 I I' := by
  obtain ⟨V2, e9, k18⟩ := CInv_qi V 0
  have h4 := tC_4 V.1
  unfold sp_common
  by_cases hc : isCl S c
  · obtain ⟨hc1, hc2⟩ := id hc
    have r1 := h_cell_ok (u := u) (J := J) k18 e9 hc1 hc2
    by_cases hd : isCl S d
    · obtain ⟨hd1, hd2⟩ := id hd
      have r2 := h_cell_ok (u := u) (J := J) k18 e9 hd1 hd2
      simp only [if_pos (show isCl S c ∧ isCl S d from ⟨hc, hd⟩)]
      obtain ⟨m, rfl⟩ : ∃ m : Nat, c = (m : Int) := ⟨c.toNat, by omega⟩
      obtain ⟨o, rfl⟩ : ∃ o : Nat, d = (o : Int) := ⟨d.toNat, by omega⟩
      obtain ⟨HQ, H⟩ := row_q V (m := m) (by omega)
      obtain ⟨GQ, G⟩ := row_q V (m := o) (by omega)
      have rn := R_now t u m (by omega)
      have ro := R_now t u o (by omega)
      have b := c_inBoth (t := t) (u := u) (J := J) HQ GQ (by have := (V.1.2.1.1 m).2.2; omega)
      simp only [Int.toNat_natCast]
      simp (disch := omega) only [↓reduceIte, lt_TI, lt_FI, le_TI, le_FI, eq_TI, eq_FI, lt_TN, lt_FN, le_TN, le_FN, eq_TN, eq_FN, and_self, and_true, true_and, and_false, false_and, or_true, true_or, or_false, false_or, not_true_eq_false, not_false_eq_true, wr_of, uI_at, uC_at, q_bi_s, q_bl_s, q_br_s, q_bv_s, Int.toNat_natCast, tn_1, tn_m, tn_n, Int.toNat_zero, Int.toNat_one, e123_0, e123_7, e123_26, e123_15, e123_52, k20, e160_0, r1, r2, rn, ro, b]
      exact ⟨_, rfl, QC_rf⟩
    · simp only [if_neg (show ¬ (isCl S c ∧ isCl S d) from fun z => hd z.2)]
      have r2 := h_cell_no (c := d) (u := u) (J := J) k18 e9 (by omega)
      simp (disch := omega) only [↓reduceIte, lt_TI, lt_FI, le_TI, le_FI, eq_TI, eq_FI, lt_TN, lt_FN, le_TN, le_FN, eq_TN, eq_FN, and_self, and_true, true_and, and_false, false_and, or_true, true_or, or_false, false_or, not_true_eq_false, not_false_eq_true, wr_of, uI_at, uC_at, q_bi_s, q_bl_s, q_br_s, q_bv_s, Int.toNat_natCast, tn_1, tn_m, tn_n, Int.toNat_zero, Int.toNat_one, e123_0, e123_7, e123_26, e123_15, e123_52, k20, e160_0, r1, r2]
      exact ⟨_, rfl, QC_rf⟩
  · simp only [if_neg (show ¬ (isCl S c ∧ isCl S d) from fun z => hc z.1)]
    have r1 := h_cell_no (c := c) (u := u) (J := J) k18 e9 (by omega)
    simp (disch := omega) only [↓reduceIte, lt_TI, lt_FI, le_TI, le_FI, eq_TI, eq_FI, lt_TN, lt_FN, le_TN, le_FN, eq_TN, eq_FN, and_self, and_true, true_and, and_false, false_and, or_true, true_or, or_false, false_or, not_true_eq_false, not_false_eq_true, wr_of, uI_at, uC_at, q_bi_s, q_bl_s, q_br_s, q_bv_s, Int.toNat_natCast, tn_1, tn_m, tn_n, Int.toNat_zero, Int.toNat_one, e123_0, e123_7, e123_26, e123_15, e123_52, k20, e160_0, r1]
    exact ⟨_, rfl, QC_rf⟩
theorem k_mirrors (V : CInv S t u I) (c d : Int) : ∃ I', q_E (124, 0, [vr 1, vi c, vi d], []) (qk t u I J) = some (vi (sp_mirrors S c d).1, qk t u I' J) ∧ QC (sp_mirrors S c d).2 I I' := by
  obtain ⟨V2, e9, k18⟩ := CInv_qi V 0
  have h4 := tC_4 V.1
  unfold sp_mirrors
  by_cases hc : isCl S c
  · obtain ⟨hc1, hc2⟩ := id hc
    have r1 := h_cell_ok (u := u) (J := J) k18 e9 hc1 hc2
    by_cases hd : isCl S d
    · obtain ⟨hd1, hd2⟩ := id hd
      have r2 := h_cell_ok (u := u) (J := J) k18 e9 hd1 hd2
      simp only [if_pos (show isCl S c ∧ isCl S d from ⟨hc, hd⟩)]
      obtain ⟨m, rfl⟩ : ∃ m : Nat, c = (m : Int) := ⟨c.toNat, by omega⟩
      obtain ⟨o, rfl⟩ : ∃ o : Nat, d = (o : Int) := ⟨d.toNat, by omega⟩
      obtain ⟨HQ, H⟩ := row_q V (m := m) (by omega)
      obtain ⟨GQ, G⟩ := row_q V (m := o) (by omega)
      have rn := R_now t u m (by omega)
      have ro := R_now t u o (by omega)
      obtain ⟨p1, p2, p3⟩ := V.1.2.1.1 m
      obtain ⟨q1, q2, q3⟩ := V.1.2.1.1 o
      have b := c_areMirrors (t := t) (u := u) (J := J) HQ GQ p1 (by omega) q2 (by omega)
      simp only [Int.toNat_natCast]
      by_cases z : mir ((sNw S).1 m).1 ((sNw S).1 o).1 = true
      · rw [if_pos z] at b
        simp only [if_pos z]
        simp (disch := omega) only [↓reduceIte, lt_TI, lt_FI, le_TI, le_FI, eq_TI, eq_FI, lt_TN, lt_FN, le_TN, le_FN, eq_TN, eq_FN, and_self, and_true, true_and, and_false, false_and, or_true, true_or, or_false, false_or, not_true_eq_false, not_false_eq_true, wr_of, uI_at, uC_at, q_bi_s, q_bl_s, q_br_s, q_bv_s, Int.toNat_natCast, tn_1, tn_m, tn_n, Int.toNat_zero, Int.toNat_one, e124_0, e124_7, e124_26, e124_15, e124_52, k20, e160_0, r1, r2, rn, ro, b]
        exact ⟨_, rfl, QC_rf⟩
      · rw [if_neg z] at b
        simp only [if_neg z]
        simp (disch := omega) only [↓reduceIte, lt_TI, lt_FI, le_TI, le_FI, eq_TI, eq_FI, lt_TN, lt_FN, le_TN, le_FN, eq_TN, eq_FN, and_self, and_true, true_and, and_false, false_and, or_true, true_or, or_false, false_or, not_true_eq_false, not_false_eq_true, wr_of, uI_at, uC_at, q_bi_s, q_bl_s, q_br_s, q_bv_s, Int.toNat_natCast, tn_1, tn_m, tn_n, Int.toNat_zero, Int.toNat_one, e124_0, e124_7, e124_26, e124_15, e124_52, k20, e160_0, r1, r2, rn, ro, b]
        exact ⟨_, rfl, QC_rf⟩
    · simp only [if_neg (show ¬ (isCl S c ∧ isCl S d) from fun z => hd z.2)]
      have r2 := h_cell_no (c := d) (u := u) (J := J) k18 e9 (by omega)
      simp (disch := omega) only [↓reduceIte, lt_TI, lt_FI, le_TI, le_FI, eq_TI, eq_FI, lt_TN, lt_FN, le_TN, le_FN, eq_TN, eq_FN, and_self, and_true, true_and, and_false, false_and, or_true, true_or, or_false, false_or, not_true_eq_false, not_false_eq_true, wr_of, uI_at, uC_at, q_bi_s, q_bl_s, q_br_s, q_bv_s, Int.toNat_natCast, tn_1, tn_m, tn_n, Int.toNat_zero, Int.toNat_one, e124_0, e124_7, e124_26, e124_15, e124_52, k20, e160_0, r1, r2]
      exact ⟨_, rfl, QC_rf⟩
  · simp only [if_neg (show ¬ (isCl S c ∧ isCl S d) from fun z => hc z.1)]
    have r1 := h_cell_no (c := c) (u := u) (J := J) k18 e9 (by omega)
    simp (disch := omega) only [↓reduceIte, lt_TI, lt_FI, le_TI, le_FI, eq_TI, eq_FI, lt_TN, lt_FN, le_TN, le_FN, eq_TN, eq_FN, and_self, and_true, true_and, and_false, false_and, or_true, true_or, or_false, false_or, not_true_eq_false, not_false_eq_true, wr_of, uI_at, uC_at, q_bi_s, q_bl_s, q_br_s, q_bv_s, Int.toNat_natCast, tn_1, tn_m, tn_n, Int.toNat_zero, Int.toNat_one, e124_0, e124_7, e124_26, e124_15, e124_52, k20, e160_0, r1]
    exact ⟨_, rfl, QC_rf⟩
theorem srcN_le {l : List Nat} (h : l.length ≤ 60) : srcN l ≤ 60 := by
  unfold srcN
  split
  · omega
  · have := cr_le (cnw l) l.length; omega
theorem k_source (V : CInv S t u I) (c k i : Int) : ∃ I', q_E (126, 0, [vr 1, vi c, vi k, vi i], []) (qk t u I J) = some (vi (sp_source S c k i).1, qk t u I' J) ∧ QC (sp_source S c k i).2 I I' := by
  obtain ⟨V2, e9, k18⟩ := CInv_qi V 0
  have h4 := tC_4 V.1
  unfold sp_source
  by_cases hc : isCl S c
  · obtain ⟨hc1, hc2⟩ := id hc
    have r1 := h_cell_ok (u := u) (J := J) k18 e9 hc1 hc2
    obtain ⟨m, rfl⟩ : ∃ m : Nat, c = (m : Int) := ⟨c.toNat, by omega⟩
    simp only [Int.toNat_natCast]
    obtain ⟨HQ, H⟩ := row_q V (m := m) (by omega)
    have rn := R_now t u m (by omega)
    have ok := V.1.2.1.1 m
    have sl := srcN_le (HOk_len ok)
    have b := c_countSources (t := t) (u := u) (J := J) H (by have := ok.2.2; omega)
    by_cases hk : 0 ≤ k ∧ k < (srcN ((sNw S).1 m).1 : Int)
    · simp only [if_pos (show isCl S (m : Int) ∧ 0 ≤ k ∧ k < (srcN ((sNw S).1 m).1 : Int) from ⟨hc, hk⟩)]
      obtain ⟨hk1, hk2⟩ := hk
      obtain ⟨k, rfl⟩ : ∃ o : Nat, k = (o : Int) := ⟨k.toNat, by omega⟩
      by_cases hi : 0 ≤ i ∧ i ≤ 59
      · simp only [if_pos hi]
        obtain ⟨hi1, hi2⟩ := hi
        obtain ⟨i, rfl⟩ : ∃ o : Nat, i = (o : Int) := ⟨i.toNat, by omega⟩
        simp only [Int.toNat_natCast]
        have b2 := c_sourceHeight (t := t) (u := u) (J := J) HQ (by have := ok.2.2; omega) (m := k) (i := i) (by omega) (by omega)
        simp (disch := omega) only [↓reduceIte, lt_TI, lt_FI, le_TI, le_FI, eq_TI, eq_FI, lt_TN, lt_FN, le_TN, le_FN, eq_TN, eq_FN, and_self, and_true, true_and, and_false, false_and, or_true, true_or, or_false, false_or, not_true_eq_false, not_false_eq_true, wr_of, uI_at, uC_at, q_bi_s, q_bl_s, q_br_s, q_bv_s, Int.toNat_natCast, tn_1, tn_m, tn_n, Int.toNat_zero, Int.toNat_one, e126_0, e126_7, e126_38, e126_27, e126_48, e126_67, k20, e160_0, r1, rn, b, r_num_ok, uI_uI, b2]
        exact ⟨_, rfl, QC_rf⟩
      · simp only [if_neg hi]
        simp (disch := omega) only [↓reduceIte, lt_TI, lt_FI, le_TI, le_FI, eq_TI, eq_FI, lt_TN, lt_FN, le_TN, le_FN, eq_TN, eq_FN, and_self, and_true, true_and, and_false, false_and, or_true, true_or, or_false, false_or, not_true_eq_false, not_false_eq_true, wr_of, uI_at, uC_at, q_bi_s, q_bl_s, q_br_s, q_bv_s, Int.toNat_natCast, tn_1, tn_m, tn_n, Int.toNat_zero, Int.toNat_one, e126_0, e126_7, e126_38, e126_27, e126_48, e126_67, k20, e160_0, r1, rn, b, r_num_no, uI_uI]
        exact ⟨_, rfl, QC_rf⟩
    · simp only [if_neg (show ¬ (isCl S (m : Int) ∧ 0 ≤ k ∧ k < (srcN ((sNw S).1 m).1 : Int)) from fun z => hk z.2)]
      rcases Classical.em (k < 0) with z | z <;> simp (disch := omega) only [↓reduceIte, lt_TI, lt_FI, le_TI, le_FI, eq_TI, eq_FI, lt_TN, lt_FN, le_TN, le_FN, eq_TN, eq_FN, and_self, and_true, true_and, and_false, false_and, or_true, true_or, or_false, false_or, not_true_eq_false, not_false_eq_true, wr_of, uI_at, uC_at, q_bi_s, q_bl_s, q_br_s, q_bv_s, Int.toNat_natCast, tn_1, tn_m, tn_n, Int.toNat_zero, Int.toNat_one, e126_0, e126_7, e126_38, e126_27, e126_48, e126_67, k20, e160_0, r1, rn, b] <;> exact ⟨_, rfl, QC_rf⟩
  · simp only [if_neg (show ¬ (isCl S c ∧ 0 ≤ k ∧ k < (srcN (rw1 S c.toNat) : Int)) from fun z => hc z.1)]
    have r1 := h_cell_no (c := c) (u := u) (J := J) k18 e9 (by omega)
    simp (disch := omega) only [↓reduceIte, lt_TI, lt_FI, le_TI, le_FI, eq_TI, eq_FI, lt_TN, lt_FN, le_TN, le_FN, eq_TN, eq_FN, and_self, and_true, true_and, and_false, false_and, or_true, true_or, or_false, false_or, not_true_eq_false, not_false_eq_true, wr_of, uI_at, uC_at, q_bi_s, q_bl_s, q_br_s, q_bv_s, Int.toNat_natCast, tn_1, tn_m, tn_n, Int.toNat_zero, Int.toNat_one, e126_0, e126_7, e126_38, e126_27, e126_48, e126_67, k20, e160_0, r1]
    exact ⟨_, rfl, QC_rf⟩
theorem k_waysBy (V : CInv S t u I) (n k : Int) : ∃ I', q_E (128, 0, [vr 1, vi n, vi k], []) (qk t u I J) = some (vi (sp_waysBy S n k).1, qk t u I' J) ∧ QC (sp_waysBy S n k).2 I I' := by
  obtain ⟨V2, e9, k18⟩ := CInv_qi V 0
  unfold sp_waysBy
  by_cases hc : 0 < tC (sTo S)
  · simp only [if_pos hc]
    have r1 := r_st_ok (u := u) (J := J) k18 e9 (by omega)
    by_cases hn : 0 ≤ n ∧ n ≤ 60
    · by_cases hk : 0 ≤ k ∧ k ≤ 60
      · simp only [if_pos (show 0 ≤ n ∧ n ≤ 60 ∧ 0 ≤ k ∧ k ≤ 60 from ⟨hn.1, hn.2, hk⟩)]
        obtain ⟨hn1, hn2⟩ := hn
        obtain ⟨hk1, hk2⟩ := hk
        obtain ⟨n, rfl⟩ : ∃ o : Nat, n = (o : Int) := ⟨n.toNat, by omega⟩
        obtain ⟨k, rfl⟩ : ∃ o : Nat, k = (o : Int) := ⟨k.toNat, by omega⟩
        simp only [Int.toNat_natCast]
        by_cases z : (n : Int) < (k : Int)
        · simp only [if_pos z]
          simp (disch := omega) only [↓reduceIte, lt_TI, lt_FI, le_TI, le_FI, eq_TI, eq_FI, lt_TN, lt_FN, le_TN, le_FN, eq_TN, eq_FN, and_self, and_true, true_and, and_false, false_and, or_true, true_or, or_false, false_or, not_true_eq_false, not_false_eq_true, wr_of, uI_at, uC_at, q_bi_s, q_bl_s, q_br_s, q_bv_s, Int.toNat_natCast, tn_1, tn_m, tn_n, Int.toNat_zero, Int.toNat_one, r1, e128_0, e128_4, e128_14, e128_24, e128_49, r_num_ok, uI_uI]
          exact ⟨_, rfl, QC_rf⟩
        · simp only [if_neg z]
          obtain ⟨I', b1, b2⟩ := c_countWays (t := t) (u := u) (I := uI I 1 10 0) (J := J) (N := n - k) (hi := k) (by omega) (by omega)
          have e : (n : Int) - (k : Int) = ((n - k : Nat) : Int) := by omega
          simp (disch := omega) only [↓reduceIte, lt_TI, lt_FI, le_TI, le_FI, eq_TI, eq_FI, lt_TN, lt_FN, le_TN, le_FN, eq_TN, eq_FN, and_self, and_true, true_and, and_false, false_and, or_true, true_or, or_false, false_or, not_true_eq_false, not_false_eq_true, wr_of, uI_at, uC_at, q_bi_s, q_bl_s, q_br_s, q_bv_s, Int.toNat_natCast, tn_1, tn_m, tn_n, Int.toNat_zero, Int.toNat_one, r1, e128_0, e128_4, e128_14, e128_24, e128_49, r_num_ok, uI_uI, e, b1]
          exact ⟨I', rfl, QC_kp b2 (by omega) (by omega)⟩
      · simp only [if_neg (show ¬ (0 ≤ n ∧ n ≤ 60 ∧ 0 ≤ k ∧ k ≤ 60) from fun z => hk z.2.2)]
        simp (disch := omega) only [↓reduceIte, lt_TI, lt_FI, le_TI, le_FI, eq_TI, eq_FI, lt_TN, lt_FN, le_TN, le_FN, eq_TN, eq_FN, and_self, and_true, true_and, and_false, false_and, or_true, true_or, or_false, false_or, not_true_eq_false, not_false_eq_true, wr_of, uI_at, uC_at, q_bi_s, q_bl_s, q_br_s, q_bv_s, Int.toNat_natCast, tn_1, tn_m, tn_n, Int.toNat_zero, Int.toNat_one, r1, e128_0, e128_4, e128_14, e128_24, e128_49, r_num_ok, r_num_no, uI_uI]
        exact ⟨_, rfl, QC_rf⟩
    · simp only [if_neg (show ¬ (0 ≤ n ∧ n ≤ 60 ∧ 0 ≤ k ∧ k ≤ 60) from fun z => hn ⟨z.1, z.2.1⟩)]
      simp (disch := omega) only [↓reduceIte, lt_TI, lt_FI, le_TI, le_FI, eq_TI, eq_FI, lt_TN, lt_FN, le_TN, le_FN, eq_TN, eq_FN, and_self, and_true, true_and, and_false, false_and, or_true, true_or, or_false, false_or, not_true_eq_false, not_false_eq_true, wr_of, uI_at, uC_at, q_bi_s, q_bl_s, q_br_s, q_bv_s, Int.toNat_natCast, tn_1, tn_m, tn_n, Int.toNat_zero, Int.toNat_one, r1, e128_0, e128_4, e128_14, e128_24, e128_49, r_num_no, uI_uI]
      exact ⟨_, rfl, QC_rf⟩
  · simp only [if_neg hc]
    have r1 := r_st_no (u := u) (J := J) k18 e9 (by omega)
    simp (disch := omega) only [↓reduceIte, lt_TI, lt_FI, le_TI, le_FI, eq_TI, eq_FI, lt_TN, lt_FN, le_TN, le_FN, eq_TN, eq_FN, and_self, and_true, true_and, and_false, false_and, or_true, true_or, or_false, false_or, not_true_eq_false, not_false_eq_true, wr_of, uI_at, uC_at, q_bi_s, q_bl_s, q_br_s, q_bv_s, Int.toNat_natCast, tn_1, tn_m, tn_n, Int.toNat_zero, Int.toNat_one, r1, e128_0, e128_4, e128_14, e128_24, e128_49]
    exact ⟨_, rfl, QC_rf⟩
theorem wbI_r (l : List Nat) (i : Nat) : wbI l i = -2 ∨ (1 ≤ wbI l i ∧ wbI l i ≤ 3) := by
  unfold wbI
  split
  · right; omega
  · split
    · right; omega
    · split
      · right; omega
      · left; rfl
theorem k_eatsOf (V : CInv S t u I) (c : Int) : ∃ I', q_E (131, 0, [vr 1, vi c, vu, vu], []) (qk t u I J) = some (vi (sp_eatsOf S c).1, qk t u I' J) ∧ QC (sp_eatsOf S c).2 I I' := by
  obtain ⟨V2, e9, k18⟩ := CInv_qi V 0
  have h4 := tC_4 V.1
  unfold sp_eatsOf spC
  by_cases hc : isCl S c
  · simp only [if_pos hc]
    obtain ⟨hc1, hc2⟩ := hc
    obtain ⟨m, rfl⟩ : ∃ m : Nat, c = (m : Int) := ⟨c.toNat, by omega⟩
    have r1 := r_cell_ok (u := u) (J := J) k18 e9 hc1 hc2
    obtain ⟨HQ, H⟩ := row_q V (m := m) (by omega)
    have H0 := H.1.1
    have H1 := HQ.2.1
    have ok := V.1.2.1.1 m
    have hl := HOk_len ok
    have rn := R_now t u m (by omega)
    simp only [Int.toNat_natCast]
    have loop : ∀ r i : Nat, i + r = ((sNw S).1 m).1.length → (∀ a, a < i → wbI ((sNw S).1 m).1 a = -2) → q_E (131, 22, [vu, vu, vr (26 + 2 * m), vi (i : Int)], []) (qk t u (uI I 1 10 0) J) = some (vi (fint (fun i => decide (wbI ((sNw S).1 m).1 i ≠ -2)) ((sNw S).1 m).1.length), qk t u (uI I 1 10 0) J) := by
      intro r
      induction r with
      | zero =>
        intro i hi hne
        have e : fsti (fun i => decide (wbI ((sNw S).1 m).1 i ≠ -2)) ((sNw S).1 m).1.length = ((sNw S).1 m).1.length := fsti_eq (Nat.le_refl _) (fun a ha => decide_eq_false (fun z => z (hne a (by omega)))) (fun z => by omega)
        rw [e131_22]
        unfold fint
        rw [e, if_neg (show ¬ ((sNw S).1 m).1.length < ((sNw S).1 m).1.length by omega), H0, if_pos rfl, H1, if_neg (show ¬ (i : Int) < (((sNw S).1 m).1.length : Int) by omega)]
      | succ r ih =>
        intro i hi hne
        have b := c_bite (t := t) (u := u) (J := J) HQ (by have := ok.2.2; omega) (i := i) (by omega)
        rw [e131_22, H0, if_pos rfl, H1, if_pos (show (i : Int) < (((sNw S).1 m).1.length : Int) by omega), b, q_bi_s, e131_35]
        by_cases q : wbI ((sNw S).1 m).1 i = -2
        · rw [if_pos q, wr_of (by omega) (by omega)]
          exact ih (i + 1) (by omega) (fun a ha => by
            by_cases z : a = i
            · rw [z]; exact q
            · exact hne a (by omega))
        · have e : fsti (fun i => decide (wbI ((sNw S).1 m).1 i ≠ -2)) ((sNw S).1 m).1.length = i := fsti_eq (by omega) (fun a ha => decide_eq_false (fun z => z (hne a (by omega)))) (fun z => decide_eq_true q)
          unfold fint
          rw [if_neg q, e, if_pos (show i < ((sNw S).1 m).1.length by omega)]
    have l0 := loop ((sNw S).1 m).1.length 0 (by omega) (fun a ha => by omega)
    rw [Int.natCast_zero] at l0
    simp (disch := omega) only [↓reduceIte, lt_TI, lt_FI, le_TI, le_FI, eq_TI, eq_FI, lt_TN, lt_FN, le_TN, le_FN, eq_TN, eq_FN, and_self, and_true, true_and, and_false, false_and, or_true, true_or, or_false, false_or, not_true_eq_false, not_false_eq_true, wr_of, uI_at, uC_at, q_bi_s, q_bl_s, q_br_s, q_bv_s, Int.toNat_natCast, tn_1, tn_m, tn_n, Int.toNat_zero, Int.toNat_one, r1, e131_0, e131_5, rn, l0]
    exact ⟨_, rfl, QC_rf⟩
  · simp only [if_neg hc]
    have r1 := r_cell_no (c := c) (u := u) (J := J) k18 e9 (by omega)
    simp (disch := omega) only [↓reduceIte, lt_TI, lt_FI, le_TI, le_FI, eq_TI, eq_FI, lt_TN, lt_FN, le_TN, le_FN, eq_TN, eq_FN, and_self, and_true, true_and, and_false, false_and, or_true, true_or, or_false, false_or, not_true_eq_false, not_false_eq_true, wr_of, uI_at, uC_at, q_bi_s, q_bl_s, q_br_s, q_bv_s, Int.toNat_natCast, tn_1, tn_m, tn_n, Int.toNat_zero, Int.toNat_one, r1, e131_0, e131_5]
    exact ⟨_, rfl, QC_rf⟩
theorem k_eatsMany (V : CInv S t u I) (c : Int) : ∃ I', q_E (132, 0, [vr 1, vi c, vu, vu, vu], []) (qk t u I J) = some (vi (sp_eatsMany S c).1, qk t u I' J) ∧ QC (sp_eatsMany S c).2 I I' := by
  obtain ⟨V2, e9, k18⟩ := CInv_qi V 0
  have h4 := tC_4 V.1
  unfold sp_eatsMany spC
  by_cases hc : isCl S c
  · simp only [if_pos hc]
    obtain ⟨hc1, hc2⟩ := hc
    obtain ⟨m, rfl⟩ : ∃ m : Nat, c = (m : Int) := ⟨c.toNat, by omega⟩
    have r1 := r_cell_ok (u := u) (J := J) k18 e9 hc1 hc2
    obtain ⟨HQ, H⟩ := row_q V (m := m) (by omega)
    have H0 := H.1.1
    have H1 := HQ.2.1
    have ok := V.1.2.1.1 m
    have hl := HOk_len ok
    have rn := R_now t u m (by omega)
    simp only [Int.toNat_natCast]
    have loop : ∀ r i : Nat, i + r = ((sNw S).1 m).1.length → (∀ a, a < i → wbI ((sNw S).1 m).1 a = -2) → q_E (132, 22, [vu, vu, vr (26 + 2 * m), vi (i : Int), vu], []) (qk t u (uI I 1 10 0) J) = some (vi (if fsti (fun i => decide (wbI ((sNw S).1 m).1 i ≠ -2)) ((sNw S).1 m).1.length < ((sNw S).1 m).1.length then wbI ((sNw S).1 m).1 (fsti (fun i => decide (wbI ((sNw S).1 m).1 i ≠ -2)) ((sNw S).1 m).1.length) else -2), qk t u (uI I 1 10 0) J) := by
      intro r
      induction r with
      | zero =>
        intro i hi hne
        have e : fsti (fun i => decide (wbI ((sNw S).1 m).1 i ≠ -2)) ((sNw S).1 m).1.length = ((sNw S).1 m).1.length := fsti_eq (Nat.le_refl _) (fun a ha => decide_eq_false (fun z => z (hne a (by omega)))) (fun z => by omega)
        rw [e132_22]
        rw [e, if_neg (show ¬ ((sNw S).1 m).1.length < ((sNw S).1 m).1.length by omega), H0, if_pos rfl, H1, if_neg (show ¬ (i : Int) < (((sNw S).1 m).1.length : Int) by omega)]
      | succ r ih =>
        intro i hi hne
        have b := c_bite (t := t) (u := u) (J := J) HQ (by have := ok.2.2; omega) (i := i) (by omega)
        rw [e132_22, H0, if_pos rfl, H1, if_pos (show (i : Int) < (((sNw S).1 m).1.length : Int) by omega), b, q_bi_s, e132_35]
        by_cases q : wbI ((sNw S).1 m).1 i = -2
        · rw [if_pos q, wr_of (by omega) (by omega)]
          exact ih (i + 1) (by omega) (fun a ha => by
            by_cases z : a = i
            · rw [z]; exact q
            · exact hne a (by omega))
        · have e : fsti (fun i => decide (wbI ((sNw S).1 m).1 i ≠ -2)) ((sNw S).1 m).1.length = i := fsti_eq (by omega) (fun a ha => decide_eq_false (fun z => z (hne a (by omega)))) (fun z => decide_eq_true q)
          rw [if_neg q, e, if_pos (show i < ((sNw S).1 m).1.length by omega)]
    have l0 := loop ((sNw S).1 m).1.length 0 (by omega) (fun a ha => by omega)
    rw [Int.natCast_zero] at l0
    simp (disch := omega) only [↓reduceIte, lt_TI, lt_FI, le_TI, le_FI, eq_TI, eq_FI, lt_TN, lt_FN, le_TN, le_FN, eq_TN, eq_FN, and_self, and_true, true_and, and_false, false_and, or_true, true_or, or_false, false_or, not_true_eq_false, not_false_eq_true, wr_of, uI_at, uC_at, q_bi_s, q_bl_s, q_br_s, q_bv_s, Int.toNat_natCast, tn_1, tn_m, tn_n, Int.toNat_zero, Int.toNat_one, r1, e132_0, e132_5, rn, l0]
    exact ⟨_, rfl, QC_rf⟩
  · simp only [if_neg hc]
    have r1 := r_cell_no (c := c) (u := u) (J := J) k18 e9 (by omega)
    simp (disch := omega) only [↓reduceIte, lt_TI, lt_FI, le_TI, le_FI, eq_TI, eq_FI, lt_TN, lt_FN, le_TN, le_FN, eq_TN, eq_FN, and_self, and_true, true_and, and_false, false_and, or_true, true_or, or_false, false_or, not_true_eq_false, not_false_eq_true, wr_of, uI_at, uC_at, q_bi_s, q_bl_s, q_br_s, q_bv_s, Int.toNat_natCast, tn_1, tn_m, tn_n, Int.toNat_zero, Int.toNat_one, r1, e132_0, e132_5]
    exact ⟨_, rfl, QC_rf⟩
theorem k_fitAt (V : CInv S t u I) (i : Int) : ∃ I', q_E (138, 0, [vr 1, vi i], []) (qk t u I J) = some (vi (sp_fitAt S i).1, qk t u I' J) ∧ QC (sp_fitAt S i).2 I I' := by
  obtain ⟨V2, e9, k18⟩ := CInv_qi V 0
  unfold sp_fitAt
  by_cases hc : 0 < tC (sTo S)
  · have T := SOk_T V.1 hc
    obtain ⟨g1, g2, -⟩ := V.2.2.2.2.2.2.2.2.2.2 hc
    have fl := fit_len T.2.2.2.2.2.2.2.1
    by_cases hi : 0 ≤ i ∧ i < ((fitL (sTo S)).length : Int)
    · simp only [if_pos (show 0 < tC (sTo S) ∧ 0 ≤ i ∧ i < ((fitL (sTo S)).length : Int) from ⟨hc, hi⟩)]
      obtain ⟨hi1, hi2⟩ := hi
      obtain ⟨i, rfl⟩ : ∃ o : Nat, i = (o : Int) := ⟨i.toNat, by omega⟩
      simp only [Int.toNat_natCast]
      simp (disch := omega) only [↓reduceIte, lt_TI, lt_FI, le_TI, le_FI, eq_TI, eq_FI, lt_TN, lt_FN, le_TN, le_FN, eq_TN, eq_FN, and_self, and_true, true_and, and_false, false_and, or_true, true_or, or_false, false_or, not_true_eq_false, not_false_eq_true, wr_of, uI_at, uC_at, q_bi_s, q_bl_s, q_br_s, q_bv_s, Int.toNat_natCast, tn_1, tn_m, tn_n, Int.toNat_zero, Int.toNat_one, e138_0, e138_6, e138_32, e164_0, k18, e9, k20, e160_0, g1, g2 i (by omega)]
      exact ⟨_, rfl, QC_rf⟩
    · simp only [if_neg (show ¬ (0 < tC (sTo S) ∧ 0 ≤ i ∧ i < ((fitL (sTo S)).length : Int)) from fun z => hi z.2)]
      rcases Classical.em (i < 0) with z | z <;> simp (disch := omega) only [↓reduceIte, lt_TI, lt_FI, le_TI, le_FI, eq_TI, eq_FI, lt_TN, lt_FN, le_TN, le_FN, eq_TN, eq_FN, and_self, and_true, true_and, and_false, false_and, or_true, true_or, or_false, false_or, not_true_eq_false, not_false_eq_true, wr_of, uI_at, uC_at, q_bi_s, q_bl_s, q_br_s, q_bv_s, Int.toNat_natCast, tn_1, tn_m, tn_n, Int.toNat_zero, Int.toNat_one, e138_0, e138_6, e138_32, e164_0, k18, e9, k20, e160_0, g1] <;> exact ⟨_, rfl, QC_rf⟩
  · simp only [if_neg (show ¬ (0 < tC (sTo S) ∧ 0 ≤ i ∧ i < ((fitL (sTo S)).length : Int)) from fun z => hc z.1)]
    simp (disch := omega) only [↓reduceIte, lt_TI, lt_FI, le_TI, le_FI, eq_TI, eq_FI, lt_TN, lt_FN, le_TN, le_FN, eq_TN, eq_FN, and_self, and_true, true_and, and_false, false_and, or_true, true_or, or_false, false_or, not_true_eq_false, not_false_eq_true, wr_of, uI_at, uC_at, q_bi_s, q_bl_s, q_br_s, q_bv_s, Int.toNat_natCast, tn_1, tn_m, tn_n, Int.toNat_zero, Int.toNat_one, e138_0, e138_6, e138_32, e164_0, k18, e9, k20, e160_0]
    exact ⟨_, rfl, QC_rf⟩
theorem k_askLeaves (V : CInv S t u I) : ∃ I', q_E (142, 0, [vr 1, vu], []) (qk t u I J) = some (vi (sp_askLeaves S).1, qk t u I' J) ∧ QC (sp_askLeaves S).2 I I' := by
  obtain ⟨V2, e9, k18⟩ := CInv_qi V 0
  have ht := V2.2.2.1
  have VT := V.2.2.2.2.2.2.2.1
  unfold sp_askLeaves spS
  by_cases hc : 0 < tC (sTo S)
  · simp only [if_pos hc]
    have T := SOk_T V.1 hc
    have U4 := T.2.2.2.2.2.2.2.1
    have GF := GAt_F (V2.2.2.2.2.2 hc) U4
    have k10 := VT.2.2.2.2.2.1
    have r1 := r_st_ok (u := u) (J := J) k18 e9 (by omega)
    have b := c_bestAsked (t := t) (u := u) (J := J) GF U4
    have hb : askI (fitL (sTo S)) (tU (sTo S)) = -2 ∨ ∃ k : Nat, k < tU (sTo S) ∧ askI (fitL (sTo S)) (tU (sTo S)) = (k : Int) := by
      unfold askI
      split
      · exact Or.inl rfl
      · exact bstI_lt _ _
    rcases hb with q | ⟨k, q1, q2⟩
    · rw [q] at b ⊢
      simp (disch := omega) only [↓reduceIte, lt_TI, lt_FI, le_TI, le_FI, eq_TI, eq_FI, lt_TN, lt_FN, le_TN, le_FN, eq_TN, eq_FN, and_self, and_true, true_and, and_false, false_and, or_true, true_or, or_false, false_or, not_true_eq_false, not_false_eq_true, wr_of, uI_at, uC_at, q_bi_s, q_bl_s, q_br_s, q_bv_s, Int.toNat_natCast, tn_1, tn_m, tn_n, Int.toNat_zero, Int.toNat_one, r1, e142_0, e142_4, k18, k10, b, e142_23, e142_43]
      exact ⟨_, rfl, QC_rf⟩
    · rw [q2] at b ⊢
      have b2 := c_left (t := t) (u := u) (J := J) GF (v := k) (by omega)
      simp only [if_neg (show ¬ (k : Int) = -2 by omega), Int.toNat_natCast]
      simp (disch := omega) only [↓reduceIte, lt_TI, lt_FI, le_TI, le_FI, eq_TI, eq_FI, lt_TN, lt_FN, le_TN, le_FN, eq_TN, eq_FN, and_self, and_true, true_and, and_false, false_and, or_true, true_or, or_false, false_or, not_true_eq_false, not_false_eq_true, wr_of, uI_at, uC_at, q_bi_s, q_bl_s, q_br_s, q_bv_s, Int.toNat_natCast, tn_1, tn_m, tn_n, Int.toNat_zero, Int.toNat_one, r1, e142_0, e142_4, k18, k10, b, e142_23, b2, e142_43]
      exact ⟨_, rfl, QC_rf⟩
  · simp only [if_neg hc]
    have r1 := r_st_no (u := u) (J := J) k18 e9 (by omega)
    simp (disch := omega) only [↓reduceIte, lt_TI, lt_FI, le_TI, le_FI, eq_TI, eq_FI, lt_TN, lt_FN, le_TN, le_FN, eq_TN, eq_FN, and_self, and_true, true_and, and_false, false_and, or_true, true_or, or_false, false_or, not_true_eq_false, not_false_eq_true, wr_of, uI_at, uC_at, q_bi_s, q_bl_s, q_br_s, q_bv_s, Int.toNat_natCast, tn_1, tn_m, tn_n, Int.toNat_zero, Int.toNat_one, r1, e142_0, e142_4]
    exact ⟨_, rfl, QC_rf⟩
theorem c_stHas {c : Int} (h1 : -100 ≤ c) (h2 : c ≤ 100) (a b : Bool) : q_E (172, 0, [vi c, vi (if a = true then 1 else 0), vi (if b = true then 1 else 0)], []) (qk t u I J) = some (vi (stHas c a b), qk t u I J) := by
  rw [e172_0]
  cases a <;> cases b <;> simp (disch := omega) only [↓reduceIte, lt_TI, lt_FI, le_TI, le_FI, eq_TI, eq_FI, lt_TN, lt_FN, le_TN, le_FN, eq_TN, eq_FN, and_self, and_true, true_and, and_false, false_and, or_true, true_or, or_false, false_or, not_true_eq_false, not_false_eq_true, wr_of, uI_at, uC_at, q_bi_s, q_bl_s, q_br_s, q_bv_s, Int.toNat_natCast, tn_1, tn_m, tn_n, Int.toNat_zero, Int.toNat_one, stHas, Bool.false_eq_true]
theorem c_moHas (a b : Bool) : q_E (173, 0, [vi (if a = true then 1 else 0), vi (if b = true then 1 else 0)], []) (qk t u I J) = some (vi (moHas a b), qk t u I J) := by
  rw [e173_0]
  cases a <;> cases b <;> simp (disch := omega) only [↓reduceIte, lt_TI, lt_FI, le_TI, le_FI, eq_TI, eq_FI, lt_TN, lt_FN, le_TN, le_FN, eq_TN, eq_FN, and_self, and_true, true_and, and_false, false_and, or_true, true_or, or_false, false_or, not_true_eq_false, not_false_eq_true, wr_of, uI_at, uC_at, q_bi_s, q_bl_s, q_br_s, q_bv_s, Int.toNat_natCast, tn_1, tn_m, tn_n, Int.toNat_zero, Int.toNat_one, moHas, Bool.false_eq_true]
theorem k_comes (V : CInv S t u I) (c : Int) (a b o : Bool) : ∃ I', q_E (144, 0, [vr 1, vi c, vi (if a = true then 1 else 0), vi (if b = true then 1 else 0), vi (if o = true then 1 else 0)], []) (qk t u I J) = some (vi (sp_comes S c a b o).1, qk t u I' J) ∧ QC (sp_comes S c a b o).2 I I' := by
  obtain ⟨V2, e9, k18⟩ := CInv_qi V 0
  unfold sp_comes
  by_cases hc : 0 < tC (sTo S)
  · simp only [if_pos hc]
    have r1 := r_st_ok (u := u) (J := J) k18 e9 (by omega)
    by_cases hn : 0 ≤ c ∧ c ≤ 9
    · simp only [if_pos hn]
      obtain ⟨hn1, hn2⟩ := hn
      have s1 := c_stHas (t := t) (u := u) (I := uI I 1 10 0) (J := J) (c := c) (by omega) (by omega) a b
      have s2 := c_moHas (t := t) (u := u) (I := uI I 1 10 0) (J := J) a b
      cases o with
      | true => simp (disch := omega) only [↓reduceIte, lt_TI, lt_FI, le_TI, le_FI, eq_TI, eq_FI, lt_TN, lt_FN, le_TN, le_FN, eq_TN, eq_FN, and_self, and_true, true_and, and_false, false_and, or_true, true_or, or_false, false_or, not_true_eq_false, not_false_eq_true, wr_of, uI_at, uC_at, q_bi_s, q_bl_s, q_br_s, q_bv_s, Int.toNat_natCast, tn_1, tn_m, tn_n, Int.toNat_zero, Int.toNat_one, r1, e144_0, e144_4, e144_14, e144_39, e144_30, r_num_ok, uI_uI, s1, s2]; exact ⟨_, rfl, QC_rf⟩
      | false => simp (disch := omega) only [↓reduceIte, lt_TI, lt_FI, le_TI, le_FI, eq_TI, eq_FI, lt_TN, lt_FN, le_TN, le_FN, eq_TN, eq_FN, and_self, and_true, true_and, and_false, false_and, or_true, true_or, or_false, false_or, not_true_eq_false, not_false_eq_true, wr_of, uI_at, uC_at, q_bi_s, q_bl_s, q_br_s, q_bv_s, Int.toNat_natCast, tn_1, tn_m, tn_n, Int.toNat_zero, Int.toNat_one, r1, e144_0, e144_4, e144_14, e144_39, e144_30, r_num_ok, uI_uI, s1, s2, Bool.false_eq_true]; exact ⟨_, rfl, QC_rf⟩
    · simp only [if_neg hn]
      simp (disch := omega) only [↓reduceIte, lt_TI, lt_FI, le_TI, le_FI, eq_TI, eq_FI, lt_TN, lt_FN, le_TN, le_FN, eq_TN, eq_FN, and_self, and_true, true_and, and_false, false_and, or_true, true_or, or_false, false_or, not_true_eq_false, not_false_eq_true, wr_of, uI_at, uC_at, q_bi_s, q_bl_s, q_br_s, q_bv_s, Int.toNat_natCast, tn_1, tn_m, tn_n, Int.toNat_zero, Int.toNat_one, r1, e144_0, e144_4, e144_14, e144_39, e144_30, r_num_no, uI_uI]
      exact ⟨_, rfl, QC_rf⟩
  · simp only [if_neg hc]
    have r1 := r_st_no (u := u) (J := J) k18 e9 (by omega)
    simp (disch := omega) only [↓reduceIte, lt_TI, lt_FI, le_TI, le_FI, eq_TI, eq_FI, lt_TN, lt_FN, le_TN, le_FN, eq_TN, eq_FN, and_self, and_true, true_and, and_false, false_and, or_true, true_or, or_false, false_or, not_true_eq_false, not_false_eq_true, wr_of, uI_at, uC_at, q_bi_s, q_bl_s, q_br_s, q_bv_s, Int.toNat_natCast, tn_1, tn_m, tn_n, Int.toNat_zero, Int.toNat_one, r1, e144_0, e144_4, e144_14, e144_39, e144_30]
    exact ⟨_, rfl, QC_rf⟩
def rstB (c : Int) (a b : Bool) : Bool := decide (stHas c (!a) b ≤ stHas c a b) && decide (moHas a (!b) ≤ moHas a b)
theorem c_isRest {c : Int} (h1 : 0 ≤ c) (h2 : c ≤ 9) (a b : Bool) : q_E (174, 0, [vi c, vi (if a = true then 1 else 0), vi (if b = true then 1 else 0)], []) (qk t u I J) = some (vi (if rstB c a b = true then 1 else 0), qk t u I J) := by
  have e1 := c_stHas (t := t) (u := u) (I := I) (J := J) (c := c) (by omega) (by omega) (!a) b
  have e2 := c_stHas (t := t) (u := u) (I := I) (J := J) (c := c) (by omega) (by omega) a b
  have e3 := c_moHas (t := t) (u := u) (I := I) (J := J) a (!b)
  have e4 := c_moHas (t := t) (u := u) (I := I) (J := J) a b
  unfold rstB
  by_cases q : stHas c (!a) b ≤ stHas c a b
  · by_cases z : moHas a (!b) ≤ moHas a b
    · rw [decide_eq_true q, decide_eq_true z]
      cases a <;> cases b <;> simp only [Bool.not_true, Bool.not_false, if_true, Bool.false_eq_true, if_false] at e1 e2 e3 e4 q z ⊢ <;> simp (disch := omega) only [↓reduceIte, lt_TI, lt_FI, le_TI, le_FI, eq_TI, eq_FI, lt_TN, lt_FN, le_TN, le_FN, eq_TN, eq_FN, and_self, and_true, true_and, and_false, false_and, or_true, true_or, or_false, false_or, not_true_eq_false, not_false_eq_true, wr_of, uI_at, uC_at, q_bi_s, q_bl_s, q_br_s, q_bv_s, Int.toNat_natCast, tn_1, tn_m, tn_n, Int.toNat_zero, Int.toNat_one, e174_0, e174_14, e174_20, e174_36, e174_41, e1, e2, e3, e4, Bool.and_self]
    · rw [decide_eq_true q, decide_eq_false z]
      cases a <;> cases b <;> simp only [Bool.not_true, Bool.not_false, if_true, Bool.false_eq_true, if_false] at e1 e2 e3 e4 q z ⊢ <;> simp (disch := omega) only [↓reduceIte, lt_TI, lt_FI, le_TI, le_FI, eq_TI, eq_FI, lt_TN, lt_FN, le_TN, le_FN, eq_TN, eq_FN, and_self, and_true, true_and, and_false, false_and, or_true, true_or, or_false, false_or, not_true_eq_false, not_false_eq_true, wr_of, uI_at, uC_at, q_bi_s, q_bl_s, q_br_s, q_bv_s, Int.toNat_natCast, tn_1, tn_m, tn_n, Int.toNat_zero, Int.toNat_one, e174_0, e174_14, e174_20, e174_36, e174_41, e1, e2, e3, e4, Bool.and_false, Bool.false_eq_true]
  · rw [decide_eq_false q]
    cases a <;> cases b <;> simp only [Bool.not_true, Bool.not_false, if_true, Bool.false_eq_true, if_false] at e1 e2 e3 e4 q ⊢ <;> simp (disch := omega) only [↓reduceIte, lt_TI, lt_FI, le_TI, le_FI, eq_TI, eq_FI, lt_TN, lt_FN, le_TN, le_FN, eq_TN, eq_FN, and_self, and_true, true_and, and_false, false_and, or_true, true_or, or_false, false_or, not_true_eq_false, not_false_eq_true, wr_of, uI_at, uC_at, q_bi_s, q_bl_s, q_br_s, q_bv_s, Int.toNat_natCast, tn_1, tn_m, tn_n, Int.toNat_zero, Int.toNat_one, e174_0, e174_14, e174_20, e174_36, e174_41, e1, e2, Bool.false_and, Bool.false_eq_true]
theorem rst_B (c : Int) (p : Nat) : isRst c p = rstB c (decide (2 ≤ p)) (decide (p % 2 = 1)) := rfl
theorem k_rests (V : CInv S t u I) (n : Int) : ∃ I', q_E (145, 0, [vr 1, vi n, vu, vu], []) (qk t u I J) = some (vi (sp_rests S n).1, qk t u I' J) ∧ QC (sp_rests S n).2 I I' := by
  obtain ⟨V2, e9, k18⟩ := CInv_qi V 0
  unfold sp_rests spW
  by_cases hc : 0 < tC (sTo S)
  · simp only [if_pos hc]
    have r1 := r_st_ok (u := u) (J := J) k18 e9 (by omega)
    by_cases hn : 0 ≤ n ∧ n ≤ 9
    · simp only [if_pos hn]
      obtain ⟨hn1, hn2⟩ := hn
      obtain ⟨n, rfl⟩ : ∃ o : Nat, n = (o : Int) := ⟨n.toNat, by omega⟩
      simp only [Int.toNat_natCast]
      have st : ∀ p : Nat, p < 4 → ∀ f : Nat, f ≤ 10 → q_E (145, 23, [vu, vi (n : Int), vi (f : Int), vi (p : Int)], []) (qk t u (uI I 1 10 0) J) = q_E (145, 23, [vu, vi (n : Int), vi ((f + if isRst (n : Int) p = true then 1 else 0 : Nat) : Int), vi ((p + 1 : Nat) : Int)], []) (qk t u (uI I 1 10 0) J) := by
        intro p hp f hf
        have b := c_isRest (t := t) (u := u) (I := uI I 1 10 0) (J := J) (c := (n : Int)) hn1 hn2 (decide (2 ≤ p)) (decide (p % 2 = 1))
        rw [← rst_B] at b
        have tm : Int.tmod (p : Int) 2 = ((p % 2 : Nat) : Int) := (Int.ofNat_tmod p 2).symm
        rw [e145_23]
        have fin : ∀ z : Bool, q_E (145, 54, [vu, vi (n : Int), vi (f : Int), vi (p : Int)], [vi (if z = true then 1 else 0)]) (qk t u (uI I 1 10 0) J) = q_E (145, 23, [vu, vi (n : Int), vi ((f + if z = true then 1 else 0 : Nat) : Int), vi ((p + 1 : Nat) : Int)], []) (qk t u (uI I 1 10 0) J) := fun z => by
          rw [e145_54]
          cases z
          · simp (disch := omega) only [↓reduceIte, lt_TI, lt_FI, le_TI, le_FI, eq_TI, eq_FI, lt_TN, lt_FN, le_TN, le_FN, eq_TN, eq_FN, and_self, and_true, true_and, and_false, false_and, or_true, true_or, or_false, false_or, not_true_eq_false, not_false_eq_true, wr_of, uI_at, uC_at, q_bi_s, q_bl_s, q_br_s, q_bv_s, Int.toNat_natCast, tn_1, tn_m, tn_n, Int.toNat_zero, Int.toNat_one, Bool.false_eq_true]; rfl
          · simp (disch := omega) only [↓reduceIte, lt_TI, lt_FI, le_TI, le_FI, eq_TI, eq_FI, lt_TN, lt_FN, le_TN, le_FN, eq_TN, eq_FN, and_self, and_true, true_and, and_false, false_and, or_true, true_or, or_false, false_or, not_true_eq_false, not_false_eq_true, wr_of, uI_at, uC_at, q_bi_s, q_bl_s, q_br_s, q_bv_s, Int.toNat_natCast, tn_1, tn_m, tn_n, Int.toNat_zero, Int.toNat_one]; rfl
        by_cases q1 : 2 ≤ p
        · by_cases q2 : p % 2 = 1
          · rw [decide_eq_true q1, decide_eq_true q2] at b
            simp (disch := omega) only [↓reduceIte, lt_TI, lt_FI, le_TI, le_FI, eq_TI, eq_FI, lt_TN, lt_FN, le_TN, le_FN, eq_TN, eq_FN, and_self, and_true, true_and, and_false, false_and, or_true, true_or, or_false, false_or, not_true_eq_false, not_false_eq_true, wr_of, uI_at, uC_at, q_bi_s, q_bl_s, q_br_s, q_bv_s, Int.toNat_natCast, tn_1, tn_m, tn_n, Int.toNat_zero, Int.toNat_one] at b
            simp (disch := omega) only [↓reduceIte, lt_TI, lt_FI, le_TI, le_FI, eq_TI, eq_FI, lt_TN, lt_FN, le_TN, le_FN, eq_TN, eq_FN, and_self, and_true, true_and, and_false, false_and, or_true, true_or, or_false, false_or, not_true_eq_false, not_false_eq_true, wr_of, uI_at, uC_at, q_bi_s, q_bl_s, q_br_s, q_bv_s, Int.toNat_natCast, tn_1, tn_m, tn_n, Int.toNat_zero, Int.toNat_one, tm, q2, b]
            exact fin _
          · rw [decide_eq_true q1, decide_eq_false q2] at b
            simp (disch := omega) only [↓reduceIte, lt_TI, lt_FI, le_TI, le_FI, eq_TI, eq_FI, lt_TN, lt_FN, le_TN, le_FN, eq_TN, eq_FN, and_self, and_true, true_and, and_false, false_and, or_true, true_or, or_false, false_or, not_true_eq_false, not_false_eq_true, wr_of, uI_at, uC_at, q_bi_s, q_bl_s, q_br_s, q_bv_s, Int.toNat_natCast, tn_1, tn_m, tn_n, Int.toNat_zero, Int.toNat_one, Bool.false_eq_true] at b
            have q3 : p % 2 = 0 := by omega
            simp (disch := omega) only [↓reduceIte, lt_TI, lt_FI, le_TI, le_FI, eq_TI, eq_FI, lt_TN, lt_FN, le_TN, le_FN, eq_TN, eq_FN, and_self, and_true, true_and, and_false, false_and, or_true, true_or, or_false, false_or, not_true_eq_false, not_false_eq_true, wr_of, uI_at, uC_at, q_bi_s, q_bl_s, q_br_s, q_bv_s, Int.toNat_natCast, tn_1, tn_m, tn_n, Int.toNat_zero, Int.toNat_one, tm, q3, Int.natCast_zero, b]
            exact fin _
        · by_cases q2 : p % 2 = 1
          · rw [decide_eq_false q1, decide_eq_true q2] at b
            simp (disch := omega) only [↓reduceIte, lt_TI, lt_FI, le_TI, le_FI, eq_TI, eq_FI, lt_TN, lt_FN, le_TN, le_FN, eq_TN, eq_FN, and_self, and_true, true_and, and_false, false_and, or_true, true_or, or_false, false_or, not_true_eq_false, not_false_eq_true, wr_of, uI_at, uC_at, q_bi_s, q_bl_s, q_br_s, q_bv_s, Int.toNat_natCast, tn_1, tn_m, tn_n, Int.toNat_zero, Int.toNat_one, Bool.false_eq_true] at b
            simp (disch := omega) only [↓reduceIte, lt_TI, lt_FI, le_TI, le_FI, eq_TI, eq_FI, lt_TN, lt_FN, le_TN, le_FN, eq_TN, eq_FN, and_self, and_true, true_and, and_false, false_and, or_true, true_or, or_false, false_or, not_true_eq_false, not_false_eq_true, wr_of, uI_at, uC_at, q_bi_s, q_bl_s, q_br_s, q_bv_s, Int.toNat_natCast, tn_1, tn_m, tn_n, Int.toNat_zero, Int.toNat_one, tm, q2, b]
            exact fin _
          · rw [decide_eq_false q1, decide_eq_false q2] at b
            simp (disch := omega) only [↓reduceIte, lt_TI, lt_FI, le_TI, le_FI, eq_TI, eq_FI, lt_TN, lt_FN, le_TN, le_FN, eq_TN, eq_FN, and_self, and_true, true_and, and_false, false_and, or_true, true_or, or_false, false_or, not_true_eq_false, not_false_eq_true, wr_of, uI_at, uC_at, q_bi_s, q_bl_s, q_br_s, q_bv_s, Int.toNat_natCast, tn_1, tn_m, tn_n, Int.toNat_zero, Int.toNat_one, Bool.false_eq_true] at b
            have q3 : p % 2 = 0 := by omega
            simp (disch := omega) only [↓reduceIte, lt_TI, lt_FI, le_TI, le_FI, eq_TI, eq_FI, lt_TN, lt_FN, le_TN, le_FN, eq_TN, eq_FN, and_self, and_true, true_and, and_false, false_and, or_true, true_or, or_false, false_or, not_true_eq_false, not_false_eq_true, wr_of, uI_at, uC_at, q_bi_s, q_bl_s, q_br_s, q_bv_s, Int.toNat_natCast, tn_1, tn_m, tn_n, Int.toNat_zero, Int.toNat_one, tm, q3, Int.natCast_zero, b]
            exact fin _
      have f0 : ∀ z : Bool, (if z = true then 1 else 0 : Nat) ≤ 1 := fun z => by split <;> omega
      have s0 := st 0 (by omega) 0 (by omega)
      rw [Int.natCast_zero] at s0
      have l0 := f0 (isRst (n : Int) 0)
      have l1 := f0 (isRst (n : Int) 1)
      have l2 := f0 (isRst (n : Int) 2)
      have s1 := st 1 (by omega) (0 + if isRst (n : Int) 0 = true then 1 else 0) (by omega)
      have s2 := st 2 (by omega) _ (show (0 + (if isRst (n : Int) 0 = true then 1 else 0) + if isRst (n : Int) 1 = true then 1 else 0) ≤ 10 by omega)
      have s3 := st 3 (by omega) _ (show (0 + (if isRst (n : Int) 0 = true then 1 else 0) + (if isRst (n : Int) 1 = true then 1 else 0) + if isRst (n : Int) 2 = true then 1 else 0) ≤ 10 by omega)
      have en : rstN (n : Int) = 0 + (if isRst (n : Int) 0 = true then 1 else 0) + (if isRst (n : Int) 1 = true then 1 else 0) + (if isRst (n : Int) 2 = true then 1 else 0) + (if isRst (n : Int) 3 = true then 1 else 0) := by
        unfold rstN
        rw [cr_s, cr_s, cr_s, cr_s]; rfl
      have e4 : ∀ z : Int, q_E (145, 23, [vu, vi (n : Int), vi z, vi ((3 + 1 : Nat) : Int)], []) (qk t u (uI I 1 10 0) J) = some (vi z, qk t u (uI I 1 10 0) J) := fun z => by
        rw [e145_23]; simp (disch := omega) only [↓reduceIte, lt_TI, lt_FI, le_TI, le_FI, eq_TI, eq_FI, lt_TN, lt_FN, le_TN, le_FN, eq_TN, eq_FN, and_self, and_true, true_and, and_false, false_and, or_true, true_or, or_false, false_or, not_true_eq_false, not_false_eq_true, wr_of, uI_at, uC_at, q_bi_s, q_bl_s, q_br_s, q_bv_s, Int.toNat_natCast, tn_1, tn_m, tn_n, Int.toNat_zero, Int.toNat_one]
      rw [en]
      simp (disch := omega) only [↓reduceIte, lt_TI, lt_FI, le_TI, le_FI, eq_TI, eq_FI, lt_TN, lt_FN, le_TN, le_FN, eq_TN, eq_FN, and_self, and_true, true_and, and_false, false_and, or_true, true_or, or_false, false_or, not_true_eq_false, not_false_eq_true, wr_of, uI_at, uC_at, q_bi_s, q_bl_s, q_br_s, q_bv_s, Int.toNat_natCast, tn_1, tn_m, tn_n, Int.toNat_zero, Int.toNat_one, r1, e145_0, e145_4, e145_14, r_num_ok, uI_uI]
      refine ⟨uI I 1 10 0, ?_, QC_rf⟩
      rw [s0, s1, s2, s3, e4]
    · simp only [if_neg hn]
      simp (disch := omega) only [↓reduceIte, lt_TI, lt_FI, le_TI, le_FI, eq_TI, eq_FI, lt_TN, lt_FN, le_TN, le_FN, eq_TN, eq_FN, and_self, and_true, true_and, and_false, false_and, or_true, true_or, or_false, false_or, not_true_eq_false, not_false_eq_true, wr_of, uI_at, uC_at, q_bi_s, q_bl_s, q_br_s, q_bv_s, Int.toNat_natCast, tn_1, tn_m, tn_n, Int.toNat_zero, Int.toNat_one, r1, e145_0, e145_4, e145_14, r_num_no, uI_uI]
      exact ⟨_, rfl, QC_rf⟩
  · simp only [if_neg hc]
    have r1 := r_st_no (u := u) (J := J) k18 e9 (by omega)
    simp (disch := omega) only [↓reduceIte, lt_TI, lt_FI, le_TI, le_FI, eq_TI, eq_FI, lt_TN, lt_FN, le_TN, le_FN, eq_TN, eq_FN, and_self, and_true, true_and, and_false, false_and, or_true, true_or, or_false, false_or, not_true_eq_false, not_false_eq_true, wr_of, uI_at, uC_at, q_bi_s, q_bl_s, q_br_s, q_bv_s, Int.toNat_natCast, tn_1, tn_m, tn_n, Int.toNat_zero, Int.toNat_one, r1, e145_0, e145_4, e145_14]
    exact ⟨_, rfl, QC_rf⟩
theorem k_rest (V : CInv S t u I) (n : Int) : ∃ I', q_E (146, 0, [vr 1, vi n, vu], []) (qk t u I J) = some (vi (sp_rest S n).1, qk t u I' J) ∧ QC (sp_rest S n).2 I I' := by
  obtain ⟨V2, e9, k18⟩ := CInv_qi V 0
  unfold sp_rest spW
  by_cases hc : 0 < tC (sTo S)
  · simp only [if_pos hc]
    have r1 := r_st_ok (u := u) (J := J) k18 e9 (by omega)
    by_cases hn : 0 ≤ n ∧ n ≤ 9
    · simp only [if_pos hn]
      obtain ⟨hn1, hn2⟩ := hn
      obtain ⟨n, rfl⟩ : ∃ o : Nat, n = (o : Int) := ⟨n.toNat, by omega⟩
      simp only [Int.toNat_natCast]
      have loop : ∀ r p : Nat, p + r = 4 → (∀ a, a < p → isRst (n : Int) a = false) → q_E (146, 21, [vu, vi (n : Int), vi (p : Int)], []) (qk t u (uI I 1 10 0) J) = some (vi (rst1 (n : Int)), qk t u (uI I 1 10 0) J) := by
        intro r
        induction r with
        | zero =>
          intro p hp hne
          have e : fsti (isRst (n : Int)) 4 = 4 := fsti_eq (Nat.le_refl _) (fun a ha => hne a (by omega)) (fun z => by omega)
          rw [e146_21]
          unfold rst1
          rw [e, if_neg (show ¬ 4 < 4 by omega)]
          simp (disch := omega) only [↓reduceIte, lt_TI, lt_FI, le_TI, le_FI, eq_TI, eq_FI, lt_TN, lt_FN, le_TN, le_FN, eq_TN, eq_FN, and_self, and_true, true_and, and_false, false_and, or_true, true_or, or_false, false_or, not_true_eq_false, not_false_eq_true, wr_of, uI_at, uC_at, q_bi_s, q_bl_s, q_br_s, q_bv_s, Int.toNat_natCast, tn_1, tn_m, tn_n, Int.toNat_zero, Int.toNat_one]
        | succ r ih =>
          intro p hp hne
          have b := c_isRest (t := t) (u := u) (I := uI I 1 10 0) (J := J) (c := (n : Int)) hn1 hn2 (decide (2 ≤ p)) (decide (p % 2 = 1))
          rw [← rst_B] at b
          have tm : Int.tmod (p : Int) 2 = ((p % 2 : Nat) : Int) := (Int.ofNat_tmod p 2).symm
          rw [e146_21]
          have fin : q_E (146, 52, [vu, vi (n : Int), vi (p : Int)], [vi (if isRst (n : Int) p = true then 1 else 0)]) (qk t u (uI I 1 10 0) J) = some (vi (rst1 (n : Int)), qk t u (uI I 1 10 0) J) := by
            rw [e146_52]
            cases z : isRst (n : Int) p with
            | false =>
              simp (disch := omega) only [↓reduceIte, lt_TI, lt_FI, le_TI, le_FI, eq_TI, eq_FI, lt_TN, lt_FN, le_TN, le_FN, eq_TN, eq_FN, and_self, and_true, true_and, and_false, false_and, or_true, true_or, or_false, false_or, not_true_eq_false, not_false_eq_true, wr_of, uI_at, uC_at, q_bi_s, q_bl_s, q_br_s, q_bv_s, Int.toNat_natCast, tn_1, tn_m, tn_n, Int.toNat_zero, Int.toNat_one, Bool.false_eq_true]
              exact ih (p + 1) (by omega) (fun a ha => by
                by_cases y : a = p
                · rw [y]; exact z
                · exact hne a (by omega))
            | true =>
              have e : fsti (isRst (n : Int)) 4 = p := fsti_eq (by omega) hne (fun _ => z)
              unfold rst1
              rw [e, if_pos (show p < 4 by omega)]
              have : p = 0 ∨ p = 1 ∨ p = 2 ∨ p = 3 := by omega
              rcases this with y | y | y | y <;> subst y <;> rfl
          by_cases q1 : 2 ≤ p
          · by_cases q2 : p % 2 = 1
            · rw [decide_eq_true q1, decide_eq_true q2] at b
              simp (disch := omega) only [↓reduceIte, lt_TI, lt_FI, le_TI, le_FI, eq_TI, eq_FI, lt_TN, lt_FN, le_TN, le_FN, eq_TN, eq_FN, and_self, and_true, true_and, and_false, false_and, or_true, true_or, or_false, false_or, not_true_eq_false, not_false_eq_true, wr_of, uI_at, uC_at, q_bi_s, q_bl_s, q_br_s, q_bv_s, Int.toNat_natCast, tn_1, tn_m, tn_n, Int.toNat_zero, Int.toNat_one] at b
              simp (disch := omega) only [↓reduceIte, lt_TI, lt_FI, le_TI, le_FI, eq_TI, eq_FI, lt_TN, lt_FN, le_TN, le_FN, eq_TN, eq_FN, and_self, and_true, true_and, and_false, false_and, or_true, true_or, or_false, false_or, not_true_eq_false, not_false_eq_true, wr_of, uI_at, uC_at, q_bi_s, q_bl_s, q_br_s, q_bv_s, Int.toNat_natCast, tn_1, tn_m, tn_n, Int.toNat_zero, Int.toNat_one, tm, q2, b]
              exact fin
            · rw [decide_eq_true q1, decide_eq_false q2] at b
              simp (disch := omega) only [↓reduceIte, lt_TI, lt_FI, le_TI, le_FI, eq_TI, eq_FI, lt_TN, lt_FN, le_TN, le_FN, eq_TN, eq_FN, and_self, and_true, true_and, and_false, false_and, or_true, true_or, or_false, false_or, not_true_eq_false, not_false_eq_true, wr_of, uI_at, uC_at, q_bi_s, q_bl_s, q_br_s, q_bv_s, Int.toNat_natCast, tn_1, tn_m, tn_n, Int.toNat_zero, Int.toNat_one, Bool.false_eq_true] at b
              have q3 : p % 2 = 0 := by omega
              simp (disch := omega) only [↓reduceIte, lt_TI, lt_FI, le_TI, le_FI, eq_TI, eq_FI, lt_TN, lt_FN, le_TN, le_FN, eq_TN, eq_FN, and_self, and_true, true_and, and_false, false_and, or_true, true_or, or_false, false_or, not_true_eq_false, not_false_eq_true, wr_of, uI_at, uC_at, q_bi_s, q_bl_s, q_br_s, q_bv_s, Int.toNat_natCast, tn_1, tn_m, tn_n, Int.toNat_zero, Int.toNat_one, tm, q3, Int.natCast_zero, b]
              exact fin
          · by_cases q2 : p % 2 = 1
            · rw [decide_eq_false q1, decide_eq_true q2] at b
              simp (disch := omega) only [↓reduceIte, lt_TI, lt_FI, le_TI, le_FI, eq_TI, eq_FI, lt_TN, lt_FN, le_TN, le_FN, eq_TN, eq_FN, and_self, and_true, true_and, and_false, false_and, or_true, true_or, or_false, false_or, not_true_eq_false, not_false_eq_true, wr_of, uI_at, uC_at, q_bi_s, q_bl_s, q_br_s, q_bv_s, Int.toNat_natCast, tn_1, tn_m, tn_n, Int.toNat_zero, Int.toNat_one, Bool.false_eq_true] at b
              simp (disch := omega) only [↓reduceIte, lt_TI, lt_FI, le_TI, le_FI, eq_TI, eq_FI, lt_TN, lt_FN, le_TN, le_FN, eq_TN, eq_FN, and_self, and_true, true_and, and_false, false_and, or_true, true_or, or_false, false_or, not_true_eq_false, not_false_eq_true, wr_of, uI_at, uC_at, q_bi_s, q_bl_s, q_br_s, q_bv_s, Int.toNat_natCast, tn_1, tn_m, tn_n, Int.toNat_zero, Int.toNat_one, tm, q2, b]
              exact fin
            · rw [decide_eq_false q1, decide_eq_false q2] at b
              simp (disch := omega) only [↓reduceIte, lt_TI, lt_FI, le_TI, le_FI, eq_TI, eq_FI, lt_TN, lt_FN, le_TN, le_FN, eq_TN, eq_FN, and_self, and_true, true_and, and_false, false_and, or_true, true_or, or_false, false_or, not_true_eq_false, not_false_eq_true, wr_of, uI_at, uC_at, q_bi_s, q_bl_s, q_br_s, q_bv_s, Int.toNat_natCast, tn_1, tn_m, tn_n, Int.toNat_zero, Int.toNat_one, Bool.false_eq_true] at b
              have q3 : p % 2 = 0 := by omega
              simp (disch := omega) only [↓reduceIte, lt_TI, lt_FI, le_TI, le_FI, eq_TI, eq_FI, lt_TN, lt_FN, le_TN, le_FN, eq_TN, eq_FN, and_self, and_true, true_and, and_false, false_and, or_true, true_or, or_false, false_or, not_true_eq_false, not_false_eq_true, wr_of, uI_at, uC_at, q_bi_s, q_bl_s, q_br_s, q_bv_s, Int.toNat_natCast, tn_1, tn_m, tn_n, Int.toNat_zero, Int.toNat_one, tm, q3, Int.natCast_zero, b]
              exact fin
      have l0 := loop 4 0 (by omega) (fun a ha => by omega)
      rw [Int.natCast_zero] at l0
      simp (disch := omega) only [↓reduceIte, lt_TI, lt_FI, le_TI, le_FI, eq_TI, eq_FI, lt_TN, lt_FN, le_TN, le_FN, eq_TN, eq_FN, and_self, and_true, true_and, and_false, false_and, or_true, true_or, or_false, false_or, not_true_eq_false, not_false_eq_true, wr_of, uI_at, uC_at, q_bi_s, q_bl_s, q_br_s, q_bv_s, Int.toNat_natCast, tn_1, tn_m, tn_n, Int.toNat_zero, Int.toNat_one, r1, e146_0, e146_4, e146_14, r_num_ok, uI_uI, l0]
      exact ⟨_, rfl, QC_rf⟩
    · simp only [if_neg hn]
      simp (disch := omega) only [↓reduceIte, lt_TI, lt_FI, le_TI, le_FI, eq_TI, eq_FI, lt_TN, lt_FN, le_TN, le_FN, eq_TN, eq_FN, and_self, and_true, true_and, and_false, false_and, or_true, true_or, or_false, false_or, not_true_eq_false, not_false_eq_true, wr_of, uI_at, uC_at, q_bi_s, q_bl_s, q_br_s, q_bv_s, Int.toNat_natCast, tn_1, tn_m, tn_n, Int.toNat_zero, Int.toNat_one, r1, e146_0, e146_4, e146_14, r_num_no, uI_uI]
      exact ⟨_, rfl, QC_rf⟩
  · simp only [if_neg hc]
    have r1 := r_st_no (u := u) (J := J) k18 e9 (by omega)
    simp (disch := omega) only [↓reduceIte, lt_TI, lt_FI, le_TI, le_FI, eq_TI, eq_FI, lt_TN, lt_FN, le_TN, le_FN, eq_TN, eq_FN, and_self, and_true, true_and, and_false, false_and, or_true, true_or, or_false, false_or, not_true_eq_false, not_false_eq_true, wr_of, uI_at, uC_at, q_bi_s, q_bl_s, q_br_s, q_bv_s, Int.toNat_natCast, tn_1, tn_m, tn_n, Int.toNat_zero, Int.toNat_one, r1, e146_0, e146_4, e146_14]
    exact ⟨_, rfl, QC_rf⟩
end

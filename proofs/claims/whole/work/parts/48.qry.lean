/-! the class's queries answer as told, change nothing else -/
section
variable {t u : Nat} {I J : Nat → Nat → Int} {S : St}
theorem k_still (V : CInv S t u I) (c : Int) : ∃ I', q_E (108, 0, [vr 1, vi c], []) (qk t u I J) = some (vi (sp_still S c).1, qk t u I' J) ∧ QC (sp_still S c).2 I I' := by
  obtain ⟨V2, e9, k18⟩ := CInv_qi V 0
  have h4 := tC_4 V.1
  have ht := V2.2.2.1
  have VT := V.2.2.2.2.2.2.2.1
  unfold sp_still spC
  by_cases hc : isCl S c
  · simp only [if_pos hc]
    obtain ⟨hc1, hc2⟩ := hc
    obtain ⟨m, rfl⟩ : ∃ m : Nat, c = (m : Int) := ⟨c.toNat, by omega⟩
    have hm : m < tC (sTo S) := by omega
    obtain ⟨H, ok⟩ := QI_row V2 (show m < 4 by omega)
    obtain ⟨o1, o2, o3⟩ := id ok
    have H0 := H.1.1
    have H1 := (V.2.2.2.2.2.2.2.2.1.2.2 m (by omega)).2.1
    have H2 := (V.2.2.2.2.2.2.2.2.1.2.2 m (by omega)).2.2.1
    have rn := R_now t u m (by omega)
    have r1 := r_cell_ok (u := u) (J := J) k18 e9 hc1 hc2
    simp only [Int.toNat_natCast]
    obtain ⟨I', b1, b2⟩ := c_stays (u := u) (J := J) V2 hm
    by_cases z : ahd S m 1 = (sNw S).1 m
    · rw [if_pos z] at b1
      simp only [if_pos z]
      simp (disch := omega) only [↓reduceIte, lt_TI, lt_FI, le_TI, le_FI, eq_TI, eq_FI, lt_TN, lt_FN, le_TN, le_FN, eq_TN, eq_FN, and_self, and_true, true_and, and_false, false_and, or_true, true_or, or_false, false_or, not_true_eq_false, not_false_eq_true, wr_of, uI_at, uC_at, q_bi_s, q_bl_s, q_br_s, q_bv_s, Int.toNat_natCast, tn_1, tn_m, tn_n, Int.toNat_zero, Int.toNat_one, r1, e108_0, e108_5, e108_15, b1]
      exact ⟨I', rfl, QC_kp b2 (by omega) (by omega)⟩
    rw [if_neg z] at b1
    simp only [if_neg z]
    simp (disch := omega) only [↓reduceIte, lt_TI, lt_FI, le_TI, le_FI, eq_TI, eq_FI, lt_TN, lt_FN, le_TN, le_FN, eq_TN, eq_FN, and_self, and_true, true_and, and_false, false_and, or_true, true_or, or_false, false_or, not_true_eq_false, not_false_eq_true, wr_of, uI_at, uC_at, q_bi_s, q_bl_s, q_br_s, q_bv_s, Int.toNat_natCast, tn_1, tn_m, tn_n, Int.toNat_zero, Int.toNat_one, r1, e108_0, e108_5, e108_15, rn, H0, H1, b1]
    exact ⟨I', rfl, QC_kp b2 (by omega) (by omega)⟩
  · simp only [if_neg hc]
    have r1 := r_cell_no (c := c) (u := u) (J := J) k18 e9 (by omega)
    simp (disch := omega) only [↓reduceIte, lt_TI, lt_FI, le_TI, le_FI, eq_TI, eq_FI, lt_TN, lt_FN, le_TN, le_FN, eq_TN, eq_FN, and_self, and_true, true_and, and_false, false_and, or_true, true_or, or_false, false_or, not_true_eq_false, not_false_eq_true, wr_of, uI_at, uC_at, q_bi_s, q_bl_s, q_br_s, q_bv_s, Int.toNat_natCast, tn_1, tn_m, tn_n, Int.toNat_zero, Int.toNat_one, r1, e108_0, e108_5, e108_15]
    exact ⟨_, rfl, QC_rf⟩
theorem k_heaps (V : CInv S t u I) (c n : Int) : ∃ I', q_E (109, 0, [vr 1, vi c, vi n], []) (qk t u I J) = some (vi (sp_heaps S c n).1, qk t u I' J) ∧ QC (sp_heaps S c n).2 I I' := by
  obtain ⟨V2, e9, k18⟩ := CInv_qi V 0
  have h4 := tC_4 V.1
  have ht := V2.2.2.1
  have VT := V.2.2.2.2.2.2.2.1
  unfold sp_heaps spN
  by_cases hc : isCl S c
  · simp only [if_pos hc]
    obtain ⟨hc1, hc2⟩ := hc
    obtain ⟨m, rfl⟩ : ∃ m : Nat, c = (m : Int) := ⟨c.toNat, by omega⟩
    have hm : m < tC (sTo S) := by omega
    obtain ⟨H, ok⟩ := QI_row V2 (show m < 4 by omega)
    obtain ⟨o1, o2, o3⟩ := id ok
    have H0 := H.1.1
    have H1 := (V.2.2.2.2.2.2.2.2.1.2.2 m (by omega)).2.1
    have H2 := (V.2.2.2.2.2.2.2.2.1.2.2 m (by omega)).2.2.1
    have rn := R_now t u m (by omega)
    have r1 := r_cell_ok (u := u) (J := J) k18 e9 hc1 hc2
    simp only [Int.toNat_natCast]
    by_cases hn : 0 ≤ n ∧ n ≤ 999
    · simp only [if_pos hn]
      obtain ⟨hn1, hn2⟩ := hn
      obtain ⟨j, rfl⟩ : ∃ j : Nat, n = (j : Int) := ⟨n.toNat, by omega⟩
      simp only [Int.toNat_natCast]
      obtain ⟨I', b1, b3, b2⟩ := c_behind (u := u) (J := J) (n := j) V2 hm (by omega)
      have B0 := b3.1.1
      have B1 := b3.2.1
      have B2 := b3.2.2.1
      simp (disch := omega) only [↓reduceIte, lt_TI, lt_FI, le_TI, le_FI, eq_TI, eq_FI, lt_TN, lt_FN, le_TN, le_FN, eq_TN, eq_FN, and_self, and_true, true_and, and_false, false_and, or_true, true_or, or_false, false_or, not_true_eq_false, not_false_eq_true, wr_of, uI_at, uC_at, q_bi_s, q_bl_s, q_br_s, q_bv_s, Int.toNat_natCast, tn_1, tn_m, tn_n, Int.toNat_zero, Int.toNat_one, r1, e109_0, e109_5, e109_16, e109_27, rn, H0, H1, r_num_ok, uI_uI, b1, B0, B1]
      exact ⟨I', rfl, QC_kp b2 (by omega) (by omega)⟩
    · simp only [if_neg hn]
      simp (disch := omega) only [↓reduceIte, lt_TI, lt_FI, le_TI, le_FI, eq_TI, eq_FI, lt_TN, lt_FN, le_TN, le_FN, eq_TN, eq_FN, and_self, and_true, true_and, and_false, false_and, or_true, true_or, or_false, false_or, not_true_eq_false, not_false_eq_true, wr_of, uI_at, uC_at, q_bi_s, q_bl_s, q_br_s, q_bv_s, Int.toNat_natCast, tn_1, tn_m, tn_n, Int.toNat_zero, Int.toNat_one, r1, e109_0, e109_5, e109_16, e109_27, r_num_no, uI_uI]
      exact ⟨_, rfl, QC_rf⟩
  · simp only [if_neg hc]
    have r1 := r_cell_no (c := c) (u := u) (J := J) k18 e9 (by omega)
    simp (disch := omega) only [↓reduceIte, lt_TI, lt_FI, le_TI, le_FI, eq_TI, eq_FI, lt_TN, lt_FN, le_TN, le_FN, eq_TN, eq_FN, and_self, and_true, true_and, and_false, false_and, or_true, true_or, or_false, false_or, not_true_eq_false, not_false_eq_true, wr_of, uI_at, uC_at, q_bi_s, q_bl_s, q_br_s, q_bv_s, Int.toNat_natCast, tn_1, tn_m, tn_n, Int.toNat_zero, Int.toNat_one, r1, e109_0, e109_5, e109_16, e109_27]
    exact ⟨_, rfl, QC_rf⟩
theorem k_greatest (V : CInv S t u I) (c n : Int) : ∃ I', q_E (110, 0, [vr 1, vi c, vi n], []) (qk t u I J) = some (vi (sp_greatest S c n).1, qk t u I' J) ∧ QC (sp_greatest S c n).2 I I' := by
  obtain ⟨V2, e9, k18⟩ := CInv_qi V 0
  have h4 := tC_4 V.1
  have ht := V2.2.2.1
  have VT := V.2.2.2.2.2.2.2.1
  unfold sp_greatest spN
  by_cases hc : isCl S c
  · simp only [if_pos hc]
    obtain ⟨hc1, hc2⟩ := hc
    obtain ⟨m, rfl⟩ : ∃ m : Nat, c = (m : Int) := ⟨c.toNat, by omega⟩
    have hm : m < tC (sTo S) := by omega
    obtain ⟨H, ok⟩ := QI_row V2 (show m < 4 by omega)
    obtain ⟨o1, o2, o3⟩ := id ok
    have H0 := H.1.1
    have H1 := (V.2.2.2.2.2.2.2.2.1.2.2 m (by omega)).2.1
    have H2 := (V.2.2.2.2.2.2.2.2.1.2.2 m (by omega)).2.2.1
    have rn := R_now t u m (by omega)
    have r1 := r_cell_ok (u := u) (J := J) k18 e9 hc1 hc2
    simp only [Int.toNat_natCast]
    by_cases hn : 0 ≤ n ∧ n ≤ 999
    · simp only [if_pos hn]
      obtain ⟨hn1, hn2⟩ := hn
      obtain ⟨j, rfl⟩ : ∃ j : Nat, n = (j : Int) := ⟨n.toNat, by omega⟩
      simp only [Int.toNat_natCast]
      obtain ⟨I', b1, b3, b2⟩ := c_behind (u := u) (J := J) (n := j) V2 hm (by omega)
      have B0 := b3.1.1
      have B1 := b3.2.1
      have B2 := b3.2.2.1
      have g0 := c_heightAt (t := t) (u := u) (J := J) b3 0
      rw [Int.natCast_zero] at g0
      simp (disch := omega) only [↓reduceIte, lt_TI, lt_FI, le_TI, le_FI, eq_TI, eq_FI, lt_TN, lt_FN, le_TN, le_FN, eq_TN, eq_FN, and_self, and_true, true_and, and_false, false_and, or_true, true_or, or_false, false_or, not_true_eq_false, not_false_eq_true, wr_of, uI_at, uC_at, q_bi_s, q_bl_s, q_br_s, q_bv_s, Int.toNat_natCast, tn_1, tn_m, tn_n, Int.toNat_zero, Int.toNat_one, r1, e110_0, e110_5, e110_16, e110_27, e110_31, rn, H0, H1, r_num_ok, uI_uI, b1, B0, B1, g0]
      exact ⟨I', rfl, QC_kp b2 (by omega) (by omega)⟩
    · simp only [if_neg hn]
      simp (disch := omega) only [↓reduceIte, lt_TI, lt_FI, le_TI, le_FI, eq_TI, eq_FI, lt_TN, lt_FN, le_TN, le_FN, eq_TN, eq_FN, and_self, and_true, true_and, and_false, false_and, or_true, true_or, or_false, false_or, not_true_eq_false, not_false_eq_true, wr_of, uI_at, uC_at, q_bi_s, q_bl_s, q_br_s, q_bv_s, Int.toNat_natCast, tn_1, tn_m, tn_n, Int.toNat_zero, Int.toNat_one, r1, e110_0, e110_5, e110_16, e110_27, e110_31, r_num_no, uI_uI]
      exact ⟨_, rfl, QC_rf⟩
  · simp only [if_neg hc]
    have r1 := r_cell_no (c := c) (u := u) (J := J) k18 e9 (by omega)
    simp (disch := omega) only [↓reduceIte, lt_TI, lt_FI, le_TI, le_FI, eq_TI, eq_FI, lt_TN, lt_FN, le_TN, le_FN, eq_TN, eq_FN, and_self, and_true, true_and, and_false, false_and, or_true, true_or, or_false, false_or, not_true_eq_false, not_false_eq_true, wr_of, uI_at, uC_at, q_bi_s, q_bl_s, q_br_s, q_bv_s, Int.toNat_natCast, tn_1, tn_m, tn_n, Int.toNat_zero, Int.toNat_one, r1, e110_0, e110_5, e110_16, e110_27, e110_31]
    exact ⟨_, rfl, QC_rf⟩
theorem k_held (V : CInv S t u I) (c n : Int) : ∃ I', q_E (112, 0, [vr 1, vi c, vi n], []) (qk t u I J) = some (vi (sp_held S c n).1, qk t u I' J) ∧ QC (sp_held S c n).2 I I' := by
  obtain ⟨V2, e9, k18⟩ := CInv_qi V 0
  have h4 := tC_4 V.1
  have ht := V2.2.2.1
  have VT := V.2.2.2.2.2.2.2.1
  unfold sp_held spN
  by_cases hc : isCl S c
  · simp only [if_pos hc]
    obtain ⟨hc1, hc2⟩ := hc
    obtain ⟨m, rfl⟩ : ∃ m : Nat, c = (m : Int) := ⟨c.toNat, by omega⟩
    have hm : m < tC (sTo S) := by omega
    obtain ⟨H, ok⟩ := QI_row V2 (show m < 4 by omega)
    obtain ⟨o1, o2, o3⟩ := id ok
    have H0 := H.1.1
    have H1 := (V.2.2.2.2.2.2.2.2.1.2.2 m (by omega)).2.1
    have H2 := (V.2.2.2.2.2.2.2.2.1.2.2 m (by omega)).2.2.1
    have rn := R_now t u m (by omega)
    have r1 := r_cell_ok (u := u) (J := J) k18 e9 hc1 hc2
    simp only [Int.toNat_natCast]
    by_cases hn : 0 ≤ n ∧ n ≤ 999
    · simp only [if_pos hn]
      obtain ⟨hn1, hn2⟩ := hn
      obtain ⟨j, rfl⟩ : ∃ j : Nat, n = (j : Int) := ⟨n.toNat, by omega⟩
      simp only [Int.toNat_natCast]
      obtain ⟨I', b1, b3, b2⟩ := c_behind (u := u) (J := J) (n := j) V2 hm (by omega)
      have B0 := b3.1.1
      have B1 := b3.2.1
      have B2 := b3.2.2.1
      simp (disch := omega) only [↓reduceIte, lt_TI, lt_FI, le_TI, le_FI, eq_TI, eq_FI, lt_TN, lt_FN, le_TN, le_FN, eq_TN, eq_FN, and_self, and_true, true_and, and_false, false_and, or_true, true_or, or_false, false_or, not_true_eq_false, not_false_eq_true, wr_of, uI_at, uC_at, q_bi_s, q_bl_s, q_br_s, q_bv_s, Int.toNat_natCast, tn_1, tn_m, tn_n, Int.toNat_zero, Int.toNat_one, r1, e112_0, e112_5, e112_16, e112_27, rn, H0, H1, r_num_ok, uI_uI, b1, B0, B2]
      exact ⟨I', rfl, QC_kp b2 (by omega) (by omega)⟩
    · simp only [if_neg hn]
      simp (disch := omega) only [↓reduceIte, lt_TI, lt_FI, le_TI, le_FI, eq_TI, eq_FI, lt_TN, lt_FN, le_TN, le_FN, eq_TN, eq_FN, and_self, and_true, true_and, and_false, false_and, or_true, true_or, or_false, false_or, not_true_eq_false, not_false_eq_true, wr_of, uI_at, uC_at, q_bi_s, q_bl_s, q_br_s, q_bv_s, Int.toNat_natCast, tn_1, tn_m, tn_n, Int.toNat_zero, Int.toNat_one, r1, e112_0, e112_5, e112_16, e112_27, r_num_no, uI_uI]
      exact ⟨_, rfl, QC_rf⟩
  · simp only [if_neg hc]
    have r1 := r_cell_no (c := c) (u := u) (J := J) k18 e9 (by omega)
    simp (disch := omega) only [↓reduceIte, lt_TI, lt_FI, le_TI, le_FI, eq_TI, eq_FI, lt_TN, lt_FN, le_TN, le_FN, eq_TN, eq_FN, and_self, and_true, true_and, and_false, false_and, or_true, true_or, or_false, false_or, not_true_eq_false, not_false_eq_true, wr_of, uI_at, uC_at, q_bi_s, q_bl_s, q_br_s, q_bv_s, Int.toNat_natCast, tn_1, tn_m, tn_n, Int.toNat_zero, Int.toNat_one, r1, e112_0, e112_5, e112_16, e112_27]
    exact ⟨_, rfl, QC_rf⟩
theorem k_column (V : CInv S t u I) (c n : Int) : ∃ I', q_E (117, 0, [vr 1, vi c, vi n], []) (qk t u I J) = some (vi (sp_column S c n).1, qk t u I' J) ∧ QC (sp_column S c n).2 I I' := by
  obtain ⟨V2, e9, k18⟩ := CInv_qi V 0
  have h4 := tC_4 V.1
  have ht := V2.2.2.1
  have VT := V.2.2.2.2.2.2.2.1
  unfold sp_column spN
  by_cases hc : isCl S c
  · simp only [if_pos hc]
    obtain ⟨hc1, hc2⟩ := hc
    obtain ⟨m, rfl⟩ : ∃ m : Nat, c = (m : Int) := ⟨c.toNat, by omega⟩
    have hm : m < tC (sTo S) := by omega
    obtain ⟨H, ok⟩ := QI_row V2 (show m < 4 by omega)
    obtain ⟨o1, o2, o3⟩ := id ok
    have H0 := H.1.1
    have H1 := (V.2.2.2.2.2.2.2.2.1.2.2 m (by omega)).2.1
    have H2 := (V.2.2.2.2.2.2.2.2.1.2.2 m (by omega)).2.2.1
    have rn := R_now t u m (by omega)
    have r1 := r_cell_ok (u := u) (J := J) k18 e9 hc1 hc2
    simp only [Int.toNat_natCast]
    by_cases hn : 0 ≤ n ∧ n ≤ 59
    · simp only [if_pos hn]
      obtain ⟨hn1, hn2⟩ := hn
      obtain ⟨j, rfl⟩ : ∃ j : Nat, n = (j : Int) := ⟨n.toNat, by omega⟩
      simp only [Int.toNat_natCast]
      have b1 := c_higherThan (t := t) (u := u) (J := J) H o1 j (by omega)
      unfold cnt
      simp (disch := omega) only [↓reduceIte, lt_TI, lt_FI, le_TI, le_FI, eq_TI, eq_FI, lt_TN, lt_FN, le_TN, le_FN, eq_TN, eq_FN, and_self, and_true, true_and, and_false, false_and, or_true, true_or, or_false, false_or, not_true_eq_false, not_false_eq_true, wr_of, uI_at, uC_at, q_bi_s, q_bl_s, q_br_s, q_bv_s, Int.toNat_natCast, tn_1, tn_m, tn_n, Int.toNat_zero, Int.toNat_one, r1, e117_0, e117_5, e117_15, e117_33, rn, H0, H1, r_num_ok, uI_uI, b1]
      exact ⟨_, rfl, QC_rf⟩
    · simp only [if_neg hn]
      simp (disch := omega) only [↓reduceIte, lt_TI, lt_FI, le_TI, le_FI, eq_TI, eq_FI, lt_TN, lt_FN, le_TN, le_FN, eq_TN, eq_FN, and_self, and_true, true_and, and_false, false_and, or_true, true_or, or_false, false_or, not_true_eq_false, not_false_eq_true, wr_of, uI_at, uC_at, q_bi_s, q_bl_s, q_br_s, q_bv_s, Int.toNat_natCast, tn_1, tn_m, tn_n, Int.toNat_zero, Int.toNat_one, r1, e117_0, e117_5, e117_15, e117_33, r_num_no, uI_uI]
      exact ⟨_, rfl, QC_rf⟩
  · simp only [if_neg hc]
    have r1 := r_cell_no (c := c) (u := u) (J := J) k18 e9 (by omega)
    simp (disch := omega) only [↓reduceIte, lt_TI, lt_FI, le_TI, le_FI, eq_TI, eq_FI, lt_TN, lt_FN, le_TN, le_FN, eq_TN, eq_FN, and_self, and_true, true_and, and_false, false_and, or_true, true_or, or_false, false_or, not_true_eq_false, not_false_eq_true, wr_of, uI_at, uC_at, q_bi_s, q_bl_s, q_br_s, q_bv_s, Int.toNat_natCast, tn_1, tn_m, tn_n, Int.toNat_zero, Int.toNat_one, r1, e117_0, e117_5, e117_15, e117_33]
    exact ⟨_, rfl, QC_rf⟩
theorem k_makes (V : CInv S t u I) (c n : Int) : ∃ I', q_E (135, 0, [vr 1, vi c, vi n], []) (qk t u I J) = some (vi (sp_makes S c n).1, qk t u I' J) ∧ QC (sp_makes S c n).2 I I' := by
  obtain ⟨V2, e9, k18⟩ := CInv_qi V 0
  have h4 := tC_4 V.1
  have ht := V2.2.2.1
  have VT := V.2.2.2.2.2.2.2.1
  unfold sp_makes spN
  by_cases hc : isCl S c
  · simp only [if_pos hc]
    obtain ⟨hc1, hc2⟩ := hc
    obtain ⟨m, rfl⟩ : ∃ m : Nat, c = (m : Int) := ⟨c.toNat, by omega⟩
    have hm : m < tC (sTo S) := by omega
    obtain ⟨H, ok⟩ := QI_row V2 (show m < 4 by omega)
    obtain ⟨o1, o2, o3⟩ := id ok
    have H0 := H.1.1
    have H1 := (V.2.2.2.2.2.2.2.2.1.2.2 m (by omega)).2.1
    have H2 := (V.2.2.2.2.2.2.2.2.1.2.2 m (by omega)).2.2.1
    have rn := R_now t u m (by omega)
    have r1 := r_cell_ok (u := u) (J := J) k18 e9 hc1 hc2
    simp only [Int.toNat_natCast]
    by_cases hn : 0 ≤ n ∧ n ≤ 60
    · simp only [if_pos hn]
      obtain ⟨hn1, hn2⟩ := hn
      obtain ⟨j, rfl⟩ : ∃ j : Nat, n = (j : Int) := ⟨n.toNat, by omega⟩
      simp only [Int.toNat_natCast]
      obtain ⟨I', b1, b2⟩ := c_makes (t := t) (u := u) (J := J) H o2 (show ((sNw S).1 m).1.sum ≤ 60 by omega) (by omega) (n := j) (by omega)
      simp (disch := omega) only [↓reduceIte, lt_TI, lt_FI, le_TI, le_FI, eq_TI, eq_FI, lt_TN, lt_FN, le_TN, le_FN, eq_TN, eq_FN, and_self, and_true, true_and, and_false, false_and, or_true, true_or, or_false, false_or, not_true_eq_false, not_false_eq_true, wr_of, uI_at, uC_at, q_bi_s, q_bl_s, q_br_s, q_bv_s, Int.toNat_natCast, tn_1, tn_m, tn_n, Int.toNat_zero, Int.toNat_one, r1, e135_0, e135_5, e135_15, e135_37, rn, H0, H1, r_num_ok, uI_uI, b1]
      exact ⟨I', rfl, QC_kp b2 (by omega) (by omega)⟩
    · simp only [if_neg hn]
      simp (disch := omega) only [↓reduceIte, lt_TI, lt_FI, le_TI, le_FI, eq_TI, eq_FI, lt_TN, lt_FN, le_TN, le_FN, eq_TN, eq_FN, and_self, and_true, true_and, and_false, false_and, or_true, true_or, or_false, false_or, not_true_eq_false, not_false_eq_true, wr_of, uI_at, uC_at, q_bi_s, q_bl_s, q_br_s, q_bv_s, Int.toNat_natCast, tn_1, tn_m, tn_n, Int.toNat_zero, Int.toNat_one, r1, e135_0, e135_5, e135_15, e135_37, r_num_no, uI_uI]
      exact ⟨_, rfl, QC_rf⟩
  · simp only [if_neg hc]
    have r1 := r_cell_no (c := c) (u := u) (J := J) k18 e9 (by omega)
    simp (disch := omega) only [↓reduceIte, lt_TI, lt_FI, le_TI, le_FI, eq_TI, eq_FI, lt_TN, lt_FN, le_TN, le_FN, eq_TN, eq_FN, and_self, and_true, true_and, and_false, false_and, or_true, true_or, or_false, false_or, not_true_eq_false, not_false_eq_true, wr_of, uI_at, uC_at, q_bi_s, q_bl_s, q_br_s, q_bv_s, Int.toNat_natCast, tn_1, tn_m, tn_n, Int.toNat_zero, Int.toNat_one, r1, e135_0, e135_5, e135_15, e135_37]
    exact ⟨_, rfl, QC_rf⟩
theorem k_square (V : CInv S t u I) (c : Int) : ∃ I', q_E (118, 0, [vr 1, vi c], []) (qk t u I J) = some (vi (sp_square S c).1, qk t u I' J) ∧ QC (sp_square S c).2 I I' := by
  obtain ⟨V2, e9, k18⟩ := CInv_qi V 0
  have h4 := tC_4 V.1
  have ht := V2.2.2.1
  have VT := V.2.2.2.2.2.2.2.1
  unfold sp_square spC
  by_cases hc : isCl S c
  · simp only [if_pos hc]
    obtain ⟨hc1, hc2⟩ := hc
    obtain ⟨m, rfl⟩ : ∃ m : Nat, c = (m : Int) := ⟨c.toNat, by omega⟩
    have hm : m < tC (sTo S) := by omega
    obtain ⟨H, ok⟩ := QI_row V2 (show m < 4 by omega)
    obtain ⟨o1, o2, o3⟩ := id ok
    have H0 := H.1.1
    have H1 := (V.2.2.2.2.2.2.2.2.1.2.2 m (by omega)).2.1
    have H2 := (V.2.2.2.2.2.2.2.2.1.2.2 m (by omega)).2.2.1
    have rn := R_now t u m (by omega)
    have r1 := r_cell_ok (u := u) (J := J) k18 e9 hc1 hc2
    simp only [Int.toNat_natCast]
    have b1 := c_square (t := t) (u := u) (J := J) H o1 (by omega)
    simp (disch := omega) only [↓reduceIte, lt_TI, lt_FI, le_TI, le_FI, eq_TI, eq_FI, lt_TN, lt_FN, le_TN, le_FN, eq_TN, eq_FN, and_self, and_true, true_and, and_false, false_and, or_true, true_or, or_false, false_or, not_true_eq_false, not_false_eq_true, wr_of, uI_at, uC_at, q_bi_s, q_bl_s, q_br_s, q_bv_s, Int.toNat_natCast, tn_1, tn_m, tn_n, Int.toNat_zero, Int.toNat_one, r1, e118_0, e118_5, e118_22, rn, H0, H1, b1]
    exact ⟨_, rfl, QC_rf⟩
  · simp only [if_neg hc]
    have r1 := r_cell_no (c := c) (u := u) (J := J) k18 e9 (by omega)
    simp (disch := omega) only [↓reduceIte, lt_TI, lt_FI, le_TI, le_FI, eq_TI, eq_FI, lt_TN, lt_FN, le_TN, le_FN, eq_TN, eq_FN, and_self, and_true, true_and, and_false, false_and, or_true, true_or, or_false, false_or, not_true_eq_false, not_false_eq_true, wr_of, uI_at, uC_at, q_bi_s, q_bl_s, q_br_s, q_bv_s, Int.toNat_natCast, tn_1, tn_m, tn_n, Int.toNat_zero, Int.toNat_one, r1, e118_0, e118_5, e118_22]
    exact ⟨_, rfl, QC_rf⟩
theorem k_corners (V : CInv S t u I) (c : Int) : ∃ I', q_E (119, 0, [vr 1, vi c], []) (qk t u I J) = some (vi (sp_corners S c).1, qk t u I' J) ∧ QC (sp_corners S c).2 I I' := by
  obtain ⟨V2, e9, k18⟩ := CInv_qi V 0
  have h4 := tC_4 V.1
  have ht := V2.2.2.1
  have VT := V.2.2.2.2.2.2.2.1
  unfold sp_corners spC
  by_cases hc : isCl S c
  · simp only [if_pos hc]
    obtain ⟨hc1, hc2⟩ := hc
    obtain ⟨m, rfl⟩ : ∃ m : Nat, c = (m : Int) := ⟨c.toNat, by omega⟩
    have hm : m < tC (sTo S) := by omega
    obtain ⟨H, ok⟩ := QI_row V2 (show m < 4 by omega)
    obtain ⟨o1, o2, o3⟩ := id ok
    have H0 := H.1.1
    have H1 := (V.2.2.2.2.2.2.2.2.1.2.2 m (by omega)).2.1
    have H2 := (V.2.2.2.2.2.2.2.2.1.2.2 m (by omega)).2.2.1
    have rn := R_now t u m (by omega)
    have r1 := r_cell_ok (u := u) (J := J) k18 e9 hc1 hc2
    simp only [Int.toNat_natCast]
    have b1 := c_corners (t := t) (u := u) (J := J) H
    simp (disch := omega) only [↓reduceIte, lt_TI, lt_FI, le_TI, le_FI, eq_TI, eq_FI, lt_TN, lt_FN, le_TN, le_FN, eq_TN, eq_FN, and_self, and_true, true_and, and_false, false_and, or_true, true_or, or_false, false_or, not_true_eq_false, not_false_eq_true, wr_of, uI_at, uC_at, q_bi_s, q_bl_s, q_br_s, q_bv_s, Int.toNat_natCast, tn_1, tn_m, tn_n, Int.toNat_zero, Int.toNat_one, r1, e119_0, e119_5, e119_22, rn, H0, H1, b1]
    exact ⟨_, rfl, QC_rf⟩
  · simp only [if_neg hc]
    have r1 := r_cell_no (c := c) (u := u) (J := J) k18 e9 (by omega)
    simp (disch := omega) only [↓reduceIte, lt_TI, lt_FI, le_TI, le_FI, eq_TI, eq_FI, lt_TN, lt_FN, le_TN, le_FN, eq_TN, eq_FN, and_self, and_true, true_and, and_false, false_and, or_true, true_or, or_false, false_or, not_true_eq_false, not_false_eq_true, wr_of, uI_at, uC_at, q_bi_s, q_bl_s, q_br_s, q_bv_s, Int.toNat_natCast, tn_1, tn_m, tn_n, Int.toNat_zero, Int.toNat_one, r1, e119_0, e119_5, e119_22]
    exact ⟨_, rfl, QC_rf⟩
theorem k_sources (V : CInv S t u I) (c : Int) : ∃ I', q_E (125, 0, [vr 1, vi c], []) (qk t u I J) = some (vi (sp_sources S c).1, qk t u I' J) ∧ QC (sp_sources S c).2 I I' := by
  obtain ⟨V2, e9, k18⟩ := CInv_qi V 0
  have h4 := tC_4 V.1
  have ht := V2.2.2.1
  have VT := V.2.2.2.2.2.2.2.1
  unfold sp_sources spC
  by_cases hc : isCl S c
  · simp only [if_pos hc]
    obtain ⟨hc1, hc2⟩ := hc
    obtain ⟨m, rfl⟩ : ∃ m : Nat, c = (m : Int) := ⟨c.toNat, by omega⟩
    have hm : m < tC (sTo S) := by omega
    obtain ⟨H, ok⟩ := QI_row V2 (show m < 4 by omega)
    obtain ⟨o1, o2, o3⟩ := id ok
    have H0 := H.1.1
    have H1 := (V.2.2.2.2.2.2.2.2.1.2.2 m (by omega)).2.1
    have H2 := (V.2.2.2.2.2.2.2.2.1.2.2 m (by omega)).2.2.1
    have rn := R_now t u m (by omega)
    have r1 := r_cell_ok (u := u) (J := J) k18 e9 hc1 hc2
    simp only [Int.toNat_natCast]
    have b1 := c_countSources (t := t) (u := u) (J := J) H (by omega)
    simp (disch := omega) only [↓reduceIte, lt_TI, lt_FI, le_TI, le_FI, eq_TI, eq_FI, lt_TN, lt_FN, le_TN, le_FN, eq_TN, eq_FN, and_self, and_true, true_and, and_false, false_and, or_true, true_or, or_false, false_or, not_true_eq_false, not_false_eq_true, wr_of, uI_at, uC_at, q_bi_s, q_bl_s, q_br_s, q_bv_s, Int.toNat_natCast, tn_1, tn_m, tn_n, Int.toNat_zero, Int.toNat_one, r1, e125_0, e125_5, e125_22, rn, H0, H1, b1]
    exact ⟨_, rfl, QC_rf⟩
  · simp only [if_neg hc]
    have r1 := r_cell_no (c := c) (u := u) (J := J) k18 e9 (by omega)
    simp (disch := omega) only [↓reduceIte, lt_TI, lt_FI, le_TI, le_FI, eq_TI, eq_FI, lt_TN, lt_FN, le_TN, le_FN, eq_TN, eq_FN, and_self, and_true, true_and, and_false, false_and, or_true, true_or, or_false, false_or, not_true_eq_false, not_false_eq_true, wr_of, uI_at, uC_at, q_bi_s, q_bl_s, q_br_s, q_bv_s, Int.toNat_natCast, tn_1, tn_m, tn_n, Int.toNat_zero, Int.toNat_one, r1, e125_0, e125_5, e125_22]
    exact ⟨_, rfl, QC_rf⟩
theorem k_rank (V : CInv S t u I) (c : Int) : ∃ I', q_E (120, 0, [vr 1, vi c], []) (qk t u I J) = some (vi (sp_rank S c).1, qk t u I' J) ∧ QC (sp_rank S c).2 I I' := by
  obtain ⟨V2, e9, k18⟩ := CInv_qi V 0
  have h4 := tC_4 V.1
  have ht := V2.2.2.1
  have VT := V.2.2.2.2.2.2.2.1
  unfold sp_rank
  by_cases hc : isCl S c
  · simp only [if_pos hc]
    obtain ⟨hc1, hc2⟩ := hc
    obtain ⟨m, rfl⟩ : ∃ m : Nat, c = (m : Int) := ⟨c.toNat, by omega⟩
    have hm : m < tC (sTo S) := by omega
    obtain ⟨H, ok⟩ := QI_row V2 (show m < 4 by omega)
    obtain ⟨o1, o2, o3⟩ := id ok
    have H0 := H.1.1
    have H1 := (V.2.2.2.2.2.2.2.2.1.2.2 m (by omega)).2.1
    have H2 := (V.2.2.2.2.2.2.2.2.1.2.2 m (by omega)).2.2.1
    have rn := R_now t u m (by omega)
    have r1 := r_cell_ok (u := u) (J := J) k18 e9 hc1 hc2
    simp only [Int.toNat_natCast]
    have b1 := c_heightAt (t := t) (u := u) (J := J) H 0
    rw [Int.natCast_zero] at b1
    have gb := gD_sum (l := ((sNw S).1 m).1) 0
    have gl := len_sum o2
    simp (disch := omega) only [↓reduceIte, lt_TI, lt_FI, le_TI, le_FI, eq_TI, eq_FI, lt_TN, lt_FN, le_TN, le_FN, eq_TN, eq_FN, and_self, and_true, true_and, and_false, false_and, or_true, true_or, or_false, false_or, not_true_eq_false, not_false_eq_true, wr_of, uI_at, uC_at, q_bi_s, q_bl_s, q_br_s, q_bv_s, Int.toNat_natCast, tn_1, tn_m, tn_n, Int.toNat_zero, Int.toNat_one, r1, e120_0, e120_5, e120_25, rn, H0, H1, b1]
    exact ⟨_, rfl, QC_rf⟩
  · simp only [if_neg hc]
    have r1 := r_cell_no (c := c) (u := u) (J := J) k18 e9 (by omega)
    simp (disch := omega) only [↓reduceIte, lt_TI, lt_FI, le_TI, le_FI, eq_TI, eq_FI, lt_TN, lt_FN, le_TN, le_FN, eq_TN, eq_FN, and_self, and_true, true_and, and_false, false_and, or_true, true_or, or_false, false_or, not_true_eq_false, not_false_eq_true, wr_of, uI_at, uC_at, q_bi_s, q_bl_s, q_br_s, q_bv_s, Int.toNat_natCast, tn_1, tn_m, tn_n, Int.toNat_zero, Int.toNat_one, r1, e120_0, e120_5, e120_25]
    exact ⟨_, rfl, QC_rf⟩
theorem k_carry (V : CInv S t u I) (c : Int) : ∃ I', q_E (133, 0, [vr 1, vi c], []) (qk t u I J) = some (vi (sp_carry S c).1, qk t u I' J) ∧ QC (sp_carry S c).2 I I' := by
  obtain ⟨V2, e9, k18⟩ := CInv_qi V 0
  have h4 := tC_4 V.1
  have ht := V2.2.2.1
  have VT := V.2.2.2.2.2.2.2.1
  unfold sp_carry spC
  by_cases hc : isCl S c
  · simp only [if_pos hc]
    obtain ⟨hc1, hc2⟩ := hc
    obtain ⟨m, rfl⟩ : ∃ m : Nat, c = (m : Int) := ⟨c.toNat, by omega⟩
    have hm : m < tC (sTo S) := by omega
    obtain ⟨H, ok⟩ := QI_row V2 (show m < 4 by omega)
    obtain ⟨o1, o2, o3⟩ := id ok
    have H0 := H.1.1
    have H1 := (V.2.2.2.2.2.2.2.2.1.2.2 m (by omega)).2.1
    have H2 := (V.2.2.2.2.2.2.2.2.1.2.2 m (by omega)).2.2.1
    have rn := R_now t u m (by omega)
    have r1 := r_cell_ok (u := u) (J := J) k18 e9 hc1 hc2
    simp only [Int.toNat_natCast]
    obtain ⟨I', b1, b2⟩ := c_carry (t := t) (u := u) (J := J) H ok (by omega)
    simp (disch := omega) only [↓reduceIte, lt_TI, lt_FI, le_TI, le_FI, eq_TI, eq_FI, lt_TN, lt_FN, le_TN, le_FN, eq_TN, eq_FN, and_self, and_true, true_and, and_false, false_and, or_true, true_or, or_false, false_or, not_true_eq_false, not_false_eq_true, wr_of, uI_at, uC_at, q_bi_s, q_bl_s, q_br_s, q_bv_s, Int.toNat_natCast, tn_1, tn_m, tn_n, Int.toNat_zero, Int.toNat_one, r1, e133_0, e133_5, e133_26, rn, H0, H1, b1]
    exact ⟨I', rfl, QC_kp b2 (by omega) (by omega)⟩
  · simp only [if_neg hc]
    have r1 := r_cell_no (c := c) (u := u) (J := J) k18 e9 (by omega)
    simp (disch := omega) only [↓reduceIte, lt_TI, lt_FI, le_TI, le_FI, eq_TI, eq_FI, lt_TN, lt_FN, le_TN, le_FN, eq_TN, eq_FN, and_self, and_true, true_and, and_false, false_and, or_true, true_or, or_false, false_or, not_true_eq_false, not_false_eq_true, wr_of, uI_at, uC_at, q_bi_s, q_bl_s, q_br_s, q_bv_s, Int.toNat_natCast, tn_1, tn_m, tn_n, Int.toNat_zero, Int.toNat_one, r1, e133_0, e133_5, e133_26]
    exact ⟨_, rfl, QC_rf⟩
theorem k_level (V : CInv S t u I) (c : Int) : ∃ I', q_E (134, 0, [vr 1, vi c], []) (qk t u I J) = some (vi (sp_level S c).1, qk t u I' J) ∧ QC (sp_level S c).2 I I' := by
  obtain ⟨V2, e9, k18⟩ := CInv_qi V 0
  have h4 := tC_4 V.1
  have ht := V2.2.2.1
  have VT := V.2.2.2.2.2.2.2.1
  unfold sp_level spC
  by_cases hc : isCl S c
  · simp only [if_pos hc]
    obtain ⟨hc1, hc2⟩ := hc
    obtain ⟨m, rfl⟩ : ∃ m : Nat, c = (m : Int) := ⟨c.toNat, by omega⟩
    have hm : m < tC (sTo S) := by omega
    obtain ⟨H, ok⟩ := QI_row V2 (show m < 4 by omega)
    obtain ⟨o1, o2, o3⟩ := id ok
    have H0 := H.1.1
    have H1 := (V.2.2.2.2.2.2.2.2.1.2.2 m (by omega)).2.1
    have H2 := (V.2.2.2.2.2.2.2.2.1.2.2 m (by omega)).2.2.1
    have rn := R_now t u m (by omega)
    have r1 := r_cell_ok (u := u) (J := J) k18 e9 hc1 hc2
    simp only [Int.toNat_natCast]
    have b1 := c_level (t := t) (u := u) (J := J) H (by omega)
    simp (disch := omega) only [↓reduceIte, lt_TI, lt_FI, le_TI, le_FI, eq_TI, eq_FI, lt_TN, lt_FN, le_TN, le_FN, eq_TN, eq_FN, and_self, and_true, true_and, and_false, false_and, or_true, true_or, or_false, false_or, not_true_eq_false, not_false_eq_true, wr_of, uI_at, uC_at, q_bi_s, q_bl_s, q_br_s, q_bv_s, Int.toNat_natCast, tn_1, tn_m, tn_n, Int.toNat_zero, Int.toNat_one, r1, e134_0, e134_5, e134_22, rn, H0, H1, b1]
    exact ⟨_, rfl, QC_rf⟩
  · simp only [if_neg hc]
    have r1 := r_cell_no (c := c) (u := u) (J := J) k18 e9 (by omega)
    simp (disch := omega) only [↓reduceIte, lt_TI, lt_FI, le_TI, le_FI, eq_TI, eq_FI, lt_TN, lt_FN, le_TN, le_FN, eq_TN, eq_FN, and_self, and_true, true_and, and_false, false_and, or_true, true_or, or_false, false_or, not_true_eq_false, not_false_eq_true, wr_of, uI_at, uC_at, q_bi_s, q_bl_s, q_br_s, q_bv_s, Int.toNat_natCast, tn_1, tn_m, tn_n, Int.toNat_zero, Int.toNat_one, r1, e134_0, e134_5, e134_22]
    exact ⟨_, rfl, QC_rf⟩
theorem k_half (V : CInv S t u I) (c : Int) : ∃ I', q_E (136, 0, [vr 1, vi c], []) (qk t u I J) = some (vi (sp_half S c).1, qk t u I' J) ∧ QC (sp_half S c).2 I I' := by
  obtain ⟨V2, e9, k18⟩ := CInv_qi V 0
  have h4 := tC_4 V.1
  have ht := V2.2.2.1
  have VT := V.2.2.2.2.2.2.2.1
  unfold sp_half spC
  by_cases hc : isCl S c
  · simp only [if_pos hc]
    obtain ⟨hc1, hc2⟩ := hc
    obtain ⟨m, rfl⟩ : ∃ m : Nat, c = (m : Int) := ⟨c.toNat, by omega⟩
    have hm : m < tC (sTo S) := by omega
    obtain ⟨H, ok⟩ := QI_row V2 (show m < 4 by omega)
    obtain ⟨o1, o2, o3⟩ := id ok
    have H0 := H.1.1
    have H1 := (V.2.2.2.2.2.2.2.2.1.2.2 m (by omega)).2.1
    have H2 := (V.2.2.2.2.2.2.2.2.1.2.2 m (by omega)).2.2.1
    have rn := R_now t u m (by omega)
    have r1 := r_cell_ok (u := u) (J := J) k18 e9 hc1 hc2
    simp only [Int.toNat_natCast]
    obtain ⟨I', b1, b2⟩ := c_half (t := t) (u := u) (J := J) H o2 (by omega) (by omega)
    simp (disch := omega) only [↓reduceIte, lt_TI, lt_FI, le_TI, le_FI, eq_TI, eq_FI, lt_TN, lt_FN, le_TN, le_FN, eq_TN, eq_FN, and_self, and_true, true_and, and_false, false_and, or_true, true_or, or_false, false_or, not_true_eq_false, not_false_eq_true, wr_of, uI_at, uC_at, q_bi_s, q_bl_s, q_br_s, q_bv_s, Int.toNat_natCast, tn_1, tn_m, tn_n, Int.toNat_zero, Int.toNat_one, r1, e136_0, e136_5, e136_26, rn, H0, H1, b1]
    exact ⟨I', rfl, QC_kp b2 (by omega) (by omega)⟩
  · simp only [if_neg hc]
    have r1 := r_cell_no (c := c) (u := u) (J := J) k18 e9 (by omega)
    simp (disch := omega) only [↓reduceIte, lt_TI, lt_FI, le_TI, le_FI, eq_TI, eq_FI, lt_TN, lt_FN, le_TN, le_FN, eq_TN, eq_FN, and_self, and_true, true_and, and_false, false_and, or_true, true_or, or_false, false_or, not_true_eq_false, not_false_eq_true, wr_of, uI_at, uC_at, q_bi_s, q_bl_s, q_br_s, q_bv_s, Int.toNat_natCast, tn_1, tn_m, tn_n, Int.toNat_zero, Int.toNat_one, r1, e136_0, e136_5, e136_26]
    exact ⟨_, rfl, QC_rf⟩
theorem k_eats (V : CInv S t u I) (c : Int) : ∃ I', q_E (130, 0, [vr 1, vi c], []) (qk t u I J) = some (vi (sp_eats S c).1, qk t u I' J) ∧ QC (sp_eats S c).2 I I' := by
  obtain ⟨V2, e9, k18⟩ := CInv_qi V 0
  have h4 := tC_4 V.1
  have ht := V2.2.2.1
  have VT := V.2.2.2.2.2.2.2.1
  unfold sp_eats spC
  by_cases hc : isCl S c
  · simp only [if_pos hc]
    obtain ⟨hc1, hc2⟩ := hc
    obtain ⟨m, rfl⟩ : ∃ m : Nat, c = (m : Int) := ⟨c.toNat, by omega⟩
    have hm : m < tC (sTo S) := by omega
    obtain ⟨H, ok⟩ := QI_row V2 (show m < 4 by omega)
    obtain ⟨o1, o2, o3⟩ := id ok
    have H0 := H.1.1
    have H1 := (V.2.2.2.2.2.2.2.2.1.2.2 m (by omega)).2.1
    have H2 := (V.2.2.2.2.2.2.2.2.1.2.2 m (by omega)).2.2.1
    have rn := R_now t u m (by omega)
    have r1 := r_cell_ok (u := u) (J := J) k18 e9 hc1 hc2
    simp only [Int.toNat_natCast]
    have b1 := c_balance (t := t) (u := u) (J := J) H
    by_cases z : xr ((sNw S).1 m).1 = 0
    · simp only [if_pos z]
      simp (disch := omega) only [↓reduceIte, lt_TI, lt_FI, le_TI, le_FI, eq_TI, eq_FI, lt_TN, lt_FN, le_TN, le_FN, eq_TN, eq_FN, and_self, and_true, true_and, and_false, false_and, or_true, true_or, or_false, false_or, not_true_eq_false, not_false_eq_true, wr_of, uI_at, uC_at, q_bi_s, q_bl_s, q_br_s, q_bv_s, Int.toNat_natCast, tn_1, tn_m, tn_n, Int.toNat_zero, Int.toNat_one, r1, e130_0, e130_5, e130_22, rn, H0, H1, b1, z]
      exact ⟨_, rfl, QC_rf⟩
    simp only [if_neg z]
    simp (disch := omega) only [↓reduceIte, lt_TI, lt_FI, le_TI, le_FI, eq_TI, eq_FI, lt_TN, lt_FN, le_TN, le_FN, eq_TN, eq_FN, and_self, and_true, true_and, and_false, false_and, or_true, true_or, or_false, false_or, not_true_eq_false, not_false_eq_true, wr_of, uI_at, uC_at, q_bi_s, q_bl_s, q_br_s, q_bv_s, Int.toNat_natCast, tn_1, tn_m, tn_n, Int.toNat_zero, Int.toNat_one, r1, e130_0, e130_5, e130_22, rn, H0, H1, b1]
    exact ⟨_, rfl, QC_rf⟩
  · simp only [if_neg hc]
    have r1 := r_cell_no (c := c) (u := u) (J := J) k18 e9 (by omega)
    simp (disch := omega) only [↓reduceIte, lt_TI, lt_FI, le_TI, le_FI, eq_TI, eq_FI, lt_TN, lt_FN, le_TN, le_FN, eq_TN, eq_FN, and_self, and_true, true_and, and_false, false_and, or_true, true_or, or_false, false_or, not_true_eq_false, not_false_eq_true, wr_of, uI_at, uC_at, q_bi_s, q_bl_s, q_br_s, q_bv_s, Int.toNat_natCast, tn_1, tn_m, tn_n, Int.toNat_zero, Int.toNat_one, r1, e130_0, e130_5, e130_22]
    exact ⟨_, rfl, QC_rf⟩
theorem k_fits (V : CInv S t u I) : ∃ I', q_E (137, 0, [vr 1], []) (qk t u I J) = some (vi (sp_fits S).1, qk t u I' J) ∧ QC (sp_fits S).2 I I' := by
  obtain ⟨V2, e9, k18⟩ := CInv_qi V 0
  have h4 := tC_4 V.1
  have ht := V2.2.2.1
  have VT := V.2.2.2.2.2.2.2.1
  unfold sp_fits spS
  by_cases hc : 0 < tC (sTo S)
  · simp only [if_pos hc]
    have T := SOk_T V.1 hc
    have U4 := T.2.2.2.2.2.2.2.1
    have G := V2.2.2.2.2.2 hc
    have GF := GAt_F G U4
    have G0 := V.2.2.2.2.2.2.2.2.2.2 hc
    have G1 := G0.1
    have G3 := G0.2.2
    have k10 := VT.2.2.2.2.2.1
    have r1 := r_st_ok (u := u) (J := J) k18 e9 (by omega)
    simp (disch := omega) only [↓reduceIte, lt_TI, lt_FI, le_TI, le_FI, eq_TI, eq_FI, lt_TN, lt_FN, le_TN, le_FN, eq_TN, eq_FN, and_self, and_true, true_and, and_false, false_and, or_true, true_or, or_false, false_or, not_true_eq_false, not_false_eq_true, wr_of, uI_at, uC_at, q_bi_s, q_bl_s, q_br_s, q_bv_s, Int.toNat_natCast, tn_1, tn_m, tn_n, Int.toNat_zero, Int.toNat_one, r1, k18, e137_0, e137_4, G1]
    exact ⟨_, rfl, QC_rf⟩
  · simp only [if_neg hc]
    have r1 := r_st_no (u := u) (J := J) k18 e9 (by omega)
    simp (disch := omega) only [↓reduceIte, lt_TI, lt_FI, le_TI, le_FI, eq_TI, eq_FI, lt_TN, lt_FN, le_TN, le_FN, eq_TN, eq_FN, and_self, and_true, true_and, and_false, false_and, or_true, true_or, or_false, false_or, not_true_eq_false, not_false_eq_true, wr_of, uI_at, uC_at, q_bi_s, q_bl_s, q_br_s, q_bv_s, Int.toNat_natCast, tn_1, tn_m, tn_n, Int.toNat_zero, Int.toNat_one, r1, e137_0, e137_4]
    exact ⟨_, rfl, QC_rf⟩
theorem k_could (V : CInv S t u I) : ∃ I', q_E (139, 0, [vr 1], []) (qk t u I J) = some (vi (sp_could S).1, qk t u I' J) ∧ QC (sp_could S).2 I I' := by
  obtain ⟨V2, e9, k18⟩ := CInv_qi V 0
  have h4 := tC_4 V.1
  have ht := V2.2.2.1
  have VT := V.2.2.2.2.2.2.2.1
  unfold sp_could spS
  by_cases hc : 0 < tC (sTo S)
  · simp only [if_pos hc]
    have T := SOk_T V.1 hc
    have U4 := T.2.2.2.2.2.2.2.1
    have G := V2.2.2.2.2.2 hc
    have GF := GAt_F G U4
    have G0 := V.2.2.2.2.2.2.2.2.2.2 hc
    have G1 := G0.1
    have G3 := G0.2.2
    have k10 := VT.2.2.2.2.2.1
    have r1 := r_st_ok (u := u) (J := J) k18 e9 (by omega)
    have b1 := c_inSome (t := t) (u := u) (J := J) GF
    simp (disch := omega) only [↓reduceIte, lt_TI, lt_FI, le_TI, le_FI, eq_TI, eq_FI, lt_TN, lt_FN, le_TN, le_FN, eq_TN, eq_FN, and_self, and_true, true_and, and_false, false_and, or_true, true_or, or_false, false_or, not_true_eq_false, not_false_eq_true, wr_of, uI_at, uC_at, q_bi_s, q_bl_s, q_br_s, q_bv_s, Int.toNat_natCast, tn_1, tn_m, tn_n, Int.toNat_zero, Int.toNat_one, r1, k18, e139_0, e139_4, e139_16, b1]
    exact ⟨_, rfl, QC_rf⟩
  · simp only [if_neg hc]
    have r1 := r_st_no (u := u) (J := J) k18 e9 (by omega)
    simp (disch := omega) only [↓reduceIte, lt_TI, lt_FI, le_TI, le_FI, eq_TI, eq_FI, lt_TN, lt_FN, le_TN, le_FN, eq_TN, eq_FN, and_self, and_true, true_and, and_false, false_and, or_true, true_or, or_false, false_or, not_true_eq_false, not_false_eq_true, wr_of, uI_at, uC_at, q_bi_s, q_bl_s, q_br_s, q_bv_s, Int.toNat_natCast, tn_1, tn_m, tn_n, Int.toNat_zero, Int.toNat_one, r1, e139_0, e139_4, e139_16]
    exact ⟨_, rfl, QC_rf⟩
theorem k_surely (V : CInv S t u I) : ∃ I', q_E (140, 0, [vr 1], []) (qk t u I J) = some (vi (sp_surely S).1, qk t u I' J) ∧ QC (sp_surely S).2 I I' := by
  obtain ⟨V2, e9, k18⟩ := CInv_qi V 0
  have h4 := tC_4 V.1
  have ht := V2.2.2.1
  have VT := V.2.2.2.2.2.2.2.1
  unfold sp_surely spS
  by_cases hc : 0 < tC (sTo S)
  · simp only [if_pos hc]
    have T := SOk_T V.1 hc
    have U4 := T.2.2.2.2.2.2.2.1
    have G := V2.2.2.2.2.2 hc
    have GF := GAt_F G U4
    have G0 := V.2.2.2.2.2.2.2.2.2.2 hc
    have G1 := G0.1
    have G3 := G0.2.2
    have k10 := VT.2.2.2.2.2.1
    have r1 := r_st_ok (u := u) (J := J) k18 e9 (by omega)
    have b1 := c_inAll (t := t) (u := u) (J := J) GF
    simp (disch := omega) only [↓reduceIte, lt_TI, lt_FI, le_TI, le_FI, eq_TI, eq_FI, lt_TN, lt_FN, le_TN, le_FN, eq_TN, eq_FN, and_self, and_true, true_and, and_false, false_and, or_true, true_or, or_false, false_or, not_true_eq_false, not_false_eq_true, wr_of, uI_at, uC_at, q_bi_s, q_bl_s, q_br_s, q_bv_s, Int.toNat_natCast, tn_1, tn_m, tn_n, Int.toNat_zero, Int.toNat_one, r1, k18, e140_0, e140_4, e140_16, b1]
    exact ⟨_, rfl, QC_rf⟩
  · simp only [if_neg hc]
    have r1 := r_st_no (u := u) (J := J) k18 e9 (by omega)
    simp (disch := omega) only [↓reduceIte, lt_TI, lt_FI, le_TI, le_FI, eq_TI, eq_FI, lt_TN, lt_FN, le_TN, le_FN, eq_TN, eq_FN, and_self, and_true, true_and, and_false, false_and, or_true, true_or, or_false, false_or, not_true_eq_false, not_false_eq_true, wr_of, uI_at, uC_at, q_bi_s, q_bl_s, q_br_s, q_bv_s, Int.toNat_natCast, tn_1, tn_m, tn_n, Int.toNat_zero, Int.toNat_one, r1, e140_0, e140_4, e140_16]
    exact ⟨_, rfl, QC_rf⟩
theorem k_ask (V : CInv S t u I) : ∃ I', q_E (141, 0, [vr 1], []) (qk t u I J) = some (vi (sp_ask S).1, qk t u I' J) ∧ QC (sp_ask S).2 I I' := by
  obtain ⟨V2, e9, k18⟩ := CInv_qi V 0
  have h4 := tC_4 V.1
  have ht := V2.2.2.1
  have VT := V.2.2.2.2.2.2.2.1
  unfold sp_ask spS
  by_cases hc : 0 < tC (sTo S)
  · simp only [if_pos hc]
    have T := SOk_T V.1 hc
    have U4 := T.2.2.2.2.2.2.2.1
    have G := V2.2.2.2.2.2 hc
    have GF := GAt_F G U4
    have G0 := V.2.2.2.2.2.2.2.2.2.2 hc
    have G1 := G0.1
    have G3 := G0.2.2
    have k10 := VT.2.2.2.2.2.1
    have r1 := r_st_ok (u := u) (J := J) k18 e9 (by omega)
    have b1 := c_bestAsked (t := t) (u := u) (J := J) GF U4
    simp (disch := omega) only [↓reduceIte, lt_TI, lt_FI, le_TI, le_FI, eq_TI, eq_FI, lt_TN, lt_FN, le_TN, le_FN, eq_TN, eq_FN, and_self, and_true, true_and, and_false, false_and, or_true, true_or, or_false, false_or, not_true_eq_false, not_false_eq_true, wr_of, uI_at, uC_at, q_bi_s, q_bl_s, q_br_s, q_bv_s, Int.toNat_natCast, tn_1, tn_m, tn_n, Int.toNat_zero, Int.toNat_one, r1, k18, e141_0, e141_4, e141_23, b1, k10]
    exact ⟨_, rfl, QC_rf⟩
  · simp only [if_neg hc]
    have r1 := r_st_no (u := u) (J := J) k18 e9 (by omega)
    simp (disch := omega) only [↓reduceIte, lt_TI, lt_FI, le_TI, le_FI, eq_TI, eq_FI, lt_TN, lt_FN, le_TN, le_FN, eq_TN, eq_FN, and_self, and_true, true_and, and_false, false_and, or_true, true_or, or_false, false_or, not_true_eq_false, not_false_eq_true, wr_of, uI_at, uC_at, q_bi_s, q_bl_s, q_br_s, q_bv_s, Int.toNat_natCast, tn_1, tn_m, tn_n, Int.toNat_zero, Int.toNat_one, r1, e141_0, e141_4, e141_23]
    exact ⟨_, rfl, QC_rf⟩
theorem k_judge (V : CInv S t u I) : ∃ I', q_E (143, 0, [vr 1], []) (qk t u I J) = some (vi (sp_judge S).1, qk t u I' J) ∧ QC (sp_judge S).2 I I' := by
  obtain ⟨V2, e9, k18⟩ := CInv_qi V 0
  have h4 := tC_4 V.1
  have ht := V2.2.2.1
  have VT := V.2.2.2.2.2.2.2.1
  unfold sp_judge spS
  by_cases hc : 0 < tC (sTo S)
  · simp only [if_pos hc]
    have T := SOk_T V.1 hc
    have U4 := T.2.2.2.2.2.2.2.1
    have G := V2.2.2.2.2.2 hc
    have GF := GAt_F G U4
    have G0 := V.2.2.2.2.2.2.2.2.2.2 hc
    have G1 := G0.1
    have G3 := G0.2.2
    have k10 := VT.2.2.2.2.2.1
    have r1 := r_st_ok (u := u) (J := J) k18 e9 (by omega)
    simp (disch := omega) only [↓reduceIte, lt_TI, lt_FI, le_TI, le_FI, eq_TI, eq_FI, lt_TN, lt_FN, le_TN, le_FN, eq_TN, eq_FN, and_self, and_true, true_and, and_false, false_and, or_true, true_or, or_false, false_or, not_true_eq_false, not_false_eq_true, wr_of, uI_at, uC_at, q_bi_s, q_bl_s, q_br_s, q_bv_s, Int.toNat_natCast, tn_1, tn_m, tn_n, Int.toNat_zero, Int.toNat_one, r1, k18, e143_0, e143_4, G3]
    exact ⟨_, rfl, QC_rf⟩
  · simp only [if_neg hc]
    have r1 := r_st_no (u := u) (J := J) k18 e9 (by omega)
    simp (disch := omega) only [↓reduceIte, lt_TI, lt_FI, le_TI, le_FI, eq_TI, eq_FI, lt_TN, lt_FN, le_TN, le_FN, eq_TN, eq_FN, and_self, and_true, true_and, and_false, false_and, or_true, true_or, or_false, false_or, not_true_eq_false, not_false_eq_true, wr_of, uI_at, uC_at, q_bi_s, q_bl_s, q_br_s, q_bv_s, Int.toNat_natCast, tn_1, tn_m, tn_n, Int.toNat_zero, Int.toNat_one, r1, e143_0, e143_4]
    exact ⟨_, rfl, QC_rf⟩
theorem k_ways (V : CInv S t u I) (n : Int) : ∃ I', q_E (127, 0, [vr 1, vi n], []) (qk t u I J) = some (vi (sp_ways S n).1, qk t u I' J) ∧ QC (sp_ways S n).2 I I' := by
  obtain ⟨V2, e9, k18⟩ := CInv_qi V 0
  have h4 := tC_4 V.1
  have ht := V2.2.2.1
  have VT := V.2.2.2.2.2.2.2.1
  unfold sp_ways spW
  by_cases hc : 0 < tC (sTo S)
  · simp only [if_pos hc]
    have r1 := r_st_ok (u := u) (J := J) k18 e9 (by omega)
    by_cases hn : 0 ≤ n ∧ n ≤ 60
    · simp only [if_pos hn]
      obtain ⟨hn1, hn2⟩ := hn
      obtain ⟨j, rfl⟩ : ∃ j : Nat, n = (j : Int) := ⟨n.toNat, by omega⟩
      simp only [Int.toNat_natCast]
      obtain ⟨I', b1, b2⟩ := c_countWays (t := t) (u := u) (I := uI I 1 10 0) (J := J) (N := j) (hi := j) (by omega) (by omega)
      simp (disch := omega) only [↓reduceIte, lt_TI, lt_FI, le_TI, le_FI, eq_TI, eq_FI, lt_TN, lt_FN, le_TN, le_FN, eq_TN, eq_FN, and_self, and_true, true_and, and_false, false_and, or_true, true_or, or_false, false_or, not_true_eq_false, not_false_eq_true, wr_of, uI_at, uC_at, q_bi_s, q_bl_s, q_br_s, q_bv_s, Int.toNat_natCast, tn_1, tn_m, tn_n, Int.toNat_zero, Int.toNat_one, r1, e127_0, e127_4, e127_14, e127_28, r_num_ok, uI_uI, b1]
      exact ⟨I', rfl, QC_kp b2 (by omega) (by omega)⟩
    · simp only [if_neg hn]
      simp (disch := omega) only [↓reduceIte, lt_TI, lt_FI, le_TI, le_FI, eq_TI, eq_FI, lt_TN, lt_FN, le_TN, le_FN, eq_TN, eq_FN, and_self, and_true, true_and, and_false, false_and, or_true, true_or, or_false, false_or, not_true_eq_false, not_false_eq_true, wr_of, uI_at, uC_at, q_bi_s, q_bl_s, q_br_s, q_bv_s, Int.toNat_natCast, tn_1, tn_m, tn_n, Int.toNat_zero, Int.toNat_one, r1, e127_0, e127_4, e127_14, e127_28, r_num_no, uI_uI]
      exact ⟨_, rfl, QC_rf⟩
  · simp only [if_neg hc]
    have r1 := r_st_no (u := u) (J := J) k18 e9 (by omega)
    simp (disch := omega) only [↓reduceIte, lt_TI, lt_FI, le_TI, le_FI, eq_TI, eq_FI, lt_TN, lt_FN, le_TN, le_FN, eq_TN, eq_FN, and_self, and_true, true_and, and_false, false_and, or_true, true_or, or_false, false_or, not_true_eq_false, not_false_eq_true, wr_of, uI_at, uC_at, q_bi_s, q_bl_s, q_br_s, q_bv_s, Int.toNat_natCast, tn_1, tn_m, tn_n, Int.toNat_zero, Int.toNat_one, r1, e127_0, e127_4, e127_14, e127_28]
    exact ⟨_, rfl, QC_rf⟩
theorem k_waysUnlike (V : CInv S t u I) (n : Int) : ∃ I', q_E (129, 0, [vr 1, vi n], []) (qk t u I J) = some (vi (sp_waysUnlike S n).1, qk t u I' J) ∧ QC (sp_waysUnlike S n).2 I I' := by
  obtain ⟨V2, e9, k18⟩ := CInv_qi V 0
  have h4 := tC_4 V.1
  have ht := V2.2.2.1
  have VT := V.2.2.2.2.2.2.2.1
  unfold sp_waysUnlike spW
  by_cases hc : 0 < tC (sTo S)
  · simp only [if_pos hc]
    have r1 := r_st_ok (u := u) (J := J) k18 e9 (by omega)
    by_cases hn : 0 ≤ n ∧ n ≤ 60
    · simp only [if_pos hn]
      obtain ⟨hn1, hn2⟩ := hn
      obtain ⟨j, rfl⟩ : ∃ j : Nat, n = (j : Int) := ⟨n.toNat, by omega⟩
      simp only [Int.toNat_natCast]
      obtain ⟨I', b1, b2⟩ := c_unlike (t := t) (u := u) (I := uI I 1 10 0) (J := J) (N := j) (by omega)
      simp (disch := omega) only [↓reduceIte, lt_TI, lt_FI, le_TI, le_FI, eq_TI, eq_FI, lt_TN, lt_FN, le_TN, le_FN, eq_TN, eq_FN, and_self, and_true, true_and, and_false, false_and, or_true, true_or, or_false, false_or, not_true_eq_false, not_false_eq_true, wr_of, uI_at, uC_at, q_bi_s, q_bl_s, q_br_s, q_bv_s, Int.toNat_natCast, tn_1, tn_m, tn_n, Int.toNat_zero, Int.toNat_one, r1, e129_0, e129_4, e129_14, e129_27, r_num_ok, uI_uI, b1]
      exact ⟨I', rfl, QC_kp b2 (by omega) (by omega)⟩
    · simp only [if_neg hn]
      simp (disch := omega) only [↓reduceIte, lt_TI, lt_FI, le_TI, le_FI, eq_TI, eq_FI, lt_TN, lt_FN, le_TN, le_FN, eq_TN, eq_FN, and_self, and_true, true_and, and_false, false_and, or_true, true_or, or_false, false_or, not_true_eq_false, not_false_eq_true, wr_of, uI_at, uC_at, q_bi_s, q_bl_s, q_br_s, q_bv_s, Int.toNat_natCast, tn_1, tn_m, tn_n, Int.toNat_zero, Int.toNat_one, r1, e129_0, e129_4, e129_14, e129_27, r_num_no, uI_uI]
      exact ⟨_, rfl, QC_rf⟩
  · simp only [if_neg hc]
    have r1 := r_st_no (u := u) (J := J) k18 e9 (by omega)
    simp (disch := omega) only [↓reduceIte, lt_TI, lt_FI, le_TI, le_FI, eq_TI, eq_FI, lt_TN, lt_FN, le_TN, le_FN, eq_TN, eq_FN, and_self, and_true, true_and, and_false, false_and, or_true, true_or, or_false, false_or, not_true_eq_false, not_false_eq_true, wr_of, uI_at, uC_at, q_bi_s, q_bl_s, q_br_s, q_bv_s, Int.toNat_natCast, tn_1, tn_m, tn_n, Int.toNat_zero, Int.toNat_one, r1, e129_0, e129_4, e129_14, e129_27]
    exact ⟨_, rfl, QC_rf⟩
end

/-! the model's queries of nights ahead -/
section
variable {t u : Nat} {I J : Nat → Nat → Int} {S : St}
theorem m_cellar (V : MInv S I) (c w : Int) : ∃ I', q_E (223, 0, [vr 265, vi c, vi w], []) (qk t u I J) = some (vi (sp_cellar S c w).1, qk t u I' J) ∧ QM (sp_cellar S c w).2 I I' := by
  have A := MInv_A V
  have h4 := tC_4 V.1.1
  unfold sp_cellar
  by_cases hc : isCl S c
  · obtain ⟨m, rfl⟩ : ∃ m : Nat, c = (m : Int) := ⟨c.toNat, by omega⟩
    have r1 := m_cell_ok (t := t) (u := u) (J := J) A hc
    have hm : m < tC (sTo S) := by omega
    obtain ⟨H, ok⟩ := MQs_row A (show m < 4 by omega)
    obtain ⟨G, -⟩ := MQs_row V.1 (show m < 4 by omega)
    obtain ⟨o1, o2, o3⟩ := id ok
    have hl := HOk_len ok
    simp only [Int.toNat_natCast]
    by_cases hw : 0 ≤ w ∧ w ≤ 4
    · rw [if_pos ⟨hc, hw.1, hw.2⟩]
      have ho := G.1 0 (by omega)
      rw [Nat.add_zero] at ho
      have l := MQs_law V.1 hm
      have k1 := c_manyOf (t := t) (u := u) (J := J) A272 (p := 61 * m) (by omega) H.1 o2 hl
      have k2 := c_stonesOf (t := t) (u := u) (J := J) A272 (p := 61 * m) (by omega) H.1 hl (by omega)
      have k3 := G.2
      rw [c_61] at k1 k2
      obtain ⟨hw1, hw2⟩ := hw
      have z : w = 0 ∨ w = 1 ∨ w = 2 ∨ w = 3 ∨ w = 4 := by omega
      rcases z with rfl | rfl | rfl | rfl | rfl
      · simp (disch := omega) only [↓reduceIte, lt_TI, lt_FI, le_TI, le_FI, eq_TI, eq_FI, lt_TN, lt_FN, le_TN, le_FN, eq_TN, eq_FN, and_self, and_true, true_and, and_false, false_and, or_true, true_or, or_false, false_or, not_true_eq_false, not_false_eq_true, wr_of, uI_at, uC_at, q_bi_s, q_bl_s, q_br_s, q_bv_s, Int.toNat_natCast, tn_1, tn_m, tn_n, Int.toNat_zero, Int.toNat_one, r1, e177_0, n_ok, tn_5, l, e223_0, e223_4, e223_9, e223_26, e223_18, e223_80, e223_92]
        exact ⟨_, rfl, QM_ok QF_rf⟩
      · simp (disch := omega) only [↓reduceIte, lt_TI, lt_FI, le_TI, le_FI, eq_TI, eq_FI, lt_TN, lt_FN, le_TN, le_FN, eq_TN, eq_FN, and_self, and_true, true_and, and_false, false_and, or_true, true_or, or_false, false_or, not_true_eq_false, not_false_eq_true, wr_of, uI_at, uC_at, q_bi_s, q_bl_s, q_br_s, q_bv_s, Int.toNat_natCast, tn_1, tn_m, tn_n, Int.toNat_zero, Int.toNat_one, r1, e177_0, n_ok, k1, e223_0, e223_4, e223_9, e223_26, e223_18, e223_80, e223_92]
        exact ⟨_, rfl, QM_ok QF_rf⟩
      · simp (disch := omega) only [↓reduceIte, lt_TI, lt_FI, le_TI, le_FI, eq_TI, eq_FI, lt_TN, lt_FN, le_TN, le_FN, eq_TN, eq_FN, and_self, and_true, true_and, and_false, false_and, or_true, true_or, or_false, false_or, not_true_eq_false, not_false_eq_true, wr_of, uI_at, uC_at, q_bi_s, q_bl_s, q_br_s, q_bv_s, Int.toNat_natCast, tn_1, tn_m, tn_n, Int.toNat_zero, Int.toNat_one, r1, e177_0, n_ok, k2, k3, tn_61h, e223_0, e223_4, e223_9, e223_26, e223_18, e223_80, e223_92]
        exact ⟨_, rfl, QM_ok QF_rf⟩
      · simp (disch := omega) only [↓reduceIte, lt_TI, lt_FI, le_TI, le_FI, eq_TI, eq_FI, lt_TN, lt_FN, le_TN, le_FN, eq_TN, eq_FN, and_self, and_true, true_and, and_false, false_and, or_true, true_or, or_false, false_or, not_true_eq_false, not_false_eq_true, wr_of, uI_at, uC_at, q_bi_s, q_bl_s, q_br_s, q_bv_s, Int.toNat_natCast, tn_1, tn_m, tn_n, Int.toNat_zero, Int.toNat_one, r1, e177_0, n_ok, tn_61, ho, e223_0, e223_4, e223_9, e223_26, e223_18, e223_80, e223_92]
        exact ⟨_, rfl, QM_ok QF_rf⟩
      · simp (disch := omega) only [↓reduceIte, lt_TI, lt_FI, le_TI, le_FI, eq_TI, eq_FI, lt_TN, lt_FN, le_TN, le_FN, eq_TN, eq_FN, and_self, and_true, true_and, and_false, false_and, or_true, true_or, or_false, false_or, not_true_eq_false, not_false_eq_true, wr_of, uI_at, uC_at, q_bi_s, q_bl_s, q_br_s, q_bv_s, Int.toNat_natCast, tn_1, tn_m, tn_n, Int.toNat_zero, Int.toNat_one, r1, e177_0, n_ok, k3, tn_61h, e223_0, e223_4, e223_9, e223_26, e223_18, e223_80, e223_92]
        exact ⟨_, rfl, QM_ok QF_rf⟩
    · rw [if_neg (fun z => hw ⟨z.2.1, z.2.2⟩)]
      simp (disch := omega) only [↓reduceIte, lt_TI, lt_FI, le_TI, le_FI, eq_TI, eq_FI, lt_TN, lt_FN, le_TN, le_FN, eq_TN, eq_FN, and_self, and_true, true_and, and_false, false_and, or_true, true_or, or_false, false_or, not_true_eq_false, not_false_eq_true, wr_of, uI_at, uC_at, q_bi_s, q_bl_s, q_br_s, q_bv_s, Int.toNat_natCast, tn_1, tn_m, tn_n, Int.toNat_zero, Int.toNat_one, r1, e177_0, e178_0, n_no, e223_0, e223_4, e223_9, e223_26, e223_18, e223_80, e223_92]
      exact ⟨_, rfl, QM_no QF_rf⟩
  · rw [if_neg (fun z => hc z.1)]
    have r1 := m_cell_no (t := t) (u := u) (J := J) A hc
    simp (disch := omega) only [↓reduceIte, lt_TI, lt_FI, le_TI, le_FI, eq_TI, eq_FI, lt_TN, lt_FN, le_TN, le_FN, eq_TN, eq_FN, and_self, and_true, true_and, and_false, false_and, or_true, true_or, or_false, false_or, not_true_eq_false, not_false_eq_true, wr_of, uI_at, uC_at, q_bi_s, q_bl_s, q_br_s, q_bv_s, Int.toNat_natCast, tn_1, tn_m, tn_n, Int.toNat_zero, Int.toNat_one, r1, e177_0, e178_0, e223_0, e223_4, e223_9, e223_26, e223_18, e223_80, e223_92]
    exact ⟨_, rfl, QM_no QF_rf⟩
theorem m_heap (V : MInv S I) (c i : Int) : ∃ I', q_E (224, 0, [vr 265, vi c, vi i], []) (qk t u I J) = some (vi (sp_heap S c i).1, qk t u I' J) ∧ QM (sp_heap S c i).2 I I' := by
  have A := MInv_A V
  have h4 := tC_4 V.1.1
  unfold sp_heap
  by_cases hc : isCl S c
  · obtain ⟨m, rfl⟩ : ∃ m : Nat, c = (m : Int) := ⟨c.toNat, by omega⟩
    have r1 := m_cell_ok (t := t) (u := u) (J := J) A hc
    have hm : m < tC (sTo S) := by omega
    obtain ⟨H, ok⟩ := MQs_row A (show m < 4 by omega)
    obtain ⟨G, -⟩ := MQs_row V.1 (show m < 4 by omega)
    obtain ⟨o1, o2, o3⟩ := id ok
    have hl := HOk_len ok
    simp only [Int.toNat_natCast]
    have k1 := c_manyOf (t := t) (u := u) (J := J) A272 (p := 61 * m) (by omega) H.1 o2 hl
    rw [c_61] at k1
    by_cases hi : 0 ≤ i ∧ i < (((sNw S).1 m).1.length : Int)
    · obtain ⟨j, rfl⟩ : ∃ j : Nat, i = (j : Int) := ⟨i.toNat, by omega⟩
      have v := G.1 j (by omega)
      rw [if_pos ⟨hc.1, hc.2, hi.1, hi.2⟩]
      obtain ⟨hi1, hi2⟩ := hi
      simp (disch := omega) only [↓reduceIte, lt_TI, lt_FI, le_TI, le_FI, eq_TI, eq_FI, lt_TN, lt_FN, le_TN, le_FN, eq_TN, eq_FN, and_self, and_true, true_and, and_false, false_and, or_true, true_or, or_false, false_or, not_true_eq_false, not_false_eq_true, wr_of, uI_at, uC_at, q_bi_s, q_bl_s, q_br_s, q_bv_s, Int.toNat_natCast, tn_1, tn_m, tn_n, Int.toNat_zero, Int.toNat_one, r1, e177_0, k1, n_ok, tn_61a, v, e224_0, e224_4, e224_9, e224_52, e224_25, e224_30]
      exact ⟨_, rfl, QM_ok QF_rf⟩
    · rw [if_neg (fun z => hi ⟨z.2.2.1, z.2.2.2⟩)]
      simp (disch := omega) only [↓reduceIte, lt_TI, lt_FI, le_TI, le_FI, eq_TI, eq_FI, lt_TN, lt_FN, le_TN, le_FN, eq_TN, eq_FN, and_self, and_true, true_and, and_false, false_and, or_true, true_or, or_false, false_or, not_true_eq_false, not_false_eq_true, wr_of, uI_at, uC_at, q_bi_s, q_bl_s, q_br_s, q_bv_s, Int.toNat_natCast, tn_1, tn_m, tn_n, Int.toNat_zero, Int.toNat_one, r1, e177_0, e178_0, k1, n_no, e224_0, e224_4, e224_9, e224_52, e224_25, e224_30]
      exact ⟨_, rfl, QM_no QF_rf⟩
  · rw [if_neg (fun z => hc ⟨z.1, z.2.1⟩)]
    have r1 := m_cell_no (t := t) (u := u) (J := J) A hc
    simp (disch := omega) only [↓reduceIte, lt_TI, lt_FI, le_TI, le_FI, eq_TI, eq_FI, lt_TN, lt_FN, le_TN, le_FN, eq_TN, eq_FN, and_self, and_true, true_and, and_false, false_and, or_true, true_or, or_false, false_or, not_true_eq_false, not_false_eq_true, wr_of, uI_at, uC_at, q_bi_s, q_bl_s, q_br_s, q_bv_s, Int.toNat_natCast, tn_1, tn_m, tn_n, Int.toNat_zero, Int.toNat_one, r1, e177_0, e178_0, e224_0, e224_4, e224_9, e224_52, e224_25, e224_30]
    exact ⟨_, rfl, QM_no QF_rf⟩
theorem m_still (V : MInv S I) (c : Int) : ∃ I', q_E (226, 0, [vr 265, vi c], []) (qk t u I J) = some (vi (sp_still S c).1, qk t u I' J) ∧ QM (sp_still S c).2 I I' := by
  have A := MInv_A V
  have h4 := tC_4 V.1.1
  unfold sp_still spC
  by_cases hc : isCl S c
  · simp only [if_pos hc]
    obtain ⟨m, rfl⟩ : ∃ m : Nat, c = (m : Int) := ⟨c.toNat, by omega⟩
    have r1 := m_cell_ok (t := t) (u := u) (J := J) A hc
    have hm : m < tC (sTo S) := by omega
    obtain ⟨H, ok⟩ := MQs_row A (show m < 4 by omega)
    obtain ⟨G, -⟩ := MQs_row V.1 (show m < 4 by omega)
    obtain ⟨o1, o2, o3⟩ := id ok
    have hl := HOk_len ok
    simp only [Int.toNat_natCast]
    obtain ⟨I', b1, F⟩ := m_isStill (t := t) (u := u) (J := J) A hm
    by_cases z : ahd S m 1 = (sNw S).1 m
    · rw [if_pos z] at b1
      simp only [if_pos z]
      simp (disch := omega) only [↓reduceIte, lt_TI, lt_FI, le_TI, le_FI, eq_TI, eq_FI, lt_TN, lt_FN, le_TN, le_FN, eq_TN, eq_FN, and_self, and_true, true_and, and_false, false_and, or_true, true_or, or_false, false_or, not_true_eq_false, not_false_eq_true, wr_of, uI_at, uC_at, q_bi_s, q_bl_s, q_br_s, q_bv_s, Int.toNat_natCast, tn_1, tn_m, tn_n, Int.toNat_zero, Int.toNat_one, r1, e177_0, e226_0, e226_4, e226_9, e226_17, e226_23, b1]
      exact ⟨_, rfl, QM_ok F⟩
    rw [if_neg z] at b1
    simp only [if_neg z]
    simp (disch := omega) only [↓reduceIte, lt_TI, lt_FI, le_TI, le_FI, eq_TI, eq_FI, lt_TN, lt_FN, le_TN, le_FN, eq_TN, eq_FN, and_self, and_true, true_and, and_false, false_and, or_true, true_or, or_false, false_or, not_true_eq_false, not_false_eq_true, wr_of, uI_at, uC_at, q_bi_s, q_bl_s, q_br_s, q_bv_s, Int.toNat_natCast, tn_1, tn_m, tn_n, Int.toNat_zero, Int.toNat_one, r1, e177_0, e178_0, e226_0, e226_4, e226_9, e226_17, e226_23, b1]
    exact ⟨_, rfl, QM_ok F⟩
  · simp only [if_neg hc]
    have r1 := m_cell_no (t := t) (u := u) (J := J) A hc
    simp (disch := omega) only [↓reduceIte, lt_TI, lt_FI, le_TI, le_FI, eq_TI, eq_FI, lt_TN, lt_FN, le_TN, le_FN, eq_TN, eq_FN, and_self, and_true, true_and, and_false, false_and, or_true, true_or, or_false, false_or, not_true_eq_false, not_false_eq_true, wr_of, uI_at, uC_at, q_bi_s, q_bl_s, q_br_s, q_bv_s, Int.toNat_natCast, tn_1, tn_m, tn_n, Int.toNat_zero, Int.toNat_one, r1, e177_0, e178_0, e226_0, e226_4, e226_9, e226_17, e226_23]
    exact ⟨_, rfl, QM_no QF_rf⟩
theorem m_heaps (V : MInv S I) (c n : Int) : ∃ I', q_E (228, 0, [vr 265, vi c, vi n, vu], []) (qk t u I J) = some (vi (sp_heaps S c n).1, qk t u I' J) ∧ QM (sp_heaps S c n).2 I I' := by
  have A := MInv_A V
  have h4 := tC_4 V.1.1
  unfold sp_heaps spN
  by_cases hc : isCl S c
  · simp only [if_pos hc]
    obtain ⟨m, rfl⟩ : ∃ m : Nat, c = (m : Int) := ⟨c.toNat, by omega⟩
    have r1 := m_cell_ok (t := t) (u := u) (J := J) A hc
    have hm : m < tC (sTo S) := by omega
    obtain ⟨H, ok⟩ := MQs_row A (show m < 4 by omega)
    obtain ⟨G, -⟩ := MQs_row V.1 (show m < 4 by omega)
    obtain ⟨o1, o2, o3⟩ := id ok
    have hl := HOk_len ok
    simp only [Int.toNat_natCast]
    by_cases hn : 0 ≤ n ∧ n ≤ 999
    · simp only [if_pos hn]
      obtain ⟨hn1, hn2⟩ := hn
      obtain ⟨j, rfl⟩ : ∃ j : Nat, n = (j : Int) := ⟨n.toNat, by omega⟩
      simp only [Int.toNat_natCast]
      obtain ⟨I', b1, b3, F⟩ := m_nightsOn (t := t) (u := u) (J := J) (n := j) A hm (by omega)
      have oa := ahd_ok V.1.1 hm j
      have la := HOk_len oa
      have k1 := c_manyOf (t := t) (u := u) (J := J) A275 (p := 0) (by omega) b3.1 oa.2.1 la
      rw [Int.natCast_zero] at k1
      simp (disch := omega) only [↓reduceIte, lt_TI, lt_FI, le_TI, le_FI, eq_TI, eq_FI, lt_TN, lt_FN, le_TN, le_FN, eq_TN, eq_FN, and_self, and_true, true_and, and_false, false_and, or_true, true_or, or_false, false_or, not_true_eq_false, not_false_eq_true, wr_of, uI_at, uC_at, q_bi_s, q_bl_s, q_br_s, q_bv_s, Int.toNat_natCast, tn_1, tn_m, tn_n, Int.toNat_zero, Int.toNat_one, r1, e177_0, e178_0, e212_0, e227_0, e227_6, e227_14, e227_17, k21, n_ok, n_no, e228_0, e228_4, e228_10, e228_27, e228_20, e228_35, b1, k1]
      exact ⟨_, rfl, QM_ok F⟩
    · simp only [if_neg hn]
      simp (disch := omega) only [↓reduceIte, lt_TI, lt_FI, le_TI, le_FI, eq_TI, eq_FI, lt_TN, lt_FN, le_TN, le_FN, eq_TN, eq_FN, and_self, and_true, true_and, and_false, false_and, or_true, true_or, or_false, false_or, not_true_eq_false, not_false_eq_true, wr_of, uI_at, uC_at, q_bi_s, q_bl_s, q_br_s, q_bv_s, Int.toNat_natCast, tn_1, tn_m, tn_n, Int.toNat_zero, Int.toNat_one, r1, e177_0, e178_0, e212_0, e227_0, e227_6, e227_14, e227_17, k21, n_ok, n_no, e228_0, e228_4, e228_10, e228_27, e228_20, e228_35]
      exact ⟨_, rfl, QM_no QF_rf⟩
  · simp only [if_neg hc]
    have r1 := m_cell_no (t := t) (u := u) (J := J) A hc
    by_cases hn : 0 ≤ n ∧ n ≤ 999
    · simp (disch := omega) only [↓reduceIte, lt_TI, lt_FI, le_TI, le_FI, eq_TI, eq_FI, lt_TN, lt_FN, le_TN, le_FN, eq_TN, eq_FN, and_self, and_true, true_and, and_false, false_and, or_true, true_or, or_false, false_or, not_true_eq_false, not_false_eq_true, wr_of, uI_at, uC_at, q_bi_s, q_bl_s, q_br_s, q_bv_s, Int.toNat_natCast, tn_1, tn_m, tn_n, Int.toNat_zero, Int.toNat_one, r1, e177_0, e178_0, e212_0, e227_0, e227_6, e227_14, e227_17, k21, n_ok, n_no, e228_0, e228_4, e228_10, e228_27, e228_20, e228_35]
      exact ⟨_, rfl, QM_no QF_rf⟩
    · simp (disch := omega) only [↓reduceIte, lt_TI, lt_FI, le_TI, le_FI, eq_TI, eq_FI, lt_TN, lt_FN, le_TN, le_FN, eq_TN, eq_FN, and_self, and_true, true_and, and_false, false_and, or_true, true_or, or_false, false_or, not_true_eq_false, not_false_eq_true, wr_of, uI_at, uC_at, q_bi_s, q_bl_s, q_br_s, q_bv_s, Int.toNat_natCast, tn_1, tn_m, tn_n, Int.toNat_zero, Int.toNat_one, r1, e177_0, e178_0, e212_0, e227_0, e227_6, e227_14, e227_17, k21, n_ok, n_no, e228_0, e228_4, e228_10, e228_27, e228_20, e228_35]
      exact ⟨_, rfl, QM_no QF_rf⟩
theorem m_greatest (V : MInv S I) (c n : Int) : ∃ I', q_E (229, 0, [vr 265, vi c, vi n, vu], []) (qk t u I J) = some (vi (sp_greatest S c n).1, qk t u I' J) ∧ QM (sp_greatest S c n).2 I I' := by
  have A := MInv_A V
  have h4 := tC_4 V.1.1
  unfold sp_greatest spN
  by_cases hc : isCl S c
  · simp only [if_pos hc]
    obtain ⟨m, rfl⟩ : ∃ m : Nat, c = (m : Int) := ⟨c.toNat, by omega⟩
    have r1 := m_cell_ok (t := t) (u := u) (J := J) A hc
    have hm : m < tC (sTo S) := by omega
    obtain ⟨H, ok⟩ := MQs_row A (show m < 4 by omega)
    obtain ⟨G, -⟩ := MQs_row V.1 (show m < 4 by omega)
    obtain ⟨o1, o2, o3⟩ := id ok
    have hl := HOk_len ok
    simp only [Int.toNat_natCast]
    by_cases hn : 0 ≤ n ∧ n ≤ 999
    · simp only [if_pos hn]
      obtain ⟨hn1, hn2⟩ := hn
      obtain ⟨j, rfl⟩ : ∃ j : Nat, n = (j : Int) := ⟨n.toNat, by omega⟩
      simp only [Int.toNat_natCast]
      obtain ⟨I', b1, b3, F⟩ := m_nightsOn (t := t) (u := u) (J := J) (n := j) A hm (by omega)
      have oa := ahd_ok V.1.1 hm j
      have la := HOk_len oa
      have k1 := b3.1 0 (by omega)
      rw [Nat.zero_add] at k1
      simp (disch := omega) only [↓reduceIte, lt_TI, lt_FI, le_TI, le_FI, eq_TI, eq_FI, lt_TN, lt_FN, le_TN, le_FN, eq_TN, eq_FN, and_self, and_true, true_and, and_false, false_and, or_true, true_or, or_false, false_or, not_true_eq_false, not_false_eq_true, wr_of, uI_at, uC_at, q_bi_s, q_bl_s, q_br_s, q_bv_s, Int.toNat_natCast, tn_1, tn_m, tn_n, Int.toNat_zero, Int.toNat_one, r1, e177_0, e178_0, e212_0, e227_0, e227_6, e227_14, e227_17, k21, n_ok, n_no, e229_0, e229_4, e229_10, e229_27, e229_20, b1, k1]
      exact ⟨_, rfl, QM_ok F⟩
    · simp only [if_neg hn]
      simp (disch := omega) only [↓reduceIte, lt_TI, lt_FI, le_TI, le_FI, eq_TI, eq_FI, lt_TN, lt_FN, le_TN, le_FN, eq_TN, eq_FN, and_self, and_true, true_and, and_false, false_and, or_true, true_or, or_false, false_or, not_true_eq_false, not_false_eq_true, wr_of, uI_at, uC_at, q_bi_s, q_bl_s, q_br_s, q_bv_s, Int.toNat_natCast, tn_1, tn_m, tn_n, Int.toNat_zero, Int.toNat_one, r1, e177_0, e178_0, e212_0, e227_0, e227_6, e227_14, e227_17, k21, n_ok, n_no, e229_0, e229_4, e229_10, e229_27, e229_20]
      exact ⟨_, rfl, QM_no QF_rf⟩
  · simp only [if_neg hc]
    have r1 := m_cell_no (t := t) (u := u) (J := J) A hc
    by_cases hn : 0 ≤ n ∧ n ≤ 999
    · simp (disch := omega) only [↓reduceIte, lt_TI, lt_FI, le_TI, le_FI, eq_TI, eq_FI, lt_TN, lt_FN, le_TN, le_FN, eq_TN, eq_FN, and_self, and_true, true_and, and_false, false_and, or_true, true_or, or_false, false_or, not_true_eq_false, not_false_eq_true, wr_of, uI_at, uC_at, q_bi_s, q_bl_s, q_br_s, q_bv_s, Int.toNat_natCast, tn_1, tn_m, tn_n, Int.toNat_zero, Int.toNat_one, r1, e177_0, e178_0, e212_0, e227_0, e227_6, e227_14, e227_17, k21, n_ok, n_no, e229_0, e229_4, e229_10, e229_27, e229_20]
      exact ⟨_, rfl, QM_no QF_rf⟩
    · simp (disch := omega) only [↓reduceIte, lt_TI, lt_FI, le_TI, le_FI, eq_TI, eq_FI, lt_TN, lt_FN, le_TN, le_FN, eq_TN, eq_FN, and_self, and_true, true_and, and_false, false_and, or_true, true_or, or_false, false_or, not_true_eq_false, not_false_eq_true, wr_of, uI_at, uC_at, q_bi_s, q_bl_s, q_br_s, q_bv_s, Int.toNat_natCast, tn_1, tn_m, tn_n, Int.toNat_zero, Int.toNat_one, r1, e177_0, e178_0, e212_0, e227_0, e227_6, e227_14, e227_17, k21, n_ok, n_no, e229_0, e229_4, e229_10, e229_27, e229_20]
      exact ⟨_, rfl, QM_no QF_rf⟩
theorem m_held (V : MInv S I) (c n : Int) : ∃ I', q_E (231, 0, [vr 265, vi c, vi n, vu], []) (qk t u I J) = some (vi (sp_held S c n).1, qk t u I' J) ∧ QM (sp_held S c n).2 I I' := by
  have A := MInv_A V
  have h4 := tC_4 V.1.1
  unfold sp_held spN
  by_cases hc : isCl S c
  · simp only [if_pos hc]
    obtain ⟨m, rfl⟩ : ∃ m : Nat, c = (m : Int) := ⟨c.toNat, by omega⟩
    have r1 := m_cell_ok (t := t) (u := u) (J := J) A hc
    have hm : m < tC (sTo S) := by omega
    obtain ⟨H, ok⟩ := MQs_row A (show m < 4 by omega)
    obtain ⟨G, -⟩ := MQs_row V.1 (show m < 4 by omega)
    obtain ⟨o1, o2, o3⟩ := id ok
    have hl := HOk_len ok
    simp only [Int.toNat_natCast]
    by_cases hn : 0 ≤ n ∧ n ≤ 999
    · simp only [if_pos hn]
      obtain ⟨hn1, hn2⟩ := hn
      obtain ⟨j, rfl⟩ : ∃ j : Nat, n = (j : Int) := ⟨n.toNat, by omega⟩
      simp only [Int.toNat_natCast]
      obtain ⟨I', b1, b3, F⟩ := m_nightsOn (t := t) (u := u) (J := J) (n := j) A hm (by omega)
      have oa := ahd_ok V.1.1 hm j
      have la := HOk_len oa
      have k1 := b3.2
      rw [Nat.zero_add] at k1
      simp (disch := omega) only [↓reduceIte, lt_TI, lt_FI, le_TI, le_FI, eq_TI, eq_FI, lt_TN, lt_FN, le_TN, le_FN, eq_TN, eq_FN, and_self, and_true, true_and, and_false, false_and, or_true, true_or, or_false, false_or, not_true_eq_false, not_false_eq_true, wr_of, uI_at, uC_at, q_bi_s, q_bl_s, q_br_s, q_bv_s, Int.toNat_natCast, tn_1, tn_m, tn_n, Int.toNat_zero, Int.toNat_one, r1, e177_0, e178_0, e212_0, e227_0, e227_6, e227_14, e227_17, k21, n_ok, n_no, e231_0, e231_4, e231_10, e231_27, e231_20, b1, k1]
      exact ⟨_, rfl, QM_ok F⟩
    · simp only [if_neg hn]
      simp (disch := omega) only [↓reduceIte, lt_TI, lt_FI, le_TI, le_FI, eq_TI, eq_FI, lt_TN, lt_FN, le_TN, le_FN, eq_TN, eq_FN, and_self, and_true, true_and, and_false, false_and, or_true, true_or, or_false, false_or, not_true_eq_false, not_false_eq_true, wr_of, uI_at, uC_at, q_bi_s, q_bl_s, q_br_s, q_bv_s, Int.toNat_natCast, tn_1, tn_m, tn_n, Int.toNat_zero, Int.toNat_one, r1, e177_0, e178_0, e212_0, e227_0, e227_6, e227_14, e227_17, k21, n_ok, n_no, e231_0, e231_4, e231_10, e231_27, e231_20]
      exact ⟨_, rfl, QM_no QF_rf⟩
  · simp only [if_neg hc]
    have r1 := m_cell_no (t := t) (u := u) (J := J) A hc
    by_cases hn : 0 ≤ n ∧ n ≤ 999
    · simp (disch := omega) only [↓reduceIte, lt_TI, lt_FI, le_TI, le_FI, eq_TI, eq_FI, lt_TN, lt_FN, le_TN, le_FN, eq_TN, eq_FN, and_self, and_true, true_and, and_false, false_and, or_true, true_or, or_false, false_or, not_true_eq_false, not_false_eq_true, wr_of, uI_at, uC_at, q_bi_s, q_bl_s, q_br_s, q_bv_s, Int.toNat_natCast, tn_1, tn_m, tn_n, Int.toNat_zero, Int.toNat_one, r1, e177_0, e178_0, e212_0, e227_0, e227_6, e227_14, e227_17, k21, n_ok, n_no, e231_0, e231_4, e231_10, e231_27, e231_20]
      exact ⟨_, rfl, QM_no QF_rf⟩
    · simp (disch := omega) only [↓reduceIte, lt_TI, lt_FI, le_TI, le_FI, eq_TI, eq_FI, lt_TN, lt_FN, le_TN, le_FN, eq_TN, eq_FN, and_self, and_true, true_and, and_false, false_and, or_true, true_or, or_false, false_or, not_true_eq_false, not_false_eq_true, wr_of, uI_at, uC_at, q_bi_s, q_bl_s, q_br_s, q_bv_s, Int.toNat_natCast, tn_1, tn_m, tn_n, Int.toNat_zero, Int.toNat_one, r1, e177_0, e178_0, e212_0, e227_0, e227_6, e227_14, e227_17, k21, n_ok, n_no, e231_0, e231_4, e231_10, e231_27, e231_20]
      exact ⟨_, rfl, QM_no QF_rf⟩
theorem m_heapIn (V : MInv S I) (c n i : Int) : ∃ I', q_E (230, 0, [vr 265, vi c, vi n, vi i, vu], []) (qk t u I J) = some (vi (sp_heapIn S c n i).1, qk t u I' J) ∧ QM (sp_heapIn S c n i).2 I I' := by
  have A := MInv_A V
  have h4 := tC_4 V.1.1
  unfold sp_heapIn
  by_cases hc : isCl S c
  · simp only [if_pos hc]
    obtain ⟨m, rfl⟩ : ∃ m : Nat, c = (m : Int) := ⟨c.toNat, by omega⟩
    have r1 := m_cell_ok (t := t) (u := u) (J := J) A hc
    have hm : m < tC (sTo S) := by omega
    obtain ⟨H, ok⟩ := MQs_row A (show m < 4 by omega)
    obtain ⟨G, -⟩ := MQs_row V.1 (show m < 4 by omega)
    obtain ⟨o1, o2, o3⟩ := id ok
    have hl := HOk_len ok
    simp only [Int.toNat_natCast]
    by_cases hn : 0 ≤ n ∧ n ≤ 999
    · simp only [if_pos hn]
      obtain ⟨hn1, hn2⟩ := hn
      obtain ⟨j, rfl⟩ : ∃ j : Nat, n = (j : Int) := ⟨n.toNat, by omega⟩
      simp only [Int.toNat_natCast]
      by_cases hi : 0 ≤ i ∧ i ≤ 59
      · simp only [if_pos hi]
        obtain ⟨hi1, hi2⟩ := hi
        obtain ⟨k, rfl⟩ : ∃ k : Nat, i = (k : Int) := ⟨i.toNat, by omega⟩
        simp only [Int.toNat_natCast]
        obtain ⟨I', b1, b3, F⟩ := m_nightsOn (t := t) (u := u) (J := J) (n := j) A hm (by omega)
        have oa := ahd_ok V.1.1 hm j
        have la := HOk_len oa
        have k1 := b3.1 k (by omega)
        rw [Nat.zero_add] at k1
        simp (disch := omega) only [↓reduceIte, lt_TI, lt_FI, le_TI, le_FI, eq_TI, eq_FI, lt_TN, lt_FN, le_TN, le_FN, eq_TN, eq_FN, and_self, and_true, true_and, and_false, false_and, or_true, true_or, or_false, false_or, not_true_eq_false, not_false_eq_true, wr_of, uI_at, uC_at, q_bi_s, q_bl_s, q_br_s, q_bv_s, Int.toNat_natCast, tn_1, tn_m, tn_n, Int.toNat_zero, Int.toNat_one, r1, e177_0, e178_0, e212_0, e227_0, e227_6, e227_14, e227_17, k21, n_ok, n_no, b1, k1, e230_0, e230_4, e230_10, e230_24, e230_48, e230_41]
        exact ⟨_, rfl, QM_ok F⟩
      · simp only [if_neg hi]
        simp (disch := omega) only [↓reduceIte, lt_TI, lt_FI, le_TI, le_FI, eq_TI, eq_FI, lt_TN, lt_FN, le_TN, le_FN, eq_TN, eq_FN, and_self, and_true, true_and, and_false, false_and, or_true, true_or, or_false, false_or, not_true_eq_false, not_false_eq_true, wr_of, uI_at, uC_at, q_bi_s, q_bl_s, q_br_s, q_bv_s, Int.toNat_natCast, tn_1, tn_m, tn_n, Int.toNat_zero, Int.toNat_one, r1, e177_0, e178_0, e212_0, e227_0, e227_6, e227_14, e227_17, k21, n_ok, n_no, e230_0, e230_4, e230_10, e230_24, e230_48, e230_41]
        exact ⟨_, rfl, QM_no QF_rf⟩
    · simp only [if_neg hn]
      simp (disch := omega) only [↓reduceIte, lt_TI, lt_FI, le_TI, le_FI, eq_TI, eq_FI, lt_TN, lt_FN, le_TN, le_FN, eq_TN, eq_FN, and_self, and_true, true_and, and_false, false_and, or_true, true_or, or_false, false_or, not_true_eq_false, not_false_eq_true, wr_of, uI_at, uC_at, q_bi_s, q_bl_s, q_br_s, q_bv_s, Int.toNat_natCast, tn_1, tn_m, tn_n, Int.toNat_zero, Int.toNat_one, r1, e177_0, e178_0, e212_0, e227_0, e227_6, e227_14, e227_17, k21, n_ok, n_no, e230_0, e230_4, e230_10, e230_24, e230_48, e230_41]
      exact ⟨_, rfl, QM_no QF_rf⟩
  · simp only [if_neg hc]
    have r1 := m_cell_no (t := t) (u := u) (J := J) A hc
    by_cases hn : 0 ≤ n ∧ n ≤ 999
    · simp (disch := omega) only [↓reduceIte, lt_TI, lt_FI, le_TI, le_FI, eq_TI, eq_FI, lt_TN, lt_FN, le_TN, le_FN, eq_TN, eq_FN, and_self, and_true, true_and, and_false, false_and, or_true, true_or, or_false, false_or, not_true_eq_false, not_false_eq_true, wr_of, uI_at, uC_at, q_bi_s, q_bl_s, q_br_s, q_bv_s, Int.toNat_natCast, tn_1, tn_m, tn_n, Int.toNat_zero, Int.toNat_one, r1, e177_0, e178_0, e212_0, e227_0, e227_6, e227_14, e227_17, k21, n_ok, n_no, e230_0, e230_4, e230_10, e230_24, e230_48, e230_41]
      exact ⟨_, rfl, QM_no QF_rf⟩
    · simp (disch := omega) only [↓reduceIte, lt_TI, lt_FI, le_TI, le_FI, eq_TI, eq_FI, lt_TN, lt_FN, le_TN, le_FN, eq_TN, eq_FN, and_self, and_true, true_and, and_false, false_and, or_true, true_or, or_false, false_or, not_true_eq_false, not_false_eq_true, wr_of, uI_at, uC_at, q_bi_s, q_bl_s, q_br_s, q_bv_s, Int.toNat_natCast, tn_1, tn_m, tn_n, Int.toNat_zero, Int.toNat_one, r1, e177_0, e178_0, e212_0, e227_0, e227_6, e227_14, e227_17, k21, n_ok, n_no, e230_0, e230_4, e230_10, e230_24, e230_48, e230_41]
      exact ⟨_, rfl, QM_no QF_rf⟩
end

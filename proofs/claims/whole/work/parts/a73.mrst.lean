/-! the model's rests, draws -/
section
variable {t u : Nat} {I J : Nat → Nat → Int} {S : St}

theorem m_stHas {c : Int} (h1 : -100 ≤ c) (h2 : c ≤ 100) (a b : Bool) : q_E (279, 0, [vi c, vi (if a = true then 1 else 0), vi (if b = true then 1 else 0)], []) (qk t u I J) = some (vi (stHas c a b), qk t u I J) := by
  cases a <;> cases b <;> simp (disch := omega) only [↓reduceIte, lt_TI, lt_FI, le_TI, le_FI, eq_TI, eq_FI, lt_TN, lt_FN, le_TN, le_FN, eq_TN, eq_FN, and_self, and_true, true_and, and_false, false_and, or_true, true_or, or_false, false_or, not_true_eq_false, not_false_eq_true, wr_of, uI_at, uC_at, q_bi_s, q_bl_s, q_br_s, q_bv_s, Int.toNat_natCast, tn_1, tn_m, tn_n, Int.toNat_zero, Int.toNat_one, e279_0, stHas, Bool.false_eq_true]
theorem m_moHas (a b : Bool) : q_E (280, 0, [vi (if a = true then 1 else 0), vi (if b = true then 1 else 0)], []) (qk t u I J) = some (vi (moHas a b), qk t u I J) := by
  cases a <;> cases b <;> simp (disch := omega) only [↓reduceIte, lt_TI, lt_FI, le_TI, le_FI, eq_TI, eq_FI, lt_TN, lt_FN, le_TN, le_FN, eq_TN, eq_FN, and_self, and_true, true_and, and_false, false_and, or_true, true_or, or_false, false_or, not_true_eq_false, not_false_eq_true, wr_of, uI_at, uC_at, q_bi_s, q_bl_s, q_br_s, q_bv_s, Int.toNat_natCast, tn_1, tn_m, tn_n, Int.toNat_zero, Int.toNat_one, e280_0, moHas, Bool.false_eq_true]
theorem ir_0 (c : Int) : isRst c 0 = false := rfl
theorem ir_2 (c : Int) : isRst c 2 = false := rfl
theorem ir_1 {c : Int} (h : 0 ≤ c) : isRst c 1 = true := by
  unfold isRst
  rw [Bool.and_eq_true]
  exact ⟨decide_eq_true (show -c ≤ 0 by omega), rfl⟩
theorem ir_3 {c : Int} (h : 0 ≤ c) : isRst c 3 = decide (c = 0) := by
  have e : isRst c 3 = decide ((0 : Int) ≤ -c) := by
    show (decide ((0 : Int) ≤ -c) && true) = _
    rw [Bool.and_true]
  rw [e]
  by_cases q : c = 0
  · rw [decide_eq_true q, decide_eq_true (by omega)]
  · rw [decide_eq_false q, decide_eq_false (by omega)]
theorem rstN_e {c : Int} (h : 0 ≤ c) : (rstN c : Int) = if c = 0 then 2 else 1 := by
  unfold rstN
  rw [cr_s, cr_s, cr_s, cr_s, ir_0, ir_1 h, ir_2, ir_3 h]
  by_cases q : c = 0
  · rw [if_pos q, decide_eq_true q]; rfl
  · rw [if_neg q, decide_eq_false q]; rfl
theorem rst1_e {c : Int} (h : 0 ≤ c) : rst1 c = 1 := by
  have e : fsti (isRst c) 4 = 1 := fsti_eq (by omega) (fun i hi => by
    have : i = 0 := by omega
    subst this; exact ir_0 c) (fun _ => ir_1 h)
  unfold rst1
  rw [e]; rfl
theorem m_seekR {c : Int} (h1 : 0 ≤ c) (h2 : c ≤ 9) : ∃ I', q_E (282, 0, [vr 265, vi c, vu, vu, vu, vu], []) (qk t u I J) = some (vi (rstN c : Int), qk t u I' J) ∧ QF I I' ∧ I' 265 38 = rst1 c := by
  have d1 : Int.tdiv 1 2 = 0 := rfl
  have m0 : Int.tmod 0 2 = 0 := rfl
  have m1 : Int.tmod 1 2 = 1 := rfl
  have m2 : Int.tmod 2 2 = 0 := rfl
  have m3 : Int.tmod 3 2 = 1 := rfl
  have s0 : ∀ I1, q_E (282, 10, [vr 265, vi c, vi 0, vi 0, vu, vu], []) (qk t u I1 J) = q_E (282, 10, [vr 265, vi c, vi 0, vi 1, vu, vu], []) (qk t u I1 J) := fun I1 => by
    rw [e282_10]; simp (disch := omega) only [↓reduceIte, lt_TI, lt_FI, le_TI, le_FI, eq_TI, eq_FI, lt_TN, lt_FN, le_TN, le_FN, eq_TN, eq_FN, and_self, and_true, true_and, and_false, false_and, or_true, true_or, or_false, false_or, not_true_eq_false, not_false_eq_true, wr_of, uI_at, uC_at, q_bi_s, q_bl_s, q_br_s, q_bv_s, Int.toNat_natCast, tn_1, tn_m, tn_n, Int.toNat_zero, Int.toNat_one, e282_27, m0, e282_41, e282_57, e282_65, e282_83, e282_90, e282_114, e282_117, e279_0, e280_0]; rfl
  have s1 : ∀ I1, q_E (282, 10, [vr 265, vi c, vi 0, vi 1, vu, vu], []) (qk t u I1 J) = q_E (282, 10, [vr 265, vi c, vi 1, vi 2, vu, vu], []) (qk t u (uI I1 265 38 1) J) := fun I1 => by
    rw [e282_10]; simp (disch := omega) only [↓reduceIte, lt_TI, lt_FI, le_TI, le_FI, eq_TI, eq_FI, lt_TN, lt_FN, le_TN, le_FN, eq_TN, eq_FN, and_self, and_true, true_and, and_false, false_and, or_true, true_or, or_false, false_or, not_true_eq_false, not_false_eq_true, wr_of, uI_at, uC_at, q_bi_s, q_bl_s, q_br_s, q_bv_s, Int.toNat_natCast, tn_1, tn_m, tn_n, Int.toNat_zero, Int.toNat_one, e282_27, m1, d1, e282_41, e282_57, e282_65, e282_83, e282_90, e282_114, e282_117, e279_0, e280_0]; rfl
  have s2 : ∀ I1, q_E (282, 10, [vr 265, vi c, vi 1, vi 2, vu, vu], []) (qk t u I1 J) = q_E (282, 10, [vr 265, vi c, vi 1, vi 3, vu, vu], []) (qk t u I1 J) := fun I1 => by
    rw [e282_10]; simp (disch := omega) only [↓reduceIte, lt_TI, lt_FI, le_TI, le_FI, eq_TI, eq_FI, lt_TN, lt_FN, le_TN, le_FN, eq_TN, eq_FN, and_self, and_true, true_and, and_false, false_and, or_true, true_or, or_false, false_or, not_true_eq_false, not_false_eq_true, wr_of, uI_at, uC_at, q_bi_s, q_bl_s, q_br_s, q_bv_s, Int.toNat_natCast, tn_1, tn_m, tn_n, Int.toNat_zero, Int.toNat_one, e282_27, m2, e282_41, e282_57, e282_65, e282_83, e282_90, e282_114, e282_117, e279_0, e280_0]; rfl
  have s4 : ∀ (I1 : Nat → Nat → Int) (v : Int), q_E (282, 10, [vr 265, vi c, vi v, vi 4, vu, vu], []) (qk t u I1 J) = some (vi v, qk t u I1 J) := fun I1 v => by
    rw [e282_10]; simp (disch := omega) only [↓reduceIte, lt_TI, lt_FI, le_TI, le_FI, eq_TI, eq_FI, lt_TN, lt_FN, le_TN, le_FN, eq_TN, eq_FN, and_self, and_true, true_and, and_false, false_and, or_true, true_or, or_false, false_or, not_true_eq_false, not_false_eq_true, wr_of, uI_at, uC_at, q_bi_s, q_bl_s, q_br_s, q_bv_s, Int.toNat_natCast, tn_1, tn_m, tn_n, Int.toNat_zero, Int.toNat_one]
  rw [e282_0, e282_2, e282_8, s0, s1, s2, rstN_e h1, rst1_e h1]
  by_cases q : c = 0
  · have s3 : ∀ I1, q_E (282, 10, [vr 265, vi c, vi 1, vi 3, vu, vu], []) (qk t u I1 J) = q_E (282, 10, [vr 265, vi c, vi 2, vi 4, vu, vu], []) (qk t u I1 J) := fun I1 => by
      rw [e282_10]; simp (disch := omega) only [↓reduceIte, lt_TI, lt_FI, le_TI, le_FI, eq_TI, eq_FI, lt_TN, lt_FN, le_TN, le_FN, eq_TN, eq_FN, and_self, and_true, true_and, and_false, false_and, or_true, true_or, or_false, false_or, not_true_eq_false, not_false_eq_true, wr_of, uI_at, uC_at, q_bi_s, q_bl_s, q_br_s, q_bv_s, Int.toNat_natCast, tn_1, tn_m, tn_n, Int.toNat_zero, Int.toNat_one, e282_27, m3, e282_41, e282_57, e282_65, e282_83, e282_90, e282_114, e282_117, e279_0, e280_0]; rfl
    rw [s3, s4, if_pos q]
    exact ⟨_, rfl, QF_uI (QF_uI QF_rf (by omega)) (by omega), if_pos ⟨rfl, rfl⟩⟩
  · have s3 : ∀ I1, q_E (282, 10, [vr 265, vi c, vi 1, vi 3, vu, vu], []) (qk t u I1 J) = q_E (282, 10, [vr 265, vi c, vi 1, vi 4, vu, vu], []) (qk t u I1 J) := fun I1 => by
      rw [e282_10]; simp (disch := omega) only [↓reduceIte, lt_TI, lt_FI, le_TI, le_FI, eq_TI, eq_FI, lt_TN, lt_FN, le_TN, le_FN, eq_TN, eq_FN, and_self, and_true, true_and, and_false, false_and, or_true, true_or, or_false, false_or, not_true_eq_false, not_false_eq_true, wr_of, uI_at, uC_at, q_bi_s, q_bl_s, q_br_s, q_bv_s, Int.toNat_natCast, tn_1, tn_m, tn_n, Int.toNat_zero, Int.toNat_one, e282_27, m3, e282_41, e282_57, e282_65, e282_83, e282_90, e282_114, e282_117, e279_0, e280_0]; rfl
    rw [s3, s4, if_neg q]
    exact ⟨_, rfl, QF_uI (QF_uI QF_rf (by omega)) (by omega), if_pos ⟨rfl, rfl⟩⟩
theorem m_comes (V : MInv S I) (c : Int) (a b o : Bool) : ∃ I', q_E (281, 0, [vr 265, vi c, vi (if a = true then 1 else 0), vi (if b = true then 1 else 0), vi (if o = true then 1 else 0), vu], []) (qk t u I J) = some (vi (sp_comes S c a b o).1, qk t u I' J) ∧ QM (sp_comes S c a b o).2 I I' := by
  have hs := V.1.2.1
  unfold sp_comes
  by_cases hc : 0 < tC (sTo S)
  · simp only [if_pos hc]
    rw [if_pos hc] at hs
    by_cases hn : 0 ≤ c ∧ c ≤ 9
    · simp only [if_pos hn]
      obtain ⟨hn1, hn2⟩ := hn
      have s1 : ∀ I1, q_E (279, 0, [vi c, vi (if a = true then 1 else 0), vi (if b = true then 1 else 0)], []) (qk t u I1 J) = some (vi (stHas c a b), qk t u I1 J) := fun I1 => m_stHas (by omega) (by omega) a b
      have s2 : ∀ I1, q_E (280, 0, [vi (if a = true then 1 else 0), vi (if b = true then 1 else 0)], []) (qk t u I1 J) = some (vi (moHas a b), qk t u I1 J) := fun I1 => m_moHas a b
      cases o with
      | true =>
        simp (disch := omega) only [↓reduceIte, lt_TI, lt_FI, le_TI, le_FI, eq_TI, eq_FI, lt_TN, lt_FN, le_TN, le_FN, eq_TN, eq_FN, and_self, and_true, true_and, and_false, false_and, or_true, true_or, or_false, false_or, not_true_eq_false, not_false_eq_true, wr_of, uI_at, uC_at, q_bi_s, q_bl_s, q_br_s, q_bv_s, Int.toNat_natCast, tn_1, tn_m, tn_n, Int.toNat_zero, Int.toNat_one, e177_0, e212_0, k21, n_ok, e281_0, e281_4, e281_16, e281_19, e281_45, e281_36, hs, s1, s2]
        exact ⟨_, rfl, QM_ok QF_rf⟩
      | false =>
        simp (disch := omega) only [↓reduceIte, lt_TI, lt_FI, le_TI, le_FI, eq_TI, eq_FI, lt_TN, lt_FN, le_TN, le_FN, eq_TN, eq_FN, and_self, and_true, true_and, and_false, false_and, or_true, true_or, or_false, false_or, not_true_eq_false, not_false_eq_true, wr_of, uI_at, uC_at, q_bi_s, q_bl_s, q_br_s, q_bv_s, Int.toNat_natCast, tn_1, tn_m, tn_n, Int.toNat_zero, Int.toNat_one, e177_0, e212_0, k21, n_ok, e281_0, e281_4, e281_16, e281_19, e281_45, e281_36, hs, s1, s2, Bool.false_eq_true]
        exact ⟨_, rfl, QM_ok QF_rf⟩
    · simp only [if_neg hn]
      simp (disch := omega) only [↓reduceIte, lt_TI, lt_FI, le_TI, le_FI, eq_TI, eq_FI, lt_TN, lt_FN, le_TN, le_FN, eq_TN, eq_FN, and_self, and_true, true_and, and_false, false_and, or_true, true_or, or_false, false_or, not_true_eq_false, not_false_eq_true, wr_of, uI_at, uC_at, q_bi_s, q_bl_s, q_br_s, q_bv_s, Int.toNat_natCast, tn_1, tn_m, tn_n, Int.toNat_zero, Int.toNat_one, e177_0, e178_0, e212_0, k21, n_ok, n_no, e281_0, e281_4, e281_16, e281_19, e281_45, e281_36, hs]
      exact ⟨_, rfl, QM_no QF_rf⟩
  · simp only [if_neg hc]
    rw [if_neg hc] at hs
    by_cases hn : 0 ≤ c ∧ c ≤ 9
    · obtain ⟨hn1, hn2⟩ := hn
      simp (disch := omega) only [↓reduceIte, lt_TI, lt_FI, le_TI, le_FI, eq_TI, eq_FI, lt_TN, lt_FN, le_TN, le_FN, eq_TN, eq_FN, and_self, and_true, true_and, and_false, false_and, or_true, true_or, or_false, false_or, not_true_eq_false, not_false_eq_true, wr_of, uI_at, uC_at, q_bi_s, q_bl_s, q_br_s, q_bv_s, Int.toNat_natCast, tn_1, tn_m, tn_n, Int.toNat_zero, Int.toNat_one, e177_0, e178_0, e212_0, k21, n_ok, n_no, e281_0, e281_4, e281_16, e281_19, e281_45, e281_36, hs]
      exact ⟨_, rfl, QM_no QF_rf⟩
    · simp (disch := omega) only [↓reduceIte, lt_TI, lt_FI, le_TI, le_FI, eq_TI, eq_FI, lt_TN, lt_FN, le_TN, le_FN, eq_TN, eq_FN, and_self, and_true, true_and, and_false, false_and, or_true, true_or, or_false, false_or, not_true_eq_false, not_false_eq_true, wr_of, uI_at, uC_at, q_bi_s, q_bl_s, q_br_s, q_bv_s, Int.toNat_natCast, tn_1, tn_m, tn_n, Int.toNat_zero, Int.toNat_one, e177_0, e178_0, e212_0, k21, n_ok, n_no, e281_0, e281_4, e281_16, e281_19, e281_45, e281_36, hs]
      exact ⟨_, rfl, QM_no QF_rf⟩
theorem m_rests (V : MInv S I) (c : Int) : ∃ I', q_E (283, 0, [vr 265, vi c, vu], []) (qk t u I J) = some (vi (sp_rests S c).1, qk t u I' J) ∧ QM (sp_rests S c).2 I I' := by
  have hs := V.1.2.1
  unfold sp_rests spW
  by_cases hc : 0 < tC (sTo S)
  · simp only [if_pos hc]
    rw [if_pos hc] at hs
    by_cases hn : 0 ≤ c ∧ c ≤ 9
    · simp only [if_pos hn]
      obtain ⟨hn1, hn2⟩ := hn
      obtain ⟨n, rfl⟩ : ∃ o : Nat, c = (o : Int) := ⟨c.toNat, by omega⟩
      simp only [Int.toNat_natCast]
      obtain ⟨I1, x1, F, x2⟩ := m_seekR (t := t) (u := u) (I := uI (uI I 265 0 0) 265 11 0) (J := J) hn1 hn2
      simp (disch := omega) only [↓reduceIte, lt_TI, lt_FI, le_TI, le_FI, eq_TI, eq_FI, lt_TN, lt_FN, le_TN, le_FN, eq_TN, eq_FN, and_self, and_true, true_and, and_false, false_and, or_true, true_or, or_false, false_or, not_true_eq_false, not_false_eq_true, wr_of, uI_at, uC_at, q_bi_s, q_bl_s, q_br_s, q_bv_s, Int.toNat_natCast, tn_1, tn_m, tn_n, Int.toNat_zero, Int.toNat_one, e177_0, e178_0, e212_0, k21, n_ok, n_no, e283_0, e283_4, e283_16, e283_19, e283_37, e283_29, hs, x1]
      exact ⟨_, rfl, QM_ok F⟩
    · simp only [if_neg hn]
      simp (disch := omega) only [↓reduceIte, lt_TI, lt_FI, le_TI, le_FI, eq_TI, eq_FI, lt_TN, lt_FN, le_TN, le_FN, eq_TN, eq_FN, and_self, and_true, true_and, and_false, false_and, or_true, true_or, or_false, false_or, not_true_eq_false, not_false_eq_true, wr_of, uI_at, uC_at, q_bi_s, q_bl_s, q_br_s, q_bv_s, Int.toNat_natCast, tn_1, tn_m, tn_n, Int.toNat_zero, Int.toNat_one, e177_0, e178_0, e212_0, k21, n_ok, n_no, e283_0, e283_4, e283_16, e283_19, e283_37, e283_29, hs]
      exact ⟨_, rfl, QM_no QF_rf⟩
  · simp only [if_neg hc]
    rw [if_neg hc] at hs
    by_cases hn : 0 ≤ c ∧ c ≤ 9
    · obtain ⟨hn1, hn2⟩ := hn
      simp (disch := omega) only [↓reduceIte, lt_TI, lt_FI, le_TI, le_FI, eq_TI, eq_FI, lt_TN, lt_FN, le_TN, le_FN, eq_TN, eq_FN, and_self, and_true, true_and, and_false, false_and, or_true, true_or, or_false, false_or, not_true_eq_false, not_false_eq_true, wr_of, uI_at, uC_at, q_bi_s, q_bl_s, q_br_s, q_bv_s, Int.toNat_natCast, tn_1, tn_m, tn_n, Int.toNat_zero, Int.toNat_one, e177_0, e178_0, e212_0, k21, n_ok, n_no, e283_0, e283_4, e283_16, e283_19, e283_37, e283_29, hs]
      exact ⟨_, rfl, QM_no QF_rf⟩
    · simp (disch := omega) only [↓reduceIte, lt_TI, lt_FI, le_TI, le_FI, eq_TI, eq_FI, lt_TN, lt_FN, le_TN, le_FN, eq_TN, eq_FN, and_self, and_true, true_and, and_false, false_and, or_true, true_or, or_false, false_or, not_true_eq_false, not_false_eq_true, wr_of, uI_at, uC_at, q_bi_s, q_bl_s, q_br_s, q_bv_s, Int.toNat_natCast, tn_1, tn_m, tn_n, Int.toNat_zero, Int.toNat_one, e177_0, e178_0, e212_0, k21, n_ok, n_no, e283_0, e283_4, e283_16, e283_19, e283_37, e283_29, hs]
      exact ⟨_, rfl, QM_no QF_rf⟩
theorem m_rest (V : MInv S I) (c : Int) : ∃ I', q_E (284, 0, [vr 265, vi c, vu], []) (qk t u I J) = some (vi (sp_rest S c).1, qk t u I' J) ∧ QM (sp_rest S c).2 I I' := by
  have hs := V.1.2.1
  unfold sp_rest spW
  by_cases hc : 0 < tC (sTo S)
  · simp only [if_pos hc]
    rw [if_pos hc] at hs
    by_cases hn : 0 ≤ c ∧ c ≤ 9
    · simp only [if_pos hn]
      obtain ⟨hn1, hn2⟩ := hn
      obtain ⟨n, rfl⟩ : ∃ o : Nat, c = (o : Int) := ⟨c.toNat, by omega⟩
      simp only [Int.toNat_natCast]
      obtain ⟨I1, x1, F, x2⟩ := m_seekR (t := t) (u := u) (I := uI (uI I 265 0 0) 265 11 0) (J := J) hn1 hn2
      simp (disch := omega) only [↓reduceIte, lt_TI, lt_FI, le_TI, le_FI, eq_TI, eq_FI, lt_TN, lt_FN, le_TN, le_FN, eq_TN, eq_FN, and_self, and_true, true_and, and_false, false_and, or_true, true_or, or_false, false_or, not_true_eq_false, not_false_eq_true, wr_of, uI_at, uC_at, q_bi_s, q_bl_s, q_br_s, q_bv_s, Int.toNat_natCast, tn_1, tn_m, tn_n, Int.toNat_zero, Int.toNat_one, e177_0, e178_0, e212_0, k21, n_ok, n_no, e284_0, e284_4, e284_16, e284_19, e284_35, e284_29, hs, x1, x2]
      exact ⟨_, rfl, QM_ok F⟩
    · simp only [if_neg hn]
      simp (disch := omega) only [↓reduceIte, lt_TI, lt_FI, le_TI, le_FI, eq_TI, eq_FI, lt_TN, lt_FN, le_TN, le_FN, eq_TN, eq_FN, and_self, and_true, true_and, and_false, false_and, or_true, true_or, or_false, false_or, not_true_eq_false, not_false_eq_true, wr_of, uI_at, uC_at, q_bi_s, q_bl_s, q_br_s, q_bv_s, Int.toNat_natCast, tn_1, tn_m, tn_n, Int.toNat_zero, Int.toNat_one, e177_0, e178_0, e212_0, k21, n_ok, n_no, e284_0, e284_4, e284_16, e284_19, e284_35, e284_29, hs]
      exact ⟨_, rfl, QM_no QF_rf⟩
  · simp only [if_neg hc]
    rw [if_neg hc] at hs
    by_cases hn : 0 ≤ c ∧ c ≤ 9
    · obtain ⟨hn1, hn2⟩ := hn
      simp (disch := omega) only [↓reduceIte, lt_TI, lt_FI, le_TI, le_FI, eq_TI, eq_FI, lt_TN, lt_FN, le_TN, le_FN, eq_TN, eq_FN, and_self, and_true, true_and, and_false, false_and, or_true, true_or, or_false, false_or, not_true_eq_false, not_false_eq_true, wr_of, uI_at, uC_at, q_bi_s, q_bl_s, q_br_s, q_bv_s, Int.toNat_natCast, tn_1, tn_m, tn_n, Int.toNat_zero, Int.toNat_one, e177_0, e178_0, e212_0, k21, n_ok, n_no, e284_0, e284_4, e284_16, e284_19, e284_35, e284_29, hs]
      exact ⟨_, rfl, QM_no QF_rf⟩
    · simp (disch := omega) only [↓reduceIte, lt_TI, lt_FI, le_TI, le_FI, eq_TI, eq_FI, lt_TN, lt_FN, le_TN, le_FN, eq_TN, eq_FN, and_self, and_true, true_and, and_false, false_and, or_true, true_or, or_false, false_or, not_true_eq_false, not_false_eq_true, wr_of, uI_at, uC_at, q_bi_s, q_bl_s, q_br_s, q_bv_s, Int.toNat_natCast, tn_1, tn_m, tn_n, Int.toNat_zero, Int.toNat_one, e177_0, e178_0, e212_0, k21, n_ok, n_no, e284_0, e284_4, e284_16, e284_19, e284_35, e284_29, hs]
      exact ⟨_, rfl, QM_no QF_rf⟩
theorem m_drawn (V : MInv S I) (c s n : Int) : ∃ I', q_E (288, 0, [vr 265, vi c, vi s, vi n, vu, vu, vu], []) (qk t u I J) = some (vi (sp_drawn S c s n).1, qk t u I' J) ∧ QM (sp_drawn S c s n).2 I I' := by
  have A := MInv_A V
  have h4 := tC_4 V.1.1
  unfold sp_drawn
  by_cases hc : isCl S c
  · simp only [if_pos hc]
    have r1 := m_cell_ok (t := t) (u := u) (J := J) A hc
    obtain ⟨hc1, hc2⟩ := id hc
    obtain ⟨c, rfl⟩ : ∃ m : Nat, c = (m : Int) := ⟨c.toNat, by omega⟩
    have hm : c < tC (sTo S) := by omega
    have T := SOk_T V.1.1 hm
    by_cases hs : 0 ≤ s ∧ s ≤ 65536
    · by_cases hn : 0 ≤ n ∧ n ≤ 200
      · simp only [if_pos (show 0 ≤ s ∧ s ≤ 65536 ∧ 0 ≤ n ∧ n ≤ 200 from ⟨hs.1, hs.2, hn⟩)]
        obtain ⟨hn1, hn2⟩ := hn
        obtain ⟨hs1, hs2⟩ := hs
        obtain ⟨n, rfl⟩ : ∃ o : Nat, n = (o : Int) := ⟨n.toNat, by omega⟩
        obtain ⟨s, rfl⟩ : ∃ o : Nat, s = (o : Int) := ⟨s.toNat, by omega⟩
        simp only [Int.toNat_natCast]
        obtain ⟨I1, a1, a2, a3⟩ := m_begin (t := t) (u := u) (J := J) A (show c < 4 by omega)
        have F1 := QF_fr QF_rf a3 (by omega) (by omega)
        have loop : ∀ (r i : Nat) (I1 : Nat → Nat → Int), i + r = n → QF (A0 I) I1 → mRw I1 275 0 (ahd S c (drw (tS (sTo S)) s i).2) → ∃ I', q_E (288, 65, [vr 265, vi (c : Int), vu, vi (n : Int), vu, vi ((drw (tS (sTo S)) s i).1 : Int), vi (i : Int)], []) (qk t u I1 J) = some (vi ((ahd S c (drw (tS (sTo S)) s n).2).1.length : Int), qk t u I' J) ∧ QF (A0 I) I' := by
          intro r
          induction r with
          | zero =>
            intro i I1 hi F H
            have ei : i = n := by omega
            subst ei
            have oa := ahd_ok V.1.1 hm (drw (tS (sTo S)) s i).2
            have k1 := c_manyOf (t := t) (u := u) (J := J) A275 (p := 0) (by omega) H.1 oa.2.1 (HOk_len oa)
            rw [Int.natCast_zero] at k1
            rw [e288_65]
            simp (disch := omega) only [↓reduceIte, lt_TI, lt_FI, le_TI, le_FI, eq_TI, eq_FI, lt_TN, lt_FN, le_TN, le_FN, eq_TN, eq_FN, and_self, and_true, true_and, and_false, false_and, or_true, true_or, or_false, false_or, not_true_eq_false, not_false_eq_true, wr_of, uI_at, uC_at, q_bi_s, q_bl_s, q_br_s, q_bv_s, Int.toNat_natCast, tn_1, tn_m, tn_n, Int.toNat_zero, Int.toNat_one, k1, e288_130]
            exact ⟨I1, rfl, F⟩
          | succ r ih =>
            intro i I1 hi F H
            have V1 := MQs_qf A F
            have l := MQs_law V1 hm
            have k8 := V1.2.2.1.2.1
            obtain ⟨d1, d2⟩ := drw_b (tS (sTo S)) s (by omega) i
            have e1 : Int.tmod (75 * ((drw (tS (sTo S)) s i).1 : Int) + 74) 65537 = (((75 * (drw (tS (sTo S)) s i).1 + 74) % 65537 : Nat) : Int) := (Int.ofNat_tmod (75 * (drw (tS (sTo S)) s i).1 + 74) 65537).symm
            have e2 : Int.tmod (((75 * (drw (tS (sTo S)) s i).1 + 74) % 65537 : Nat) : Int) 100 = (((75 * (drw (tS (sTo S)) s i).1 + 74) % 65537 % 100 : Nat) : Int) := (Int.ofNat_tmod ((75 * (drw (tS (sTo S)) s i).1 + 74) % 65537) 100).symm
            have ed : drw (tS (sTo S)) s (i + 1) = ((75 * (drw (tS (sTo S)) s i).1 + 74) % 65537, (drw (tS (sTo S)) s i).2 + if tS (sTo S) ≤ (75 * (drw (tS (sTo S)) s i).1 + 74) % 65537 % 100 then 1 else 0) := rfl
            have ihi := ih (i + 1)
            rw [ed] at ihi
            rw [e288_65]
            by_cases q : tS (sTo S) ≤ (75 * (drw (tS (sTo S)) s i).1 + 74) % 65537 % 100
            · obtain ⟨I2, b1, b2, b3⟩ := m_nt (t := t) (u := u) (J := J) V1 hm (Or.inl rfl) H (ahd_ok V.1.1 hm _)
              obtain ⟨I3, c1, c2⟩ := ihi I2 (by omega) (QF_fr F b3 (by omega) (by omega)) (by rw [if_pos q]; exact b2)
              refine ⟨I3, ?_, c2⟩
              rw [← c1]
              simp (disch := omega) only [↓reduceIte, lt_TI, lt_FI, le_TI, le_FI, eq_TI, eq_FI, lt_TN, lt_FN, le_TN, le_FN, eq_TN, eq_FN, and_self, and_true, true_and, and_false, false_and, or_true, true_or, or_false, false_or, not_true_eq_false, not_false_eq_true, wr_of, uI_at, uC_at, q_bi_s, q_bl_s, q_br_s, q_bv_s, Int.toNat_natCast, tn_1, tn_m, tn_n, Int.toNat_zero, Int.toNat_one, k8, e1, e2, tn_5, l, b1, e288_116]
              rfl
            · obtain ⟨I3, c1, c2⟩ := ihi I1 (by omega) F (by rw [if_neg q]; exact H)
              refine ⟨I3, ?_, c2⟩
              rw [← c1]
              simp (disch := omega) only [↓reduceIte, lt_TI, lt_FI, le_TI, le_FI, eq_TI, eq_FI, lt_TN, lt_FN, le_TN, le_FN, eq_TN, eq_FN, and_self, and_true, true_and, and_false, false_and, or_true, true_or, or_false, false_or, not_true_eq_false, not_false_eq_true, wr_of, uI_at, uC_at, q_bi_s, q_bl_s, q_br_s, q_bv_s, Int.toNat_natCast, tn_1, tn_m, tn_n, Int.toNat_zero, Int.toNat_one, k8, e1, e2, e288_116]
              rfl
        obtain ⟨I2, b1, b2⟩ := loop n 0 I1 (by omega) F1 a2
        rw [Int.natCast_zero] at b1
        have e0 : (drw (tS (sTo S)) s 0).1 = s := rfl
        rw [e0] at b1
        simp (disch := omega) only [↓reduceIte, lt_TI, lt_FI, le_TI, le_FI, eq_TI, eq_FI, lt_TN, lt_FN, le_TN, le_FN, eq_TN, eq_FN, and_self, and_true, true_and, and_false, false_and, or_true, true_or, or_false, false_or, not_true_eq_false, not_false_eq_true, wr_of, uI_at, uC_at, q_bi_s, q_bl_s, q_br_s, q_bv_s, Int.toNat_natCast, tn_1, tn_m, tn_n, Int.toNat_zero, Int.toNat_one, r1, e177_0, e212_0, k21, n_ok, e288_0, e288_4, e288_10, e288_18, e288_40, e288_29, e288_59, e288_53, a1, b1]
        exact ⟨I2, rfl, QM_ok b2⟩
      · simp only [if_neg (show ¬ (0 ≤ s ∧ s ≤ 65536 ∧ 0 ≤ n ∧ n ≤ 200) from fun z => hn z.2.2)]
        obtain ⟨hs1, hs2⟩ := hs
        simp (disch := omega) only [↓reduceIte, lt_TI, lt_FI, le_TI, le_FI, eq_TI, eq_FI, lt_TN, lt_FN, le_TN, le_FN, eq_TN, eq_FN, and_self, and_true, true_and, and_false, false_and, or_true, true_or, or_false, false_or, not_true_eq_false, not_false_eq_true, wr_of, uI_at, uC_at, q_bi_s, q_bl_s, q_br_s, q_bv_s, Int.toNat_natCast, tn_1, tn_m, tn_n, Int.toNat_zero, Int.toNat_one, r1, e177_0, e178_0, e212_0, k21, n_ok, n_no, e288_0, e288_4, e288_10, e288_18, e288_40, e288_29, e288_59, e288_53]
        exact ⟨_, rfl, QM_no QF_rf⟩
    · simp only [if_neg (show ¬ (0 ≤ s ∧ s ≤ 65536 ∧ 0 ≤ n ∧ n ≤ 200) from fun z => hs ⟨z.1, z.2.1⟩)]
      simp (disch := omega) only [↓reduceIte, lt_TI, lt_FI, le_TI, le_FI, eq_TI, eq_FI, lt_TN, lt_FN, le_TN, le_FN, eq_TN, eq_FN, and_self, and_true, true_and, and_false, false_and, or_true, true_or, or_false, false_or, not_true_eq_false, not_false_eq_true, wr_of, uI_at, uC_at, q_bi_s, q_bl_s, q_br_s, q_bv_s, Int.toNat_natCast, tn_1, tn_m, tn_n, Int.toNat_zero, Int.toNat_one, r1, e177_0, e178_0, e212_0, k21, n_ok, n_no, e288_0, e288_4, e288_10, e288_18, e288_40, e288_29, e288_59, e288_53]
      exact ⟨_, rfl, QM_no QF_rf⟩
  · simp only [if_neg hc]
    have r1 := m_cell_no (t := t) (u := u) (J := J) A hc
    by_cases hs : 0 ≤ s ∧ s ≤ 65536
    · obtain ⟨hs1, hs2⟩ := hs
      by_cases hn : 0 ≤ n ∧ n ≤ 200
      · obtain ⟨hn1, hn2⟩ := hn
        simp (disch := omega) only [↓reduceIte, lt_TI, lt_FI, le_TI, le_FI, eq_TI, eq_FI, lt_TN, lt_FN, le_TN, le_FN, eq_TN, eq_FN, and_self, and_true, true_and, and_false, false_and, or_true, true_or, or_false, false_or, not_true_eq_false, not_false_eq_true, wr_of, uI_at, uC_at, q_bi_s, q_bl_s, q_br_s, q_bv_s, Int.toNat_natCast, tn_1, tn_m, tn_n, Int.toNat_zero, Int.toNat_one, r1, e177_0, e178_0, e212_0, k21, n_ok, n_no, e288_0, e288_4, e288_10, e288_18, e288_40, e288_29, e288_59, e288_53]
        exact ⟨_, rfl, QM_no QF_rf⟩
      · simp (disch := omega) only [↓reduceIte, lt_TI, lt_FI, le_TI, le_FI, eq_TI, eq_FI, lt_TN, lt_FN, le_TN, le_FN, eq_TN, eq_FN, and_self, and_true, true_and, and_false, false_and, or_true, true_or, or_false, false_or, not_true_eq_false, not_false_eq_true, wr_of, uI_at, uC_at, q_bi_s, q_bl_s, q_br_s, q_bv_s, Int.toNat_natCast, tn_1, tn_m, tn_n, Int.toNat_zero, Int.toNat_one, r1, e177_0, e178_0, e212_0, k21, n_ok, n_no, e288_0, e288_4, e288_10, e288_18, e288_40, e288_29, e288_59, e288_53]
        exact ⟨_, rfl, QM_no QF_rf⟩
    · simp (disch := omega) only [↓reduceIte, lt_TI, lt_FI, le_TI, le_FI, eq_TI, eq_FI, lt_TN, lt_FN, le_TN, le_FN, eq_TN, eq_FN, and_self, and_true, true_and, and_false, false_and, or_true, true_or, or_false, false_or, not_true_eq_false, not_false_eq_true, wr_of, uI_at, uC_at, q_bi_s, q_bl_s, q_br_s, q_bv_s, Int.toNat_natCast, tn_1, tn_m, tn_n, Int.toNat_zero, Int.toNat_one, r1, e177_0, e178_0, e212_0, k21, n_ok, n_no, e288_0, e288_4, e288_10, e288_18, e288_40, e288_29, e288_59, e288_53]
      exact ⟨_, rfl, QM_no QF_rf⟩
end

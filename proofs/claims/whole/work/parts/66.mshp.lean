/-! the model's shapes -/
section
variable {t u : Nat} {I J : Nat → Nat → Int} {S : St}
theorem rg_sum_leb (f : Nat → Nat) (b : Nat) (h : ∀ i, f i ≤ b) : ∀ n, (rg n f).sum ≤ n * b
  | 0 => Nat.zero_le _
  | n + 1 => by
    rw [rg_sum_s, Nat.succ_mul]
    have := rg_sum_leb f b h n
    have := h n
    omega
theorem tn_61p (n m : Nat) : (61 * (n : Int) + (m : Int) - 1).toNat = 61 * n + m - 1 := by omega
theorem tn_61s (n m : Nat) : (61 * (n : Int) + (m : Int) + 1).toNat = 61 * n + (m + 1) := by omega
theorem m_col {c : Nat} (hc : c < 4) {L : List Nat} (H : LA I 272 (61 * c) L) (S : SD L) (hl : L.length ≤ 60) (j : Nat) : q_E (237, 0, [vr 265, vi (c : Int), vi (j : Int), vu, vu], []) (qk t u I J) = some (vi (cnt L j : Int), qk t u I J) := by
  have b := cnt_le L j
  have loop : ∀ r i : Nat, i + r = 60 → q_E (237, 5, [vr 265, vi (c : Int), vi (j : Int), vi ((min i (cnt L j) : Nat) : Int), vi (i : Int)], []) (qk t u I J) = some (vi (cnt L j : Int), qk t u I J) := by
    intro r
    induction r with
    | zero =>
      intro i hi
      rw [e237_5]
      simp (disch := omega) only [↓reduceIte, lt_TI, lt_FI, le_TI, le_FI, eq_TI, eq_FI, lt_TN, lt_FN, le_TN, le_FN, eq_TN, eq_FN, and_self, and_true, true_and, and_false, false_and, or_true, true_or, or_false, false_or, not_true_eq_false, not_false_eq_true, wr_of, uI_at, uC_at, q_bi_s, q_bl_s, q_br_s, q_bv_s, Int.toNat_natCast, tn_1, tn_m, tn_n, Int.toNat_zero, Int.toNat_one]
      rw [show min i (cnt L j) = cnt L j by omega]
    | succ r ih =>
      intro i hi
      have v := H i (by omega)
      have g := cnt_gt S i j
      have e := ih (i + 1) (by omega)
      rw [e237_5]
      by_cases q : j < L.getD i 0
      · have := g.mpr q
        rw [show min (i + 1) (cnt L j) = min i (cnt L j) + 1 by omega] at e
        simp (disch := omega) only [↓reduceIte, lt_TI, lt_FI, le_TI, le_FI, eq_TI, eq_FI, lt_TN, lt_FN, le_TN, le_FN, eq_TN, eq_FN, and_self, and_true, true_and, and_false, false_and, or_true, true_or, or_false, false_or, not_true_eq_false, not_false_eq_true, wr_of, uI_at, uC_at, q_bi_s, q_bl_s, q_br_s, q_bv_s, Int.toNat_natCast, tn_1, tn_m, tn_n, Int.toNat_zero, Int.toNat_one, tn_61a, v]
        exact e
      · have : ¬ i < cnt L j := fun z => q (g.mp z)
        rw [show min (i + 1) (cnt L j) = min i (cnt L j) by omega] at e
        simp (disch := omega) only [↓reduceIte, lt_TI, lt_FI, le_TI, le_FI, eq_TI, eq_FI, lt_TN, lt_FN, le_TN, le_FN, eq_TN, eq_FN, and_self, and_true, true_and, and_false, false_and, or_true, true_or, or_false, false_or, not_true_eq_false, not_false_eq_true, wr_of, uI_at, uC_at, q_bi_s, q_bl_s, q_br_s, q_bv_s, Int.toNat_natCast, tn_1, tn_m, tn_n, Int.toNat_zero, Int.toNat_one, tn_61a, v, Int.add_zero]
        exact e
  rw [e237_0]
  have e := loop 60 0 (by omega)
  rw [Nat.zero_min] at e
  exact e
theorem m_column (V : MInv S I) (c n : Int) : ∃ I', q_E (238, 0, [vr 265, vi c, vi n, vu], []) (qk t u I J) = some (vi (sp_column S c n).1, qk t u I' J) ∧ QM (sp_column S c n).2 I I' := by
  have A := MInv_A V
  have h4 := tC_4 V.1.1
  unfold sp_column spN
  by_cases hc : isCl S c
  · simp only [if_pos hc]
    obtain ⟨m, rfl⟩ : ∃ m : Nat, c = (m : Int) := ⟨c.toNat, by omega⟩
    have r1 := m_cell_ok (t := t) (u := u) (J := J) A hc
    have hm : m < tC (sTo S) := by omega
    obtain ⟨H, ok⟩ := MQs_row A (show m < 4 by omega)
    obtain ⟨G, -⟩ := MQs_row V.1 (show m < 4 by omega)
    obtain ⟨o1, o2, o3⟩ := id ok
    have hl := HOk_len ok
    simp only [Int.toNat_natCast]
    by_cases hn : 0 ≤ n ∧ n ≤ 59
    · simp only [if_pos hn]
      obtain ⟨hn1, hn2⟩ := hn
      obtain ⟨j, rfl⟩ : ∃ j : Nat, n = (j : Int) := ⟨n.toNat, by omega⟩
      simp only [Int.toNat_natCast]
      have b1 := m_col (t := t) (u := u) (J := J) (show m < 4 by omega) H.1 o1 hl j
      simp (disch := omega) only [↓reduceIte, lt_TI, lt_FI, le_TI, le_FI, eq_TI, eq_FI, lt_TN, lt_FN, le_TN, le_FN, eq_TN, eq_FN, and_self, and_true, true_and, and_false, false_and, or_true, true_or, or_false, false_or, not_true_eq_false, not_false_eq_true, wr_of, uI_at, uC_at, q_bi_s, q_bl_s, q_br_s, q_bv_s, Int.toNat_natCast, tn_1, tn_m, tn_n, Int.toNat_zero, Int.toNat_one, r1, e177_0, e178_0, e212_0, e227_0, e227_6, e227_14, e227_17, k21, n_ok, n_no, e238_0, e238_4, e238_10, e238_17, e238_20, e238_39, e238_30, b1]
      exact ⟨_, rfl, QM_ok QF_rf⟩
    · simp only [if_neg hn]
      simp (disch := omega) only [↓reduceIte, lt_TI, lt_FI, le_TI, le_FI, eq_TI, eq_FI, lt_TN, lt_FN, le_TN, le_FN, eq_TN, eq_FN, and_self, and_true, true_and, and_false, false_and, or_true, true_or, or_false, false_or, not_true_eq_false, not_false_eq_true, wr_of, uI_at, uC_at, q_bi_s, q_bl_s, q_br_s, q_bv_s, Int.toNat_natCast, tn_1, tn_m, tn_n, Int.toNat_zero, Int.toNat_one, r1, e177_0, e178_0, e212_0, e227_0, e227_6, e227_14, e227_17, k21, n_ok, n_no, e238_0, e238_4, e238_10, e238_17, e238_20, e238_39, e238_30]
      exact ⟨_, rfl, QM_no QF_rf⟩
  · simp only [if_neg hc]
    have r1 := m_cell_no (t := t) (u := u) (J := J) A hc
    by_cases hn : 0 ≤ n ∧ n ≤ 59
    · simp (disch := omega) only [↓reduceIte, lt_TI, lt_FI, le_TI, le_FI, eq_TI, eq_FI, lt_TN, lt_FN, le_TN, le_FN, eq_TN, eq_FN, and_self, and_true, true_and, and_false, false_and, or_true, true_or, or_false, false_or, not_true_eq_false, not_false_eq_true, wr_of, uI_at, uC_at, q_bi_s, q_bl_s, q_br_s, q_bv_s, Int.toNat_natCast, tn_1, tn_m, tn_n, Int.toNat_zero, Int.toNat_one, r1, e177_0, e178_0, e212_0, e227_0, e227_6, e227_14, e227_17, k21, n_ok, n_no, e238_0, e238_4, e238_10, e238_17, e238_20, e238_39, e238_30]
      exact ⟨_, rfl, QM_no QF_rf⟩
    · simp (disch := omega) only [↓reduceIte, lt_TI, lt_FI, le_TI, le_FI, eq_TI, eq_FI, lt_TN, lt_FN, le_TN, le_FN, eq_TN, eq_FN, and_self, and_true, true_and, and_false, false_and, or_true, true_or, or_false, false_or, not_true_eq_false, not_false_eq_true, wr_of, uI_at, uC_at, q_bi_s, q_bl_s, q_br_s, q_bv_s, Int.toNat_natCast, tn_1, tn_m, tn_n, Int.toNat_zero, Int.toNat_one, r1, e177_0, e178_0, e212_0, e227_0, e227_6, e227_14, e227_17, k21, n_ok, n_no, e238_0, e238_4, e238_10, e238_17, e238_20, e238_39, e238_30]
      exact ⟨_, rfl, QM_no QF_rf⟩
theorem m_square (V : MInv S I) (c : Int) : ∃ I', q_E (239, 0, [vr 265, vi c, vu], []) (qk t u I J) = some (vi (sp_square S c).1, qk t u I' J) ∧ QM (sp_square S c).2 I I' := by
  have A := MInv_A V
  have h4 := tC_4 V.1.1
  unfold sp_square spC
  by_cases hc : isCl S c
  · simp only [if_pos hc]
    obtain ⟨m, rfl⟩ : ∃ m : Nat, c = (m : Int) := ⟨c.toNat, by omega⟩
    have r1 := m_cell_ok (t := t) (u := u) (J := J) A hc
    have hm : m < tC (sTo S) := by omega
    obtain ⟨H, ok⟩ := MQs_row A (show m < 4 by omega)
    obtain ⟨G, -⟩ := MQs_row V.1 (show m < 4 by omega)
    obtain ⟨o1, o2, o3⟩ := id ok
    have hl := HOk_len ok
    simp only [Int.toNat_natCast]
    have loop : ∀ r i : Nat, i + r = 60 → (∀ k, k < i → k < ((sNw S).1 m).1.getD k 0) → q_E (239, 20, [vr 265, vi (m : Int), vi (i : Int)], []) (qk t u (uI (uI I 265 0 0) 265 11 0) J) = some (vi (sqr ((sNw S).1 m).1 : Int), qk t u (uI (uI I 265 0 0) 265 11 0) J) := by
      intro r
      induction r with
      | zero =>
        intro i hi h
        have e : sqr ((sNw S).1 m).1 = 60 := fsti_eq (Nat.le_refl _) (fun k hk => decide_eq_false (by have := h k (by omega); omega)) (fun z => by omega)
        rw [e, e239_20]
        simp (disch := omega) only [↓reduceIte, lt_TI, lt_FI, le_TI, le_FI, eq_TI, eq_FI, lt_TN, lt_FN, le_TN, le_FN, eq_TN, eq_FN, and_self, and_true, true_and, and_false, false_and, or_true, true_or, or_false, false_or, not_true_eq_false, not_false_eq_true, wr_of, uI_at, uC_at, q_bi_s, q_bl_s, q_br_s, q_bv_s, Int.toNat_natCast, tn_1, tn_m, tn_n, Int.toNat_zero, Int.toNat_one]
        rw [show i = 60 by omega]
      | succ r ih =>
        intro i hi h
        have v := G.1 i (by omega)
        have gb := gD_sum (l := ((sNw S).1 m).1) i
        by_cases q : i < ((sNw S).1 m).1.getD i 0
        · rw [e239_20]
          simp (disch := omega) only [↓reduceIte, lt_TI, lt_FI, le_TI, le_FI, eq_TI, eq_FI, lt_TN, lt_FN, le_TN, le_FN, eq_TN, eq_FN, and_self, and_true, true_and, and_false, false_and, or_true, true_or, or_false, false_or, not_true_eq_false, not_false_eq_true, wr_of, uI_at, uC_at, q_bi_s, q_bl_s, q_br_s, q_bv_s, Int.toNat_natCast, tn_1, tn_m, tn_n, Int.toNat_zero, Int.toNat_one, tn_61a, v]
          exact ih (i + 1) (by omega) (fun k hk => by
            by_cases z : k = i
            · rw [z]; exact q
            · exact h k (by omega))
        · have e : sqr ((sNw S).1 m).1 = i := fsti_eq (by omega) (fun k hk => decide_eq_false (by have := h k hk; omega)) (fun _ => decide_eq_true (by omega))
          rw [e, e239_20]
          simp (disch := omega) only [↓reduceIte, lt_TI, lt_FI, le_TI, le_FI, eq_TI, eq_FI, lt_TN, lt_FN, le_TN, le_FN, eq_TN, eq_FN, and_self, and_true, true_and, and_false, false_and, or_true, true_or, or_false, false_or, not_true_eq_false, not_false_eq_true, wr_of, uI_at, uC_at, q_bi_s, q_bl_s, q_br_s, q_bv_s, Int.toNat_natCast, tn_1, tn_m, tn_n, Int.toNat_zero, Int.toNat_one, tn_61a, v]
    have b1 := loop 60 0 (by omega) (fun k hk => by omega)
    rw [Int.natCast_zero] at b1
    simp (disch := omega) only [↓reduceIte, lt_TI, lt_FI, le_TI, le_FI, eq_TI, eq_FI, lt_TN, lt_FN, le_TN, le_FN, eq_TN, eq_FN, and_self, and_true, true_and, and_false, false_and, or_true, true_or, or_false, false_or, not_true_eq_false, not_false_eq_true, wr_of, uI_at, uC_at, q_bi_s, q_bl_s, q_br_s, q_bv_s, Int.toNat_natCast, tn_1, tn_m, tn_n, Int.toNat_zero, Int.toNat_one, r1, e177_0, e178_0, e239_0, e239_4, e239_9, e239_17, b1]
    exact ⟨_, rfl, QM_ok QF_rf⟩
  · simp only [if_neg hc]
    have r1 := m_cell_no (t := t) (u := u) (J := J) A hc
    simp (disch := omega) only [↓reduceIte, lt_TI, lt_FI, le_TI, le_FI, eq_TI, eq_FI, lt_TN, lt_FN, le_TN, le_FN, eq_TN, eq_FN, and_self, and_true, true_and, and_false, false_and, or_true, true_or, or_false, false_or, not_true_eq_false, not_false_eq_true, wr_of, uI_at, uC_at, q_bi_s, q_bl_s, q_br_s, q_bv_s, Int.toNat_natCast, tn_1, tn_m, tn_n, Int.toNat_zero, Int.toNat_one, r1, e177_0, e178_0, e239_0, e239_4, e239_9, e239_17]
    exact ⟨_, rfl, QM_no QF_rf⟩
theorem m_corners (V : MInv S I) (c : Int) : ∃ I', q_E (240, 0, [vr 265, vi c, vu, vu], []) (qk t u I J) = some (vi (sp_corners S c).1, qk t u I' J) ∧ QM (sp_corners S c).2 I I' := by
  have A := MInv_A V
  have h4 := tC_4 V.1.1
  unfold sp_corners spC
  by_cases hc : isCl S c
  · simp only [if_pos hc]
    obtain ⟨m, rfl⟩ : ∃ m : Nat, c = (m : Int) := ⟨c.toNat, by omega⟩
    have r1 := m_cell_ok (t := t) (u := u) (J := J) A hc
    have hm : m < tC (sTo S) := by omega
    obtain ⟨H, ok⟩ := MQs_row A (show m < 4 by omega)
    obtain ⟨G, -⟩ := MQs_row V.1 (show m < 4 by omega)
    obtain ⟨o1, o2, o3⟩ := id ok
    have hl := HOk_len ok
    simp only [Int.toNat_natCast]
    have loop : ∀ r i : Nat, i + r = 60 → q_E (240, 22, [vr 265, vi (m : Int), vi ((List.range (min i ((sNw S).1 m).1.length)).countP (isF ((sNw S).1 m).1) : Int), vi (i : Int)], []) (qk t u (uI (uI I 265 0 0) 265 11 0) J) = some (vi (crF ((sNw S).1 m).1 : Int), qk t u (uI (uI I 265 0 0) 265 11 0) J) := by
      intro r
      induction r with
      | zero =>
        intro i hi
        rw [e240_22]
        simp (disch := omega) only [↓reduceIte, lt_TI, lt_FI, le_TI, le_FI, eq_TI, eq_FI, lt_TN, lt_FN, le_TN, le_FN, eq_TN, eq_FN, and_self, and_true, true_and, and_false, false_and, or_true, true_or, or_false, false_or, not_true_eq_false, not_false_eq_true, wr_of, uI_at, uC_at, q_bi_s, q_bl_s, q_br_s, q_bv_s, Int.toNat_natCast, tn_1, tn_m, tn_n, Int.toNat_zero, Int.toNat_one]
        rw [show min i ((sNw S).1 m).1.length = ((sNw S).1 m).1.length by omega]
        rfl
      | succ r ih =>
        intro i hi
        have v := G.1 i (by omega)
        have gb := gD_sum (l := ((sNw S).1 m).1) i
        have cb := cr_le (isF ((sNw S).1 m).1) (min i ((sNw S).1 m).1.length)
        have e := ih (i + 1) (by omega)
        rw [e240_22]
        by_cases q : i < ((sNw S).1 m).1.length
        · have p := PS_gD o2 q
          rw [show min (i + 1) ((sNw S).1 m).1.length = i + 1 by omega, cr_s] at e
          rw [show min i ((sNw S).1 m).1.length = i by omega] at cb ⊢
          by_cases z : i = 0
          · subst z
            have f : isF ((sNw S).1 m).1 0 = true := decide_eq_true (Or.inl rfl)
            rw [f] at e
            rw [Int.natCast_zero]
            rw [Nat.add_zero] at v
            simp (disch := omega) only [↓reduceIte, lt_TI, lt_FI, le_TI, le_FI, eq_TI, eq_FI, lt_TN, lt_FN, le_TN, le_FN, eq_TN, eq_FN, and_self, and_true, true_and, and_false, false_and, or_true, true_or, or_false, false_or, not_true_eq_false, not_false_eq_true, wr_of, uI_at, uC_at, q_bi_s, q_bl_s, q_br_s, q_bv_s, Int.toNat_natCast, tn_1, tn_m, tn_n, Int.toNat_zero, Int.toNat_one, tn_61, v, Int.add_zero]
            exact e
          · have v2 := G.1 (i - 1) (by omega)
            rw [show 61 * m + (i - 1) = 61 * m + i - 1 by omega] at v2
            have gb2 := gD_sum (l := ((sNw S).1 m).1) (i - 1)
            by_cases y : ((sNw S).1 m).1.getD i 0 = ((sNw S).1 m).1.getD (i - 1) 0
            · have f : isF ((sNw S).1 m).1 i = false := decide_eq_false (fun w => w.elim z (fun w => w y))
              rw [f] at e
              simp (disch := omega) only [↓reduceIte, lt_TI, lt_FI, le_TI, le_FI, eq_TI, eq_FI, lt_TN, lt_FN, le_TN, le_FN, eq_TN, eq_FN, and_self, and_true, true_and, and_false, false_and, or_true, true_or, or_false, false_or, not_true_eq_false, not_false_eq_true, wr_of, uI_at, uC_at, q_bi_s, q_bl_s, q_br_s, q_bv_s, Int.toNat_natCast, tn_1, tn_m, tn_n, Int.toNat_zero, Int.toNat_one, tn_61a, tn_61p, v, v2, Int.add_zero]
              exact e
            · have f : isF ((sNw S).1 m).1 i = true := decide_eq_true (Or.inr y)
              rw [f] at e
              simp (disch := omega) only [↓reduceIte, lt_TI, lt_FI, le_TI, le_FI, eq_TI, eq_FI, lt_TN, lt_FN, le_TN, le_FN, eq_TN, eq_FN, and_self, and_true, true_and, and_false, false_and, or_true, true_or, or_false, false_or, not_true_eq_false, not_false_eq_true, wr_of, uI_at, uC_at, q_bi_s, q_bl_s, q_br_s, q_bv_s, Int.toNat_natCast, tn_1, tn_m, tn_n, Int.toNat_zero, Int.toNat_one, tn_61a, tn_61p, v, v2, Int.add_zero]
              exact e
        · rw [gD_ge (by omega)] at v
          rw [show min (i + 1) ((sNw S).1 m).1.length = min i ((sNw S).1 m).1.length by omega] at e
          simp (disch := omega) only [↓reduceIte, lt_TI, lt_FI, le_TI, le_FI, eq_TI, eq_FI, lt_TN, lt_FN, le_TN, le_FN, eq_TN, eq_FN, and_self, and_true, true_and, and_false, false_and, or_true, true_or, or_false, false_or, not_true_eq_false, not_false_eq_true, wr_of, uI_at, uC_at, q_bi_s, q_bl_s, q_br_s, q_bv_s, Int.toNat_natCast, tn_1, tn_m, tn_n, Int.toNat_zero, Int.toNat_one, tn_61a, v, Int.add_zero, Int.natCast_zero]
          exact e
    have b1 := loop 60 0 (by omega)
    rw [Nat.zero_min, Int.natCast_zero] at b1
    rw [show (List.range 0).countP (isF ((sNw S).1 m).1) = 0 from rfl, Int.natCast_zero] at b1
    simp (disch := omega) only [↓reduceIte, lt_TI, lt_FI, le_TI, le_FI, eq_TI, eq_FI, lt_TN, lt_FN, le_TN, le_FN, eq_TN, eq_FN, and_self, and_true, true_and, and_false, false_and, or_true, true_or, or_false, false_or, not_true_eq_false, not_false_eq_true, wr_of, uI_at, uC_at, q_bi_s, q_bl_s, q_br_s, q_bv_s, Int.toNat_natCast, tn_1, tn_m, tn_n, Int.toNat_zero, Int.toNat_one, r1, e177_0, e178_0, e240_0, e240_4, e240_9, e240_17, b1]
    exact ⟨_, rfl, QM_ok QF_rf⟩
  · simp only [if_neg hc]
    have r1 := m_cell_no (t := t) (u := u) (J := J) A hc
    simp (disch := omega) only [↓reduceIte, lt_TI, lt_FI, le_TI, le_FI, eq_TI, eq_FI, lt_TN, lt_FN, le_TN, le_FN, eq_TN, eq_FN, and_self, and_true, true_and, and_false, false_and, or_true, true_or, or_false, false_or, not_true_eq_false, not_false_eq_true, wr_of, uI_at, uC_at, q_bi_s, q_bl_s, q_br_s, q_bv_s, Int.toNat_natCast, tn_1, tn_m, tn_n, Int.toNat_zero, Int.toNat_one, r1, e177_0, e178_0, e240_0, e240_4, e240_9, e240_17]
    exact ⟨_, rfl, QM_no QF_rf⟩
theorem m_rank (V : MInv S I) (c : Int) : ∃ I', q_E (241, 0, [vr 265, vi c], []) (qk t u I J) = some (vi (sp_rank S c).1, qk t u I' J) ∧ QM (sp_rank S c).2 I I' := by
  have A := MInv_A V
  have h4 := tC_4 V.1.1
  unfold sp_rank
  by_cases hc : isCl S c
  · simp only [if_pos hc]
    obtain ⟨m, rfl⟩ : ∃ m : Nat, c = (m : Int) := ⟨c.toNat, by omega⟩
    have r1 := m_cell_ok (t := t) (u := u) (J := J) A hc
    have hm : m < tC (sTo S) := by omega
    obtain ⟨H, ok⟩ := MQs_row A (show m < 4 by omega)
    obtain ⟨G, -⟩ := MQs_row V.1 (show m < 4 by omega)
    obtain ⟨o1, o2, o3⟩ := id ok
    have hl := HOk_len ok
    simp only [Int.toNat_natCast]
    have k1 := c_manyOf (t := t) (u := u) (J := J) A272 (p := 61 * m) (by omega) H.1 o2 hl
    rw [c_61] at k1
    have v := G.1 0 (by omega)
    rw [Nat.add_zero] at v
    have gb := gD_sum (l := ((sNw S).1 m).1) 0
    simp (disch := omega) only [↓reduceIte, lt_TI, lt_FI, le_TI, le_FI, eq_TI, eq_FI, lt_TN, lt_FN, le_TN, le_FN, eq_TN, eq_FN, and_self, and_true, true_and, and_false, false_and, or_true, true_or, or_false, false_or, not_true_eq_false, not_false_eq_true, wr_of, uI_at, uC_at, q_bi_s, q_bl_s, q_br_s, q_bv_s, Int.toNat_natCast, tn_1, tn_m, tn_n, Int.toNat_zero, Int.toNat_one, r1, e177_0, e178_0, e241_0, e241_4, e241_9, e241_32, k1, tn_61, v]
    exact ⟨_, rfl, QM_ok QF_rf⟩
  · simp only [if_neg hc]
    have r1 := m_cell_no (t := t) (u := u) (J := J) A hc
    simp (disch := omega) only [↓reduceIte, lt_TI, lt_FI, le_TI, le_FI, eq_TI, eq_FI, lt_TN, lt_FN, le_TN, le_FN, eq_TN, eq_FN, and_self, and_true, true_and, and_false, false_and, or_true, true_or, or_false, false_or, not_true_eq_false, not_false_eq_true, wr_of, uI_at, uC_at, q_bi_s, q_bl_s, q_br_s, q_bv_s, Int.toNat_natCast, tn_1, tn_m, tn_n, Int.toNat_zero, Int.toNat_one, r1, e177_0, e178_0, e241_0, e241_4, e241_9, e241_32]
    exact ⟨_, rfl, QM_no QF_rf⟩
theorem m_hookOf {c : Nat} (hc : c < 4) {L : List Nat} (H : LA I 272 (61 * c) L) (S : SD L) (hs : L.sum ≤ 60) (hl : L.length ≤ 60) {i j : Nat} (hi : i < 60) (hj : j ≤ 60) : q_E (242, 0, [vr 265, vi (c : Int), vi (i : Int), vi (j : Int)], []) (qk t u I J) = some (vi (hkI L i j), qk t u I J) := by
  have v := H i hi
  have gb := gD_sum (l := L) i
  have cb := cnt_le L j
  have b1 := m_col (t := t) (u := u) (J := J) hc H S hl j
  simp (disch := omega) only [↓reduceIte, lt_TI, lt_FI, le_TI, le_FI, eq_TI, eq_FI, lt_TN, lt_FN, le_TN, le_FN, eq_TN, eq_FN, and_self, and_true, true_and, and_false, false_and, or_true, true_or, or_false, false_or, not_true_eq_false, not_false_eq_true, wr_of, uI_at, uC_at, q_bi_s, q_bl_s, q_br_s, q_bv_s, Int.toNat_natCast, tn_1, tn_m, tn_n, Int.toNat_zero, Int.toNat_one, e242_0, tn_61a, v, b1, e242_19]
  rfl
theorem m_hook (V : MInv S I) (c i j : Int) : ∃ I', q_E (243, 0, [vr 265, vi c, vi i, vi j, vu], []) (qk t u I J) = some (vi (sp_hook S c i j).1, qk t u I' J) ∧ QM (sp_hook S c i j).2 I I' := by
  have A := MInv_A V
  have h4 := tC_4 V.1.1
  unfold sp_hook
  by_cases hc : isCl S c
  · obtain ⟨m, rfl⟩ : ∃ m : Nat, c = (m : Int) := ⟨c.toNat, by omega⟩
    have r1 := m_cell_ok (t := t) (u := u) (J := J) A hc
    have hm : m < tC (sTo S) := by omega
    obtain ⟨H, ok⟩ := MQs_row A (show m < 4 by omega)
    obtain ⟨G, -⟩ := MQs_row V.1 (show m < 4 by omega)
    obtain ⟨o1, o2, o3⟩ := id ok
    have hl := HOk_len ok
    simp only [Int.toNat_natCast]
    by_cases hi : 0 ≤ i ∧ i ≤ 59
    · obtain ⟨hi1, hi2⟩ := hi
      obtain ⟨i, rfl⟩ : ∃ o : Nat, i = (o : Int) := ⟨i.toNat, by omega⟩
      have v := G.1 i (by omega)
      have gb := gD_sum (l := ((sNw S).1 m).1) i
      by_cases hj : 0 ≤ j ∧ j < (((sNw S).1 m).1.getD i 0 : Int)
      · obtain ⟨hj1, hj2⟩ := hj
        obtain ⟨j, rfl⟩ : ∃ o : Nat, j = (o : Int) := ⟨j.toNat, by omega⟩
        have hil : i < ((sNw S).1 m).1.length := by
          rcases Nat.lt_or_ge i ((sNw S).1 m).1.length with z | z
          · exact z
          · rw [gD_ge z] at hj2; omega
        rw [if_pos ⟨⟨hc.1, hc.2, hi1, by rw [Int.toNat_natCast]; omega⟩, hj1, hj2⟩]
        have b1 := m_hookOf (t := t) (u := u) (J := J) (show m < 4 by omega) H.1 o1 (by omega) hl (i := i) (j := j) (by omega) (by omega)
        simp (disch := omega) only [↓reduceIte, lt_TI, lt_FI, le_TI, le_FI, eq_TI, eq_FI, lt_TN, lt_FN, le_TN, le_FN, eq_TN, eq_FN, and_self, and_true, true_and, and_false, false_and, or_true, true_or, or_false, false_or, not_true_eq_false, not_false_eq_true, wr_of, uI_at, uC_at, q_bi_s, q_bl_s, q_br_s, q_bv_s, Int.toNat_natCast, tn_1, tn_m, tn_n, Int.toNat_zero, Int.toNat_one, r1, e177_0, n_ok, tn_61a, v, b1, e243_0, e243_4, e243_9, e243_68, e243_60, e243_19]
        exact ⟨_, rfl, QM_ok QF_rf⟩
      · rw [if_neg (fun z => hj ⟨z.2.1, z.2.2⟩)]
        by_cases z : j < 0
        · simp (disch := omega) only [↓reduceIte, lt_TI, lt_FI, le_TI, le_FI, eq_TI, eq_FI, lt_TN, lt_FN, le_TN, le_FN, eq_TN, eq_FN, and_self, and_true, true_and, and_false, false_and, or_true, true_or, or_false, false_or, not_true_eq_false, not_false_eq_true, wr_of, uI_at, uC_at, q_bi_s, q_bl_s, q_br_s, q_bv_s, Int.toNat_natCast, tn_1, tn_m, tn_n, Int.toNat_zero, Int.toNat_one, r1, e177_0, e178_0, n_ok, tn_61a, v, e243_0, e243_4, e243_9, e243_68, e243_60, e243_19]
          exact ⟨_, rfl, QM_no QF_rf⟩
        · simp (disch := omega) only [↓reduceIte, lt_TI, lt_FI, le_TI, le_FI, eq_TI, eq_FI, lt_TN, lt_FN, le_TN, le_FN, eq_TN, eq_FN, and_self, and_true, true_and, and_false, false_and, or_true, true_or, or_false, false_or, not_true_eq_false, not_false_eq_true, wr_of, uI_at, uC_at, q_bi_s, q_bl_s, q_br_s, q_bv_s, Int.toNat_natCast, tn_1, tn_m, tn_n, Int.toNat_zero, Int.toNat_one, r1, e177_0, e178_0, n_ok, tn_61a, v, e243_0, e243_4, e243_9, e243_68, e243_60, e243_19]
          exact ⟨_, rfl, QM_no QF_rf⟩
    · rw [if_neg (fun z => hi ⟨z.1.2.2.1, by have := z.1.2.2.2; rw [Int.toNat_natCast] at this; omega⟩)]
      simp (disch := omega) only [↓reduceIte, lt_TI, lt_FI, le_TI, le_FI, eq_TI, eq_FI, lt_TN, lt_FN, le_TN, le_FN, eq_TN, eq_FN, and_self, and_true, true_and, and_false, false_and, or_true, true_or, or_false, false_or, not_true_eq_false, not_false_eq_true, wr_of, uI_at, uC_at, q_bi_s, q_bl_s, q_br_s, q_bv_s, Int.toNat_natCast, tn_1, tn_m, tn_n, Int.toNat_zero, Int.toNat_one, r1, e177_0, e178_0, n_no, e243_0, e243_4, e243_9, e243_68, e243_60, e243_19]
      exact ⟨_, rfl, QM_no QF_rf⟩
  · rw [if_neg (fun z => hc ⟨z.1.1, z.1.2.1⟩)]
    have r1 := m_cell_no (t := t) (u := u) (J := J) A hc
    simp (disch := omega) only [↓reduceIte, lt_TI, lt_FI, le_TI, le_FI, eq_TI, eq_FI, lt_TN, lt_FN, le_TN, le_FN, eq_TN, eq_FN, and_self, and_true, true_and, and_false, false_and, or_true, true_or, or_false, false_or, not_true_eq_false, not_false_eq_true, wr_of, uI_at, uC_at, q_bi_s, q_bl_s, q_br_s, q_bv_s, Int.toNat_natCast, tn_1, tn_m, tn_n, Int.toNat_zero, Int.toNat_one, r1, e177_0, e178_0, e243_0, e243_4, e243_9, e243_68, e243_60, e243_19]
    exact ⟨_, rfl, QM_no QF_rf⟩
theorem m_common (V : MInv S I) (c d : Int) : ∃ I', q_E (246, 0, [vr 265, vi c, vi d, vu, vu, vu, vu], []) (qk t u I J) = some (vi (sp_common S c d).1, qk t u I' J) ∧ QM (sp_common S c d).2 I I' := by
  have A := MInv_A V
  have h4 := tC_4 V.1.1
  unfold sp_common
  by_cases hc : isCl S c
  · have r1 := m_cell_ok (t := t) (u := u) (J := J) A hc
    by_cases hd : isCl S d
    · have r2 := m_cell_ok (t := t) (u := u) (J := J) A hd
      simp only [if_pos (show isCl S c ∧ isCl S d from ⟨hc, hd⟩)]
      obtain ⟨m, rfl⟩ : ∃ m : Nat, c = (m : Int) := ⟨c.toNat, by omega⟩
      obtain ⟨k, rfl⟩ : ∃ m : Nat, d = (m : Int) := ⟨d.toNat, by omega⟩
      simp only [Int.toNat_natCast]
      have hm : m < 4 := by omega
      have hk : k < 4 := by omega
      obtain ⟨H, ok⟩ := MQs_row A hm
      obtain ⟨H2, ok2⟩ := MQs_row A hk
      obtain ⟨G, -⟩ := MQs_row V.1 hm
      obtain ⟨G2, -⟩ := MQs_row V.1 hk
      have loop : ∀ r i : Nat, i + r = 60 → q_E (246, 31, [vr 265, vi (m : Int), vi (k : Int), vi ((rg i (fun i => min (((sNw S).1 m).1.getD i 0) (((sNw S).1 k).1.getD i 0))).sum : Int), vi (i : Int), vu, vu], []) (qk t u (uI (uI I 265 0 0) 265 11 0) J) = some (vi (cmn ((sNw S).1 m).1 ((sNw S).1 k).1 : Int), qk t u (uI (uI I 265 0 0) 265 11 0) J) := by
        intro r
        induction r with
        | zero =>
          intro i hi
          rw [e246_31]
          simp (disch := omega) only [↓reduceIte, lt_TI, lt_FI, le_TI, le_FI, eq_TI, eq_FI, lt_TN, lt_FN, le_TN, le_FN, eq_TN, eq_FN, and_self, and_true, true_and, and_false, false_and, or_true, true_or, or_false, false_or, not_true_eq_false, not_false_eq_true, wr_of, uI_at, uC_at, q_bi_s, q_bl_s, q_br_s, q_bv_s, Int.toNat_natCast, tn_1, tn_m, tn_n, Int.toNat_zero, Int.toNat_one]
          rw [show i = 60 by omega]
          rfl
        | succ r ih =>
          intro i hi
          have v := G.1 i (by omega)
          have v2 := G2.1 i (by omega)
          have gb := gD_sum (l := ((sNw S).1 m).1) i
          have gb2 := gD_sum (l := ((sNw S).1 k).1) i
          have o3 := ok.2.2
          have sb := rg_sum_leb (fun i => min (((sNw S).1 m).1.getD i 0) (((sNw S).1 k).1.getD i 0)) 60 (fun i => by have := gD_sum (l := ((sNw S).1 m).1) i; omega) i
          have e := ih (i + 1) (by omega)
          rw [rg_sum_s] at e
          have m1 : i * 60 ≤ 3600 := by omega
          rw [e246_31]
          by_cases q : ((sNw S).1 m).1.getD i 0 < ((sNw S).1 k).1.getD i 0
          · rw [Nat.min_eq_left (by omega)] at e
            simp (disch := omega) only [↓reduceIte, lt_TI, lt_FI, le_TI, le_FI, eq_TI, eq_FI, lt_TN, lt_FN, le_TN, le_FN, eq_TN, eq_FN, and_self, and_true, true_and, and_false, false_and, or_true, true_or, or_false, false_or, not_true_eq_false, not_false_eq_true, wr_of, uI_at, uC_at, q_bi_s, q_bl_s, q_br_s, q_bv_s, Int.toNat_natCast, tn_1, tn_m, tn_n, Int.toNat_zero, Int.toNat_one, tn_61a, v, v2]
            exact e
          · rw [Nat.min_eq_right (by omega)] at e
            simp (disch := omega) only [↓reduceIte, lt_TI, lt_FI, le_TI, le_FI, eq_TI, eq_FI, lt_TN, lt_FN, le_TN, le_FN, eq_TN, eq_FN, and_self, and_true, true_and, and_false, false_and, or_true, true_or, or_false, false_or, not_true_eq_false, not_false_eq_true, wr_of, uI_at, uC_at, q_bi_s, q_bl_s, q_br_s, q_bv_s, Int.toNat_natCast, tn_1, tn_m, tn_n, Int.toNat_zero, Int.toNat_one, tn_61a, v, v2]
            exact e
      have b1 := loop 60 0 (by omega)
      rw [Int.natCast_zero, show (rg 0 (fun i => min (((sNw S).1 m).1.getD i 0) (((sNw S).1 k).1.getD i 0))).sum = 0 from rfl, Int.natCast_zero] at b1
      simp (disch := omega) only [↓reduceIte, lt_TI, lt_FI, le_TI, le_FI, eq_TI, eq_FI, lt_TN, lt_FN, le_TN, le_FN, eq_TN, eq_FN, and_self, and_true, true_and, and_false, false_and, or_true, true_or, or_false, false_or, not_true_eq_false, not_false_eq_true, wr_of, uI_at, uC_at, q_bi_s, q_bl_s, q_br_s, q_bv_s, Int.toNat_natCast, tn_1, tn_m, tn_n, Int.toNat_zero, Int.toNat_one, r1, r2, e177_0, b1, e246_0, e246_4, e246_9, e246_25, e246_17]
      exact ⟨_, rfl, QM_ok QF_rf⟩
    · simp only [if_neg (show ¬ (isCl S c ∧ isCl S d) from fun z => hd z.2)]
      have r2 := m_cell_no (t := t) (u := u) (J := J) A hd
      simp (disch := omega) only [↓reduceIte, lt_TI, lt_FI, le_TI, le_FI, eq_TI, eq_FI, lt_TN, lt_FN, le_TN, le_FN, eq_TN, eq_FN, and_self, and_true, true_and, and_false, false_and, or_true, true_or, or_false, false_or, not_true_eq_false, not_false_eq_true, wr_of, uI_at, uC_at, q_bi_s, q_bl_s, q_br_s, q_bv_s, Int.toNat_natCast, tn_1, tn_m, tn_n, Int.toNat_zero, Int.toNat_one, r1, r2, e177_0, e178_0, e246_0, e246_4, e246_9, e246_25, e246_17]
      exact ⟨_, rfl, QM_no QF_rf⟩
  · simp only [if_neg (show ¬ (isCl S c ∧ isCl S d) from fun z => hc z.1)]
    have r1 := m_cell_no (t := t) (u := u) (J := J) A hc
    simp (disch := omega) only [↓reduceIte, lt_TI, lt_FI, le_TI, le_FI, eq_TI, eq_FI, lt_TN, lt_FN, le_TN, le_FN, eq_TN, eq_FN, and_self, and_true, true_and, and_false, false_and, or_true, true_or, or_false, false_or, not_true_eq_false, not_false_eq_true, wr_of, uI_at, uC_at, q_bi_s, q_bl_s, q_br_s, q_bv_s, Int.toNat_natCast, tn_1, tn_m, tn_n, Int.toNat_zero, Int.toNat_one, r1, e177_0, e178_0, e246_0, e246_4, e246_9, e246_25, e246_17]
    exact ⟨_, rfl, QM_no QF_rf⟩
theorem m_mirrors (V : MInv S I) (c d : Int) : ∃ I', q_E (247, 0, [vr 265, vi c, vi d, vu], []) (qk t u I J) = some (vi (sp_mirrors S c d).1, qk t u I' J) ∧ QM (sp_mirrors S c d).2 I I' := by
  have A := MInv_A V
  have h4 := tC_4 V.1.1
  unfold sp_mirrors
  by_cases hc : isCl S c
  · have r1 := m_cell_ok (t := t) (u := u) (J := J) A hc
    by_cases hd : isCl S d
    · have r2 := m_cell_ok (t := t) (u := u) (J := J) A hd
      simp only [if_pos (show isCl S c ∧ isCl S d from ⟨hc, hd⟩)]
      obtain ⟨m, rfl⟩ : ∃ m : Nat, c = (m : Int) := ⟨c.toNat, by omega⟩
      obtain ⟨k, rfl⟩ : ∃ m : Nat, d = (m : Int) := ⟨d.toNat, by omega⟩
      simp only [Int.toNat_natCast]
      have hm : m < 4 := by omega
      have hk : k < 4 := by omega
      obtain ⟨H, ok⟩ := MQs_row A hm
      obtain ⟨H2, ok2⟩ := MQs_row A hk
      obtain ⟨G, -⟩ := MQs_row V.1 hm
      obtain ⟨G2, -⟩ := MQs_row V.1 hk
      have loop : ∀ r j : Nat, j + r = 60 → (∀ i, i < j → cnt ((sNw S).1 m).1 i = ((sNw S).1 k).1.getD i 0) → q_E (247, 28, [vr 265, vi (m : Int), vi (k : Int), vi (j : Int)], []) (qk t u (uI (uI I 265 0 0) 265 11 0) J) = some (vi (if mir ((sNw S).1 m).1 ((sNw S).1 k).1 = true then 1 else 0), qk t u (uI (uI I 265 0 0) 265 11 0) J) := by
        intro r
        induction r with
        | zero =>
          intro j hj h
          have e : mir ((sNw S).1 m).1 ((sNw S).1 k).1 = true := List.all_eq_true.mpr (fun x hx => decide_eq_true (h x (by have := List.mem_range.mp hx; omega)))
          rw [if_pos e, e247_28]
          simp (disch := omega) only [↓reduceIte, lt_TI, lt_FI, le_TI, le_FI, eq_TI, eq_FI, lt_TN, lt_FN, le_TN, le_FN, eq_TN, eq_FN, and_self, and_true, true_and, and_false, false_and, or_true, true_or, or_false, false_or, not_true_eq_false, not_false_eq_true, wr_of, uI_at, uC_at, q_bi_s, q_bl_s, q_br_s, q_bv_s, Int.toNat_natCast, tn_1, tn_m, tn_n, Int.toNat_zero, Int.toNat_one]
        | succ r ih =>
          intro j hj h
          have v2 := G2.1 j (by omega)
          have gb2 := gD_sum (l := ((sNw S).1 k).1) j
          have b1 := m_col (t := t) (u := u) (J := J) hm H.1 ok.1 (HOk_len ok) j
          by_cases q : cnt ((sNw S).1 m).1 j = ((sNw S).1 k).1.getD j 0
          · have e := ih (j + 1) (by omega) (fun i hi => by
              by_cases z : i = j
              · rw [z]; exact q
              · exact h i (by omega))
            rw [← e, e247_28]
            simp (disch := omega) only [↓reduceIte, lt_TI, lt_FI, le_TI, le_FI, eq_TI, eq_FI, lt_TN, lt_FN, le_TN, le_FN, eq_TN, eq_FN, and_self, and_true, true_and, and_false, false_and, or_true, true_or, or_false, false_or, not_true_eq_false, not_false_eq_true, wr_of, uI_at, uC_at, q_bi_s, q_bl_s, q_br_s, q_bv_s, Int.toNat_natCast, tn_1, tn_m, tn_n, Int.toNat_zero, Int.toNat_one, b1, e247_40, tn_61a, v2]
            rfl
          · have e : ¬ mir ((sNw S).1 m).1 ((sNw S).1 k).1 = true := fun z => q (of_decide_eq_true (List.all_eq_true.mp z j (List.mem_range.mpr (by omega))))
            rw [if_neg e, e247_28]
            simp (disch := omega) only [↓reduceIte, lt_TI, lt_FI, le_TI, le_FI, eq_TI, eq_FI, lt_TN, lt_FN, le_TN, le_FN, eq_TN, eq_FN, and_self, and_true, true_and, and_false, false_and, or_true, true_or, or_false, false_or, not_true_eq_false, not_false_eq_true, wr_of, uI_at, uC_at, q_bi_s, q_bl_s, q_br_s, q_bv_s, Int.toNat_natCast, tn_1, tn_m, tn_n, Int.toNat_zero, Int.toNat_one, b1, e247_40, tn_61a, v2]
      have b1 := loop 60 0 (by omega) (fun k hk => by omega)
      rw [Int.natCast_zero] at b1
      simp (disch := omega) only [↓reduceIte, lt_TI, lt_FI, le_TI, le_FI, eq_TI, eq_FI, lt_TN, lt_FN, le_TN, le_FN, eq_TN, eq_FN, and_self, and_true, true_and, and_false, false_and, or_true, true_or, or_false, false_or, not_true_eq_false, not_false_eq_true, wr_of, uI_at, uC_at, q_bi_s, q_bl_s, q_br_s, q_bv_s, Int.toNat_natCast, tn_1, tn_m, tn_n, Int.toNat_zero, Int.toNat_one, r1, r2, e177_0, b1, e247_0, e247_4, e247_40, e247_9, e247_25, e247_17]
      exact ⟨_, rfl, QM_ok QF_rf⟩
    · simp only [if_neg (show ¬ (isCl S c ∧ isCl S d) from fun z => hd z.2)]
      have r2 := m_cell_no (t := t) (u := u) (J := J) A hd
      simp (disch := omega) only [↓reduceIte, lt_TI, lt_FI, le_TI, le_FI, eq_TI, eq_FI, lt_TN, lt_FN, le_TN, le_FN, eq_TN, eq_FN, and_self, and_true, true_and, and_false, false_and, or_true, true_or, or_false, false_or, not_true_eq_false, not_false_eq_true, wr_of, uI_at, uC_at, q_bi_s, q_bl_s, q_br_s, q_bv_s, Int.toNat_natCast, tn_1, tn_m, tn_n, Int.toNat_zero, Int.toNat_one, r1, r2, e177_0, e178_0, e247_0, e247_4, e247_40, e247_9, e247_25, e247_17]
      exact ⟨_, rfl, QM_no QF_rf⟩
  · simp only [if_neg (show ¬ (isCl S c ∧ isCl S d) from fun z => hc z.1)]
    have r1 := m_cell_no (t := t) (u := u) (J := J) A hc
    simp (disch := omega) only [↓reduceIte, lt_TI, lt_FI, le_TI, le_FI, eq_TI, eq_FI, lt_TN, lt_FN, le_TN, le_FN, eq_TN, eq_FN, and_self, and_true, true_and, and_false, false_and, or_true, true_or, or_false, false_or, not_true_eq_false, not_false_eq_true, wr_of, uI_at, uC_at, q_bi_s, q_bl_s, q_br_s, q_bv_s, Int.toNat_natCast, tn_1, tn_m, tn_n, Int.toNat_zero, Int.toNat_one, r1, e177_0, e178_0, e247_0, e247_4, e247_40, e247_9, e247_25, e247_17]
    exact ⟨_, rfl, QM_no QF_rf⟩
end

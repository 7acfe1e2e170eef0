/-! the model's eats, carry, level, sums -/
section
variable {t u : Nat} {I J : Nat → Nat → Int} {S : St}
theorem b_x0 : ∀ a : Nat, a < 4 → ∀ b : Nat, b < 4 → ∀ c : Nat, c < 4 → (((a ^^^ b) ^^^ c = 0) ↔ c = a ^^^ b) := by decide +kernel
theorem xr_tk (l : List Nat) (i : Nat) (h : i < l.length) : xr (l.take (i + 1)) = xr (l.take i) ^^^ (l.getD i 0 % 4) := by
  unfold xr
  rw [gD_take h, List.foldl_append]; rfl
theorem xr_4 (l : List Nat) : xr l < 4 := xr_lt l 0 (by omega)
theorem m_eatSum {c : Nat} (hc : c < 4) {L : List Nat} (H : LA I 272 (61 * c) L) (hl : L.length ≤ 60) : q_E (257, 0, [vr 265, vi (c : Int), vu, vu], []) (qk t u I J) = some (vi (xr L : Int), qk t u I J) := by
  have loop : ∀ r i : Nat, i + r = 60 → q_E (257, 4, [vr 265, vi (c : Int), vi (xr (L.take i) : Int), vi (i : Int)], []) (qk t u I J) = some (vi (xr L : Int), qk t u I J) := by
    intro r
    induction r with
    | zero =>
      intro i hi
      rw [e257_4]
      simp (disch := omega) only [↓reduceIte, lt_TI, lt_FI, le_TI, le_FI, eq_TI, eq_FI, lt_TN, lt_FN, le_TN, le_FN, eq_TN, eq_FN, and_self, and_true, true_and, and_false, false_and, or_true, true_or, or_false, false_or, not_true_eq_false, not_false_eq_true, wr_of, uI_at, uC_at, q_bi_s, q_bl_s, q_br_s, q_bv_s, Int.toNat_natCast, tn_1, tn_m, tn_n, Int.toNat_zero, Int.toNat_one]
      rw [List.take_of_length_le (by omega)]
    | succ r ih =>
      intro i hi
      have v := H i (by omega)
      have e := ih (i + 1) (by omega)
      have x4 := xr_4 (L.take i)
      have e1 : Int.tmod (L.getD i 0 : Int) 4 = ((L.getD i 0 % 4 : Nat) : Int) := (Int.ofNat_tmod _ _).symm
      have m4 := Nat.mod_lt (L.getD i 0) (show 0 < 4 by omega)
      have bx := (b_xor _ x4 _ m4).1
      have b2 := (b_xor _ x4 _ m4).2
      rw [e257_4]
      simp (disch := omega) only [↓reduceIte, lt_TI, lt_FI, le_TI, le_FI, eq_TI, eq_FI, lt_TN, lt_FN, le_TN, le_FN, eq_TN, eq_FN, and_self, and_true, true_and, and_false, false_and, or_true, true_or, or_false, false_or, not_true_eq_false, not_false_eq_true, wr_of, uI_at, uC_at, q_bi_s, q_bl_s, q_br_s, q_bv_s, Int.toNat_natCast, tn_1, tn_m, tn_n, Int.toNat_zero, Int.toNat_one, tn_61a, v, e1, bx]
      by_cases q : i < L.length
      · rw [xr_tk L i q] at e
        exact e
      · rw [List.take_of_length_le (by omega)] at e ⊢
        rw [gD_ge (by omega), Nat.zero_mod, Nat.xor_zero]
        exact e
  rw [e257_0]
  exact loop 60 0 (by omega)
theorem m_eatFrom {c : Nat} (hc : c < 4) {L : List Nat} (H : LA I 272 (61 * c) L) (hl : L.length ≤ 60) (hs : L.sum ≤ 60) {i : Nat} (hi : i < 60) : q_E (258, 0, [vr 265, vi (c : Int), vi (i : Int), vu, vu], []) (qk t u I J) = some (vi (wbI L i), qk t u I J) := by
  have v := H i hi
  have gb := gD_sum (l := L) i
  have es := m_eatSum (t := t) (u := u) (J := J) hc H hl
  have x4 := xr_4 L
  have e1 : Int.tmod (L.getD i 0 : Int) 4 = ((L.getD i 0 % 4 : Nat) : Int) := (Int.ofNat_tmod _ _).symm
  have m4 := Nat.mod_lt (L.getD i 0) (show 0 < 4 by omega)
  have bx := (b_xor _ x4 _ m4).1
  have b2 := (b_xor _ x4 _ m4).2
  have step : ∀ n : Nat, 1 ≤ n → n ≤ 3 → q_E (258, 15, [vr 265, vi (c : Int), vu, vi (L.getD i 0 : Int), vi (n : Int)], []) (qk t u I J) = if n ≤ L.getD i 0 then (if (L.getD i 0 - n) % 4 = xr L ^^^ (L.getD i 0 % 4) then some (vi (n : Int), qk t u I J) else q_E (258, 15, [vr 265, vi (c : Int), vu, vi (L.getD i 0 : Int), vi ((n : Int) + 1)], []) (qk t u I J)) else some (vi (-2), qk t u I J) := by
    intro n n1 n3
    rw [e258_15]
    by_cases q : n ≤ L.getD i 0
    · have e2 : Int.tmod ((L.getD i 0 : Int) - (n : Int)) 4 = (((L.getD i 0 - n) % 4 : Nat) : Int) := by
        rw [show (L.getD i 0 : Int) - (n : Int) = ((L.getD i 0 - n : Nat) : Int) by omega]
        exact (Int.ofNat_tmod _ _).symm
      have m5 := Nat.mod_lt (L.getD i 0 - n) (show 0 < 4 by omega)
      have by2 := (b_xor _ b2 _ m5).1
      have iff := b_x0 _ x4 _ m4 _ m5
      rw [if_pos q]
      simp (disch := omega) only [↓reduceIte, lt_TI, lt_FI, le_TI, le_FI, eq_TI, eq_FI, lt_TN, lt_FN, le_TN, le_FN, eq_TN, eq_FN, and_self, and_true, true_and, and_false, false_and, or_true, true_or, or_false, false_or, not_true_eq_false, not_false_eq_true, wr_of, uI_at, uC_at, q_bi_s, q_bl_s, q_br_s, q_bv_s, Int.toNat_natCast, tn_1, tn_m, tn_n, Int.toNat_zero, Int.toNat_one, es]
      rw [e258_32]
      simp (disch := omega) only [↓reduceIte, lt_TI, lt_FI, le_TI, le_FI, eq_TI, eq_FI, lt_TN, lt_FN, le_TN, le_FN, eq_TN, eq_FN, and_self, and_true, true_and, and_false, false_and, or_true, true_or, or_false, false_or, not_true_eq_false, not_false_eq_true, wr_of, uI_at, uC_at, q_bi_s, q_bl_s, q_br_s, q_bv_s, Int.toNat_natCast, tn_1, tn_m, tn_n, Int.toNat_zero, Int.toNat_one, e1, e2, bx, by2]
      by_cases z : (L.getD i 0 - n) % 4 = xr L ^^^ (L.getD i 0 % 4)
      · have y := iff.mpr z
        rw [if_pos z, y]
        simp (disch := omega) only [↓reduceIte, lt_TI, lt_FI, le_TI, le_FI, eq_TI, eq_FI, lt_TN, lt_FN, le_TN, le_FN, eq_TN, eq_FN, and_self, and_true, true_and, and_false, false_and, or_true, true_or, or_false, false_or, not_true_eq_false, not_false_eq_true, wr_of, uI_at, uC_at, q_bi_s, q_bl_s, q_br_s, q_bv_s, Int.toNat_natCast, tn_1, tn_m, tn_n, Int.toNat_zero, Int.toNat_one, Int.natCast_zero]
      · have y : ¬ ((xr L ^^^ (L.getD i 0 % 4)) ^^^ ((L.getD i 0 - n) % 4)) = 0 := fun w => z (iff.mp w)
        rw [if_neg z, if_neg (by omega)]
    · rw [if_neg q]
      simp (disch := omega) only [↓reduceIte, lt_TI, lt_FI, le_TI, le_FI, eq_TI, eq_FI, lt_TN, lt_FN, le_TN, le_FN, eq_TN, eq_FN, and_self, and_true, true_and, and_false, false_and, or_true, true_or, or_false, false_or, not_true_eq_false, not_false_eq_true, wr_of, uI_at, uC_at, q_bi_s, q_bl_s, q_br_s, q_bv_s, Int.toNat_natCast, tn_1, tn_m, tn_n, Int.toNat_zero, Int.toNat_one]
  have s1 := step 1 (by omega) (by omega)
  have s2 := step 2 (by omega) (by omega)
  have s3 := step 3 (by omega) (by omega)
  have s4 : q_E (258, 15, [vr 265, vi (c : Int), vu, vi (L.getD i 0 : Int), vi 4], []) (qk t u I J) = some (vi (-2), qk t u I J) := by
    rw [e258_15]
    simp (disch := omega) only [↓reduceIte, lt_TI, lt_FI, le_TI, le_FI, eq_TI, eq_FI, lt_TN, lt_FN, le_TN, le_FN, eq_TN, eq_FN, and_self, and_true, true_and, and_false, false_and, or_true, true_or, or_false, false_or, not_true_eq_false, not_false_eq_true, wr_of, uI_at, uC_at, q_bi_s, q_bl_s, q_br_s, q_bv_s, Int.toNat_natCast, tn_1, tn_m, tn_n, Int.toNat_zero, Int.toNat_one]
  rw [show ((1 : Nat) : Int) = 1 from rfl, show (1 : Int) + 1 = ((2 : Nat) : Int) from rfl, s2] at s1
  rw [show ((2 : Nat) : Int) + 1 = ((3 : Nat) : Int) from rfl, s3, show ((3 : Nat) : Int) + 1 = 4 from rfl, s4] at s1
  rw [e258_0]
  simp (disch := omega) only [↓reduceIte, lt_TI, lt_FI, le_TI, le_FI, eq_TI, eq_FI, lt_TN, lt_FN, le_TN, le_FN, eq_TN, eq_FN, and_self, and_true, true_and, and_false, false_and, or_true, true_or, or_false, false_or, not_true_eq_false, not_false_eq_true, wr_of, uI_at, uC_at, q_bi_s, q_bl_s, q_br_s, q_bv_s, Int.toNat_natCast, tn_1, tn_m, tn_n, Int.toNat_zero, Int.toNat_one, tn_61a, v]
  rw [s1]
  unfold wbI
  by_cases q1 : 1 ≤ L.getD i 0
  · by_cases z1 : (L.getD i 0 - 1) % 4 = xr L ^^^ (L.getD i 0 % 4)
    · rw [if_pos q1, if_pos z1, if_pos ⟨q1, z1⟩]
    · rw [if_pos q1, if_neg z1, if_neg (show ¬ (1 ≤ L.getD i 0 ∧ (L.getD i 0 - 1) % 4 = xr L ^^^ (L.getD i 0 % 4)) from fun z => z1 z.2)]
      by_cases q2 : 2 ≤ L.getD i 0
      · by_cases z2 : (L.getD i 0 - 2) % 4 = xr L ^^^ (L.getD i 0 % 4)
        · rw [if_pos q2, if_pos z2, if_pos ⟨q2, z2⟩]; rfl
        · rw [if_pos q2, if_neg z2, if_neg (show ¬ (2 ≤ L.getD i 0 ∧ (L.getD i 0 - 2) % 4 = xr L ^^^ (L.getD i 0 % 4)) from fun z => z2 z.2)]
          by_cases q3 : 3 ≤ L.getD i 0
          · by_cases z3 : (L.getD i 0 - 3) % 4 = xr L ^^^ (L.getD i 0 % 4)
            · rw [if_pos q3, if_pos z3, if_pos ⟨q3, z3⟩]; rfl
            · rw [if_pos q3, if_neg z3, if_neg (fun z => z3 z.2)]
          · rw [if_neg q3, if_neg (fun z => q3 z.1)]
      · rw [if_neg q2, if_neg (fun z => q2 z.1), if_neg (fun z => q2 (by omega))]
  · rw [if_neg q1, if_neg (fun z => q1 z.1), if_neg (fun z => q1 (by omega)), if_neg (fun z => q1 (by omega))]
theorem wbI_v (l : List Nat) (i : Nat) : wbI l i = 1 ∨ wbI l i = 2 ∨ wbI l i = 3 ∨ wbI l i = -2 := by
  unfold wbI
  split
  · exact Or.inl rfl
  · split
    · exact Or.inr (Or.inl rfl)
    · split
      · exact Or.inr (Or.inr (Or.inl rfl))
      · exact Or.inr (Or.inr (Or.inr rfl))
theorem wbI_0 {l : List Nat} {i : Nat} (h : l.length ≤ i) : wbI l i = -2 := by
  unfold wbI
  rw [gD_ge h, if_neg (fun z => by omega), if_neg (fun z => by omega), if_neg (fun z => by omega)]
theorem m_eatHeap {c : Nat} (hc : c < 4) {L : List Nat} (H : LA I 272 (61 * c) L) (hl : L.length ≤ 60) (hs : L.sum ≤ 60) : q_E (259, 0, [vr 265, vi (c : Int), vu], []) (qk t u I J) = some (vi (fint (fun i => decide (wbI L i ≠ -2)) L.length), qk t u I J) := by
  have loop : ∀ r i : Nat, i + r = 60 → (∀ a, a < i → wbI L a = -2) → q_E (259, 2, [vr 265, vi (c : Int), vi (i : Int)], []) (qk t u I J) = some (vi (fint (fun i => decide (wbI L i ≠ -2)) L.length), qk t u I J) := by
    intro r
    induction r with
    | zero =>
      intro i hi hne
      have e : fsti (fun i => decide (wbI L i ≠ -2)) L.length = L.length := fsti_eq (Nat.le_refl _) (fun a ha => decide_eq_false (fun z => z (hne a (by omega)))) (fun z => by omega)
      unfold fint
      rw [e, if_neg (show ¬ L.length < L.length by omega), e259_2]
      simp (disch := omega) only [↓reduceIte, lt_TI, lt_FI, le_TI, le_FI, eq_TI, eq_FI, lt_TN, lt_FN, le_TN, le_FN, eq_TN, eq_FN, and_self, and_true, true_and, and_false, false_and, or_true, true_or, or_false, false_or, not_true_eq_false, not_false_eq_true, wr_of, uI_at, uC_at, q_bi_s, q_bl_s, q_br_s, q_bv_s, Int.toNat_natCast, tn_1, tn_m, tn_n, Int.toNat_zero, Int.toNat_one]
    | succ r ih =>
      intro i hi hne
      have b := m_eatFrom (t := t) (u := u) (J := J) hc H hl hs (i := i) (by omega)
      have w := wbI_v L i
      rw [e259_2]
      by_cases q : wbI L i = -2
      · rw [q] at b
        simp (disch := omega) only [↓reduceIte, lt_TI, lt_FI, le_TI, le_FI, eq_TI, eq_FI, lt_TN, lt_FN, le_TN, le_FN, eq_TN, eq_FN, and_self, and_true, true_and, and_false, false_and, or_true, true_or, or_false, false_or, not_true_eq_false, not_false_eq_true, wr_of, uI_at, uC_at, q_bi_s, q_bl_s, q_br_s, q_bv_s, Int.toNat_natCast, tn_1, tn_m, tn_n, Int.toNat_zero, Int.toNat_one, b]
        rw [e259_14]
        simp (disch := omega) only [↓reduceIte, lt_TI, lt_FI, le_TI, le_FI, eq_TI, eq_FI, lt_TN, lt_FN, le_TN, le_FN, eq_TN, eq_FN, and_self, and_true, true_and, and_false, false_and, or_true, true_or, or_false, false_or, not_true_eq_false, not_false_eq_true, wr_of, uI_at, uC_at, q_bi_s, q_bl_s, q_br_s, q_bv_s, Int.toNat_natCast, tn_1, tn_m, tn_n, Int.toNat_zero, Int.toNat_one]
        exact ih (i + 1) (by omega) (fun a ha => by
          by_cases z : a = i
          · rw [z]; exact q
          · exact hne a (by omega))
      · have hi2 : i < L.length := by
          rcases Nat.lt_or_ge i L.length with z | z
          · exact z
          · exact absurd (wbI_0 z) q
        have e : fsti (fun i => decide (wbI L i ≠ -2)) L.length = i := fsti_eq (by omega) (fun a ha => decide_eq_false (fun z => z (hne a (by omega)))) (fun z => decide_eq_true q)
        unfold fint
        rw [e, if_pos hi2]
        simp (disch := omega) only [↓reduceIte, lt_TI, lt_FI, le_TI, le_FI, eq_TI, eq_FI, lt_TN, lt_FN, le_TN, le_FN, eq_TN, eq_FN, and_self, and_true, true_and, and_false, false_and, or_true, true_or, or_false, false_or, not_true_eq_false, not_false_eq_true, wr_of, uI_at, uC_at, q_bi_s, q_bl_s, q_br_s, q_bv_s, Int.toNat_natCast, tn_1, tn_m, tn_n, Int.toNat_zero, Int.toNat_one, b]
        rw [e259_14]
        simp (disch := omega) only [↓reduceIte, lt_TI, lt_FI, le_TI, le_FI, eq_TI, eq_FI, lt_TN, lt_FN, le_TN, le_FN, eq_TN, eq_FN, and_self, and_true, true_and, and_false, false_and, or_true, true_or, or_false, false_or, not_true_eq_false, not_false_eq_true, wr_of, uI_at, uC_at, q_bi_s, q_bl_s, q_br_s, q_bv_s, Int.toNat_natCast, tn_1, tn_m, tn_n, Int.toNat_zero, Int.toNat_one]
  rw [e259_0]
  exact loop 60 0 (by omega) (fun a ha => by omega)
theorem m_eats (V : MInv S I) (c : Int) : ∃ I', q_E (260, 0, [vr 265, vi c], []) (qk t u I J) = some (vi (sp_eats S c).1, qk t u I' J) ∧ QM (sp_eats S c).2 I I' := by
  have A := MInv_A V
  have h4 := tC_4 V.1.1
  unfold sp_eats spC
  by_cases hc : isCl S c
  · simp only [if_pos hc]
    obtain ⟨m, rfl⟩ : ∃ m : Nat, c = (m : Int) := ⟨c.toNat, by omega⟩
    have r1 := m_cell_ok (t := t) (u := u) (J := J) A hc
    have hm : m < tC (sTo S) := by omega
    obtain ⟨H, ok⟩ := MQs_row A (show m < 4 by omega)
    obtain ⟨G, -⟩ := MQs_row V.1 (show m < 4 by omega)
    obtain ⟨o1, o2, o3⟩ := id ok
    have hl := HOk_len ok
    simp only [Int.toNat_natCast]
    have b1 := m_eatSum (t := t) (u := u) (J := J) (show m < 4 by omega) H.1 hl
    by_cases q : xr ((sNw S).1 m).1 = 0
    · simp only [if_pos q]
      rw [q, Int.natCast_zero] at b1
      simp (disch := omega) only [↓reduceIte, lt_TI, lt_FI, le_TI, le_FI, eq_TI, eq_FI, lt_TN, lt_FN, le_TN, le_FN, eq_TN, eq_FN, and_self, and_true, true_and, and_false, false_and, or_true, true_or, or_false, false_or, not_true_eq_false, not_false_eq_true, wr_of, uI_at, uC_at, q_bi_s, q_bl_s, q_br_s, q_bv_s, Int.toNat_natCast, tn_1, tn_m, tn_n, Int.toNat_zero, Int.toNat_one, r1, e177_0, b1, e260_0, e260_4, e260_9, e260_17, e260_23]
      exact ⟨_, rfl, QM_ok QF_rf⟩
    simp only [if_neg q]
    simp (disch := omega) only [↓reduceIte, lt_TI, lt_FI, le_TI, le_FI, eq_TI, eq_FI, lt_TN, lt_FN, le_TN, le_FN, eq_TN, eq_FN, and_self, and_true, true_and, and_false, false_and, or_true, true_or, or_false, false_or, not_true_eq_false, not_false_eq_true, wr_of, uI_at, uC_at, q_bi_s, q_bl_s, q_br_s, q_bv_s, Int.toNat_natCast, tn_1, tn_m, tn_n, Int.toNat_zero, Int.toNat_one, r1, e177_0, e178_0, e260_0, e260_4, e260_9, e260_17, e260_23, b1]
    exact ⟨_, rfl, QM_ok QF_rf⟩
  · simp only [if_neg hc]
    have r1 := m_cell_no (t := t) (u := u) (J := J) A hc
    simp (disch := omega) only [↓reduceIte, lt_TI, lt_FI, le_TI, le_FI, eq_TI, eq_FI, lt_TN, lt_FN, le_TN, le_FN, eq_TN, eq_FN, and_self, and_true, true_and, and_false, false_and, or_true, true_or, or_false, false_or, not_true_eq_false, not_false_eq_true, wr_of, uI_at, uC_at, q_bi_s, q_bl_s, q_br_s, q_bv_s, Int.toNat_natCast, tn_1, tn_m, tn_n, Int.toNat_zero, Int.toNat_one, r1, e177_0, e178_0, e260_0, e260_4, e260_9, e260_17, e260_23]
    exact ⟨_, rfl, QM_no QF_rf⟩
theorem m_eatsOf (V : MInv S I) (c : Int) : ∃ I', q_E (261, 0, [vr 265, vi c], []) (qk t u I J) = some (vi (sp_eatsOf S c).1, qk t u I' J) ∧ QM (sp_eatsOf S c).2 I I' := by
  have A := MInv_A V
  have h4 := tC_4 V.1.1
  unfold sp_eatsOf spC
  by_cases hc : isCl S c
  · simp only [if_pos hc]
    obtain ⟨m, rfl⟩ : ∃ m : Nat, c = (m : Int) := ⟨c.toNat, by omega⟩
    have r1 := m_cell_ok (t := t) (u := u) (J := J) A hc
    have hm : m < tC (sTo S) := by omega
    obtain ⟨H, ok⟩ := MQs_row A (show m < 4 by omega)
    obtain ⟨G, -⟩ := MQs_row V.1 (show m < 4 by omega)
    obtain ⟨o1, o2, o3⟩ := id ok
    have hl := HOk_len ok
    simp only [Int.toNat_natCast]
    have b1 := m_eatHeap (t := t) (u := u) (J := J) (show m < 4 by omega) H.1 hl (by omega)
    simp (disch := omega) only [↓reduceIte, lt_TI, lt_FI, le_TI, le_FI, eq_TI, eq_FI, lt_TN, lt_FN, le_TN, le_FN, eq_TN, eq_FN, and_self, and_true, true_and, and_false, false_and, or_true, true_or, or_false, false_or, not_true_eq_false, not_false_eq_true, wr_of, uI_at, uC_at, q_bi_s, q_bl_s, q_br_s, q_bv_s, Int.toNat_natCast, tn_1, tn_m, tn_n, Int.toNat_zero, Int.toNat_one, r1, e177_0, e178_0, e261_0, e261_4, e261_9, e261_25, e261_17, b1]
    exact ⟨_, rfl, QM_ok QF_rf⟩
  · simp only [if_neg hc]
    have r1 := m_cell_no (t := t) (u := u) (J := J) A hc
    simp (disch := omega) only [↓reduceIte, lt_TI, lt_FI, le_TI, le_FI, eq_TI, eq_FI, lt_TN, lt_FN, le_TN, le_FN, eq_TN, eq_FN, and_self, and_true, true_and, and_false, false_and, or_true, true_or, or_false, false_or, not_true_eq_false, not_false_eq_true, wr_of, uI_at, uC_at, q_bi_s, q_bl_s, q_br_s, q_bv_s, Int.toNat_natCast, tn_1, tn_m, tn_n, Int.toNat_zero, Int.toNat_one, r1, e177_0, e178_0, e261_0, e261_4, e261_9, e261_25, e261_17]
    exact ⟨_, rfl, QM_no QF_rf⟩
theorem m_eatsMany (V : MInv S I) (c : Int) : ∃ I', q_E (262, 0, [vr 265, vi c, vu], []) (qk t u I J) = some (vi (sp_eatsMany S c).1, qk t u I' J) ∧ QM (sp_eatsMany S c).2 I I' := by
  have A := MInv_A V
  have h4 := tC_4 V.1.1
  unfold sp_eatsMany spC
  by_cases hc : isCl S c
  · simp only [if_pos hc]
    obtain ⟨m, rfl⟩ : ∃ m : Nat, c = (m : Int) := ⟨c.toNat, by omega⟩
    have r1 := m_cell_ok (t := t) (u := u) (J := J) A hc
    have hm : m < tC (sTo S) := by omega
    obtain ⟨H, ok⟩ := MQs_row A (show m < 4 by omega)
    obtain ⟨G, -⟩ := MQs_row V.1 (show m < 4 by omega)
    obtain ⟨o1, o2, o3⟩ := id ok
    have hl := HOk_len ok
    simp only [Int.toNat_natCast]
    have b1 := m_eatHeap (t := t) (u := u) (J := J) (show m < 4 by omega) H.1 hl (by omega)
    unfold fint at b1
    by_cases q : fsti (fun i => decide (wbI ((sNw S).1 m).1 i ≠ -2)) ((sNw S).1 m).1.length < ((sNw S).1 m).1.length
    · rw [if_pos q] at b1
      simp only [if_pos q]
      have b2 := m_eatFrom (t := t) (u := u) (J := J) (show m < 4 by omega) H.1 hl (by omega) (i := fsti (fun i => decide (wbI ((sNw S).1 m).1 i ≠ -2)) ((sNw S).1 m).1.length) (by omega)
      simp (disch := omega) only [↓reduceIte, lt_TI, lt_FI, le_TI, le_FI, eq_TI, eq_FI, lt_TN, lt_FN, le_TN, le_FN, eq_TN, eq_FN, and_self, and_true, true_and, and_false, false_and, or_true, true_or, or_false, false_or, not_true_eq_false, not_false_eq_true, wr_of, uI_at, uC_at, q_bi_s, q_bl_s, q_br_s, q_bv_s, Int.toNat_natCast, tn_1, tn_m, tn_n, Int.toNat_zero, Int.toNat_one, r1, e177_0, b1, b2, e262_0, e262_4, e262_9, e262_17, e262_23, e262_39]
      exact ⟨_, rfl, QM_ok QF_rf⟩
    rw [if_neg q] at b1
    simp only [if_neg q]
    simp (disch := omega) only [↓reduceIte, lt_TI, lt_FI, le_TI, le_FI, eq_TI, eq_FI, lt_TN, lt_FN, le_TN, le_FN, eq_TN, eq_FN, and_self, and_true, true_and, and_false, false_and, or_true, true_or, or_false, false_or, not_true_eq_false, not_false_eq_true, wr_of, uI_at, uC_at, q_bi_s, q_bl_s, q_br_s, q_bv_s, Int.toNat_natCast, tn_1, tn_m, tn_n, Int.toNat_zero, Int.toNat_one, r1, e177_0, e178_0, e262_0, e262_4, e262_9, e262_17, e262_23, e262_39, b1]
    exact ⟨_, rfl, QM_ok QF_rf⟩
  · simp only [if_neg hc]
    have r1 := m_cell_no (t := t) (u := u) (J := J) A hc
    simp (disch := omega) only [↓reduceIte, lt_TI, lt_FI, le_TI, le_FI, eq_TI, eq_FI, lt_TN, lt_FN, le_TN, le_FN, eq_TN, eq_FN, and_self, and_true, true_and, and_false, false_and, or_true, true_or, or_false, false_or, not_true_eq_false, not_false_eq_true, wr_of, uI_at, uC_at, q_bi_s, q_bl_s, q_br_s, q_bv_s, Int.toNat_natCast, tn_1, tn_m, tn_n, Int.toNat_zero, Int.toNat_one, r1, e177_0, e178_0, e262_0, e262_4, e262_9, e262_17, e262_23, e262_39]
    exact ⟨_, rfl, QM_no QF_rf⟩
theorem m_carry_l {k : Nat} : ∀ (n s : Nat) (l : List Nat) (I1 : Nat → Nat → Int), l.length = n + 1 → LA I1 275 0 l → SD l → PS l → l.sum ≤ 60 → s + 60 * n ≤ 6000 → ∃ I', q_E (263, 34, [vr 265, vu, vi (s : Int), vi (l.length : Int), vu], []) (qk t u I1 J) = some (vi ((s + huf n l : Nat) : Int), qk t u I' J) ∧ FrA 275 0 60 I1 I' := by
  intro n
  induction n with
  | zero =>
    intro s l I1 hl H S P hs hb
    rw [e263_34]
    simp (disch := omega) only [↓reduceIte, lt_TI, lt_FI, le_TI, le_FI, eq_TI, eq_FI, lt_TN, lt_FN, le_TN, le_FN, eq_TN, eq_FN, and_self, and_true, true_and, and_false, false_and, or_true, true_or, or_false, false_or, not_true_eq_false, not_false_eq_true, wr_of, uI_at, uC_at, q_bi_s, q_bl_s, q_br_s, q_bv_s, Int.toNat_natCast, tn_1, tn_m, tn_n, Int.toNat_zero, Int.toNat_one]
    exact ⟨I1, rfl, FrA_rf⟩
  | succ n ih =>
    intro s l I1 hl H S P hs hb
    have ln := len_sum P
    have v1 := H (l.length - 1) (by omega)
    have v2 := H (l.length - 2) (by omega)
    rw [Nat.zero_add] at v1 v2
    have es := er_sum (l := l) (i := l.length - 1) (by omega)
    have el := er_len (l := l) (i := l.length - 1) (by omega)
    have g2 : (l.eraseIdx (l.length - 1)).getD (l.length - 2) 0 = l.getD (l.length - 2) 0 := by rw [gD_er, if_pos (by omega)]
    have es2 := er_sum (l := l.eraseIdx (l.length - 1)) (i := l.length - 2) (by omega)
    have el2 := er_len (l := l.eraseIdx (l.length - 1)) (i := l.length - 2) (by omega)
    rw [g2] at es2
    have ps2 := er_ps (er_ps P (l.length - 1)) (l.length - 2)
    have p1 := PS_gD P (show l.length - 1 < l.length by omega)
    have t1 : ((l.length : Int) - 1).toNat = l.length - 1 := by omega
    have t2 : ((l.length : Int) - 2).toNat = l.length - 2 := by omega
    have gb : ∀ j, ((l.eraseIdx (l.length - 1)).eraseIdx (l.length - 2)).getD j 0 = if j < l.length - 2 then l.getD j 0 else 0 := fun j => by
      by_cases q : j < l.length - 2
      · rw [if_pos q, gD_er, if_pos q, gD_er, if_pos (by omega)]
      · rw [if_neg q, gD_ge (by omega)]
    have psn : PS ((l.eraseIdx (l.length - 1)).eraseIdx (l.length - 2) ++ [l.getD (l.length - 1) 0 + l.getD (l.length - 2) 0]) := fun a ha => by
      rcases List.mem_append.mp ha with z | z
      · exact ps2 a z
      · rw [List.mem_singleton.mp z]; omega
    obtain ⟨I2, x1, x2, x3⟩ := c_sortOf (t := t) (u := u) (J := J) (I := uI (uI I1 275 (l.length - 1) 0) 275 (l.length - 2) ((l.getD (l.length - 1) 0 : Int) + (l.getD (l.length - 2) 0 : Int))) A275 (p := 0) (by omega) (L := (l.eraseIdx (l.length - 1)).eraseIdx (l.length - 2) ++ [l.getD (l.length - 1) 0 + l.getD (l.length - 2) 0]) (ys := ins (l.getD (l.length - 1) 0 + l.getD (l.length - 2) 0) ((l.eraseIdx (l.length - 1)).eraseIdx (l.length - 2))) (fun j hj => by
      rw [Nat.zero_add, gD_app, el2, el]
      by_cases q : j = l.length - 2
      · subst q
        rw [uI_at, if_pos ⟨rfl, rfl⟩, if_neg (by omega), show l.length - 2 - (l.length - 1 - 1) = 0 by omega, List.getD_cons_zero]; rfl
      · rw [uI_ne (Or.inr q)]
        by_cases q2 : j = l.length - 1
        · subst q2
          rw [uI_at, if_pos ⟨rfl, rfl⟩, if_neg (by omega), gD_ge (by simp; omega)]; rfl
        · rw [uI_ne (Or.inr q2)]
          have v := H j hj
          rw [Nat.zero_add] at v
          rw [v]
          by_cases q3 : j < l.length - 2
          · rw [if_pos (by omega), gb, if_pos q3]
          · rw [if_neg (by omega), gD_ge (l := [_]) (by simp; omega), gD_ge (by omega)]) (by rw [List.length_append, el2, el]; simp; omega) (fun j => by
      rw [gD_app]
      split
      · have := gD_sum (l := (l.eraseIdx (l.length - 1)).eraseIdx (l.length - 2)) j; omega
      · have := gD_sum (l := [l.getD (l.length - 1) 0 + l.getD (l.length - 2) 0]) (j - ((l.eraseIdx (l.length - 1)).eraseIdx (l.length - 2)).length)
        simp only [List.sum_cons, List.sum_nil] at this
        omega) (ins_sd _ _ (er_sd (er_sd S _) _)) (ins_ps (by omega) ps2) (by
      rw [pos_id psn]
      exact (ins_perm _ _).trans (List.perm_append_comm (l₁ := [_])))
    obtain ⟨I3, y1, y2⟩ := ih (s + (l.getD (l.length - 1) 0 + l.getD (l.length - 2) 0)) _ I2 (by rw [ins_len]; omega) x2 (ins_sd _ _ (er_sd (er_sd S _) _)) (ins_ps (by omega) ps2) (by rw [ins_sum]; omega) (by omega)
    refine ⟨I3, ?_, FrA_tr (FrA_uI (FrA_uI FrA_rf (by omega) (by omega)) (by omega) (by omega) : FrA 275 0 60 I1 _) (FrA_tr x3 y2 (l := 0) (u := 60) (by omega) (by omega) (by omega) (by omega)) (by omega) (by omega) (by omega) (by omega)⟩
    rw [show s + huf (n + 1) l = s + (l.getD (l.length - 1) 0 + l.getD (l.length - 2) 0) + huf n (ins (l.getD (l.length - 1) 0 + l.getD (l.length - 2) 0) ((l.eraseIdx (l.length - 1)).eraseIdx (l.length - 2))) by rw [Nat.add_assoc]; rfl]
    rw [← y1, ins_len, el2, el, e263_34]
    rw [Int.natCast_zero] at x1
    simp (disch := omega) only [↓reduceIte, lt_TI, lt_FI, le_TI, le_FI, eq_TI, eq_FI, lt_TN, lt_FN, le_TN, le_FN, eq_TN, eq_FN, and_self, and_true, true_and, and_false, false_and, or_true, true_or, or_false, false_or, not_true_eq_false, not_false_eq_true, wr_of, uI_at, uC_at, q_bi_s, q_bl_s, q_br_s, q_bv_s, Int.toNat_natCast, tn_1, tn_m, tn_n, Int.toNat_zero, Int.toNat_one, t1, t2, v1, v2, x1]
    rw [e263_90]
    simp (disch := omega) only [↓reduceIte, lt_TI, lt_FI, le_TI, le_FI, eq_TI, eq_FI, lt_TN, lt_FN, le_TN, le_FN, eq_TN, eq_FN, and_self, and_true, true_and, and_false, false_and, or_true, true_or, or_false, false_or, not_true_eq_false, not_false_eq_true, wr_of, uI_at, uC_at, q_bi_s, q_bl_s, q_br_s, q_bv_s, Int.toNat_natCast, tn_1, tn_m, tn_n, Int.toNat_zero, Int.toNat_one]
    rw [show ((l.length : Int) + -1) = ((l.length - 1 - 1 + 1 : Nat) : Int) by omega]
    rfl
theorem m_carry (V : MInv S I) (c : Int) : ∃ I', q_E (263, 0, [vr 265, vi c, vu, vu, vu], []) (qk t u I J) = some (vi (sp_carry S c).1, qk t u I' J) ∧ QM (sp_carry S c).2 I I' := by
  have A := MInv_A V
  have h4 := tC_4 V.1.1
  unfold sp_carry spC
  by_cases hc : isCl S c
  · simp only [if_pos hc]
    obtain ⟨m, rfl⟩ : ∃ m : Nat, c = (m : Int) := ⟨c.toNat, by omega⟩
    have r1 := m_cell_ok (t := t) (u := u) (J := J) A hc
    have hm : m < tC (sTo S) := by omega
    obtain ⟨H, ok⟩ := MQs_row A (show m < 4 by omega)
    obtain ⟨G, -⟩ := MQs_row V.1 (show m < 4 by omega)
    obtain ⟨o1, o2, o3⟩ := id ok
    have hl := HOk_len ok
    simp only [Int.toNat_natCast]
    obtain ⟨I1, x1, x2, x3⟩ := m_begin (t := t) (u := u) (J := J) A (show m < 4 by omega)
    have F1 := QF_fr QF_rf x3 (by omega) (by omega)
    have k1 := c_manyOf (t := t) (u := u) (J := J) A275 (p := 0) (by omega) x2.1 o2 hl
    rw [Int.natCast_zero] at k1
    have b1 : ∃ I', q_E (263, 34, [vr 265, vu, vi 0, vi (((sNw S).1 m).1.length : Int), vu], []) (qk t u I1 J) = some (vi (huf (((sNw S).1 m).1.length - 1) ((sNw S).1 m).1 : Int), qk t u I' J) ∧ FrA 275 0 60 I1 I' := by
      by_cases q : ((sNw S).1 m).1.length = 0
      · rw [e263_34, q]
        simp (disch := omega) only [↓reduceIte, lt_TI, lt_FI, le_TI, le_FI, eq_TI, eq_FI, lt_TN, lt_FN, le_TN, le_FN, eq_TN, eq_FN, and_self, and_true, true_and, and_false, false_and, or_true, true_or, or_false, false_or, not_true_eq_false, not_false_eq_true, wr_of, uI_at, uC_at, q_bi_s, q_bl_s, q_br_s, q_bv_s, Int.toNat_natCast, tn_1, tn_m, tn_n, Int.toNat_zero, Int.toNat_one, Int.natCast_zero]
        exact ⟨I1, rfl, FrA_rf⟩
      · obtain ⟨I2, y1, y2⟩ := m_carry_l (t := t) (u := u) (J := J) (k := 0) (((sNw S).1 m).1.length - 1) 0 ((sNw S).1 m).1 I1 (by omega) x2.1 o1 o2 (by omega) (by omega)
        rw [Nat.zero_add] at y1
        exact ⟨I2, y1, y2⟩
    obtain ⟨I2, b1, b2⟩ := b1
    have F := QF_fr F1 b2 (by omega) (by omega)
    simp (disch := omega) only [↓reduceIte, lt_TI, lt_FI, le_TI, le_FI, eq_TI, eq_FI, lt_TN, lt_FN, le_TN, le_FN, eq_TN, eq_FN, and_self, and_true, true_and, and_false, false_and, or_true, true_or, or_false, false_or, not_true_eq_false, not_false_eq_true, wr_of, uI_at, uC_at, q_bi_s, q_bl_s, q_br_s, q_bv_s, Int.toNat_natCast, tn_1, tn_m, tn_n, Int.toNat_zero, Int.toNat_one, r1, e177_0, e178_0, e263_0, e263_4, e263_90, e263_9, e263_17, e263_23, e263_33, x1, k1, b1]
    exact ⟨_, rfl, QM_ok F⟩
  · simp only [if_neg hc]
    have r1 := m_cell_no (t := t) (u := u) (J := J) A hc
    simp (disch := omega) only [↓reduceIte, lt_TI, lt_FI, le_TI, le_FI, eq_TI, eq_FI, lt_TN, lt_FN, le_TN, le_FN, eq_TN, eq_FN, and_self, and_true, true_and, and_false, false_and, or_true, true_or, or_false, false_or, not_true_eq_false, not_false_eq_true, wr_of, uI_at, uC_at, q_bi_s, q_bl_s, q_br_s, q_bv_s, Int.toNat_natCast, tn_1, tn_m, tn_n, Int.toNat_zero, Int.toNat_one, r1, e177_0, e178_0, e263_0, e263_4, e263_90, e263_9, e263_17, e263_23, e263_33]
    exact ⟨_, rfl, QM_no QF_rf⟩
theorem m_level (V : MInv S I) (c : Int) : ∃ I', q_E (264, 0, [vr 265, vi c, vu, vu, vu, vu, vu], []) (qk t u I J) = some (vi (sp_level S c).1, qk t u I' J) ∧ QM (sp_level S c).2 I I' := by
  have A := MInv_A V
  have h4 := tC_4 V.1.1
  unfold sp_level spC
  by_cases hc : isCl S c
  · simp only [if_pos hc]
    obtain ⟨m, rfl⟩ : ∃ m : Nat, c = (m : Int) := ⟨c.toNat, by omega⟩
    have r1 := m_cell_ok (t := t) (u := u) (J := J) A hc
    have hm : m < tC (sTo S) := by omega
    obtain ⟨H, ok⟩ := MQs_row A (show m < 4 by omega)
    obtain ⟨G, -⟩ := MQs_row V.1 (show m < 4 by omega)
    obtain ⟨o1, o2, o3⟩ := id ok
    have hl := HOk_len ok
    simp only [Int.toNat_natCast]
    have k1 := c_manyOf (t := t) (u := u) (J := J) A272 (p := 61 * m) (by omega) H.1 o2 hl
    have k2 := c_stonesOf (t := t) (u := u) (J := J) A272 (p := 61 * m) (by omega) H.1 hl (by omega)
    rw [c_61] at k1 k2
    by_cases q0 : ((sNw S).1 m).1.length = 0
    · have e0 : lev ((sNw S).1 m).1 = 0 := by unfold lev; rw [q0]; rfl
      rw [e0]
      rw [q0, Int.natCast_zero] at k1
      simp (disch := omega) only [↓reduceIte, lt_TI, lt_FI, le_TI, le_FI, eq_TI, eq_FI, lt_TN, lt_FN, le_TN, le_FN, eq_TN, eq_FN, and_self, and_true, true_and, and_false, false_and, or_true, true_or, or_false, false_or, not_true_eq_false, not_false_eq_true, wr_of, uI_at, uC_at, q_bi_s, q_bl_s, q_br_s, q_bv_s, Int.toNat_natCast, tn_1, tn_m, tn_n, Int.toNat_zero, Int.toNat_one, r1, e177_0, k1, e264_0, e264_4, e264_9, e264_17, e264_29, e264_47, Int.natCast_zero]
      exact ⟨_, rfl, QM_ok QF_rf⟩
    have e1 : Int.tdiv (((sNw S).1 m).1.sum : Int) (((sNw S).1 m).1.length : Int) = ((((sNw S).1 m).1.sum / ((sNw S).1 m).1.length : Nat) : Int) := (Int.ofNat_tdiv _ _).symm
    have e2 : Int.tmod (((sNw S).1 m).1.sum : Int) (((sNw S).1 m).1.length : Int) = ((((sNw S).1 m).1.sum % ((sNw S).1 m).1.length : Nat) : Int) := (Int.ofNat_tmod _ _).symm
    have b1 : ((sNw S).1 m).1.sum / ((sNw S).1 m).1.length ≤ ((sNw S).1 m).1.sum := Nat.div_le_self _ _
    have b2 : ((sNw S).1 m).1.sum % ((sNw S).1 m).1.length < ((sNw S).1 m).1.length := Nat.mod_lt _ (by omega)
    have b3 : ((sNw S).1 m).1.sum / ((sNw S).1 m).1.length ≤ 60 := by omega
    have b4 : ((sNw S).1 m).1.sum % ((sNw S).1 m).1.length ≤ 60 := by omega
    have el : lev ((sNw S).1 m).1 = (rg ((sNw S).1 m).1.length (fun i => ((sNw S).1 m).1.getD i 0 - (((sNw S).1 m).1.sum / ((sNw S).1 m).1.length + if i < ((sNw S).1 m).1.sum % ((sNw S).1 m).1.length then 1 else 0))).sum := rfl
    rw [el]
    generalize ((sNw S).1 m).1.sum / ((sNw S).1 m).1.length = q at b3 e1 ⊢
    generalize ((sNw S).1 m).1.sum % ((sNw S).1 m).1.length = o at b4 e2 ⊢
    clear b1 b2 el
    have bnd : ∀ n, n ≤ ((sNw S).1 m).1.length → (rg n (fun i => ((sNw S).1 m).1.getD i 0 - (q + if i < o then 1 else 0))).sum ≤ 60 := by
      intro n hn
      have a := rg_sum_le (n := n) (f := fun i => ((sNw S).1 m).1.getD i 0 - (q + if i < o then 1 else 0)) (g := fun i => ((sNw S).1 m).1.getD i 0) (fun i hi => Nat.sub_le _ _)
      have b := rg_mono (fun i => ((sNw S).1 m).1.getD i 0) hn
      rw [rg_id] at b
      omega
    have loop : ∀ r i : Nat, i + r = ((sNw S).1 m).1.length → q_E (264, 54, [vr 265, vi (m : Int), vi (((sNw S).1 m).1.length : Int), vi (((sNw S).1 m).1.sum : Int), vi ((rg i (fun i => ((sNw S).1 m).1.getD i 0 - (q + if i < o then 1 else 0))).sum : Int), vi (i : Int), vu], []) (qk t u (uI (uI I 265 0 0) 265 11 0) J) = some (vi ((rg ((sNw S).1 m).1.length (fun i => ((sNw S).1 m).1.getD i 0 - (q + if i < o then 1 else 0))).sum : Int), qk t u (uI (uI I 265 0 0) 265 11 0) J) := by
      intro r
      induction r with
      | zero =>
        intro i hi
        have e : i = ((sNw S).1 m).1.length := by omega
        rw [e264_54]
        simp (disch := omega) only [↓reduceIte, lt_TI, lt_FI, le_TI, le_FI, eq_TI, eq_FI, lt_TN, lt_FN, le_TN, le_FN, eq_TN, eq_FN, and_self, and_true, true_and, and_false, false_and, or_true, true_or, or_false, false_or, not_true_eq_false, not_false_eq_true, wr_of, uI_at, uC_at, q_bi_s, q_bl_s, q_br_s, q_bv_s, Int.toNat_natCast, tn_1, tn_m, tn_n, Int.toNat_zero, Int.toNat_one]
        rw [e]
      | succ r ih =>
        intro i hi
        have bi := bnd i (by omega)
        have v := G.1 i (by omega)
        have gb := gD_sum (l := ((sNw S).1 m).1) i
        have e := ih (i + 1) (by omega)
        rw [rg_sum_s] at e
        rw [e264_54]
        by_cases z : i < o
        · rw [if_pos z] at e
          by_cases y : q + 1 < ((sNw S).1 m).1.getD i 0
          · rw [show (((rg i (fun i => ((sNw S).1 m).1.getD i 0 - (q + if i < o then 1 else 0))).sum + (((sNw S).1 m).1.getD i 0 - (q + 1)) : Nat) : Int) = ((rg i (fun i => ((sNw S).1 m).1.getD i 0 - (q + if i < o then 1 else 0))).sum : Int) + ((((sNw S).1 m).1.getD i 0 : Int) - ((q : Int) + 1)) by omega] at e
            simp (disch := omega) only [↓reduceIte, lt_TI, lt_FI, le_TI, le_FI, eq_TI, eq_FI, lt_TN, lt_FN, le_TN, le_FN, eq_TN, eq_FN, and_self, and_true, true_and, and_false, false_and, or_true, true_or, or_false, false_or, not_true_eq_false, not_false_eq_true, wr_of, uI_at, uC_at, q_bi_s, q_bl_s, q_br_s, q_bv_s, Int.toNat_natCast, tn_1, tn_m, tn_n, Int.toNat_zero, Int.toNat_one, e1, e2, tn_61a, v]
            exact e
          · rw [show ((sNw S).1 m).1.getD i 0 - (q + 1) = 0 by omega, Nat.add_zero] at e
            simp (disch := omega) only [↓reduceIte, lt_TI, lt_FI, le_TI, le_FI, eq_TI, eq_FI, lt_TN, lt_FN, le_TN, le_FN, eq_TN, eq_FN, and_self, and_true, true_and, and_false, false_and, or_true, true_or, or_false, false_or, not_true_eq_false, not_false_eq_true, wr_of, uI_at, uC_at, q_bi_s, q_bl_s, q_br_s, q_bv_s, Int.toNat_natCast, tn_1, tn_m, tn_n, Int.toNat_zero, Int.toNat_one, e1, e2, tn_61a, v, Int.add_zero]
            exact e
        · rw [if_neg z, Nat.add_zero] at e
          by_cases y : q < ((sNw S).1 m).1.getD i 0
          · rw [show (((rg i (fun i => ((sNw S).1 m).1.getD i 0 - (q + if i < o then 1 else 0))).sum + (((sNw S).1 m).1.getD i 0 - q) : Nat) : Int) = ((rg i (fun i => ((sNw S).1 m).1.getD i 0 - (q + if i < o then 1 else 0))).sum : Int) + ((((sNw S).1 m).1.getD i 0 : Int) - (q : Int)) by omega] at e
            simp (disch := omega) only [↓reduceIte, lt_TI, lt_FI, le_TI, le_FI, eq_TI, eq_FI, lt_TN, lt_FN, le_TN, le_FN, eq_TN, eq_FN, and_self, and_true, true_and, and_false, false_and, or_true, true_or, or_false, false_or, not_true_eq_false, not_false_eq_true, wr_of, uI_at, uC_at, q_bi_s, q_bl_s, q_br_s, q_bv_s, Int.toNat_natCast, tn_1, tn_m, tn_n, Int.toNat_zero, Int.toNat_one, e1, e2, tn_61a, v, Int.add_zero]
            exact e
          · rw [show ((sNw S).1 m).1.getD i 0 - q = 0 by omega, Nat.add_zero] at e
            simp (disch := omega) only [↓reduceIte, lt_TI, lt_FI, le_TI, le_FI, eq_TI, eq_FI, lt_TN, lt_FN, le_TN, le_FN, eq_TN, eq_FN, and_self, and_true, true_and, and_false, false_and, or_true, true_or, or_false, false_or, not_true_eq_false, not_false_eq_true, wr_of, uI_at, uC_at, q_bi_s, q_bl_s, q_br_s, q_bv_s, Int.toNat_natCast, tn_1, tn_m, tn_n, Int.toNat_zero, Int.toNat_one, e1, e2, tn_61a, v, Int.add_zero]
            exact e
    have b5 := loop ((sNw S).1 m).1.length 0 (by omega)
    rw [Int.natCast_zero] at b5
    rw [show (rg 0 (fun i => ((sNw S).1 m).1.getD i 0 - (q + if i < o then 1 else 0))).sum = 0 from rfl, Int.natCast_zero] at b5
    simp (disch := omega) only [↓reduceIte, lt_TI, lt_FI, le_TI, le_FI, eq_TI, eq_FI, lt_TN, lt_FN, le_TN, le_FN, eq_TN, eq_FN, and_self, and_true, true_and, and_false, false_and, or_true, true_or, or_false, false_or, not_true_eq_false, not_false_eq_true, wr_of, uI_at, uC_at, q_bi_s, q_bl_s, q_br_s, q_bv_s, Int.toNat_natCast, tn_1, tn_m, tn_n, Int.toNat_zero, Int.toNat_one, r1, e177_0, e178_0, e264_0, e264_4, e264_9, e264_17, e264_29, e264_47, k1, k2, b5]
    exact ⟨_, rfl, QM_ok QF_rf⟩
  · simp only [if_neg hc]
    have r1 := m_cell_no (t := t) (u := u) (J := J) A hc
    simp (disch := omega) only [↓reduceIte, lt_TI, lt_FI, le_TI, le_FI, eq_TI, eq_FI, lt_TN, lt_FN, le_TN, le_FN, eq_TN, eq_FN, and_self, and_true, true_and, and_false, false_and, or_true, true_or, or_false, false_or, not_true_eq_false, not_false_eq_true, wr_of, uI_at, uC_at, q_bi_s, q_bl_s, q_br_s, q_bv_s, Int.toNat_natCast, tn_1, tn_m, tn_n, Int.toNat_zero, Int.toNat_one, r1, e177_0, e178_0, e264_0, e264_4, e264_9, e264_17, e264_29, e264_47]
    exact ⟨_, rfl, QM_no QF_rf⟩
theorem m_laySums {c : Nat} (hc : c < 4) {L : List Nat} (H : LA I 272 (61 * c) L) (P : PS L) (hl : L.length ≤ 60) (hs : L.sum ≤ 60) : ∃ I', q_E (265, 0, [vr 265, vi (c : Int), vu, vu, vu], []) (qk t u I J) = some (vu, qk t u I' J) ∧ (∀ n, n < 61 → I' 281 n = (fwi L L.length n : Int)) ∧ FrA 281 0 61 I I' := by
  have frm : ∀ I1, FrA 281 0 61 I I1 → LA I1 272 (61 * c) L := fun I1 F => LA_fr H F (by omega)
  have z1 : ∀ (r k : Nat) (I1 : Nat → Nat → Int), k + r = 61 → FrA 281 0 61 I I1 → (∀ i, i < k → I1 281 i = (fwi L 0 i : Int)) → ∃ I', q_E (265, 2, [vr 265, vi (c : Int), vi (k : Int), vu, vu], []) (qk t u I1 J) = q_E (265, 33, [vr 265, vi (c : Int), vi 0, vu, vu], []) (qk t u I' J) ∧ FrA 281 0 61 I I' ∧ ∀ i, i < 61 → I' 281 i = (fwi L 0 i : Int) := by
    intro r
    induction r with
    | zero =>
      intro k I1 hk F e
      rw [e265_2]
      simp (disch := omega) only [↓reduceIte, lt_TI, lt_FI, le_TI, le_FI, eq_TI, eq_FI, lt_TN, lt_FN, le_TN, le_FN, eq_TN, eq_FN, and_self, and_true, true_and, and_false, false_and, or_true, true_or, or_false, false_or, not_true_eq_false, not_false_eq_true, wr_of, uI_at, uC_at, q_bi_s, q_bl_s, q_br_s, q_bv_s, Int.toNat_natCast, tn_1, tn_m, tn_n, Int.toNat_zero, Int.toNat_one]
      exact ⟨I1, rfl, F, fun i hi => e i (by omega)⟩
    | succ r ih =>
      intro k I1 hk F e
      rw [e265_2]
      by_cases q : k = 0
      · subst q
        rw [Int.natCast_zero]
        simp (disch := omega) only [↓reduceIte, lt_TI, lt_FI, le_TI, le_FI, eq_TI, eq_FI, lt_TN, lt_FN, le_TN, le_FN, eq_TN, eq_FN, and_self, and_true, true_and, and_false, false_and, or_true, true_or, or_false, false_or, not_true_eq_false, not_false_eq_true, wr_of, uI_at, uC_at, q_bi_s, q_bl_s, q_br_s, q_bv_s, Int.toNat_natCast, tn_1, tn_m, tn_n, Int.toNat_zero, Int.toNat_one]
        exact ih 1 _ (by omega) (FrA_uI F (by omega) (by omega)) (fun i hi => by
          have : i = 0 := by omega
          subst this
          exact if_pos ⟨rfl, rfl⟩)
      · simp (disch := omega) only [↓reduceIte, lt_TI, lt_FI, le_TI, le_FI, eq_TI, eq_FI, lt_TN, lt_FN, le_TN, le_FN, eq_TN, eq_FN, and_self, and_true, true_and, and_false, false_and, or_true, true_or, or_false, false_or, not_true_eq_false, not_false_eq_true, wr_of, uI_at, uC_at, q_bi_s, q_bl_s, q_br_s, q_bv_s, Int.toNat_natCast, tn_1, tn_m, tn_n, Int.toNat_zero, Int.toNat_one]
        exact ih (k + 1) _ (by omega) (FrA_uI F (by omega) (by omega)) (fun i hi => by
          by_cases z : i = k
          · subst z
            have e0 : fwi L 0 i = 100000000 := if_neg q
            rw [e0]
            exact if_pos ⟨rfl, rfl⟩
          · rw [uI_ne (Or.inr z)]; exact e i (by omega))
  have z2 : ∀ i : Nat, i < L.length → ∀ (r k : Nat) (I1 : Nat → Nat → Int), r = k + 1 - L.getD i 0 → L.getD i 0 ≤ k + 1 → k ≤ 60 → FrA 281 0 61 I I1 → (∀ j, j < 61 → I1 281 j = if k < j then (fwi L (i + 1) j : Int) else (fwi L i j : Int)) → ∃ I', q_E (265, 55, [vr 265, vi (c : Int), vi (i : Int), vi (L.getD i 0 : Int), vi (k : Int)], []) (qk t u I1 J) = q_E (265, 33, [vr 265, vi (c : Int), vi ((i : Int) + 1), vu, vu], []) (qk t u I' J) ∧ FrA 281 0 61 I I' ∧ ∀ j, j < 61 → I' 281 j = (fwi L (i + 1) j : Int) := by
    intro i hi r
    have p := PS_gD P hi
    have gb := gD_sum (l := L) i
    have es : ∀ n, fwi L (i + 1) n = if L.getD i 0 ≤ n ∧ fwi L i (n - L.getD i 0) + 1 < fwi L i n then fwi L i (n - L.getD i 0) + 1 else fwi L i n := fun n => rfl
    induction r with
    | zero =>
      intro k I1 hk h1 h2 F e
      rw [e265_55]
      simp (disch := omega) only [↓reduceIte, lt_TI, lt_FI, le_TI, le_FI, eq_TI, eq_FI, lt_TN, lt_FN, le_TN, le_FN, eq_TN, eq_FN, and_self, and_true, true_and, and_false, false_and, or_true, true_or, or_false, false_or, not_true_eq_false, not_false_eq_true, wr_of, uI_at, uC_at, q_bi_s, q_bl_s, q_br_s, q_bv_s, Int.toNat_natCast, tn_1, tn_m, tn_n, Int.toNat_zero, Int.toNat_one]
      refine ⟨I1, rfl, F, fun j hj => ?_⟩
      rw [e j hj]
      by_cases q : k < j
      · rw [if_pos q]
      · rw [if_neg q, es, if_neg (fun z => by omega)]
    | succ r ih =>
      intro k I1 hk h1 h2 F e
      have v := e k (by omega)
      rw [if_neg (by omega)] at v
      have v2 := e (k - L.getD i 0) (by omega)
      rw [if_neg (by omega)] at v2
      have b1 := fwi_b L i k
      have b2 := fwi_b L i (k - L.getD i 0)
      have t1 : ((k : Int) - (L.getD i 0 : Int)).toNat = k - L.getD i 0 := by omega
      have go : ∀ I2 : Nat → Nat → Int, FrA 281 0 61 I I2 → (∀ j, j < 61 → I2 281 j = if k ≤ j then (fwi L (i + 1) j : Int) else (fwi L i j : Int)) → ∃ I', q_E (265, 55, [vr 265, vi (c : Int), vi (i : Int), vi (L.getD i 0 : Int), vi ((k : Int) + -1)], []) (qk t u I2 J) = q_E (265, 33, [vr 265, vi (c : Int), vi ((i : Int) + 1), vu, vu], []) (qk t u I' J) ∧ FrA 281 0 61 I I' ∧ ∀ j, j < 61 → I' 281 j = (fwi L (i + 1) j : Int) := by
        intro I2 F2 e2
        have en := ih (k - 1) I2 (by omega) (by omega) (by omega) F2 (fun j hj => by
          rw [e2 j hj]
          by_cases y : k ≤ j
          · rw [if_pos y, if_pos (by omega)]
          · rw [if_neg y, if_neg (by omega)])
        rw [show (((k - 1 : Nat) : Int)) = (k : Int) + -1 by omega] at en
        exact en
      rw [e265_55]
      by_cases w : fwi L i (k - L.getD i 0) + 1 < fwi L i k
      · simp (disch := omega) only [↓reduceIte, lt_TI, lt_FI, le_TI, le_FI, eq_TI, eq_FI, lt_TN, lt_FN, le_TN, le_FN, eq_TN, eq_FN, and_self, and_true, true_and, and_false, false_and, or_true, true_or, or_false, false_or, not_true_eq_false, not_false_eq_true, wr_of, uI_at, uC_at, q_bi_s, q_bl_s, q_br_s, q_bv_s, Int.toNat_natCast, tn_1, tn_m, tn_n, Int.toNat_zero, Int.toNat_one, t1, v, v2]
        refine go _ (FrA_uI F (by omega) (by omega)) (fun j hj => ?_)
        by_cases z : j = k
        · subst z
          rw [uI_at, if_pos ⟨rfl, rfl⟩, if_pos (Nat.le_refl _), es, if_pos ⟨by omega, w⟩]; rfl
        · rw [uI_ne (Or.inr z), e j hj]
          by_cases y : k < j
          · rw [if_pos y, if_pos (by omega)]
          · rw [if_neg y, if_neg (by omega)]
      · simp (disch := omega) only [↓reduceIte, lt_TI, lt_FI, le_TI, le_FI, eq_TI, eq_FI, lt_TN, lt_FN, le_TN, le_FN, eq_TN, eq_FN, and_self, and_true, true_and, and_false, false_and, or_true, true_or, or_false, false_or, not_true_eq_false, not_false_eq_true, wr_of, uI_at, uC_at, q_bi_s, q_bl_s, q_br_s, q_bv_s, Int.toNat_natCast, tn_1, tn_m, tn_n, Int.toNat_zero, Int.toNat_one, t1, v, v2]
        refine go _ F (fun j hj => ?_)
        by_cases z : j = k
        · subst z
          rw [v, if_pos (Nat.le_refl _), es, if_neg (fun y => w y.2)]
        · rw [e j hj]
          by_cases y : k < j
          · rw [if_pos y, if_pos (by omega)]
          · rw [if_neg y, if_neg (by omega)]
  have z3 : ∀ (r i : Nat) (I1 : Nat → Nat → Int), i + r = 60 → FrA 281 0 61 I I1 → (∀ j, j < 61 → I1 281 j = (fwi L (min i L.length) j : Int)) → ∃ I', q_E (265, 33, [vr 265, vi (c : Int), vi (i : Int), vu, vu], []) (qk t u I1 J) = some (vu, qk t u I' J) ∧ (∀ n, n < 61 → I' 281 n = (fwi L L.length n : Int)) ∧ FrA 281 0 61 I I' := by
    intro r
    induction r with
    | zero =>
      intro i I1 hi F e
      rw [e265_33]
      simp (disch := omega) only [↓reduceIte, lt_TI, lt_FI, le_TI, le_FI, eq_TI, eq_FI, lt_TN, lt_FN, le_TN, le_FN, eq_TN, eq_FN, and_self, and_true, true_and, and_false, false_and, or_true, true_or, or_false, false_or, not_true_eq_false, not_false_eq_true, wr_of, uI_at, uC_at, q_bi_s, q_bl_s, q_br_s, q_bv_s, Int.toNat_natCast, tn_1, tn_m, tn_n, Int.toNat_zero, Int.toNat_one]
      exact ⟨I1, rfl, fun j hj => by rw [e j hj, show min i L.length = L.length by omega], F⟩
    | succ r ih =>
      intro i I1 hi F e
      have v := frm I1 F i (by omega)
      have gb := gD_sum (l := L) i
      rw [e265_33]
      by_cases q : i < L.length
      · rw [show min i L.length = i by omega] at e
        obtain ⟨I2, x1, x2, x3⟩ := z2 i q (61 - L.getD i 0) 60 I1 (by omega) (by omega) (by omega) F (fun j hj => by rw [if_neg (by omega)]; exact e j hj)
        rw [show ((60 : Nat) : Int) = 60 from rfl] at x1
        simp (disch := omega) only [↓reduceIte, lt_TI, lt_FI, le_TI, le_FI, eq_TI, eq_FI, lt_TN, lt_FN, le_TN, le_FN, eq_TN, eq_FN, and_self, and_true, true_and, and_false, false_and, or_true, true_or, or_false, false_or, not_true_eq_false, not_false_eq_true, wr_of, uI_at, uC_at, q_bi_s, q_bl_s, q_br_s, q_bv_s, Int.toNat_natCast, tn_1, tn_m, tn_n, Int.toNat_zero, Int.toNat_one, tn_61a, v, x1]
        exact ih (i + 1) I2 (by omega) x2 (fun j hj => by rw [show min (i + 1) L.length = i + 1 by omega]; exact x3 j hj)
      · rw [gD_ge (by omega), Int.natCast_zero] at v
        simp (disch := omega) only [↓reduceIte, lt_TI, lt_FI, le_TI, le_FI, eq_TI, eq_FI, lt_TN, lt_FN, le_TN, le_FN, eq_TN, eq_FN, and_self, and_true, true_and, and_false, false_and, or_true, true_or, or_false, false_or, not_true_eq_false, not_false_eq_true, wr_of, uI_at, uC_at, q_bi_s, q_bl_s, q_br_s, q_bv_s, Int.toNat_natCast, tn_1, tn_m, tn_n, Int.toNat_zero, Int.toNat_one, tn_61a, v]
        rw [e265_55]
        simp (disch := omega) only [↓reduceIte, lt_TI, lt_FI, le_TI, le_FI, eq_TI, eq_FI, lt_TN, lt_FN, le_TN, le_FN, eq_TN, eq_FN, and_self, and_true, true_and, and_false, false_and, or_true, true_or, or_false, false_or, not_true_eq_false, not_false_eq_true, wr_of, uI_at, uC_at, q_bi_s, q_bl_s, q_br_s, q_bv_s, Int.toNat_natCast, tn_1, tn_m, tn_n, Int.toNat_zero, Int.toNat_one]
        exact ih (i + 1) I1 (by omega) F (fun j hj => by rw [show min (i + 1) L.length = min i L.length by omega]; exact e j hj)
  obtain ⟨I1, x1, x2, x3⟩ := z1 61 0 I (by omega) FrA_rf (fun i hi => by omega)
  obtain ⟨I2, y1, y2, y3⟩ := z3 60 0 I1 (by omega) x2 (fun j hj => by rw [Nat.zero_min]; exact x3 j hj)
  rw [Int.natCast_zero] at x1 y1
  rw [e265_0, x1]
  exact ⟨I2, y1, y2, y3⟩
theorem fwi_0 {l : List Nat} (P : PS l) : ∀ i, i ≤ l.length → fwi l i 0 = 0
  | 0, _ => rfl
  | i + 1, h => by
    have p := PS_gD P (show i < l.length by omega)
    unfold fwi
    rw [if_neg (fun z => by omega)]
    exact fwi_0 P i (by omega)
theorem m_makes (V : MInv S I) (c n : Int) : ∃ I', q_E (266, 0, [vr 265, vi c, vi n, vu], []) (qk t u I J) = some (vi (sp_makes S c n).1, qk t u I' J) ∧ QM (sp_makes S c n).2 I I' := by
  have A := MInv_A V
  have h4 := tC_4 V.1.1
  unfold sp_makes spN
  by_cases hc : isCl S c
  · simp only [if_pos hc]
    obtain ⟨m, rfl⟩ : ∃ m : Nat, c = (m : Int) := ⟨c.toNat, by omega⟩
    have r1 := m_cell_ok (t := t) (u := u) (J := J) A hc
    have hm : m < tC (sTo S) := by omega
    obtain ⟨H, ok⟩ := MQs_row A (show m < 4 by omega)
    obtain ⟨G, -⟩ := MQs_row V.1 (show m < 4 by omega)
    obtain ⟨o1, o2, o3⟩ := id ok
    have hl := HOk_len ok
    simp only [Int.toNat_natCast]
    by_cases hn : 0 ≤ n ∧ n ≤ 60
    · simp only [if_pos hn]
      obtain ⟨hn1, hn2⟩ := hn
      obtain ⟨j, rfl⟩ : ∃ j : Nat, n = (j : Int) := ⟨n.toNat, by omega⟩
      simp only [Int.toNat_natCast]
      obtain ⟨I1, x1, x2, x3⟩ := m_laySums (t := t) (u := u) (J := J) (show m < 4 by omega) H.1 o2 hl (by omega)
      have v := x2 j (by omega)
      have fb := fwi_b ((sNw S).1 m).1 ((sNw S).1 m).1.length j
      have F := QF_fr QF_rf x3 (by omega) (by omega)
      unfold enc
      by_cases q : 100000000 ≤ fwi ((sNw S).1 m).1 ((sNw S).1 m).1.length j
      · simp only [if_pos q]
        simp (disch := omega) only [↓reduceIte, lt_TI, lt_FI, le_TI, le_FI, eq_TI, eq_FI, lt_TN, lt_FN, le_TN, le_FN, eq_TN, eq_FN, and_self, and_true, true_and, and_false, false_and, or_true, true_or, or_false, false_or, not_true_eq_false, not_false_eq_true, wr_of, uI_at, uC_at, q_bi_s, q_bl_s, q_br_s, q_bv_s, Int.toNat_natCast, tn_1, tn_m, tn_n, Int.toNat_zero, Int.toNat_one, r1, e177_0, e212_0, n_ok, k21, x1, v, e266_0, e266_4, e266_10, e266_17, e266_20, e266_36, e266_30]
        exact ⟨_, rfl, QM_ok F⟩
      simp only [if_neg q]
      simp (disch := omega) only [↓reduceIte, lt_TI, lt_FI, le_TI, le_FI, eq_TI, eq_FI, lt_TN, lt_FN, le_TN, le_FN, eq_TN, eq_FN, and_self, and_true, true_and, and_false, false_and, or_true, true_or, or_false, false_or, not_true_eq_false, not_false_eq_true, wr_of, uI_at, uC_at, q_bi_s, q_bl_s, q_br_s, q_bv_s, Int.toNat_natCast, tn_1, tn_m, tn_n, Int.toNat_zero, Int.toNat_one, r1, e177_0, e178_0, e212_0, e227_0, e227_6, e227_14, e227_17, k21, n_ok, n_no, e266_0, e266_4, e266_10, e266_17, e266_20, e266_36, e266_30, x1, v]
      exact ⟨_, rfl, QM_ok F⟩
    · simp only [if_neg hn]
      simp (disch := omega) only [↓reduceIte, lt_TI, lt_FI, le_TI, le_FI, eq_TI, eq_FI, lt_TN, lt_FN, le_TN, le_FN, eq_TN, eq_FN, and_self, and_true, true_and, and_false, false_and, or_true, true_or, or_false, false_or, not_true_eq_false, not_false_eq_true, wr_of, uI_at, uC_at, q_bi_s, q_bl_s, q_br_s, q_bv_s, Int.toNat_natCast, tn_1, tn_m, tn_n, Int.toNat_zero, Int.toNat_one, r1, e177_0, e178_0, e212_0, e227_0, e227_6, e227_14, e227_17, k21, n_ok, n_no, e266_0, e266_4, e266_10, e266_17, e266_20, e266_36, e266_30]
      exact ⟨_, rfl, QM_no QF_rf⟩
  · simp only [if_neg hc]
    have r1 := m_cell_no (t := t) (u := u) (J := J) A hc
    by_cases hn : 0 ≤ n ∧ n ≤ 60
    · simp (disch := omega) only [↓reduceIte, lt_TI, lt_FI, le_TI, le_FI, eq_TI, eq_FI, lt_TN, lt_FN, le_TN, le_FN, eq_TN, eq_FN, and_self, and_true, true_and, and_false, false_and, or_true, true_or, or_false, false_or, not_true_eq_false, not_false_eq_true, wr_of, uI_at, uC_at, q_bi_s, q_bl_s, q_br_s, q_bv_s, Int.toNat_natCast, tn_1, tn_m, tn_n, Int.toNat_zero, Int.toNat_one, r1, e177_0, e178_0, e212_0, e227_0, e227_6, e227_14, e227_17, k21, n_ok, n_no, e266_0, e266_4, e266_10, e266_17, e266_20, e266_36, e266_30]
      exact ⟨_, rfl, QM_no QF_rf⟩
    · simp (disch := omega) only [↓reduceIte, lt_TI, lt_FI, le_TI, le_FI, eq_TI, eq_FI, lt_TN, lt_FN, le_TN, le_FN, eq_TN, eq_FN, and_self, and_true, true_and, and_false, false_and, or_true, true_or, or_false, false_or, not_true_eq_false, not_false_eq_true, wr_of, uI_at, uC_at, q_bi_s, q_bl_s, q_br_s, q_bv_s, Int.toNat_natCast, tn_1, tn_m, tn_n, Int.toNat_zero, Int.toNat_one, r1, e177_0, e178_0, e212_0, e227_0, e227_6, e227_14, e227_17, k21, n_ok, n_no, e266_0, e266_4, e266_10, e266_17, e266_20, e266_36, e266_30]
      exact ⟨_, rfl, QM_no QF_rf⟩
theorem m_half (V : MInv S I) (c : Int) : ∃ I', q_E (267, 0, [vr 265, vi c, vu], []) (qk t u I J) = some (vi (sp_half S c).1, qk t u I' J) ∧ QM (sp_half S c).2 I I' := by
  have A := MInv_A V
  have h4 := tC_4 V.1.1
  unfold sp_half spC
  by_cases hc : isCl S c
  · simp only [if_pos hc]
    obtain ⟨m, rfl⟩ : ∃ m : Nat, c = (m : Int) := ⟨c.toNat, by omega⟩
    have r1 := m_cell_ok (t := t) (u := u) (J := J) A hc
    have hm : m < tC (sTo S) := by omega
    obtain ⟨H, ok⟩ := MQs_row A (show m < 4 by omega)
    obtain ⟨G, -⟩ := MQs_row V.1 (show m < 4 by omega)
    obtain ⟨o1, o2, o3⟩ := id ok
    have hl := HOk_len ok
    simp only [Int.toNat_natCast]
    obtain ⟨I1, x1, x2, x3⟩ := m_laySums (t := t) (u := u) (J := J) (show m < 4 by omega) H.1 o2 hl (by omega)
    have F := QF_fr QF_rf x3 (by omega) (by omega)
    have k2 := c_stonesOf (t := t) (u := u) (J := J) A272 (p := 61 * m) (by omega) (LA_fr H.1 x3 (by omega)) hl (by omega)
    rw [c_61] at k2
    have e1 : Int.tdiv (((sNw S).1 m).1.sum : Int) 2 = ((((sNw S).1 m).1.sum / 2 : Nat) : Int) := (Int.ofNat_tdiv _ _).symm
    have loop : ∀ p : Nat, p ≤ 60 → q_E (267, 37, [vr 265, vu, vi (p : Int)], []) (qk t u I1 J) = some (vi (hal (fwi ((sNw S).1 m).1 ((sNw S).1 m).1.length) p : Int), qk t u I1 J) := by
      intro p
      induction p with
      | zero =>
        intro hp
        have v := x2 0 (by omega)
        rw [fwi_0 o2 _ (Nat.le_refl _), Int.natCast_zero] at v
        rw [e267_37, Int.natCast_zero]
        simp (disch := omega) only [↓reduceIte, lt_TI, lt_FI, le_TI, le_FI, eq_TI, eq_FI, lt_TN, lt_FN, le_TN, le_FN, eq_TN, eq_FN, and_self, and_true, true_and, and_false, false_and, or_true, true_or, or_false, false_or, not_true_eq_false, not_false_eq_true, wr_of, uI_at, uC_at, q_bi_s, q_bl_s, q_br_s, q_bv_s, Int.toNat_natCast, tn_1, tn_m, tn_n, Int.toNat_zero, Int.toNat_one, v]
        rfl
      | succ p ih =>
        intro hp
        have v := x2 (p + 1) (by omega)
        have fb := fwi_b ((sNw S).1 m).1 ((sNw S).1 m).1.length (p + 1)
        have eh : hal (fwi ((sNw S).1 m).1 ((sNw S).1 m).1.length) (p + 1) = if 100000000 ≤ fwi ((sNw S).1 m).1 ((sNw S).1 m).1.length (p + 1) then hal (fwi ((sNw S).1 m).1 ((sNw S).1 m).1.length) p else p + 1 := rfl
        rw [eh, e267_37]
        by_cases q : 100000000 ≤ fwi ((sNw S).1 m).1 ((sNw S).1 m).1.length (p + 1)
        · rw [if_pos q]
          simp (disch := omega) only [↓reduceIte, lt_TI, lt_FI, le_TI, le_FI, eq_TI, eq_FI, lt_TN, lt_FN, le_TN, le_FN, eq_TN, eq_FN, and_self, and_true, true_and, and_false, false_and, or_true, true_or, or_false, false_or, not_true_eq_false, not_false_eq_true, wr_of, uI_at, uC_at, q_bi_s, q_bl_s, q_br_s, q_bv_s, Int.toNat_natCast, tn_1, tn_m, tn_n, Int.toNat_zero, Int.toNat_one, v]
          rw [show (((p + 1 : Nat) : Int) + -1) = (p : Int) by omega]
          exact ih (by omega)
        · rw [if_neg q]
          simp (disch := omega) only [↓reduceIte, lt_TI, lt_FI, le_TI, le_FI, eq_TI, eq_FI, lt_TN, lt_FN, le_TN, le_FN, eq_TN, eq_FN, and_self, and_true, true_and, and_false, false_and, or_true, true_or, or_false, false_or, not_true_eq_false, not_false_eq_true, wr_of, uI_at, uC_at, q_bi_s, q_bl_s, q_br_s, q_bv_s, Int.toNat_natCast, tn_1, tn_m, tn_n, Int.toNat_zero, Int.toNat_one, v]
    have b1 := loop (((sNw S).1 m).1.sum / 2) (by omega)
    simp (disch := omega) only [↓reduceIte, lt_TI, lt_FI, le_TI, le_FI, eq_TI, eq_FI, lt_TN, lt_FN, le_TN, le_FN, eq_TN, eq_FN, and_self, and_true, true_and, and_false, false_and, or_true, true_or, or_false, false_or, not_true_eq_false, not_false_eq_true, wr_of, uI_at, uC_at, q_bi_s, q_bl_s, q_br_s, q_bv_s, Int.toNat_natCast, tn_1, tn_m, tn_n, Int.toNat_zero, Int.toNat_one, r1, e177_0, e178_0, e267_0, e267_4, e267_9, e267_17, e267_23, e267_34, x1, k2, e1, b1]
    exact ⟨_, rfl, QM_ok F⟩
  · simp only [if_neg hc]
    have r1 := m_cell_no (t := t) (u := u) (J := J) A hc
    simp (disch := omega) only [↓reduceIte, lt_TI, lt_FI, le_TI, le_FI, eq_TI, eq_FI, lt_TN, lt_FN, le_TN, le_FN, eq_TN, eq_FN, and_self, and_true, true_and, and_false, false_and, or_true, true_or, or_false, false_or, not_true_eq_false, not_false_eq_true, wr_of, uI_at, uC_at, q_bi_s, q_bl_s, q_br_s, q_bv_s, Int.toNat_natCast, tn_1, tn_m, tn_n, Int.toNat_zero, Int.toNat_one, r1, e177_0, e178_0, e267_0, e267_4, e267_9, e267_17, e267_23, e267_34]
    exact ⟨_, rfl, QM_no QF_rf⟩
end

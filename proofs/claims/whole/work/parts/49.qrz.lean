/-! the class's queries, the harder ones -/
theorem fwst_min (f : Nat → Nat) : ∀ n i, i ≤ n → (fwst f n).2 ≤ f i
  | 0, i, h => by have : i = 0 := by omega
                  subst this; exact Nat.le_refl _
  | n + 1, i, h => by
    unfold fwst
    by_cases q : i = n + 1
    · subst q; split <;> omega
    · have := fwst_min f n i (by omega)
      split <;> omega
theorem fwst_stop {f : Nat → Nat} {n : Nat} : ∀ k, (∀ i, n < i → i ≤ n + k → (fwst f n).2 ≤ f i) → fwst f (n + k) = fwst f n
  | 0, _ => rfl
  | k + 1, h => by
    have a := fwst_stop k (fun i h1 h2 => h i h1 (by omega))
    show (if f (n + k + 1) < (fwst f (n + k)).2 then (n + k + 1, f (n + k + 1)) else fwst f (n + k)) = _
    have b := h (n + k + 1) (by omega) (by omega)
    rw [a, if_neg (by omega)]
section
variable {t u : Nat} {I J : Nat → Nat → Int} {S : St}
theorem k_cellar (V : CInv S t u I) (c w : Int) : ∃ I', q_E (106, 0, [vr 1, vi c, vi w, vu], []) (qk t u I J) = some (vi (sp_cellar S c w).1, qk t u I' J) ∧ QC (sp_cellar S c w).2 I I' := by
  obtain ⟨V2, e9, k18⟩ := CInv_qi V 0
  have h4 := tC_4 V.1
  have ht := V2.2.2.1
  have VT := V.2.2.2.2.2.2.2.1
  unfold sp_cellar
  by_cases hc : isCl S c
  · obtain ⟨hc1, hc2⟩ := id hc
    obtain ⟨m, rfl⟩ : ∃ m : Nat, c = (m : Int) := ⟨c.toNat, by omega⟩
    have hm : m < tC (sTo S) := by omega
    have H := V.2.2.2.2.2.2.2.2.1.2.2 m (by omega)
    obtain ⟨o1, o2, o3⟩ := V.1.2.1.1 m
    have H0 := H.1.1
    have H1 := H.2.1
    have H2 := H.2.2.1
    have rn := R_now t u m (by omega)
    have r1 := h_cell_ok (u := u) (J := J) k18 e9 hc1 hc2
    obtain ⟨n1, n2⟩ := VT.1.2.2.2.1 0 (by omega)
    have l1 := VT.1.2.2.2.2.1.1
    have ll := VT.2.2.2.2.2.2.2.1 m hm
    have K1 : Kp 1 1 I (uI I 1 10 0) := Kp_uI Kp_rf (by omega) (by omega)
    have s1 := c_stones (t := t) (u := u) (J := J) (HAt_kp H K1 (by omega)) (show ((sNw S).1 m).1.sum + ((sNw S).1 m).2 ≤ 1000 by omega)
    have s2 := c_heightAt (t := t) (u := u) (J := J) (HAt_kp H K1 (by omega)) 0
    rw [Int.natCast_zero] at s2
    simp only [Int.toNat_natCast]
    by_cases hw : 0 ≤ w ∧ w ≤ 4
    · obtain ⟨hw1, hw2⟩ := hw
      simp only [if_pos (show isCl S (m : Int) ∧ 0 ≤ w ∧ w ≤ 4 from ⟨hc, hw1, hw2⟩)]
      have : w = 0 ∨ w = 1 ∨ w = 2 ∨ w = 3 ∨ w = 4 := by omega
      rcases this with z | z | z | z | z <;> subst z <;> simp (disch := omega) only [↓reduceIte, lt_TI, lt_FI, le_TI, le_FI, eq_TI, eq_FI, lt_TN, lt_FN, le_TN, le_FN, eq_TN, eq_FN, and_self, and_true, true_and, and_false, false_and, or_true, true_or, or_false, false_or, not_true_eq_false, not_false_eq_true, wr_of, uI_at, uC_at, q_bi_s, q_bl_s, q_br_s, q_bv_s, Int.toNat_natCast, tn_1, tn_m, tn_n, Int.toNat_zero, Int.toNat_one, e106_0, e106_7, e106_27, e106_91, e106_97, k20, e160_0, r1, k18, n1, n2, Nat.add_zero, l1, ll, rn, H0, H1, H2, s1, s2] <;> exact ⟨_, rfl, QC_rf⟩
    · simp only [if_neg (show ¬ (isCl S (m : Int) ∧ 0 ≤ w ∧ w ≤ 4) from fun z => hw ⟨z.2.1, z.2.2⟩)]
      rcases Classical.em (w < 0) with z | z <;> simp (disch := omega) only [↓reduceIte, lt_TI, lt_FI, le_TI, le_FI, eq_TI, eq_FI, lt_TN, lt_FN, le_TN, le_FN, eq_TN, eq_FN, and_self, and_true, true_and, and_false, false_and, or_true, true_or, or_false, false_or, not_true_eq_false, not_false_eq_true, wr_of, uI_at, uC_at, q_bi_s, q_bl_s, q_br_s, q_bv_s, Int.toNat_natCast, tn_1, tn_m, tn_n, Int.toNat_zero, Int.toNat_one, e106_0, e106_7, e106_27, e106_91, e106_97, k20, e160_0, r1] <;> exact ⟨_, rfl, QC_rf⟩
  · simp only [if_neg (show ¬ (isCl S c ∧ 0 ≤ w ∧ w ≤ 4) from fun z => hc z.1)]
    have r1 := h_cell_no (c := c) (u := u) (J := J) k18 e9 (by omega)
    simp (disch := omega) only [↓reduceIte, lt_TI, lt_FI, le_TI, le_FI, eq_TI, eq_FI, lt_TN, lt_FN, le_TN, le_FN, eq_TN, eq_FN, and_self, and_true, true_and, and_false, false_and, or_true, true_or, or_false, false_or, not_true_eq_false, not_false_eq_true, wr_of, uI_at, uC_at, q_bi_s, q_bl_s, q_br_s, q_bv_s, Int.toNat_natCast, tn_1, tn_m, tn_n, Int.toNat_zero, Int.toNat_one, e106_0, e106_7, e106_27, e106_91, e106_97, k20, e160_0, r1]
    exact ⟨_, rfl, QC_rf⟩
theorem k_heap (V : CInv S t u I) (c i : Int) : ∃ I', q_E (107, 0, [vr 1, vi c, vi i], []) (qk t u I J) = some (vi (sp_heap S c i).1, qk t u I' J) ∧ QC (sp_heap S c i).2 I I' := by
  have h4 := tC_4 V.1
  obtain ⟨a1, a2⟩ := h_heap (u := u) (J := J) (c := c) (i := i) V
  unfold sp_heap
  by_cases h : isHp S c i
  · obtain ⟨b1, b2, b3, b4⟩ := id h
    simp only [if_pos h]
    obtain ⟨m, rfl⟩ : ∃ m : Nat, c = (m : Int) := ⟨c.toNat, by omega⟩
    obtain ⟨j, rfl⟩ : ∃ j : Nat, i = (j : Int) := ⟨i.toNat, by omega⟩
    have K1 : Kp 1 1 I (uI I 1 10 0) := Kp_uI Kp_rf (by omega) (by omega)
    have H := HAt_kp (V.2.2.2.2.2.2.2.2.1.2.2 m (by omega)) K1 (by omega)
    have H0 := H.1.1
    have rn := R_now t u m (by omega)
    have g := c_heightAt (t := t) (u := u) (J := J) H j
    simp (disch := omega) only [↓reduceIte, lt_TI, lt_FI, le_TI, le_FI, eq_TI, eq_FI, lt_TN, lt_FN, le_TN, le_FN, eq_TN, eq_FN, and_self, and_true, true_and, and_false, false_and, or_true, true_or, or_false, false_or, not_true_eq_false, not_false_eq_true, wr_of, uI_at, uC_at, q_bi_s, q_bl_s, q_br_s, q_bv_s, Int.toNat_natCast, tn_1, tn_m, tn_n, Int.toNat_zero, Int.toNat_one, e107_0, e107_8, e107_19, e107_37, k20, e160_0, a1 h, rn, H0, g]
    exact ⟨_, rfl, QC_rf⟩
  · simp only [if_neg h]
    simp (disch := omega) only [↓reduceIte, lt_TI, lt_FI, le_TI, le_FI, eq_TI, eq_FI, lt_TN, lt_FN, le_TN, le_FN, eq_TN, eq_FN, and_self, and_true, true_and, and_false, false_and, or_true, true_or, or_false, false_or, not_true_eq_false, not_false_eq_true, wr_of, uI_at, uC_at, q_bi_s, q_bl_s, q_br_s, q_bv_s, Int.toNat_natCast, tn_1, tn_m, tn_n, Int.toNat_zero, Int.toNat_one, e107_0, e107_8, e107_19, e107_37, k20, e160_0, a2 h]
    exact ⟨_, rfl, QC_rf⟩
theorem k_heapIn (V : CInv S t u I) (c n i : Int) : ∃ I', q_E (111, 0, [vr 1, vi c, vi n, vi i], []) (qk t u I J) = some (vi (sp_heapIn S c n i).1, qk t u I' J) ∧ QC (sp_heapIn S c n i).2 I I' := by
  obtain ⟨V2, e9, k18⟩ := CInv_qi V 0
  unfold sp_heapIn
  by_cases hc : isCl S c
  · simp only [if_pos hc]
    obtain ⟨hc1, hc2⟩ := hc
    obtain ⟨m, rfl⟩ : ∃ m : Nat, c = (m : Int) := ⟨c.toNat, by omega⟩
    have hm : m < tC (sTo S) := by omega
    have r1 := r_cell_ok (u := u) (J := J) k18 e9 hc1 hc2
    by_cases hn : 0 ≤ n ∧ n ≤ 999
    · simp only [if_pos hn]
      obtain ⟨hn1, hn2⟩ := hn
      obtain ⟨j, rfl⟩ : ∃ j : Nat, n = (j : Int) := ⟨n.toNat, by omega⟩
      by_cases hi : 0 ≤ i ∧ i ≤ 59
      · simp only [if_pos hi]
        obtain ⟨hi1, hi2⟩ := hi
        obtain ⟨k, rfl⟩ : ∃ k : Nat, i = (k : Int) := ⟨i.toNat, by omega⟩
        simp only [Int.toNat_natCast]
        obtain ⟨I', b1, b3, b2⟩ := c_behind (u := u) (J := J) (n := j) V2 hm (by omega)
        have B0 := b3.1.1
        have g0 := c_heightAt (t := t) (u := u) (J := J) b3 k
        simp (disch := omega) only [↓reduceIte, lt_TI, lt_FI, le_TI, le_FI, eq_TI, eq_FI, lt_TN, lt_FN, le_TN, le_FN, eq_TN, eq_FN, and_self, and_true, true_and, and_false, false_and, or_true, true_or, or_false, false_or, not_true_eq_false, not_false_eq_true, wr_of, uI_at, uC_at, q_bi_s, q_bl_s, q_br_s, q_bv_s, Int.toNat_natCast, tn_1, tn_m, tn_n, Int.toNat_zero, Int.toNat_one, r1, e111_0, e111_5, e111_16, e111_26, e111_37, e111_41, r_num_ok, uI_uI, b1, B0, g0]
        exact ⟨I', rfl, QC_kp b2 (by omega) (by omega)⟩
      · simp only [if_neg hi]
        simp (disch := omega) only [↓reduceIte, lt_TI, lt_FI, le_TI, le_FI, eq_TI, eq_FI, lt_TN, lt_FN, le_TN, le_FN, eq_TN, eq_FN, and_self, and_true, true_and, and_false, false_and, or_true, true_or, or_false, false_or, not_true_eq_false, not_false_eq_true, wr_of, uI_at, uC_at, q_bi_s, q_bl_s, q_br_s, q_bv_s, Int.toNat_natCast, tn_1, tn_m, tn_n, Int.toNat_zero, Int.toNat_one, r1, e111_0, e111_5, e111_16, e111_26, e111_37, e111_41, r_num_ok, r_num_no, uI_uI]
        exact ⟨_, rfl, QC_rf⟩
    · simp only [if_neg hn]
      simp (disch := omega) only [↓reduceIte, lt_TI, lt_FI, le_TI, le_FI, eq_TI, eq_FI, lt_TN, lt_FN, le_TN, le_FN, eq_TN, eq_FN, and_self, and_true, true_and, and_false, false_and, or_true, true_or, or_false, false_or, not_true_eq_false, not_false_eq_true, wr_of, uI_at, uC_at, q_bi_s, q_bl_s, q_br_s, q_bv_s, Int.toNat_natCast, tn_1, tn_m, tn_n, Int.toNat_zero, Int.toNat_one, r1, e111_0, e111_5, e111_16, e111_26, e111_37, e111_41, r_num_no, uI_uI]
      exact ⟨_, rfl, QC_rf⟩
  · simp only [if_neg hc]
    have r1 := r_cell_no (c := c) (u := u) (J := J) k18 e9 (by omega)
    simp (disch := omega) only [↓reduceIte, lt_TI, lt_FI, le_TI, le_FI, eq_TI, eq_FI, lt_TN, lt_FN, le_TN, le_FN, eq_TN, eq_FN, and_self, and_true, true_and, and_false, false_and, or_true, true_or, or_false, false_or, not_true_eq_false, not_false_eq_true, wr_of, uI_at, uC_at, q_bi_s, q_bl_s, q_br_s, q_bv_s, Int.toNat_natCast, tn_1, tn_m, tn_n, Int.toNat_zero, Int.toNat_one, r1, e111_0, e111_5, e111_16, e111_26, e111_37, e111_41]
    exact ⟨_, rfl, QC_rf⟩
/-- both of a round's calls -/
theorem c_rounds {c : Nat} (V : QI S t I) (hc : c < tC (sTo S)) : ∃ v I1 I2, q_E (170, 0, [vr 1, vi (c : Int)], []) (qk t u I J) = some (vi v, qk t u I1 J) ∧ q_E (171, 0, [vr 1, vi (c : Int), vi v, vu], []) (qk t u I1 J) = some (vi (stl (ahd S c)), qk t u I2 J) ∧ Kp 232 241 I I2 ∧ rnd (ahd S c) = (if stl (ahd S c) = -2 then -2 else v) := by
  obtain ⟨v, I1, a1, F, a3⟩ := c_roundL (u := u) (J := J) V hc
  have V1 := QI_kp V a3 (by omega) (by omega)
  by_cases h : rpN (ahd S c) < 401
  · obtain ⟨e1, p, e2, e3, e4, e5⟩ := rp_A F h
    obtain ⟨I2, b1, b2⟩ := c_firstR (u := u) (J := J) (p := p) V1 hc e3
    have e4' : forI (ahd S c) p = stl (ahd S c) := e4
    have e5' : stl (ahd S c) ≠ -2 := e5
    rw [e4'] at b1
    refine ⟨v, I1, I2, a1, by rw [e2]; exact b1, Kp_tr a3 b2 (by omega) (by omega) (by omega) (by omega), ?_⟩
    rw [if_neg e5']; exact e1.symm
  · have e1 : stl (ahd S c) = -2 := if_neg h
    have e2 : rnd (ahd S c) = -2 := if_neg h
    rcases F with ⟨m, p, e, p0, p1, -⟩ | ⟨e, -⟩
    · obtain ⟨I2, b1, b2⟩ := c_firstR (u := u) (J := J) (p := p) V1 hc p1
      rw [rp_B h p0] at b1
      exact ⟨v, I1, I2, a1, by rw [e, e1]; exact b1, Kp_tr a3 b2 (by omega) (by omega) (by omega) (by omega), by rw [e1, e2, if_pos rfl]⟩
    · refine ⟨v, I1, I1, a1, ?_, Kp_w a3 (by omega) (by omega), by rw [e1, e2, if_pos rfl]⟩
      rw [e, e1, e171_0]
      simp (disch := omega) only [↓reduceIte, lt_TI, lt_FI, le_TI, le_FI, eq_TI, eq_FI, lt_TN, lt_FN, le_TN, le_FN, eq_TN, eq_FN, and_self, and_true, true_and, and_false, false_and, or_true, true_or, or_false, false_or, not_true_eq_false, not_false_eq_true, wr_of, uI_at, uC_at, q_bi_s, q_bl_s, q_br_s, q_bv_s, Int.toNat_natCast, tn_1, tn_m, tn_n, Int.toNat_zero, Int.toNat_one]
theorem k_settles (V : CInv S t u I) (c : Int) : ∃ I', q_E (113, 0, [vr 1, vi c], []) (qk t u I J) = some (vi (sp_settles S c).1, qk t u I' J) ∧ QC (sp_settles S c).2 I I' := by
  obtain ⟨V2, e9, k18⟩ := CInv_qi V 0
  unfold sp_settles spC
  by_cases hc : isCl S c
  · simp only [if_pos hc]
    obtain ⟨hc1, hc2⟩ := hc
    obtain ⟨m, rfl⟩ : ∃ m : Nat, c = (m : Int) := ⟨c.toNat, by omega⟩
    have r1 := r_cell_ok (u := u) (J := J) k18 e9 hc1 hc2
    obtain ⟨v, I1, I2, b1, b2, b3, -⟩ := c_rounds (u := u) (J := J) (c := m) V2 (by omega)
    simp only [Int.toNat_natCast]
    simp (disch := omega) only [↓reduceIte, lt_TI, lt_FI, le_TI, le_FI, eq_TI, eq_FI, lt_TN, lt_FN, le_TN, le_FN, eq_TN, eq_FN, and_self, and_true, true_and, and_false, false_and, or_true, true_or, or_false, false_or, not_true_eq_false, not_false_eq_true, wr_of, uI_at, uC_at, q_bi_s, q_bl_s, q_br_s, q_bv_s, Int.toNat_natCast, tn_1, tn_m, tn_n, Int.toNat_zero, Int.toNat_one, r1, e113_0, e113_5, e113_17, e113_20, k20, b1, b2]
    exact ⟨I2, rfl, QC_kp b3 (by omega) (by omega)⟩
  · simp only [if_neg hc]
    have r1 := r_cell_no (c := c) (u := u) (J := J) k18 e9 (by omega)
    simp (disch := omega) only [↓reduceIte, lt_TI, lt_FI, le_TI, le_FI, eq_TI, eq_FI, lt_TN, lt_FN, le_TN, le_FN, eq_TN, eq_FN, and_self, and_true, true_and, and_false, false_and, or_true, true_or, or_false, false_or, not_true_eq_false, not_false_eq_true, wr_of, uI_at, uC_at, q_bi_s, q_bl_s, q_br_s, q_bv_s, Int.toNat_natCast, tn_1, tn_m, tn_n, Int.toNat_zero, Int.toNat_one, r1, e113_0, e113_5, e113_17, e113_20]
    exact ⟨_, rfl, QC_rf⟩
theorem k_round (V : CInv S t u I) (c : Int) : ∃ I', q_E (114, 0, [vr 1, vi c, vu], []) (qk t u I J) = some (vi (sp_round S c).1, qk t u I' J) ∧ QC (sp_round S c).2 I I' := by
  obtain ⟨V2, e9, k18⟩ := CInv_qi V 0
  unfold sp_round spC
  by_cases hc : isCl S c
  · simp only [if_pos hc]
    obtain ⟨hc1, hc2⟩ := hc
    obtain ⟨m, rfl⟩ : ∃ m : Nat, c = (m : Int) := ⟨c.toNat, by omega⟩
    have r1 := r_cell_ok (u := u) (J := J) k18 e9 hc1 hc2
    obtain ⟨v, I1, I2, b1, b2, b3, b4⟩ := c_rounds (u := u) (J := J) (c := m) V2 (by omega)
    simp only [Int.toNat_natCast]
    rw [b4]
    simp (disch := omega) only [↓reduceIte, lt_TI, lt_FI, le_TI, le_FI, eq_TI, eq_FI, lt_TN, lt_FN, le_TN, le_FN, eq_TN, eq_FN, and_self, and_true, true_and, and_false, false_and, or_true, true_or, or_false, false_or, not_true_eq_false, not_false_eq_true, wr_of, uI_at, uC_at, q_bi_s, q_bl_s, q_br_s, q_bv_s, Int.toNat_natCast, tn_1, tn_m, tn_n, Int.toNat_zero, Int.toNat_one, r1, e114_0, e114_5, e114_15, b1, b2]
    rw [e114_22]
    refine ⟨I2, ?_, QC_kp b3 (by omega) (by omega)⟩
    by_cases z : stl (ahd S m) = -2
    · rw [if_pos z, if_pos z]
    · rw [if_neg z, if_neg z]
  · simp only [if_neg hc]
    have r1 := r_cell_no (c := c) (u := u) (J := J) k18 e9 (by omega)
    simp (disch := omega) only [↓reduceIte, lt_TI, lt_FI, le_TI, le_FI, eq_TI, eq_FI, lt_TN, lt_FN, le_TN, le_FN, eq_TN, eq_FN, and_self, and_true, true_and, and_false, false_and, or_true, true_or, or_false, false_or, not_true_eq_false, not_false_eq_true, wr_of, uI_at, uC_at, q_bi_s, q_bl_s, q_br_s, q_bv_s, Int.toNat_natCast, tn_1, tn_m, tn_n, Int.toNat_zero, Int.toNat_one, r1, e114_0, e114_5, e114_15, e114_22]
    exact ⟨_, rfl, QC_rf⟩
theorem k_fewest (V : CInv S t u I) (c : Int) : ∃ I', q_E (115, 0, [vr 1, vi c, vu, vu, vu, vu], []) (qk t u I J) = some (vi (sp_fewest S c).1, qk t u I' J) ∧ QC (sp_fewest S c).2 I I' := by
  obtain ⟨V2, e9, k18⟩ := CInv_qi V 0
  unfold sp_fewest spC
  by_cases hc : isCl S c
  · simp only [if_pos hc]
    obtain ⟨hc1, hc2⟩ := hc
    obtain ⟨m, rfl⟩ : ∃ m : Nat, c = (m : Int) := ⟨c.toNat, by omega⟩
    have hm : m < tC (sTo S) := by omega
    have T := SOk_T V.1 hm
    have hx := V.1.2.1.1 m
    have r1 := r_cell_ok (u := u) (J := J) k18 e9 hc1 hc2
    simp only [Int.toNat_natCast]
    obtain ⟨I1, a1, a2, a3⟩ := c_begin (u := u) (J := J) V2 hm WId_232 (Or.inl rfl)
    have lens : ∀ n, (ahd S m n).1.length ≤ 60 := fun n => HOk_len (ahd_ok V.1 hm n)
    have fb : ∀ n, (fwst (fun n => (ahd S m n).1.length) n).2 ≤ 60 ∧ (fwst (fun n => (ahd S m n).1.length) n).1 ≤ n := by
      intro n
      induction n with
      | zero => exact ⟨lens 0, Nat.le_refl _⟩
      | succ n ih =>
        unfold fwst
        split
        · exact ⟨lens (n + 1), Nat.le_refl _⟩
        · exact ⟨ih.1, by omega⟩
    have loop : ∀ (r n i nm : Nat) (I1 : Nat → Nat → Int), n + r = 400 → i ≤ n → 1 ≤ nm → nm ≤ 2 * n + 1 → WAt I1 232 (tL (sTo S) m) (tH (sTo S)) (ahd S m n) (ahd S m i) (n - i) nm → ∃ I', q_E (115, 38, [vr 1, vu, vi ((fwst (fun n => (ahd S m n).1.length) n).2 : Int), vi ((fwst (fun n => (ahd S m n).1.length) n).1 : Int), vi 0, vi ((n : Int) + 1)], []) (qk t u I1 J) = some (vi ((fwst (fun n => (ahd S m n).1.length) 400).1 : Int), qk t u I' J) ∧ Kp 232 236 I1 I' := by
      intro r
      induction r with
      | zero =>
        intro n i nm I1 hn hi q1 q2 A
        rw [e115_38]
        simp (disch := omega) only [↓reduceIte, lt_TI, lt_FI, le_TI, le_FI, eq_TI, eq_FI, lt_TN, lt_FN, le_TN, le_FN, eq_TN, eq_FN, and_self, and_true, true_and, and_false, false_and, or_true, true_or, or_false, false_or, not_true_eq_false, not_false_eq_true, wr_of, uI_at, uC_at, q_bi_s, q_bl_s, q_br_s, q_bv_s, Int.toNat_natCast, tn_1, tn_m, tn_n, Int.toNat_zero, Int.toNat_one]
        rw [show n = 400 by omega]
        exact ⟨I1, rfl, Kp_rf⟩
      | succ r ih =>
        intro n i nm I1 hn hi q1 q2 A
        obtain ⟨I2, b1, b2, b3⟩ := c_wstep (t := t) (u := u) (J := J) (T.2.2.2.2.1 m hm) T.1 T.2.1 A (ahd_ok V.1 hm n) (by omega) (by omega)
        have en : nt (tL (sTo S) m) (tH (sTo S)) (ahd S m n) = ahd S m (n + 1) := rfl
        rw [en] at b1 b2
        have ls := lens (n + 1)
        have fbn := fb n
        have fs : fwst (fun n => (ahd S m n).1.length) (n + 1) = if (ahd S m (n + 1)).1.length < (fwst (fun n => (ahd S m n).1.length) n).2 then (n + 1, (ahd S m (n + 1)).1.length) else fwst (fun n => (ahd S m n).1.length) n := rfl
        rw [e115_38]
        simp (disch := omega) only [↓reduceIte, lt_TI, lt_FI, le_TI, le_FI, eq_TI, eq_FI, lt_TN, lt_FN, le_TN, le_FN, eq_TN, eq_FN, and_self, and_true, true_and, and_false, false_and, or_true, true_or, or_false, false_or, not_true_eq_false, not_false_eq_true, wr_of, uI_at, uC_at, q_bi_s, q_bl_s, q_br_s, q_bv_s, Int.toNat_natCast, tn_1, tn_m, tn_n, Int.toNat_zero, Int.toNat_one, b1]
        rw [e115_58]
        by_cases q : ahd S m (n + 1) = ahd S m i
        · rw [if_pos q] at b2
          simp only [if_pos q]
          have cl := b2.2.1.2.1
          -- nothing new comes any more
          have st : fwst (fun n => (ahd S m n).1.length) 400 = fwst (fun n => (ahd S m n).1.length) (n + 1) := by
            have := fwst_stop (f := fun n => (ahd S m n).1.length) (n := n + 1) (400 - (n + 1)) (fun j h1 h2 => by
              have e := nti_mod (law := tL (sTo S) m) (hold := tH (sTo S)) (x := (sNw S).1 m) (m := i) (n := n + 1) (by omega) q (j - (n + 1))
              rw [show n + 1 + (j - (n + 1)) = j by omega] at e
              have e2 := nti_eq (law := tL (sTo S) m) (hold := tH (sTo S)) (x := (sNw S).1 m) q ((j - (n + 1)) % (n + 1 - i))
              have hlt := Nat.mod_lt (j - (n + 1)) (show 0 < n + 1 - i by omega)
              have e3 : ahd S m j = ahd S m (i + (j - (n + 1)) % (n + 1 - i)) := e.trans e2
              show _ ≤ (ahd S m j).1.length
              rw [e3]
              exact fwst_min (fun n => (ahd S m n).1.length) (n + 1) (i + (j - (n + 1)) % (n + 1 - i)) (by omega))
            rw [show n + 1 + (400 - (n + 1)) = 400 by omega] at this
            exact this
          rw [st, fs]
          by_cases y : (ahd S m (n + 1)).1.length < (fwst (fun n => (ahd S m n).1.length) n).2
          · rw [if_pos y]
            simp (disch := omega) only [↓reduceIte, lt_TI, lt_FI, le_TI, le_FI, eq_TI, eq_FI, lt_TN, lt_FN, le_TN, le_FN, eq_TN, eq_FN, and_self, and_true, true_and, and_false, false_and, or_true, true_or, or_false, false_or, not_true_eq_false, not_false_eq_true, wr_of, uI_at, uC_at, q_bi_s, q_bl_s, q_br_s, q_bv_s, Int.toNat_natCast, tn_1, tn_m, tn_n, Int.toNat_zero, Int.toNat_one, cl]
            rw [e115_38]
            refine ⟨I2, ?_, Kp_w b3 (by omega) (by omega)⟩
            rcases Classical.em ((400 : Int) < (n : Int) + 1 + 1) with z | z <;> simp (disch := omega) only [↓reduceIte, lt_TI, lt_FI, le_TI, le_FI, eq_TI, eq_FI, lt_TN, lt_FN, le_TN, le_FN, eq_TN, eq_FN, and_self, and_true, true_and, and_false, false_and, or_true, true_or, or_false, false_or, not_true_eq_false, not_false_eq_true, wr_of, uI_at, uC_at, q_bi_s, q_bl_s, q_br_s, q_bv_s, Int.toNat_natCast, tn_1, tn_m, tn_n, Int.toNat_zero, Int.toNat_one] <;> rfl
          · rw [if_neg y]
            simp (disch := omega) only [↓reduceIte, lt_TI, lt_FI, le_TI, le_FI, eq_TI, eq_FI, lt_TN, lt_FN, le_TN, le_FN, eq_TN, eq_FN, and_self, and_true, true_and, and_false, false_and, or_true, true_or, or_false, false_or, not_true_eq_false, not_false_eq_true, wr_of, uI_at, uC_at, q_bi_s, q_bl_s, q_br_s, q_bv_s, Int.toNat_natCast, tn_1, tn_m, tn_n, Int.toNat_zero, Int.toNat_one, cl]
            rw [e115_38]
            refine ⟨I2, ?_, Kp_w b3 (by omega) (by omega)⟩
            rcases Classical.em ((400 : Int) < (n : Int) + 1 + 1) with z | z <;> simp (disch := omega) only [↓reduceIte, lt_TI, lt_FI, le_TI, le_FI, eq_TI, eq_FI, lt_TN, lt_FN, le_TN, le_FN, eq_TN, eq_FN, and_self, and_true, true_and, and_false, false_and, or_true, true_or, or_false, false_or, not_true_eq_false, not_false_eq_true, wr_of, uI_at, uC_at, q_bi_s, q_bl_s, q_br_s, q_bv_s, Int.toNat_natCast, tn_1, tn_m, tn_n, Int.toNat_zero, Int.toNat_one]
        · rw [if_neg q] at b2
          simp only [if_neg q]
          have go : ∃ i' nm', i' ≤ n + 1 ∧ 1 ≤ nm' ∧ nm' ≤ 2 * (n + 1) + 1 ∧ WAt I2 232 (tL (sTo S) m) (tH (sTo S)) (ahd S m (n + 1)) (ahd S m i') (n + 1 - i') nm' := by
            by_cases q3 : n - i + 1 < nm
            · rw [if_pos q3] at b2
              exact ⟨i, nm, by omega, q1, by omega, by rw [show n + 1 - i = n - i + 1 by omega]; exact b2⟩
            · rw [if_neg q3] at b2
              exact ⟨n + 1, nm * 2, by omega, by omega, by omega, by rw [Nat.sub_self]; exact b2⟩
          obtain ⟨i', nm', g1, g2, g3, g4⟩ := go
          have cl := g4.2.1.2.1
          obtain ⟨I3, c1, c2⟩ := ih (n + 1) i' nm' I2 (by omega) g1 g2 g3 g4
          refine ⟨I3, ?_, Kp_tr b3 c2 (by omega) (by omega) (by omega) (by omega)⟩
          rw [fs] at c1
          by_cases y : (ahd S m (n + 1)).1.length < (fwst (fun n => (ahd S m n).1.length) n).2
          · rw [if_pos y] at c1
            simp (disch := omega) only [↓reduceIte, lt_TI, lt_FI, le_TI, le_FI, eq_TI, eq_FI, lt_TN, lt_FN, le_TN, le_FN, eq_TN, eq_FN, and_self, and_true, true_and, and_false, false_and, or_true, true_or, or_false, false_or, not_true_eq_false, not_false_eq_true, wr_of, uI_at, uC_at, q_bi_s, q_bl_s, q_br_s, q_bv_s, Int.toNat_natCast, tn_1, tn_m, tn_n, Int.toNat_zero, Int.toNat_one, cl]
            exact c1
          · rw [if_neg y] at c1
            simp (disch := omega) only [↓reduceIte, lt_TI, lt_FI, le_TI, le_FI, eq_TI, eq_FI, lt_TN, lt_FN, le_TN, le_FN, eq_TN, eq_FN, and_self, and_true, true_and, and_false, false_and, or_true, true_or, or_false, false_or, not_true_eq_false, not_false_eq_true, wr_of, uI_at, uC_at, q_bi_s, q_bl_s, q_br_s, q_bv_s, Int.toNat_natCast, tn_1, tn_m, tn_n, Int.toNat_zero, Int.toNat_one, cl]
            exact c1
    obtain ⟨I2, b1, b2⟩ := loop 400 0 0 1 I1 (by omega) (by omega) (by omega) (by omega) a2
    have cl := a2.2.1.2.1
    simp (disch := omega) only [↓reduceIte, lt_TI, lt_FI, le_TI, le_FI, eq_TI, eq_FI, lt_TN, lt_FN, le_TN, le_FN, eq_TN, eq_FN, and_self, and_true, true_and, and_false, false_and, or_true, true_or, or_false, false_or, not_true_eq_false, not_false_eq_true, wr_of, uI_at, uC_at, q_bi_s, q_bl_s, q_br_s, q_bv_s, Int.toNat_natCast, tn_1, tn_m, tn_n, Int.toNat_zero, Int.toNat_one, r1, e115_0, e115_5, a1, e115_19, cl]
    exact ⟨I2, b1, QC_kp (Kp_tr a3 b2 (lo := 232) (hi := 236) (by omega) (by omega) (by omega) (by omega)) (by omega) (by omega)⟩
  · simp only [if_neg hc]
    have r1 := r_cell_no (c := c) (u := u) (J := J) k18 e9 (by omega)
    simp (disch := omega) only [↓reduceIte, lt_TI, lt_FI, le_TI, le_FI, eq_TI, eq_FI, lt_TN, lt_FN, le_TN, le_FN, eq_TN, eq_FN, and_self, and_true, true_and, and_false, false_and, or_true, true_or, or_false, false_or, not_true_eq_false, not_false_eq_true, wr_of, uI_at, uC_at, q_bi_s, q_bl_s, q_br_s, q_bv_s, Int.toNat_natCast, tn_1, tn_m, tn_n, Int.toNat_zero, Int.toNat_one, r1, e115_0, e115_5]
    exact ⟨_, rfl, QC_rf⟩
theorem k_alike (V : CInv S t u I) (c d : Int) : ∃ I', q_E (116, 0, [vr 1, vi c, vi d, vu], []) (qk t u I J) = some (vi (sp_alike S c d).1, qk t u I' J) ∧ QC (sp_alike S c d).2 I I' := by
  obtain ⟨V2, e9, k18⟩ := CInv_qi V 0
  unfold sp_alike
  by_cases hc : isCl S c
  · obtain ⟨hc1, hc2⟩ := id hc
    have r1 := h_cell_ok (u := u) (J := J) k18 e9 hc1 hc2
    by_cases hd : isCl S d
    · obtain ⟨hd1, hd2⟩ := id hd
      have r2 := h_cell_ok (u := u) (J := J) k18 e9 hd1 hd2
      by_cases hne : c = d
      · simp only [if_neg (show ¬ (isCl S c ∧ isCl S d ∧ c ≠ d) from fun z => z.2.2 hne)]
        simp (disch := omega) only [↓reduceIte, lt_TI, lt_FI, le_TI, le_FI, eq_TI, eq_FI, lt_TN, lt_FN, le_TN, le_FN, eq_TN, eq_FN, and_self, and_true, true_and, and_false, false_and, or_true, true_or, or_false, false_or, not_true_eq_false, not_false_eq_true, wr_of, uI_at, uC_at, q_bi_s, q_bl_s, q_br_s, q_bv_s, Int.toNat_natCast, tn_1, tn_m, tn_n, Int.toNat_zero, Int.toNat_one, e116_0, e116_7, e116_31, e116_15, e116_45, e116_54, k20, e160_0, r1, r2]
        exact ⟨_, rfl, QC_rf⟩
      · simp only [if_pos (show isCl S c ∧ isCl S d ∧ c ≠ d from ⟨hc, hd, hne⟩)]
        obtain ⟨m, rfl⟩ : ∃ m : Nat, c = (m : Int) := ⟨c.toNat, by omega⟩
        obtain ⟨o, rfl⟩ : ∃ o : Nat, d = (o : Int) := ⟨d.toNat, by omega⟩
        have hm : m < tC (sTo S) := by omega
        have ho : o < tC (sTo S) := by omega
        have T := SOk_T V.1 hm
        simp only [Int.toNat_natCast]
        obtain ⟨I1, a1, a2, a3⟩ := c_begin (u := u) (J := J) V2 hm WId_232 (Or.inl rfl)
        obtain ⟨I2, b1, b2, b3⟩ := c_begin (u := u) (J := J) (QI_kp V2 a3 (by omega) (by omega)) ho WId_237 (Or.inr rfl)
        have loop : ∀ (r n : Nat) (I1 : Nat → Nat → Int), n + r = 401 → (∀ i, i < n → (ahd S m i).1 ≠ (ahd S o i).1) → WWk I1 232 (tL (sTo S) m) (tH (sTo S)) (ahd S m n) n → WWk I1 237 (tL (sTo S) o) (tH (sTo S)) (ahd S o n) n → ∃ I', q_E (116, 56, [vr 1, vu, vu, vi (n : Int)], []) (qk t u I1 J) = some (vi (fint (fun n => decide ((ahd S m n).1 = (ahd S o n).1)) 401), qk t u I' J) ∧ Kp 232 241 I1 I' := by
          intro r
          induction r with
          | zero =>
            intro n I1 hn hne A B
            have e : fsti (fun n => decide ((ahd S m n).1 = (ahd S o n).1)) 401 = 401 := fsti_eq (Nat.le_refl _) (fun i hi => decide_eq_false (hne i (by omega))) (fun z => by omega)
            rw [e116_56]
            unfold fint
            rw [e, if_neg (show ¬ 401 < 401 by omega)]
            simp (disch := omega) only [↓reduceIte, lt_TI, lt_FI, le_TI, le_FI, eq_TI, eq_FI, lt_TN, lt_FN, le_TN, le_FN, eq_TN, eq_FN, and_self, and_true, true_and, and_false, false_and, or_true, true_or, or_false, false_or, not_true_eq_false, not_false_eq_true, wr_of, uI_at, uC_at, q_bi_s, q_bl_s, q_br_s, q_bv_s, Int.toNat_natCast, tn_1, tn_m, tn_n, Int.toNat_zero, Int.toNat_one]
            exact ⟨I1, rfl, Kp_rf⟩
          | succ r ih =>
            intro n I1 hn hne A B
            obtain ⟨y, sm, nm, ⟨w, HA, -⟩, -⟩ := id A
            obtain ⟨y2, sm2, nm2, ⟨w2, HB, -⟩, -⟩ := id B
            have es := c_isAsHigh (t := t) (u := u) (J := J) HA HB
            rw [e116_56]
            by_cases q : (ahd S m n).1 = (ahd S o n).1
            · have e : fsti (fun n => decide ((ahd S m n).1 = (ahd S o n).1)) 401 = n := fsti_eq (by omega) (fun i hi => decide_eq_false (hne i hi)) (fun _ => decide_eq_true q)
              rw [if_pos q] at es
              unfold fint
              rw [e, if_pos (show n < 401 by omega)]
              simp (disch := omega) only [↓reduceIte, lt_TI, lt_FI, le_TI, le_FI, eq_TI, eq_FI, lt_TN, lt_FN, le_TN, le_FN, eq_TN, eq_FN, and_self, and_true, true_and, and_false, false_and, or_true, true_or, or_false, false_or, not_true_eq_false, not_false_eq_true, wr_of, uI_at, uC_at, q_bi_s, q_bl_s, q_br_s, q_bv_s, Int.toNat_natCast, tn_1, tn_m, tn_n, Int.toNat_zero, Int.toNat_one, es, e116_80]
              exact ⟨I1, rfl, Kp_rf⟩
            · rw [if_neg q] at es
              obtain ⟨z, I2, a1, a2, a3⟩ := c_wstepk (t := t) (u := u) (J := J) (T.2.2.2.2.1 m hm) T.1 T.2.1 A (ahd_ok V.1 hm n) (by omega)
              obtain ⟨z2, I3, b1, b2, b3⟩ := c_wstepk (t := t) (u := u) (J := J) (T.2.2.2.2.1 o ho) T.1 T.2.1 (WWk_kp B a3 (by omega)) (ahd_ok V.1 ho n) (by omega)
              simp (disch := omega) only [↓reduceIte, lt_TI, lt_FI, le_TI, le_FI, eq_TI, eq_FI, lt_TN, lt_FN, le_TN, le_FN, eq_TN, eq_FN, and_self, and_true, true_and, and_false, false_and, or_true, true_or, or_false, false_or, not_true_eq_false, not_false_eq_true, wr_of, uI_at, uC_at, q_bi_s, q_bl_s, q_br_s, q_bv_s, Int.toNat_natCast, tn_1, tn_m, tn_n, Int.toNat_zero, Int.toNat_one, es, e116_80, a1, e116_92, b1, e116_100]
              obtain ⟨I4, c1, c2⟩ := ih (n + 1) I3 (by omega) (fun i hi => by
                by_cases e : i = n
                · rw [e]; exact q
                · exact hne i (by omega)) (WWk_kp a2 b3 (by omega)) b2
              exact ⟨I4, c1, Kp_tr (Kp_tr a3 b3 (lo := 232) (hi := 241) (by omega) (by omega) (by omega) (by omega)) c2 (by omega) (by omega) (by omega) (by omega)⟩
        obtain ⟨I3, c1, c2⟩ := loop 401 0 I2 (by omega) (fun i hi => by omega) ⟨_, _, _, WAt_kp a2 b3 (by omega), by omega, by omega, by omega⟩ ⟨_, _, _, b2, by omega, by omega, by omega⟩
        simp (disch := omega) only [↓reduceIte, lt_TI, lt_FI, le_TI, le_FI, eq_TI, eq_FI, lt_TN, lt_FN, le_TN, le_FN, eq_TN, eq_FN, and_self, and_true, true_and, and_false, false_and, or_true, true_or, or_false, false_or, not_true_eq_false, not_false_eq_true, wr_of, uI_at, uC_at, q_bi_s, q_bl_s, q_br_s, q_bv_s, Int.toNat_natCast, tn_1, tn_m, tn_n, Int.toNat_zero, Int.toNat_one, e116_0, e116_7, e116_31, e116_15, e116_45, e116_54, k20, e160_0, r1, r2, a1, b1]
        exact ⟨I3, c1, QC_kp (Kp_tr (Kp_tr a3 b3 (lo := 232) (hi := 241) (by omega) (by omega) (by omega) (by omega)) c2 (lo := 232) (hi := 241) (by omega) (by omega) (by omega) (by omega)) (by omega) (by omega)⟩
    · simp only [if_neg (show ¬ (isCl S c ∧ isCl S d ∧ c ≠ d) from fun z => hd z.2.1)]
      have r2 := h_cell_no (c := d) (u := u) (J := J) k18 e9 (by omega)
      simp (disch := omega) only [↓reduceIte, lt_TI, lt_FI, le_TI, le_FI, eq_TI, eq_FI, lt_TN, lt_FN, le_TN, le_FN, eq_TN, eq_FN, and_self, and_true, true_and, and_false, false_and, or_true, true_or, or_false, false_or, not_true_eq_false, not_false_eq_true, wr_of, uI_at, uC_at, q_bi_s, q_bl_s, q_br_s, q_bv_s, Int.toNat_natCast, tn_1, tn_m, tn_n, Int.toNat_zero, Int.toNat_one, e116_0, e116_7, e116_31, e116_15, e116_45, e116_54, k20, e160_0, r1, r2]
      exact ⟨_, rfl, QC_rf⟩
  · simp only [if_neg (show ¬ (isCl S c ∧ isCl S d ∧ c ≠ d) from fun z => hc z.1)]
    have r1 := h_cell_no (c := c) (u := u) (J := J) k18 e9 (by omega)
    simp (disch := omega) only [↓reduceIte, lt_TI, lt_FI, le_TI, le_FI, eq_TI, eq_FI, lt_TN, lt_FN, le_TN, le_FN, eq_TN, eq_FN, and_self, and_true, true_and, and_false, false_and, or_true, true_or, or_false, false_or, not_true_eq_false, not_false_eq_true, wr_of, uI_at, uC_at, q_bi_s, q_bl_s, q_br_s, q_bv_s, Int.toNat_natCast, tn_1, tn_m, tn_n, Int.toNat_zero, Int.toNat_one, e116_0, e116_7, e116_31, e116_15, e116_45, e116_54, k20, e160_0, r1]
    exact ⟨_, rfl, QC_rf⟩
end

/-! the model's rounds, fewest, alike -/
section
variable {t u : Nat} {I J : Nat → Nat → Int} {S : St}
theorem m_copyR {a b p s N N2 : Nat} {x : Hp} (A : AId a N) (B : AId b N2) (hab : a ≠ b) (hp : p + 61 ≤ N) (hs : s + 61 ≤ N2) (H : mRw I a p x) : ∃ I', q_E (182, 0, [vr a, vi (p : Int), vr b, vi (s : Int), vi 61, vu], []) (qk t u I J) = some (vu, qk t u I' J) ∧ mRw I' b s x ∧ FrA b s (s + 61) I I' := by
  obtain ⟨I1, x1, x2, x3⟩ := c_mcopy (t := t) (u := u) (I := I) (J := J) (p := p) (s := s) (n := 61) A B hab hp hs
  exact ⟨I1, x1, ⟨fun i hi => by rw [x2 i (by omega)]; exact H.1 i hi, by rw [x2 60 (by omega)]; exact H.2⟩, x3⟩
theorem m_goRound {c : Nat} (V : MQs S I) (hc : c < tC (sTo S)) : ∃ I', q_E (232, 0, [vr 265, vi (c : Int), vu, vu], []) (qk t u I J) = some (vu, qk t u I' J) ∧ I' 265 28 = stl (ahd S c) ∧ I' 265 29 = rnd (ahd S c) ∧ QF I I' := by
  have h4 := tC_4 V.1
  have inner : ∀ (n : Nat) (I1 : Nat → Nat → Int), n ≤ 400 → QF I I1 → mRw I1 275 0 (ahd S c n) → (∀ k, k < n → mRw I1 277 (61 * k) (ahd S c k)) → ∀ (r k : Nat), k + r = n → (∀ i, i < k → ahd S c i ≠ ahd S c n) → (fsti (fun k => decide (ahd S c k = ahd S c n)) n < n ∧ ∃ I', q_E (232, 28, [vr 265, vi (c : Int), vi (n : Int), vi (k : Int)], []) (qk t u I1 J) = some (vu, qk t u I' J) ∧ I' 265 28 = (fsti (fun k => decide (ahd S c k = ahd S c n)) n : Int) ∧ I' 265 29 = (n : Int) - (fsti (fun k => decide (ahd S c k = ahd S c n)) n : Int) ∧ QF I I') ∨ ((∀ i, i < n → ahd S c i ≠ ahd S c n) ∧ ∃ I', q_E (232, 28, [vr 265, vi (c : Int), vi (n : Int), vi (k : Int)], []) (qk t u I1 J) = q_E (232, 19, [vr 265, vi (c : Int), vi ((n + 1 : Nat) : Int), vu], []) (qk t u I' J) ∧ I' 265 = I1 265 ∧ QF I I' ∧ mRw I' 275 0 (ahd S c (n + 1)) ∧ (∀ k, k < n + 1 → mRw I' 277 (61 * k) (ahd S c k))) := by
    intro n I1 hn F H R r
    induction r with
    | zero =>
      intro k hk hne
      refine Or.inr ⟨fun i hi => hne i (by omega), ?_⟩
      have V1 := MQs_qf V F
      obtain ⟨I2, x1, x2, x3⟩ := m_copyR (t := t) (u := u) (J := J) A275 A277 (p := 0) (s := 61 * n) (by omega) (by omega) (by omega) H
      rw [Int.natCast_zero, c_61] at x1
      have V2 := MQs_qf V1 (QF_fr QF_rf x3 (by omega) (by omega))
      obtain ⟨I3, y1, y2, y3⟩ := m_nt (t := t) (u := u) (J := J) V2 hc (Or.inl rfl) (mRw_fr H x3 (by omega)) (ahd_ok V.1 hc n)
      have l := MQs_law V2 hc
      rw [e232_28]
      simp (disch := omega) only [↓reduceIte, lt_TI, lt_FI, le_TI, le_FI, eq_TI, eq_FI, lt_TN, lt_FN, le_TN, le_FN, eq_TN, eq_FN, and_self, and_true, true_and, and_false, false_and, or_true, true_or, or_false, false_or, not_true_eq_false, not_false_eq_true, wr_of, uI_at, uC_at, q_bi_s, q_bl_s, q_br_s, q_bv_s, Int.toNat_natCast, tn_1, tn_m, tn_n, Int.toNat_zero, Int.toNat_one, x1, e232_94, tn_5, l, y1, e232_111]
      refine ⟨I3, rfl, ?_, QF_fr (QF_fr F x3 (by omega) (by omega)) y3 (by omega) (by omega), y2, fun j hj => ?_⟩
      · rw [FrA_o y3 (by omega), FrA_o x3 (by omega)]
      · refine mRw_fr ?_ y3 (by omega)
        by_cases z : j = n
        · rw [z]; exact x2
        · exact mRw_fr (R j (by omega)) x3 (by omega)
    | succ r ih =>
      intro k hk hne
      have s := c_sameR (t := t) (u := u) (J := J) A275 A277 (p := 0) (s := 61 * k) (by omega) (by omega) H (R k (by omega)) (ahd_ok V.1 hc n) (ahd_ok V.1 hc k)
      rw [Int.natCast_zero, c_61] at s
      by_cases q : ahd S c n = ahd S c k
      · rw [if_pos q] at s
        have e : fsti (fun k => decide (ahd S c k = ahd S c n)) n = k := fsti_eq (by omega) (fun i hi => decide_eq_false (hne i hi)) (fun _ => decide_eq_true q.symm)
        rw [e, e232_28]
        refine Or.inl ⟨by omega, ?_⟩
        simp (disch := omega) only [↓reduceIte, lt_TI, lt_FI, le_TI, le_FI, eq_TI, eq_FI, lt_TN, lt_FN, le_TN, le_FN, eq_TN, eq_FN, and_self, and_true, true_and, and_false, false_and, or_true, true_or, or_false, false_or, not_true_eq_false, not_false_eq_true, wr_of, uI_at, uC_at, q_bi_s, q_bl_s, q_br_s, q_bv_s, Int.toNat_natCast, tn_1, tn_m, tn_n, Int.toNat_zero, Int.toNat_one, s, e232_51]
        exact ⟨_, rfl, by rw [uI_ne (Or.inr (by omega))]; exact if_pos ⟨rfl, rfl⟩, if_pos ⟨rfl, rfl⟩, QF_uI (QF_uI F (by omega)) (by omega)⟩
      · rw [if_neg q] at s
        have z := ih (k + 1) (by omega) (fun i hi => by
          by_cases e : i = k
          · rw [e]; exact fun y => q y.symm
          · exact hne i (by omega))
        rw [e232_28]
        simp (disch := omega) only [↓reduceIte, lt_TI, lt_FI, le_TI, le_FI, eq_TI, eq_FI, lt_TN, lt_FN, le_TN, le_FN, eq_TN, eq_FN, and_self, and_true, true_and, and_false, false_and, or_true, true_or, or_false, false_or, not_true_eq_false, not_false_eq_true, wr_of, uI_at, uC_at, q_bi_s, q_bl_s, q_br_s, q_bv_s, Int.toNat_natCast, tn_1, tn_m, tn_n, Int.toNat_zero, Int.toNat_one, s, e232_51]
        exact z
  have outer : ∀ (r n : Nat) (I1 : Nat → Nat → Int), n + r = 401 → QF I I1 → mRw I1 275 0 (ahd S c n) → (∀ k, k < n → mRw I1 277 (61 * k) (ahd S c k)) → I1 265 28 = -2 → I1 265 29 = -2 → (∀ j, j < n → ∀ i, i < j → ahd S c i ≠ ahd S c j) → ∃ I', q_E (232, 19, [vr 265, vi (c : Int), vi (n : Int), vu], []) (qk t u I1 J) = some (vu, qk t u I' J) ∧ I' 265 28 = stl (ahd S c) ∧ I' 265 29 = rnd (ahd S c) ∧ QF I I' := by
    intro r
    induction r with
    | zero =>
      intro n I1 hn F H R s1 s2 hne
      have e : rpN (ahd S c) = 401 := fsti_eq (Nat.le_refl _) (fun i hi => by
        rw [List.any_eq_false]
        intro k hk z
        exact hne i (by omega) k (List.mem_range.mp hk) (of_decide_eq_true z)) (fun z => by omega)
      unfold rnd stl
      rw [e, if_neg (show ¬ (401 < 401) by omega), if_neg (show ¬ (401 < 401) by omega), e232_19]
      simp (disch := omega) only [↓reduceIte, lt_TI, lt_FI, le_TI, le_FI, eq_TI, eq_FI, lt_TN, lt_FN, le_TN, le_FN, eq_TN, eq_FN, and_self, and_true, true_and, and_false, false_and, or_true, true_or, or_false, false_or, not_true_eq_false, not_false_eq_true, wr_of, uI_at, uC_at, q_bi_s, q_bl_s, q_br_s, q_bv_s, Int.toNat_natCast, tn_1, tn_m, tn_n, Int.toNat_zero, Int.toNat_one]
      exact ⟨I1, rfl, s1, s2, F⟩
    | succ r ih =>
      intro n I1 hn F H R s1 s2 hne
      rw [e232_19]
      rcases inner n I1 (by omega) F H R n 0 (by omega) (fun i hi => by omega) with ⟨hk, I2, x1, x2, x3, x4⟩ | ⟨hno, I2, x1, x2, x3, x4, x5⟩
      · have e : rpN (ahd S c) = n := fsti_eq (by omega) (fun i hi => by
          rw [List.any_eq_false]
          intro k hk z
          exact hne i (by omega) k (List.mem_range.mp hk) (of_decide_eq_true z)) (fun _ => List.any_eq_true.mpr ⟨_, List.mem_range.mpr hk, fsti_t n (fun k => decide (ahd S c k = ahd S c n)) hk⟩)
        unfold rnd stl
        rw [e, if_pos (show n < 401 by omega), if_pos (show n < 401 by omega)]
        rw [Int.natCast_zero] at x1
        simp (disch := omega) only [↓reduceIte, lt_TI, lt_FI, le_TI, le_FI, eq_TI, eq_FI, lt_TN, lt_FN, le_TN, le_FN, eq_TN, eq_FN, and_self, and_true, true_and, and_false, false_and, or_true, true_or, or_false, false_or, not_true_eq_false, not_false_eq_true, wr_of, uI_at, uC_at, q_bi_s, q_bl_s, q_br_s, q_bv_s, Int.toNat_natCast, tn_1, tn_m, tn_n, Int.toNat_zero, Int.toNat_one, x1]
        exact ⟨I2, rfl, x2, x3, x4⟩
      · rw [Int.natCast_zero] at x1
        simp (disch := omega) only [↓reduceIte, lt_TI, lt_FI, le_TI, le_FI, eq_TI, eq_FI, lt_TN, lt_FN, le_TN, le_FN, eq_TN, eq_FN, and_self, and_true, true_and, and_false, false_and, or_true, true_or, or_false, false_or, not_true_eq_false, not_false_eq_true, wr_of, uI_at, uC_at, q_bi_s, q_bl_s, q_br_s, q_bv_s, Int.toNat_natCast, tn_1, tn_m, tn_n, Int.toNat_zero, Int.toNat_one, x1]
        exact ih (n + 1) I2 (by omega) x3 x4 x5 (by rw [x2]; exact s1) (by rw [x2]; exact s2) (fun j hj i hi => by
          by_cases z : j = n
          · rw [z]; exact hno i (by omega)
          · exact hne j (by omega) i hi)
  have F0 : QF I (uI (uI I 265 28 (-2)) 265 29 (-2)) := QF_uI (QF_uI QF_rf (by omega)) (by omega)
  obtain ⟨I1, x1, x2, x3⟩ := m_begin (t := t) (u := u) (J := J) (MQs_qf V F0) (show c < 4 by omega)
  have f1 : I1 265 = uI (uI I 265 28 (-2)) 265 29 (-2) 265 := FrA_o x3 (by omega)
  obtain ⟨I2, y1, y2, y3, y4⟩ := outer 401 0 I1 (by omega) (QF_fr F0 x3 (by omega) (by omega)) x2 (fun k hk => by omega) (by rw [f1, uI_ne (Or.inr (by omega))]; exact if_pos ⟨rfl, rfl⟩) (by rw [f1]; exact if_pos ⟨rfl, rfl⟩) (fun j hj => by omega)
  rw [Int.natCast_zero] at y1
  simp (disch := omega) only [↓reduceIte, lt_TI, lt_FI, le_TI, le_FI, eq_TI, eq_FI, lt_TN, lt_FN, le_TN, le_FN, eq_TN, eq_FN, and_self, and_true, true_and, and_false, false_and, or_true, true_or, or_false, false_or, not_true_eq_false, not_false_eq_true, wr_of, uI_at, uC_at, q_bi_s, q_bl_s, q_br_s, q_bv_s, Int.toNat_natCast, tn_1, tn_m, tn_n, Int.toNat_zero, Int.toNat_one, e232_0, x1, e232_17]
  exact ⟨I2, y1, y2, y3, y4⟩
theorem m_settles (V : MInv S I) (c : Int) : ∃ I', q_E (233, 0, [vr 265, vi c], []) (qk t u I J) = some (vi (sp_settles S c).1, qk t u I' J) ∧ QM (sp_settles S c).2 I I' := by
  have A := MInv_A V
  have h4 := tC_4 V.1.1
  unfold sp_settles spC
  by_cases hc : isCl S c
  · simp only [if_pos hc]
    obtain ⟨m, rfl⟩ : ∃ m : Nat, c = (m : Int) := ⟨c.toNat, by omega⟩
    have r1 := m_cell_ok (t := t) (u := u) (J := J) A hc
    have hm : m < tC (sTo S) := by omega
    obtain ⟨H, ok⟩ := MQs_row A (show m < 4 by omega)
    obtain ⟨G, -⟩ := MQs_row V.1 (show m < 4 by omega)
    obtain ⟨o1, o2, o3⟩ := id ok
    have hl := HOk_len ok
    simp only [Int.toNat_natCast]
    obtain ⟨I1, b1, b2, b3, F⟩ := m_goRound (t := t) (u := u) (J := J) A hm
    simp (disch := omega) only [↓reduceIte, lt_TI, lt_FI, le_TI, le_FI, eq_TI, eq_FI, lt_TN, lt_FN, le_TN, le_FN, eq_TN, eq_FN, and_self, and_true, true_and, and_false, false_and, or_true, true_or, or_false, false_or, not_true_eq_false, not_false_eq_true, wr_of, uI_at, uC_at, q_bi_s, q_bl_s, q_br_s, q_bv_s, Int.toNat_natCast, tn_1, tn_m, tn_n, Int.toNat_zero, Int.toNat_one, r1, e177_0, e178_0, e233_0, e233_4, e233_9, e233_17, e233_23, b1, b2]
    exact ⟨_, rfl, QM_ok F⟩
  · simp only [if_neg hc]
    have r1 := m_cell_no (t := t) (u := u) (J := J) A hc
    simp (disch := omega) only [↓reduceIte, lt_TI, lt_FI, le_TI, le_FI, eq_TI, eq_FI, lt_TN, lt_FN, le_TN, le_FN, eq_TN, eq_FN, and_self, and_true, true_and, and_false, false_and, or_true, true_or, or_false, false_or, not_true_eq_false, not_false_eq_true, wr_of, uI_at, uC_at, q_bi_s, q_bl_s, q_br_s, q_bv_s, Int.toNat_natCast, tn_1, tn_m, tn_n, Int.toNat_zero, Int.toNat_one, r1, e177_0, e178_0, e233_0, e233_4, e233_9, e233_17, e233_23]
    exact ⟨_, rfl, QM_no QF_rf⟩
theorem m_round (V : MInv S I) (c : Int) : ∃ I', q_E (234, 0, [vr 265, vi c], []) (qk t u I J) = some (vi (sp_round S c).1, qk t u I' J) ∧ QM (sp_round S c).2 I I' := by
  have A := MInv_A V
  have h4 := tC_4 V.1.1
  unfold sp_round spC
  by_cases hc : isCl S c
  · simp only [if_pos hc]
    obtain ⟨m, rfl⟩ : ∃ m : Nat, c = (m : Int) := ⟨c.toNat, by omega⟩
    have r1 := m_cell_ok (t := t) (u := u) (J := J) A hc
    have hm : m < tC (sTo S) := by omega
    obtain ⟨H, ok⟩ := MQs_row A (show m < 4 by omega)
    obtain ⟨G, -⟩ := MQs_row V.1 (show m < 4 by omega)
    obtain ⟨o1, o2, o3⟩ := id ok
    have hl := HOk_len ok
    simp only [Int.toNat_natCast]
    obtain ⟨I1, b1, b2, b3, F⟩ := m_goRound (t := t) (u := u) (J := J) A hm
    simp (disch := omega) only [↓reduceIte, lt_TI, lt_FI, le_TI, le_FI, eq_TI, eq_FI, lt_TN, lt_FN, le_TN, le_FN, eq_TN, eq_FN, and_self, and_true, true_and, and_false, false_and, or_true, true_or, or_false, false_or, not_true_eq_false, not_false_eq_true, wr_of, uI_at, uC_at, q_bi_s, q_bl_s, q_br_s, q_bv_s, Int.toNat_natCast, tn_1, tn_m, tn_n, Int.toNat_zero, Int.toNat_one, r1, e177_0, e178_0, e234_0, e234_4, e234_9, e234_17, e234_23, b1, b3]
    exact ⟨_, rfl, QM_ok F⟩
  · simp only [if_neg hc]
    have r1 := m_cell_no (t := t) (u := u) (J := J) A hc
    simp (disch := omega) only [↓reduceIte, lt_TI, lt_FI, le_TI, le_FI, eq_TI, eq_FI, lt_TN, lt_FN, le_TN, le_FN, eq_TN, eq_FN, and_self, and_true, true_and, and_false, false_and, or_true, true_or, or_false, false_or, not_true_eq_false, not_false_eq_true, wr_of, uI_at, uC_at, q_bi_s, q_bl_s, q_br_s, q_bv_s, Int.toNat_natCast, tn_1, tn_m, tn_n, Int.toNat_zero, Int.toNat_one, r1, e177_0, e178_0, e234_0, e234_4, e234_9, e234_17, e234_23]
    exact ⟨_, rfl, QM_no QF_rf⟩
theorem m_fewest_l {c : Nat} (V : MQs S I) (hc : c < tC (sTo S)) : ∀ (r n : Nat) (I1 : Nat → Nat → Int), n + r = 400 → QF I I1 → mRw I1 275 0 (ahd S c (n + 1)) → ∃ I', q_E (235, 32, [vr 265, vi (c : Int), vi ((fwst (fun n => (ahd S c n).1.length) n).1 : Int), vi ((fwst (fun n => (ahd S c n).1.length) n).2 : Int), vi ((n : Int) + 1), vu], []) (qk t u I1 J) = some (vi ((fwst (fun n => (ahd S c n).1.length) 400).1 : Int), qk t u I' J) ∧ QF I I' := by
  have h4 := tC_4 V.1
  intro r
  induction r with
  | zero =>
    intro n I1 hn F H
    rw [e235_32]
    simp (disch := omega) only [↓reduceIte, lt_TI, lt_FI, le_TI, le_FI, eq_TI, eq_FI, lt_TN, lt_FN, le_TN, le_FN, eq_TN, eq_FN, and_self, and_true, true_and, and_false, false_and, or_true, true_or, or_false, false_or, not_true_eq_false, not_false_eq_true, wr_of, uI_at, uC_at, q_bi_s, q_bl_s, q_br_s, q_bv_s, Int.toNat_natCast, tn_1, tn_m, tn_n, Int.toNat_zero, Int.toNat_one]
    rw [show n = 400 by omega]
    exact ⟨I1, rfl, F⟩
  | succ r ih =>
    intro n I1 hn F H
    have V1 := MQs_qf V F
    have oa := ahd_ok V.1 hc (n + 1)
    have k1 := c_manyOf (t := t) (u := u) (J := J) A275 (p := 0) (by omega) H.1 oa.2.1 (HOk_len oa)
    rw [Int.natCast_zero] at k1
    obtain ⟨I3, y1, y2, y3⟩ := m_nt (t := t) (u := u) (J := J) V1 hc (Or.inl rfl) H oa
    have l := MQs_law V1 hc
    obtain ⟨I4, z1, z2⟩ := ih (n + 1) I3 (by omega) (QF_fr F y3 (by omega) (by omega)) y2
    have u : fwst (fun n => (ahd S c n).1.length) (n + 1) = if (ahd S c (n + 1)).1.length < (fwst (fun n => (ahd S c n).1.length) n).2 then (n + 1, (ahd S c (n + 1)).1.length) else fwst (fun n => (ahd S c n).1.length) n := rfl
    refine ⟨I4, ?_, z2⟩
    rw [← z1, e235_32]
    rw [u]
    by_cases q : (ahd S c (n + 1)).1.length < (fwst (fun n => (ahd S c n).1.length) n).2
    · rw [if_pos q]
      simp (disch := omega) only [↓reduceIte, lt_TI, lt_FI, le_TI, le_FI, eq_TI, eq_FI, lt_TN, lt_FN, le_TN, le_FN, eq_TN, eq_FN, and_self, and_true, true_and, and_false, false_and, or_true, true_or, or_false, false_or, not_true_eq_false, not_false_eq_true, wr_of, uI_at, uC_at, q_bi_s, q_bl_s, q_br_s, q_bv_s, Int.toNat_natCast, tn_1, tn_m, tn_n, Int.toNat_zero, Int.toNat_one, k1, e235_48, tn_5, l, y1, e235_79]
      rfl
    · rw [if_neg q]
      simp (disch := omega) only [↓reduceIte, lt_TI, lt_FI, le_TI, le_FI, eq_TI, eq_FI, lt_TN, lt_FN, le_TN, le_FN, eq_TN, eq_FN, and_self, and_true, true_and, and_false, false_and, or_true, true_or, or_false, false_or, not_true_eq_false, not_false_eq_true, wr_of, uI_at, uC_at, q_bi_s, q_bl_s, q_br_s, q_bv_s, Int.toNat_natCast, tn_1, tn_m, tn_n, Int.toNat_zero, Int.toNat_one, k1, e235_48, tn_5, l, y1, e235_79]
      rfl
theorem m_fewest (V : MInv S I) (c : Int) : ∃ I', q_E (235, 0, [vr 265, vi c, vu, vu, vu, vu], []) (qk t u I J) = some (vi (sp_fewest S c).1, qk t u I' J) ∧ QM (sp_fewest S c).2 I I' := by
  have A := MInv_A V
  have h4 := tC_4 V.1.1
  unfold sp_fewest spC
  by_cases hc : isCl S c
  · simp only [if_pos hc]
    obtain ⟨m, rfl⟩ : ∃ m : Nat, c = (m : Int) := ⟨c.toNat, by omega⟩
    have r1 := m_cell_ok (t := t) (u := u) (J := J) A hc
    have hm : m < tC (sTo S) := by omega
    obtain ⟨H, ok⟩ := MQs_row A (show m < 4 by omega)
    obtain ⟨G, -⟩ := MQs_row V.1 (show m < 4 by omega)
    obtain ⟨o1, o2, o3⟩ := id ok
    have hl := HOk_len ok
    simp only [Int.toNat_natCast]
    obtain ⟨I1, x1, x2, x3⟩ := m_begin (t := t) (u := u) (J := J) A (show m < 4 by omega)
    have F1 := QF_fr QF_rf x3 (by omega) (by omega)
    have V1 := MQs_qf A F1
    have k1 := c_manyOf (t := t) (u := u) (J := J) A275 (p := 0) (by omega) x2.1 o2 hl
    rw [Int.natCast_zero] at k1
    obtain ⟨I3, y1, y2, y3⟩ := m_nt (t := t) (u := u) (J := J) V1 hm (Or.inl rfl) x2 ok
    have l := MQs_law V1 hm
    obtain ⟨I4, z1, F⟩ := m_fewest_l (t := t) (u := u) (J := J) A hm 400 0 I3 (by omega) (QF_fr F1 y3 (by omega) (by omega)) y2
    rw [Int.natCast_zero, Int.zero_add] at z1
    have f0 : fwst (fun n => (ahd S m n).1.length) 0 = (0, ((sNw S).1 m).1.length) := rfl
    rw [f0] at z1
    rw [Int.natCast_zero] at z1
    simp (disch := omega) only [↓reduceIte, lt_TI, lt_FI, le_TI, le_FI, eq_TI, eq_FI, lt_TN, lt_FN, le_TN, le_FN, eq_TN, eq_FN, and_self, and_true, true_and, and_false, false_and, or_true, true_or, or_false, false_or, not_true_eq_false, not_false_eq_true, wr_of, uI_at, uC_at, q_bi_s, q_bl_s, q_br_s, q_bv_s, Int.toNat_natCast, tn_1, tn_m, tn_n, Int.toNat_zero, Int.toNat_one, r1, e177_0, e235_0, e235_4, e235_48, e235_9, e235_79, e235_17, e235_23, x1]
    rw [e235_32]
    simp (disch := omega) only [↓reduceIte, lt_TI, lt_FI, le_TI, le_FI, eq_TI, eq_FI, lt_TN, lt_FN, le_TN, le_FN, eq_TN, eq_FN, and_self, and_true, true_and, and_false, false_and, or_true, true_or, or_false, false_or, not_true_eq_false, not_false_eq_true, wr_of, uI_at, uC_at, q_bi_s, q_bl_s, q_br_s, q_bv_s, Int.toNat_natCast, tn_1, tn_m, tn_n, Int.toNat_zero, Int.toNat_one, k1, e235_48, e235_79, tn_5, l, y1, Int.zero_add]
    exact ⟨I4, z1, QM_ok F⟩
  · simp only [if_neg hc]
    have r1 := m_cell_no (t := t) (u := u) (J := J) A hc
    simp (disch := omega) only [↓reduceIte, lt_TI, lt_FI, le_TI, le_FI, eq_TI, eq_FI, lt_TN, lt_FN, le_TN, le_FN, eq_TN, eq_FN, and_self, and_true, true_and, and_false, false_and, or_true, true_or, or_false, false_or, not_true_eq_false, not_false_eq_true, wr_of, uI_at, uC_at, q_bi_s, q_bl_s, q_br_s, q_bv_s, Int.toNat_natCast, tn_1, tn_m, tn_n, Int.toNat_zero, Int.toNat_one, r1, e177_0, e178_0, e235_0, e235_32, e235_4, e235_48, e235_9, e235_79, e235_17, e235_23]
    exact ⟨_, rfl, QM_no QF_rf⟩
theorem m_alike_l {c d : Nat} (V : MQs S I) (hc : c < tC (sTo S)) (hd : d < tC (sTo S)) : ∀ (r n : Nat) (I1 : Nat → Nat → Int), n + r = 401 → QF I I1 → mRw I1 275 0 (ahd S c n) → mRw I1 276 0 (ahd S d n) → (∀ i, i < n → (ahd S c i).1 ≠ (ahd S d i).1) → ∃ I', q_E (236, 44, [vr 265, vi (c : Int), vi (d : Int), vi (n : Int)], []) (qk t u I1 J) = some (vi (fint (fun n => decide ((ahd S c n).1 = (ahd S d n).1)) 401), qk t u I' J) ∧ QF I I' := by
  have h4 := tC_4 V.1
  intro r
  induction r with
  | zero =>
    intro n I1 hn F H G hne
    have e : fsti (fun n => decide ((ahd S c n).1 = (ahd S d n).1)) 401 = 401 := fsti_eq (Nat.le_refl _) (fun i hi => decide_eq_false (hne i (by omega))) (fun z => by omega)
    unfold fint
    rw [e, if_neg (show ¬ (401 < 401) by omega), e236_44]
    simp (disch := omega) only [↓reduceIte, lt_TI, lt_FI, le_TI, le_FI, eq_TI, eq_FI, lt_TN, lt_FN, le_TN, le_FN, eq_TN, eq_FN, and_self, and_true, true_and, and_false, false_and, or_true, true_or, or_false, false_or, not_true_eq_false, not_false_eq_true, wr_of, uI_at, uC_at, q_bi_s, q_bl_s, q_br_s, q_bv_s, Int.toNat_natCast, tn_1, tn_m, tn_n, Int.toNat_zero, Int.toNat_one]
    exact ⟨I1, rfl, F⟩
  | succ r ih =>
    intro n I1 hn F H G hne
    have V1 := MQs_qf V F
    have oa := ahd_ok V.1 hc n
    have ob := ahd_ok V.1 hd n
    have s := c_sameL (t := t) (u := u) (J := J) A275 A276 (p := 0) (s := 0) (by omega) (by omega) H.1 G.1 oa.2.1 ob.2.1 (HOk_len oa) (HOk_len ob)
    rw [Int.natCast_zero] at s
    rw [e236_44]
    by_cases q : (ahd S c n).1 = (ahd S d n).1
    · have e : fsti (fun n => decide ((ahd S c n).1 = (ahd S d n).1)) 401 = n := fsti_eq (by omega) (fun i hi => decide_eq_false (hne i hi)) (fun _ => decide_eq_true q)
      unfold fint
      rw [e, if_pos (show n < 401 by omega)]
      rw [if_pos q] at s
      simp (disch := omega) only [↓reduceIte, lt_TI, lt_FI, le_TI, le_FI, eq_TI, eq_FI, lt_TN, lt_FN, le_TN, le_FN, eq_TN, eq_FN, and_self, and_true, true_and, and_false, false_and, or_true, true_or, or_false, false_or, not_true_eq_false, not_false_eq_true, wr_of, uI_at, uC_at, q_bi_s, q_bl_s, q_br_s, q_bv_s, Int.toNat_natCast, tn_1, tn_m, tn_n, Int.toNat_zero, Int.toNat_one, s, e236_66]
      exact ⟨I1, rfl, F⟩
    · rw [if_neg q] at s
      obtain ⟨I3, y1, y2, y3⟩ := m_nt (t := t) (u := u) (J := J) V1 hc (Or.inl rfl) H oa
      have l := MQs_law V1 hc
      have V3 := MQs_qf V1 (QF_fr QF_rf y3 (by omega) (by omega))
      obtain ⟨I4, z1, z2, z3⟩ := m_nt (t := t) (u := u) (J := J) V3 hd (Or.inr rfl) (mRw_fr G y3 (by omega)) ob
      have l2 := MQs_law V3 hd
      simp (disch := omega) only [↓reduceIte, lt_TI, lt_FI, le_TI, le_FI, eq_TI, eq_FI, lt_TN, lt_FN, le_TN, le_FN, eq_TN, eq_FN, and_self, and_true, true_and, and_false, false_and, or_true, true_or, or_false, false_or, not_true_eq_false, not_false_eq_true, wr_of, uI_at, uC_at, q_bi_s, q_bl_s, q_br_s, q_bv_s, Int.toNat_natCast, tn_1, tn_m, tn_n, Int.toNat_zero, Int.toNat_one, s, e236_66, tn_5, l, y1, e236_88, l2, z1, e236_105]
      exact ih (n + 1) I4 (by omega) (QF_fr (QF_fr F y3 (by omega) (by omega)) z3 (by omega) (by omega)) (mRw_fr y2 z3 (by omega)) z2 (fun i hi => by
        by_cases e : i = n
        · rw [e]; exact q
        · exact hne i (by omega))
theorem m_alike (V : MInv S I) (c d : Int) : ∃ I', q_E (236, 0, [vr 265, vi c, vi d, vu], []) (qk t u I J) = some (vi (sp_alike S c d).1, qk t u I' J) ∧ QM (sp_alike S c d).2 I I' := by
  have A := MInv_A V
  have h4 := tC_4 V.1.1
  unfold sp_alike
  by_cases hc : isCl S c
  · have r1 := m_cell_ok (t := t) (u := u) (J := J) A hc
    by_cases hd : isCl S d
    · have r2 := m_cell_ok (t := t) (u := u) (J := J) A hd
      by_cases q : c = d
      · rw [if_neg (fun z => z.2.2 q)]
        simp (disch := omega) only [↓reduceIte, lt_TI, lt_FI, le_TI, le_FI, eq_TI, eq_FI, lt_TN, lt_FN, le_TN, le_FN, eq_TN, eq_FN, and_self, and_true, true_and, and_false, false_and, or_true, true_or, or_false, false_or, not_true_eq_false, not_false_eq_true, wr_of, uI_at, uC_at, q_bi_s, q_bl_s, q_br_s, q_bv_s, Int.toNat_natCast, tn_1, tn_m, tn_n, Int.toNat_zero, Int.toNat_one, r1, r2, q, e177_0, e178_0, e211_0, e211_5, e211_13, e236_0, e236_4, e236_66, e236_10, e236_88, e236_18, e236_24, e236_105, e236_42]
        exact ⟨_, rfl, QM_no QF_rf⟩
      · rw [if_pos ⟨hc, hd, q⟩]
        obtain ⟨m, rfl⟩ : ∃ m : Nat, c = (m : Int) := ⟨c.toNat, by omega⟩
        obtain ⟨k, rfl⟩ : ∃ m : Nat, d = (m : Int) := ⟨d.toNat, by omega⟩
        have hm : m < tC (sTo S) := by omega
        have hk : k < tC (sTo S) := by omega
        simp only [Int.toNat_natCast]
        obtain ⟨I1, x1, x2, x3⟩ := m_begin (t := t) (u := u) (J := J) A (show m < 4 by omega)
        have F1 := QF_fr QF_rf x3 (by omega) (by omega)
        have V1 := MQs_qf A F1
        obtain ⟨H, ok⟩ := MQs_row V1 (show k < 4 by omega)
        obtain ⟨I2, y1, y2, y3⟩ := m_copyR (t := t) (u := u) (J := J) A272 A276 (p := 61 * k) (s := 0) (by omega) (by omega) (by omega) H
        rw [Int.natCast_zero, c_61] at y1
        obtain ⟨I3, z1, F⟩ := m_alike_l (t := t) (u := u) (J := J) A hm hk 401 0 I2 (by omega) (QF_fr F1 y3 (by omega) (by omega)) (mRw_fr x2 y3 (by omega)) y2 (fun i hi => by omega)
        rw [Int.natCast_zero] at z1
        simp (disch := omega) only [↓reduceIte, lt_TI, lt_FI, le_TI, le_FI, eq_TI, eq_FI, lt_TN, lt_FN, le_TN, le_FN, eq_TN, eq_FN, and_self, and_true, true_and, and_false, false_and, or_true, true_or, or_false, false_or, not_true_eq_false, not_false_eq_true, wr_of, uI_at, uC_at, q_bi_s, q_bl_s, q_br_s, q_bv_s, Int.toNat_natCast, tn_1, tn_m, tn_n, Int.toNat_zero, Int.toNat_one, r1, r2, e177_0, e211_0, e211_5, e211_13, e236_0, e236_4, e236_66, e236_10, e236_88, e236_18, e236_24, e236_105, e236_42, x1, y1]
        exact ⟨I3, z1, QM_ok F⟩
    · rw [if_neg (fun z => hd z.2.1)]
      have r2 := m_cell_no (t := t) (u := u) (J := J) A hd
      simp (disch := omega) only [↓reduceIte, lt_TI, lt_FI, le_TI, le_FI, eq_TI, eq_FI, lt_TN, lt_FN, le_TN, le_FN, eq_TN, eq_FN, and_self, and_true, true_and, and_false, false_and, or_true, true_or, or_false, false_or, not_true_eq_false, not_false_eq_true, wr_of, uI_at, uC_at, q_bi_s, q_bl_s, q_br_s, q_bv_s, Int.toNat_natCast, tn_1, tn_m, tn_n, Int.toNat_zero, Int.toNat_one, r1, r2, e177_0, e178_0, e211_0, e211_5, e211_13, e236_0, e236_4, e236_66, e236_10, e236_88, e236_18, e236_24, e236_105, e236_42]
      exact ⟨_, rfl, QM_no QF_rf⟩
  · rw [if_neg (fun z => hc z.1)]
    have r1 := m_cell_no (t := t) (u := u) (J := J) A hc
    simp (disch := omega) only [↓reduceIte, lt_TI, lt_FI, le_TI, le_FI, eq_TI, eq_FI, lt_TN, lt_FN, le_TN, le_FN, eq_TN, eq_FN, and_self, and_true, true_and, and_false, false_and, or_true, true_or, or_false, false_or, not_true_eq_false, not_false_eq_true, wr_of, uI_at, uC_at, q_bi_s, q_bl_s, q_br_s, q_bv_s, Int.toNat_natCast, tn_1, tn_m, tn_n, Int.toNat_zero, Int.toNat_one, r1, e177_0, e178_0, e211_0, e211_5, e211_13, e236_0, e236_4, e236_66, e236_10, e236_88, e236_18, e236_24, e236_105, e236_42]
    exact ⟨_, rfl, QM_no QF_rf⟩
end

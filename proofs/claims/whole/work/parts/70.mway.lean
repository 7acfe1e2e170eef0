/-! the model's ways -/
section
variable {t u : Nat} {I J : Nat → Nat → Int} {S : St}
/-- in how many ways n stones lie in k heaps -/
def eQ (n k : Nat) : Nat := if k ≤ n then wQ k (n - k) else 0
theorem eQ_b {n k : Nat} (h1 : n ≤ 60) (h2 : k ≤ 60) : eQ n k ≤ 1000000 := by
  unfold eQ
  split
  · exact wQ_b h2 (by omega)
  · omega
theorem eQ_00 : eQ 0 0 = 1 := by unfold eQ; rw [if_pos (Nat.le_refl _), wQ_0]; rfl
theorem eQ_n0 {n : Nat} (h : 0 < n) : eQ n 0 = 0 := by unfold eQ; rw [if_pos (Nat.zero_le _), wQ_0, if_neg (by omega)]
theorem eQ_0k {k : Nat} (h : 0 < k) : eQ 0 k = 0 := by unfold eQ; rw [if_neg (by omega)]
theorem eQ_s {n k : Nat} (h1 : 0 < n) (h2 : 0 < k) : eQ n k = eQ (n - 1) (k - 1) + if k ≤ n then eQ (n - k) k else 0 := by
  unfold eQ
  by_cases q : k ≤ n
  · rw [if_pos q, if_pos q, if_pos (show k - 1 ≤ n - 1 by omega), show n - 1 - (k - 1) = n - k by omega]
    obtain ⟨h, rfl⟩ : ∃ h, k = h + 1 := ⟨k - 1, by omega⟩
    rw [wQ_s, Nat.add_sub_cancel]
  · rw [if_neg q, if_neg q, if_neg (by omega)]
theorem eQ_sum (n : Nat) : ∀ m, (rg (m + 1) (eQ n)).sum = wQ m n
  | 0 => by
    rw [rg_sum_s, show (rg 0 (eQ n)).sum = 0 from rfl, Nat.zero_add]
    unfold eQ
    rw [if_pos (Nat.zero_le _), Nat.sub_zero]
  | m + 1 => by
    rw [rg_sum_s, eQ_sum n m, wQ_s]
    rfl
theorem wQ_big {n : Nat} : ∀ k, wQ (n + k) n = wQ n n
  | 0 => rfl
  | k + 1 => by rw [show n + (k + 1) = (n + k) + 1 by omega, wQ_s, if_neg (by omega), Nat.add_zero]; exact wQ_big k
theorem uQ_big {n : Nat} : ∀ k, uQ (n + k) n = uQ n n
  | 0 => rfl
  | k + 1 => by
    show uQ (n + k) n + (if n + k + 1 ≤ n then _ else 0) = _
    rw [if_neg (by omega), Nat.add_zero]; exact uQ_big k
theorem m_layWays : ∃ I', q_E (252, 0, [vr 265, vu, vu, vu, vu], []) (qk t u I J) = some (vu, qk t u I' J) ∧ (∀ n k, n ≤ 60 → k ≤ 60 → I' 279 (61 * n + k) = (eQ n k : Int)) ∧ FrA 279 0 3721 I I' := by
  have inner : ∀ (n : Nat), n ≤ 60 → ∀ (r k : Nat) (I1 : Nat → Nat → Int), k + r = 61 → FrA 279 0 3721 I I1 → (∀ n' k', n' < n ∨ (n' = n ∧ k' < k) → k' ≤ 60 → I1 279 (61 * n' + k') = (eQ n' k' : Int)) → ∃ I', q_E (252, 10, [vr 265, vi (n : Int), vi (k : Int), vu, vu], []) (qk t u I1 J) = q_E (252, 2, [vr 265, vi ((n : Int) + 1), vu, vu, vu], []) (qk t u I' J) ∧ FrA 279 0 3721 I I' ∧ (∀ n' k', n' < n + 1 → k' ≤ 60 → I' 279 (61 * n' + k') = (eQ n' k' : Int)) := by
    intro n hn r
    induction r with
    | zero =>
      intro k I1 hk F e
      rw [e252_10]
      simp (disch := omega) only [↓reduceIte, lt_TI, lt_FI, le_TI, le_FI, eq_TI, eq_FI, lt_TN, lt_FN, le_TN, le_FN, eq_TN, eq_FN, and_self, and_true, true_and, and_false, false_and, or_true, true_or, or_false, false_or, not_true_eq_false, not_false_eq_true, wr_of, uI_at, uC_at, q_bi_s, q_bl_s, q_br_s, q_bv_s, Int.toNat_natCast, tn_1, tn_m, tn_n, Int.toNat_zero, Int.toNat_one]
      exact ⟨I1, rfl, F, fun n' k' h1 h2 => e n' k' (by omega) h2⟩
    | succ r ih =>
      intro k I1 hk F e
      have put : ∀ v : Int, v = (eQ n k : Int) → ∃ I', q_E (252, 10, [vr 265, vi (n : Int), vi ((k : Int) + 1), vu, vu], []) (qk t u (uI I1 279 (61 * n + k) v) J) = q_E (252, 2, [vr 265, vi ((n : Int) + 1), vu, vu, vu], []) (qk t u I' J) ∧ FrA 279 0 3721 I I' ∧ (∀ n' k', n' < n + 1 → k' ≤ 60 → I' 279 (61 * n' + k') = (eQ n' k' : Int)) := fun v hv => ih (k + 1) _ (by omega) (FrA_uI F (by omega) (by omega)) (fun n' k' h1 h2 => by
        by_cases q : n' = n ∧ k' = k
        · rw [q.1, q.2, ← hv]; exact if_pos ⟨rfl, rfl⟩
        · rw [uI_ne (Or.inr (by omega))]; exact e n' k' (by omega) h2)
      have b0 := eQ_b (n := n) (k := k) hn (by omega)
      rw [e252_10]
      by_cases hn0 : 0 < n
      · by_cases hk0 : 0 < k
        · have s := eQ_s hn0 hk0
          have v1 := e (n - 1) (k - 1) (by omega) (by omega)
          have b1 := eQ_b (n := n - 1) (k := k - 1) (by omega) (by omega)
          have t1 : (61 * ((n : Int) - 1) + (k : Int) - 1).toNat = 61 * (n - 1) + (k - 1) := by omega
          by_cases q : k ≤ n
          · have v2 := e (n - k) k (by omega) (by omega)
            have b2 := eQ_b (n := n - k) (k := k) (by omega) (by omega)
            have t2 : (61 * ((n : Int) - (k : Int)) + (k : Int)).toNat = 61 * (n - k) + k := by omega
            rw [if_pos q] at s
            simp (disch := omega) only [↓reduceIte, lt_TI, lt_FI, le_TI, le_FI, eq_TI, eq_FI, lt_TN, lt_FN, le_TN, le_FN, eq_TN, eq_FN, and_self, and_true, true_and, and_false, false_and, or_true, true_or, or_false, false_or, not_true_eq_false, not_false_eq_true, wr_of, uI_at, uC_at, q_bi_s, q_bl_s, q_br_s, q_bv_s, Int.toNat_natCast, tn_1, tn_m, tn_n, Int.toNat_zero, Int.toNat_one, t1, t2, v1, v2, tn_61a]
            exact put _ (by rw [s]; rfl)
          · rw [if_neg q, Nat.add_zero] at s
            simp (disch := omega) only [↓reduceIte, lt_TI, lt_FI, le_TI, le_FI, eq_TI, eq_FI, lt_TN, lt_FN, le_TN, le_FN, eq_TN, eq_FN, and_self, and_true, true_and, and_false, false_and, or_true, true_or, or_false, false_or, not_true_eq_false, not_false_eq_true, wr_of, uI_at, uC_at, q_bi_s, q_bl_s, q_br_s, q_bv_s, Int.toNat_natCast, tn_1, tn_m, tn_n, Int.toNat_zero, Int.toNat_one, t1, v1]
            rw [e252_69]
            simp (disch := omega) only [↓reduceIte, lt_TI, lt_FI, le_TI, le_FI, eq_TI, eq_FI, lt_TN, lt_FN, le_TN, le_FN, eq_TN, eq_FN, and_self, and_true, true_and, and_false, false_and, or_true, true_or, or_false, false_or, not_true_eq_false, not_false_eq_true, wr_of, uI_at, uC_at, q_bi_s, q_bl_s, q_br_s, q_bv_s, Int.toNat_natCast, tn_1, tn_m, tn_n, Int.toNat_zero, Int.toNat_one, tn_61a, Int.add_zero]
            exact put _ (by rw [s])
        · have hk1 : k = 0 := by omega
          subst hk1
          have s := eQ_n0 hn0
          rw [s] at put
          rw [Int.natCast_zero] at put ⊢
          simp (disch := omega) only [↓reduceIte, lt_TI, lt_FI, le_TI, le_FI, eq_TI, eq_FI, lt_TN, lt_FN, le_TN, le_FN, eq_TN, eq_FN, and_self, and_true, true_and, and_false, false_and, or_true, true_or, or_false, false_or, not_true_eq_false, not_false_eq_true, wr_of, uI_at, uC_at, q_bi_s, q_bl_s, q_br_s, q_bv_s, Int.toNat_natCast, tn_1, tn_m, tn_n, Int.toNat_zero, Int.toNat_one]
          rw [e252_42]
          simp (disch := omega) only [↓reduceIte, lt_TI, lt_FI, le_TI, le_FI, eq_TI, eq_FI, lt_TN, lt_FN, le_TN, le_FN, eq_TN, eq_FN, and_self, and_true, true_and, and_false, false_and, or_true, true_or, or_false, false_or, not_true_eq_false, not_false_eq_true, wr_of, uI_at, uC_at, q_bi_s, q_bl_s, q_br_s, q_bv_s, Int.toNat_natCast, tn_1, tn_m, tn_n, Int.toNat_zero, Int.toNat_one]
          rw [e252_69]
          simp (disch := omega) only [↓reduceIte, lt_TI, lt_FI, le_TI, le_FI, eq_TI, eq_FI, lt_TN, lt_FN, le_TN, le_FN, eq_TN, eq_FN, and_self, and_true, true_and, and_false, false_and, or_true, true_or, or_false, false_or, not_true_eq_false, not_false_eq_true, wr_of, uI_at, uC_at, q_bi_s, q_bl_s, q_br_s, q_bv_s, Int.toNat_natCast, tn_1, tn_m, tn_n, Int.toNat_zero, Int.toNat_one, tn_61, Int.add_zero, Int.zero_add]
          exact put 0 rfl
      · have hn1 : n = 0 := by omega
        subst hn1
        by_cases hk0 : 0 < k
        · have s := eQ_0k hk0
          rw [s] at put
          rw [Int.natCast_zero] at put ⊢
          simp (disch := omega) only [↓reduceIte, lt_TI, lt_FI, le_TI, le_FI, eq_TI, eq_FI, lt_TN, lt_FN, le_TN, le_FN, eq_TN, eq_FN, and_self, and_true, true_and, and_false, false_and, or_true, true_or, or_false, false_or, not_true_eq_false, not_false_eq_true, wr_of, uI_at, uC_at, q_bi_s, q_bl_s, q_br_s, q_bv_s, Int.toNat_natCast, tn_1, tn_m, tn_n, Int.toNat_zero, Int.toNat_one]
          rw [e252_42]
          simp (disch := omega) only [↓reduceIte, lt_TI, lt_FI, le_TI, le_FI, eq_TI, eq_FI, lt_TN, lt_FN, le_TN, le_FN, eq_TN, eq_FN, and_self, and_true, true_and, and_false, false_and, or_true, true_or, or_false, false_or, not_true_eq_false, not_false_eq_true, wr_of, uI_at, uC_at, q_bi_s, q_bl_s, q_br_s, q_bv_s, Int.toNat_natCast, tn_1, tn_m, tn_n, Int.toNat_zero, Int.toNat_one]
          rw [e252_69]
          simp (disch := omega) only [↓reduceIte, lt_TI, lt_FI, le_TI, le_FI, eq_TI, eq_FI, lt_TN, lt_FN, le_TN, le_FN, eq_TN, eq_FN, and_self, and_true, true_and, and_false, false_and, or_true, true_or, or_false, false_or, not_true_eq_false, not_false_eq_true, wr_of, uI_at, uC_at, q_bi_s, q_bl_s, q_br_s, q_bv_s, Int.toNat_natCast, tn_1, tn_m, tn_n, Int.toNat_zero, Int.toNat_one, Int.mul_zero, Int.add_zero, Int.zero_add]
          have p := put 0 rfl
          rw [Nat.mul_zero, Nat.zero_add] at p
          exact p
        · have hk1 : k = 0 := by omega
          subst hk1
          rw [eQ_00] at put
          rw [Int.natCast_zero] at put ⊢
          simp (disch := omega) only [↓reduceIte, lt_TI, lt_FI, le_TI, le_FI, eq_TI, eq_FI, lt_TN, lt_FN, le_TN, le_FN, eq_TN, eq_FN, and_self, and_true, true_and, and_false, false_and, or_true, true_or, or_false, false_or, not_true_eq_false, not_false_eq_true, wr_of, uI_at, uC_at, q_bi_s, q_bl_s, q_br_s, q_bv_s, Int.toNat_natCast, tn_1, tn_m, tn_n, Int.toNat_zero, Int.toNat_one]
          rw [e252_42]
          simp (disch := omega) only [↓reduceIte, lt_TI, lt_FI, le_TI, le_FI, eq_TI, eq_FI, lt_TN, lt_FN, le_TN, le_FN, eq_TN, eq_FN, and_self, and_true, true_and, and_false, false_and, or_true, true_or, or_false, false_or, not_true_eq_false, not_false_eq_true, wr_of, uI_at, uC_at, q_bi_s, q_bl_s, q_br_s, q_bv_s, Int.toNat_natCast, tn_1, tn_m, tn_n, Int.toNat_zero, Int.toNat_one]
          rw [e252_69]
          simp (disch := omega) only [↓reduceIte, lt_TI, lt_FI, le_TI, le_FI, eq_TI, eq_FI, lt_TN, lt_FN, le_TN, le_FN, eq_TN, eq_FN, and_self, and_true, true_and, and_false, false_and, or_true, true_or, or_false, false_or, not_true_eq_false, not_false_eq_true, wr_of, uI_at, uC_at, q_bi_s, q_bl_s, q_br_s, q_bv_s, Int.toNat_natCast, tn_1, tn_m, tn_n, Int.toNat_zero, Int.toNat_one, Int.mul_zero, Int.add_zero, Int.zero_add]
          exact put 1 rfl
  have outer : ∀ (r n : Nat) (I1 : Nat → Nat → Int), n + r = 61 → FrA 279 0 3721 I I1 → (∀ n' k', n' < n → k' ≤ 60 → I1 279 (61 * n' + k') = (eQ n' k' : Int)) → ∃ I', q_E (252, 2, [vr 265, vi (n : Int), vu, vu, vu], []) (qk t u I1 J) = some (vu, qk t u I' J) ∧ (∀ n k, n ≤ 60 → k ≤ 60 → I' 279 (61 * n + k) = (eQ n k : Int)) ∧ FrA 279 0 3721 I I' := by
    intro r
    induction r with
    | zero =>
      intro n I1 hn F e
      rw [e252_2]
      simp (disch := omega) only [↓reduceIte, lt_TI, lt_FI, le_TI, le_FI, eq_TI, eq_FI, lt_TN, lt_FN, le_TN, le_FN, eq_TN, eq_FN, and_self, and_true, true_and, and_false, false_and, or_true, true_or, or_false, false_or, not_true_eq_false, not_false_eq_true, wr_of, uI_at, uC_at, q_bi_s, q_bl_s, q_br_s, q_bv_s, Int.toNat_natCast, tn_1, tn_m, tn_n, Int.toNat_zero, Int.toNat_one]
      exact ⟨I1, rfl, fun n' k' h1 h2 => e n' k' (by omega) h2, F⟩
    | succ r ih =>
      intro n I1 hn F e
      obtain ⟨I2, x1, x2, x3⟩ := inner n (by omega) 61 0 I1 (by omega) F (fun n' k' h1 h2 => e n' k' (by omega) h2)
      rw [Int.natCast_zero] at x1
      rw [e252_2]
      simp (disch := omega) only [↓reduceIte, lt_TI, lt_FI, le_TI, le_FI, eq_TI, eq_FI, lt_TN, lt_FN, le_TN, le_FN, eq_TN, eq_FN, and_self, and_true, true_and, and_false, false_and, or_true, true_or, or_false, false_or, not_true_eq_false, not_false_eq_true, wr_of, uI_at, uC_at, q_bi_s, q_bl_s, q_br_s, q_bv_s, Int.toNat_natCast, tn_1, tn_m, tn_n, Int.toNat_zero, Int.toNat_one, x1]
      exact ih (n + 1) I2 (by omega) x2 x3
  rw [e252_0]
  exact outer 61 0 I (by omega) FrA_rf (fun n' k' h1 => by omega)
theorem m_ways (V : MInv S I) (n : Int) : ∃ I', q_E (254, 0, [vr 265, vi n, vu, vu, vu], []) (qk t u I J) = some (vi (sp_ways S n).1, qk t u I' J) ∧ QM (sp_ways S n).2 I I' := by
  have A := MInv_A V
  have h4 := tC_4 V.1.1
  have hs := V.1.2.1
  have hs2 := A.2.1
  unfold sp_ways spW
  by_cases hc : 0 < tC (sTo S)
  · simp only [if_pos hc]
    rw [if_pos hc] at hs
    by_cases hn : 0 ≤ n ∧ n ≤ 60
    · simp only [if_pos hn]
      obtain ⟨hn1, hn2⟩ := hn
      obtain ⟨j, rfl⟩ : ∃ j : Nat, n = (j : Int) := ⟨n.toNat, by omega⟩
      simp only [Int.toNat_natCast]
      obtain ⟨I', x1, x2, x3⟩ := m_layWays (t := t) (u := u) (I := uI (uI I 265 0 0) 265 11 0) (J := J)
      have loop : ∀ r k : Nat, k + r = 61 → q_E (254, 30, [vr 265, vi (j : Int), vu, vi ((rg k (eQ j)).sum : Int), vi (k : Int)], []) (qk t u I' J) = some (vi ((rg 61 (eQ j)).sum : Int), qk t u I' J) := by
        intro r
        induction r with
        | zero =>
          intro k hk
          rw [e254_30]
          simp (disch := omega) only [↓reduceIte, lt_TI, lt_FI, le_TI, le_FI, eq_TI, eq_FI, lt_TN, lt_FN, le_TN, le_FN, eq_TN, eq_FN, and_self, and_true, true_and, and_false, false_and, or_true, true_or, or_false, false_or, not_true_eq_false, not_false_eq_true, wr_of, uI_at, uC_at, q_bi_s, q_bl_s, q_br_s, q_bv_s, Int.toNat_natCast, tn_1, tn_m, tn_n, Int.toNat_zero, Int.toNat_one]
          rw [show k = 61 by omega]
        | succ r ih =>
          intro k hk
          have v := x2 j k (by omega) (by omega)
          have b := rg_mono (eQ j) (show k + 1 ≤ 61 by omega)
          rw [eQ_sum j 60, rg_sum_s] at b
          have b2 := wQ_b (h := 60) (n := j) (by omega) (by omega)
          have e := ih (k + 1) (by omega)
          rw [rg_sum_s] at e
          rw [e254_30]
          simp (disch := omega) only [↓reduceIte, lt_TI, lt_FI, le_TI, le_FI, eq_TI, eq_FI, lt_TN, lt_FN, le_TN, le_FN, eq_TN, eq_FN, and_self, and_true, true_and, and_false, false_and, or_true, true_or, or_false, false_or, not_true_eq_false, not_false_eq_true, wr_of, uI_at, uC_at, q_bi_s, q_bl_s, q_br_s, q_bv_s, Int.toNat_natCast, tn_1, tn_m, tn_n, Int.toNat_zero, Int.toNat_one, tn_61a, v]
          exact e
      have b1 := loop 61 0 (by omega)
      rw [Int.natCast_zero, show (rg 0 (eQ j)).sum = 0 from rfl, Int.natCast_zero, eQ_sum j 60] at b1
      have bg := wQ_big (n := j) (60 - j)
      rw [show j + (60 - j) = 60 by omega] at bg
      rw [bg] at b1
      simp (disch := omega) only [↓reduceIte, lt_TI, lt_FI, le_TI, le_FI, eq_TI, eq_FI, lt_TN, lt_FN, le_TN, le_FN, eq_TN, eq_FN, and_self, and_true, true_and, and_false, false_and, or_true, true_or, or_false, false_or, not_true_eq_false, not_false_eq_true, wr_of, uI_at, uC_at, q_bi_s, q_bl_s, q_br_s, q_bv_s, Int.toNat_natCast, tn_1, tn_m, tn_n, Int.toNat_zero, Int.toNat_one, e177_0, e178_0, e212_0, e253_0, e253_12, e253_22, e253_33, k21, n_ok, n_no, e254_0, e254_4, e254_10, e254_25, e254_20, hs, x1, b1]
      exact ⟨_, rfl, QM_ok (QF_fr QF_rf x3 (by omega) (by omega))⟩
    · simp only [if_neg hn]
      simp (disch := omega) only [↓reduceIte, lt_TI, lt_FI, le_TI, le_FI, eq_TI, eq_FI, lt_TN, lt_FN, le_TN, le_FN, eq_TN, eq_FN, and_self, and_true, true_and, and_false, false_and, or_true, true_or, or_false, false_or, not_true_eq_false, not_false_eq_true, wr_of, uI_at, uC_at, q_bi_s, q_bl_s, q_br_s, q_bv_s, Int.toNat_natCast, tn_1, tn_m, tn_n, Int.toNat_zero, Int.toNat_one, e177_0, e178_0, e212_0, e253_0, e253_12, e253_22, e253_33, k21, n_ok, n_no, e254_0, e254_4, e254_10, e254_25, e254_20, hs]
      exact ⟨_, rfl, QM_no QF_rf⟩
  · simp only [if_neg hc]
    rw [if_neg hc] at hs
    by_cases hn : 0 ≤ n ∧ n ≤ 60
    · obtain ⟨hn1, hn2⟩ := hn
      simp (disch := omega) only [↓reduceIte, lt_TI, lt_FI, le_TI, le_FI, eq_TI, eq_FI, lt_TN, lt_FN, le_TN, le_FN, eq_TN, eq_FN, and_self, and_true, true_and, and_false, false_and, or_true, true_or, or_false, false_or, not_true_eq_false, not_false_eq_true, wr_of, uI_at, uC_at, q_bi_s, q_bl_s, q_br_s, q_bv_s, Int.toNat_natCast, tn_1, tn_m, tn_n, Int.toNat_zero, Int.toNat_one, e177_0, e178_0, e212_0, e253_0, e253_12, e253_22, e253_33, k21, n_ok, n_no, e254_0, e254_4, e254_10, e254_25, e254_20, hs]
      exact ⟨_, rfl, QM_no QF_rf⟩
    · simp (disch := omega) only [↓reduceIte, lt_TI, lt_FI, le_TI, le_FI, eq_TI, eq_FI, lt_TN, lt_FN, le_TN, le_FN, eq_TN, eq_FN, and_self, and_true, true_and, and_false, false_and, or_true, true_or, or_false, false_or, not_true_eq_false, not_false_eq_true, wr_of, uI_at, uC_at, q_bi_s, q_bl_s, q_br_s, q_bv_s, Int.toNat_natCast, tn_1, tn_m, tn_n, Int.toNat_zero, Int.toNat_one, e177_0, e178_0, e212_0, e253_0, e253_12, e253_22, e253_33, k21, n_ok, n_no, e254_0, e254_4, e254_10, e254_25, e254_20, hs]
      exact ⟨_, rfl, QM_no QF_rf⟩
theorem m_waysUnlike (V : MInv S I) (n : Int) : ∃ I', q_E (256, 0, [vr 265, vi n, vu, vu, vu], []) (qk t u I J) = some (vi (sp_waysUnlike S n).1, qk t u I' J) ∧ QM (sp_waysUnlike S n).2 I I' := by
  have A := MInv_A V
  have h4 := tC_4 V.1.1
  have hs := V.1.2.1
  have hs2 := A.2.1
  unfold sp_waysUnlike spW
  by_cases hc : 0 < tC (sTo S)
  · simp only [if_pos hc]
    rw [if_pos hc] at hs
    by_cases hn : 0 ≤ n ∧ n ≤ 60
    · simp only [if_pos hn]
      obtain ⟨hn1, hn2⟩ := hn
      obtain ⟨j, rfl⟩ : ∃ j : Nat, n = (j : Int) := ⟨n.toNat, by omega⟩
      simp only [Int.toNat_natCast]
      have z1 : ∀ (r k : Nat) (I1 : Nat → Nat → Int), k + r = 61 → FrA 280 0 61 (uI (uI I 265 0 0) 265 11 0) I1 → (∀ i, i < k → I1 280 i = (uQ 0 i : Int)) → ∃ I', q_E (256, 23, [vr 265, vi (j : Int), vu, vi (k : Int), vu], []) (qk t u I1 J) = q_E (256, 52, [vr 265, vi (j : Int), vu, vi 1, vu], []) (qk t u I' J) ∧ FrA 280 0 61 (uI (uI I 265 0 0) 265 11 0) I' ∧ ∀ i, i < 61 → I' 280 i = (uQ 0 i : Int) := by
        intro r
        induction r with
        | zero =>
          intro k I1 hk F e
          rw [e256_23]
          simp (disch := omega) only [↓reduceIte, lt_TI, lt_FI, le_TI, le_FI, eq_TI, eq_FI, lt_TN, lt_FN, le_TN, le_FN, eq_TN, eq_FN, and_self, and_true, true_and, and_false, false_and, or_true, true_or, or_false, false_or, not_true_eq_false, not_false_eq_true, wr_of, uI_at, uC_at, q_bi_s, q_bl_s, q_br_s, q_bv_s, Int.toNat_natCast, tn_1, tn_m, tn_n, Int.toNat_zero, Int.toNat_one]
          exact ⟨I1, rfl, F, fun i hi => e i (by omega)⟩
        | succ r ih =>
          intro k I1 hk F e
          rw [e256_23]
          by_cases q : k = 0
          · subst q
            rw [Int.natCast_zero]
            simp (disch := omega) only [↓reduceIte, lt_TI, lt_FI, le_TI, le_FI, eq_TI, eq_FI, lt_TN, lt_FN, le_TN, le_FN, eq_TN, eq_FN, and_self, and_true, true_and, and_false, false_and, or_true, true_or, or_false, false_or, not_true_eq_false, not_false_eq_true, wr_of, uI_at, uC_at, q_bi_s, q_bl_s, q_br_s, q_bv_s, Int.toNat_natCast, tn_1, tn_m, tn_n, Int.toNat_zero, Int.toNat_one]
            exact ih 1 _ (by omega) (FrA_uI F (by omega) (by omega)) (fun i hi => by
              have : i = 0 := by omega
              subst this
              exact if_pos ⟨rfl, rfl⟩)
          · simp (disch := omega) only [↓reduceIte, lt_TI, lt_FI, le_TI, le_FI, eq_TI, eq_FI, lt_TN, lt_FN, le_TN, le_FN, eq_TN, eq_FN, and_self, and_true, true_and, and_false, false_and, or_true, true_or, or_false, false_or, not_true_eq_false, not_false_eq_true, wr_of, uI_at, uC_at, q_bi_s, q_bl_s, q_br_s, q_bv_s, Int.toNat_natCast, tn_1, tn_m, tn_n, Int.toNat_zero, Int.toNat_one]
            exact ih (k + 1) _ (by omega) (FrA_uI F (by omega) (by omega)) (fun i hi => by
              by_cases z : i = k
              · subst z
                have e0 : uQ 0 i = 0 := if_neg q
                rw [e0]
                exact if_pos ⟨rfl, rfl⟩
              · rw [uI_ne (Or.inr z)]; exact e i (by omega))
      have z2 : ∀ h : Nat, h < 60 → ∀ (r k : Nat) (I1 : Nat → Nat → Int), r = k - h → h ≤ k → k ≤ 60 → FrA 280 0 61 (uI (uI I 265 0 0) 265 11 0) I1 → (∀ i, i < 61 → I1 280 i = if k < i then (uQ (h + 1) i : Int) else (uQ h i : Int)) → ∃ I', q_E (256, 62, [vr 265, vi (j : Int), vu, vi ((h : Int) + 1), vi (k : Int)], []) (qk t u I1 J) = q_E (256, 52, [vr 265, vi (j : Int), vu, vi ((h : Int) + 1 + 1), vu], []) (qk t u I' J) ∧ FrA 280 0 61 (uI (uI I 265 0 0) 265 11 0) I' ∧ ∀ i, i < 61 → I' 280 i = (uQ (h + 1) i : Int) := by
        intro h hh r
        induction r with
        | zero =>
          intro k I1 hk h1 h2 F e
          rw [e256_62]
          simp (disch := omega) only [↓reduceIte, lt_TI, lt_FI, le_TI, le_FI, eq_TI, eq_FI, lt_TN, lt_FN, le_TN, le_FN, eq_TN, eq_FN, and_self, and_true, true_and, and_false, false_and, or_true, true_or, or_false, false_or, not_true_eq_false, not_false_eq_true, wr_of, uI_at, uC_at, q_bi_s, q_bl_s, q_br_s, q_bv_s, Int.toNat_natCast, tn_1, tn_m, tn_n, Int.toNat_zero, Int.toNat_one]
          refine ⟨I1, rfl, F, fun i hi => ?_⟩
          rw [e i hi]
          by_cases q : k < i
          · rw [if_pos q]
          · rw [if_neg q]
            have e0 : uQ (h + 1) i = uQ h i + if h + 1 ≤ i then uQ h (i - (h + 1)) else 0 := rfl
            rw [e0, if_neg (by omega)]
            rfl
        | succ r ih =>
          intro k I1 hk h1 h2 F e
          have v := e k (by omega)
          rw [if_neg (by omega)] at v
          have v2 := e (k - (h + 1)) (by omega)
          rw [if_neg (by omega)] at v2
          have b1 := uQ_b (h := h) (n := k) (by omega) h2
          have b2 := uQ_b (h := h) (n := k - (h + 1)) (by omega) (by omega)
          have e0 : uQ (h + 1) k = uQ h k + if h + 1 ≤ k then uQ h (k - (h + 1)) else 0 := rfl
          rw [if_pos (by omega)] at e0
          have t1 : ((k : Int) - ((h : Int) + 1)).toNat = k - (h + 1) := by omega
          rw [e256_62]
          simp (disch := omega) only [↓reduceIte, lt_TI, lt_FI, le_TI, le_FI, eq_TI, eq_FI, lt_TN, lt_FN, le_TN, le_FN, eq_TN, eq_FN, and_self, and_true, true_and, and_false, false_and, or_true, true_or, or_false, false_or, not_true_eq_false, not_false_eq_true, wr_of, uI_at, uC_at, q_bi_s, q_bl_s, q_br_s, q_bv_s, Int.toNat_natCast, tn_1, tn_m, tn_n, Int.toNat_zero, Int.toNat_one, t1, v, v2]
          have en := ih (k - 1) (uI I1 280 k ((uQ h k : Int) + (uQ h (k - (h + 1)) : Int))) (by omega) (by omega) (by omega) (FrA_uI F (by omega) (by omega)) (fun i hi => by
            by_cases z : i = k
            · subst z
              rw [uI_at, if_pos ⟨rfl, rfl⟩, if_pos (by omega), e0]; rfl
            · rw [uI_ne (Or.inr z), e i hi]
              by_cases y : k < i
              · rw [if_pos y, if_pos (by omega)]
              · rw [if_neg y, if_neg (by omega)])
          rw [show (((k - 1 : Nat) : Int)) = (k : Int) + -1 by omega] at en
          exact en
      have z3 : ∀ (r h : Nat) (I1 : Nat → Nat → Int), h + r = 60 → FrA 280 0 61 (uI (uI I 265 0 0) 265 11 0) I1 → (∀ i, i < 61 → I1 280 i = (uQ h i : Int)) → ∃ I', q_E (256, 52, [vr 265, vi (j : Int), vu, vi ((h : Int) + 1), vu], []) (qk t u I1 J) = some (vi (uQ 60 j : Int), qk t u I' J) ∧ FrA 280 0 61 (uI (uI I 265 0 0) 265 11 0) I' := by
        intro r
        induction r with
        | zero =>
          intro h I1 hh F e
          have v := e j (by omega)
          rw [show h = 60 by omega] at v
          rw [e256_52]
          simp (disch := omega) only [↓reduceIte, lt_TI, lt_FI, le_TI, le_FI, eq_TI, eq_FI, lt_TN, lt_FN, le_TN, le_FN, eq_TN, eq_FN, and_self, and_true, true_and, and_false, false_and, or_true, true_or, or_false, false_or, not_true_eq_false, not_false_eq_true, wr_of, uI_at, uC_at, q_bi_s, q_bl_s, q_br_s, q_bv_s, Int.toNat_natCast, tn_1, tn_m, tn_n, Int.toNat_zero, Int.toNat_one, v]
          exact ⟨I1, rfl, F⟩
        | succ r ih =>
          intro h I1 hh F e
          obtain ⟨I2, x1, x2, x3⟩ := z2 h (by omega) (60 - h) 60 I1 rfl (by omega) (by omega) F (fun i hi => by rw [if_neg (by omega)]; exact e i hi)
          rw [show ((60 : Nat) : Int) = 60 from rfl] at x1
          rw [e256_52]
          simp (disch := omega) only [↓reduceIte, lt_TI, lt_FI, le_TI, le_FI, eq_TI, eq_FI, lt_TN, lt_FN, le_TN, le_FN, eq_TN, eq_FN, and_self, and_true, true_and, and_false, false_and, or_true, true_or, or_false, false_or, not_true_eq_false, not_false_eq_true, wr_of, uI_at, uC_at, q_bi_s, q_bl_s, q_br_s, q_bv_s, Int.toNat_natCast, tn_1, tn_m, tn_n, Int.toNat_zero, Int.toNat_one, x1]
          exact ih (h + 1) I2 (by omega) x2 x3
      obtain ⟨I1, x1, x2, x3⟩ := z1 61 0 _ (by omega) FrA_rf (fun i hi => by omega)
      obtain ⟨I2, y1, y2⟩ := z3 60 0 I1 (by omega) x2 x3
      have bg := uQ_big (n := j) (60 - j)
      rw [show j + (60 - j) = 60 by omega] at bg
      rw [bg] at y1
      rw [Int.natCast_zero, Int.zero_add] at y1
      rw [Int.natCast_zero] at x1
      simp (disch := omega) only [↓reduceIte, lt_TI, lt_FI, le_TI, le_FI, eq_TI, eq_FI, lt_TN, lt_FN, le_TN, le_FN, eq_TN, eq_FN, and_self, and_true, true_and, and_false, false_and, or_true, true_or, or_false, false_or, not_true_eq_false, not_false_eq_true, wr_of, uI_at, uC_at, q_bi_s, q_bl_s, q_br_s, q_bv_s, Int.toNat_natCast, tn_1, tn_m, tn_n, Int.toNat_zero, Int.toNat_one, e177_0, e178_0, e212_0, e253_0, e253_12, e253_22, e253_33, k21, n_ok, n_no, e256_0, e256_4, e256_10, e256_20, hs, x1, y1]
      exact ⟨_, rfl, QM_ok (QF_fr QF_rf y2 (by omega) (by omega))⟩
    · simp only [if_neg hn]
      simp (disch := omega) only [↓reduceIte, lt_TI, lt_FI, le_TI, le_FI, eq_TI, eq_FI, lt_TN, lt_FN, le_TN, le_FN, eq_TN, eq_FN, and_self, and_true, true_and, and_false, false_and, or_true, true_or, or_false, false_or, not_true_eq_false, not_false_eq_true, wr_of, uI_at, uC_at, q_bi_s, q_bl_s, q_br_s, q_bv_s, Int.toNat_natCast, tn_1, tn_m, tn_n, Int.toNat_zero, Int.toNat_one, e177_0, e178_0, e212_0, e253_0, e253_12, e253_22, e253_33, k21, n_ok, n_no, e256_0, e256_4, e256_10, e256_20, hs]
      exact ⟨_, rfl, QM_no QF_rf⟩
  · simp only [if_neg hc]
    rw [if_neg hc] at hs
    by_cases hn : 0 ≤ n ∧ n ≤ 60
    · obtain ⟨hn1, hn2⟩ := hn
      simp (disch := omega) only [↓reduceIte, lt_TI, lt_FI, le_TI, le_FI, eq_TI, eq_FI, lt_TN, lt_FN, le_TN, le_FN, eq_TN, eq_FN, and_self, and_true, true_and, and_false, false_and, or_true, true_or, or_false, false_or, not_true_eq_false, not_false_eq_true, wr_of, uI_at, uC_at, q_bi_s, q_bl_s, q_br_s, q_bv_s, Int.toNat_natCast, tn_1, tn_m, tn_n, Int.toNat_zero, Int.toNat_one, e177_0, e178_0, e212_0, e253_0, e253_12, e253_22, e253_33, k21, n_ok, n_no, e256_0, e256_4, e256_10, e256_20, hs]
      exact ⟨_, rfl, QM_no QF_rf⟩
    · simp (disch := omega) only [↓reduceIte, lt_TI, lt_FI, le_TI, le_FI, eq_TI, eq_FI, lt_TN, lt_FN, le_TN, le_FN, eq_TN, eq_FN, and_self, and_true, true_and, and_false, false_and, or_true, true_or, or_false, false_or, not_true_eq_false, not_false_eq_true, wr_of, uI_at, uC_at, q_bi_s, q_bl_s, q_br_s, q_bv_s, Int.toNat_natCast, tn_1, tn_m, tn_n, Int.toNat_zero, Int.toNat_one, e177_0, e178_0, e212_0, e253_0, e253_12, e253_22, e253_33, k21, n_ok, n_no, e256_0, e256_4, e256_10, e256_20, hs]
      exact ⟨_, rfl, QM_no QF_rf⟩
theorem m_waysBy (V : MInv S I) (n k : Int) : ∃ I', q_E (255, 0, [vr 265, vi n, vi k, vu], []) (qk t u I J) = some (vi (sp_waysBy S n k).1, qk t u I' J) ∧ QM (sp_waysBy S n k).2 I I' := by
  have A := MInv_A V
  have h4 := tC_4 V.1.1
  have hs := V.1.2.1
  have hs2 := A.2.1
  unfold sp_waysBy
  by_cases hc : 0 < tC (sTo S)
  · simp only [if_pos hc]
    rw [if_pos hc] at hs
    by_cases hn : 0 ≤ n ∧ n ≤ 60
    · by_cases hk : 0 ≤ k ∧ k ≤ 60
      · simp only [if_pos (show 0 ≤ n ∧ n ≤ 60 ∧ 0 ≤ k ∧ k ≤ 60 from ⟨hn.1, hn.2, hk.1, hk.2⟩)]
        obtain ⟨hn1, hn2⟩ := hn
        obtain ⟨hk1, hk2⟩ := hk
        obtain ⟨n, rfl⟩ : ∃ j : Nat, n = (j : Int) := ⟨n.toNat, by omega⟩
        obtain ⟨k, rfl⟩ : ∃ j : Nat, k = (j : Int) := ⟨k.toNat, by omega⟩
        simp only [Int.toNat_natCast]
        obtain ⟨I', x1, x2, x3⟩ := m_layWays (t := t) (u := u) (I := uI (uI I 265 0 0) 265 11 0) (J := J)
        have v := x2 n k (by omega) (by omega)
        have ev : (eQ n k : Int) = if (n : Int) < (k : Int) then 0 else (wQ k (n - k) : Int) := by
          unfold eQ
          by_cases q : k ≤ n
          · rw [if_pos q, if_neg (by omega)]
          · rw [if_neg q, if_pos (by omega)]; rfl
        rw [ev] at v
        simp (disch := omega) only [↓reduceIte, lt_TI, lt_FI, le_TI, le_FI, eq_TI, eq_FI, lt_TN, lt_FN, le_TN, le_FN, eq_TN, eq_FN, and_self, and_true, true_and, and_false, false_and, or_true, true_or, or_false, false_or, not_true_eq_false, not_false_eq_true, wr_of, uI_at, uC_at, q_bi_s, q_bl_s, q_br_s, q_bv_s, Int.toNat_natCast, tn_1, tn_m, tn_n, Int.toNat_zero, Int.toNat_one, e177_0, e178_0, e212_0, e253_0, e253_12, e253_22, e253_33, k21, n_ok, n_no, e255_0, e255_4, e255_10, e255_25, e255_20, hs, x1, tn_61a, v]
        exact ⟨_, rfl, QM_ok (QF_fr QF_rf x3 (by omega) (by omega))⟩
      · simp only [if_neg (show ¬ (0 ≤ n ∧ n ≤ 60 ∧ 0 ≤ k ∧ k ≤ 60) from fun z => hk z.2.2)]
        obtain ⟨hn1, hn2⟩ := hn
        simp (disch := omega) only [↓reduceIte, lt_TI, lt_FI, le_TI, le_FI, eq_TI, eq_FI, lt_TN, lt_FN, le_TN, le_FN, eq_TN, eq_FN, and_self, and_true, true_and, and_false, false_and, or_true, true_or, or_false, false_or, not_true_eq_false, not_false_eq_true, wr_of, uI_at, uC_at, q_bi_s, q_bl_s, q_br_s, q_bv_s, Int.toNat_natCast, tn_1, tn_m, tn_n, Int.toNat_zero, Int.toNat_one, e177_0, e178_0, e212_0, e253_0, e253_12, e253_22, e253_33, k21, n_ok, n_no, e255_0, e255_4, e255_10, e255_25, e255_20, hs]
        exact ⟨_, rfl, QM_no QF_rf⟩
    · simp only [if_neg (show ¬ (0 ≤ n ∧ n ≤ 60 ∧ 0 ≤ k ∧ k ≤ 60) from fun z => hn ⟨z.1, z.2.1⟩)]
      simp (disch := omega) only [↓reduceIte, lt_TI, lt_FI, le_TI, le_FI, eq_TI, eq_FI, lt_TN, lt_FN, le_TN, le_FN, eq_TN, eq_FN, and_self, and_true, true_and, and_false, false_and, or_true, true_or, or_false, false_or, not_true_eq_false, not_false_eq_true, wr_of, uI_at, uC_at, q_bi_s, q_bl_s, q_br_s, q_bv_s, Int.toNat_natCast, tn_1, tn_m, tn_n, Int.toNat_zero, Int.toNat_one, e177_0, e178_0, e212_0, e253_0, e253_12, e253_22, e253_33, k21, n_ok, n_no, e255_0, e255_4, e255_10, e255_25, e255_20, hs]
      exact ⟨_, rfl, QM_no QF_rf⟩
  · simp only [if_neg hc]
    rw [if_neg hc] at hs
    by_cases hn : 0 ≤ n ∧ n ≤ 60
    · obtain ⟨hn1, hn2⟩ := hn
      by_cases hk : 0 ≤ k ∧ k ≤ 60
      · obtain ⟨hk1, hk2⟩ := hk
        simp (disch := omega) only [↓reduceIte, lt_TI, lt_FI, le_TI, le_FI, eq_TI, eq_FI, lt_TN, lt_FN, le_TN, le_FN, eq_TN, eq_FN, and_self, and_true, true_and, and_false, false_and, or_true, true_or, or_false, false_or, not_true_eq_false, not_false_eq_true, wr_of, uI_at, uC_at, q_bi_s, q_bl_s, q_br_s, q_bv_s, Int.toNat_natCast, tn_1, tn_m, tn_n, Int.toNat_zero, Int.toNat_one, e177_0, e178_0, e212_0, e253_0, e253_12, e253_22, e253_33, k21, n_ok, n_no, e255_0, e255_4, e255_10, e255_25, e255_20, hs]
        exact ⟨_, rfl, QM_no QF_rf⟩
      · simp (disch := omega) only [↓reduceIte, lt_TI, lt_FI, le_TI, le_FI, eq_TI, eq_FI, lt_TN, lt_FN, le_TN, le_FN, eq_TN, eq_FN, and_self, and_true, true_and, and_false, false_and, or_true, true_or, or_false, false_or, not_true_eq_false, not_false_eq_true, wr_of, uI_at, uC_at, q_bi_s, q_bl_s, q_br_s, q_bv_s, Int.toNat_natCast, tn_1, tn_m, tn_n, Int.toNat_zero, Int.toNat_one, e177_0, e178_0, e212_0, e253_0, e253_12, e253_22, e253_33, k21, n_ok, n_no, e255_0, e255_4, e255_10, e255_25, e255_20, hs]
        exact ⟨_, rfl, QM_no QF_rf⟩
    · simp (disch := omega) only [↓reduceIte, lt_TI, lt_FI, le_TI, le_FI, eq_TI, eq_FI, lt_TN, lt_FN, le_TN, le_FN, eq_TN, eq_FN, and_self, and_true, true_and, and_false, false_and, or_true, true_or, or_false, false_or, not_true_eq_false, not_false_eq_true, wr_of, uI_at, uC_at, q_bi_s, q_bl_s, q_br_s, q_bv_s, Int.toNat_natCast, tn_1, tn_m, tn_n, Int.toNat_zero, Int.toNat_one, e177_0, e178_0, e212_0, e253_0, e253_12, e253_22, e253_33, k21, n_ok, n_no, e255_0, e255_4, e255_10, e255_25, e255_20, hs]
      exact ⟨_, rfl, QM_no QF_rf⟩
end

/-! THE MODEL READS: its tokens, its words -/
theorem kof_34 {v : Nat} (k1 : ¬ kof v = 1) (k2 : ¬ kof v = 2) : (kof v = 3 ↔ v = 59) ∧ (kof v = 3 ∨ kof v = 4) := by
  by_cases a : 97 ≤ v ∧ v ≤ 122
  · exact absurd (show kof v = 1 by unfold kof; rw [if_pos a]) k1
  · by_cases c : 48 ≤ v ∧ v ≤ 57
    · exact absurd (show kof v = 2 by unfold kof; rw [if_neg a, if_pos c]) k2
    · have e : kof v = if v = 59 then 3 else 4 := by unfold kof; rw [if_neg a, if_neg c]
      by_cases d : v = 59
      · rw [if_pos d] at e; exact ⟨⟨fun _ => d, fun _ => e⟩, Or.inl e⟩
      · rw [if_neg d] at e; exact ⟨⟨fun z => by omega, fun z => absurd z d⟩, Or.inr e⟩
def tkM (k : Nat) : Int := if k = 0 then 0 else if k = 1 then 2 else if k = 2 then 3 else if k = 3 then 59 else 1
theorem tkM_0 {k : Nat} : tkM k = 0 ↔ k = 0 := by
  unfold tkM; split
  · exact ⟨fun _ => by assumption, fun _ => rfl⟩
  · split
    · exact ⟨fun z => absurd z (by decide), fun z => by omega⟩
    · split
      · exact ⟨fun z => absurd z (by decide), fun z => by omega⟩
      · split
        · exact ⟨fun z => absurd z (by decide), fun z => by omega⟩
        · exact ⟨fun z => absurd z (by decide), fun z => by omega⟩
theorem tkM_2 {k : Nat} : tkM k = 2 ↔ k = 1 := by
  unfold tkM; split
  · exact ⟨fun z => absurd z (by decide), fun z => by omega⟩
  · split
    · exact ⟨fun _ => by assumption, fun _ => rfl⟩
    · split
      · exact ⟨fun z => absurd z (by decide), fun z => by omega⟩
      · split
        · exact ⟨fun z => absurd z (by decide), fun z => by omega⟩
        · exact ⟨fun z => absurd z (by decide), fun z => by omega⟩
theorem tkM_3 {k : Nat} : tkM k = 3 ↔ k = 2 := by
  unfold tkM; split
  · exact ⟨fun z => absurd z (by decide), fun z => by omega⟩
  · split
    · exact ⟨fun z => absurd z (by decide), fun z => by omega⟩
    · split
      · exact ⟨fun _ => by assumption, fun _ => rfl⟩
      · split
        · exact ⟨fun z => absurd z (by decide), fun z => by omega⟩
        · exact ⟨fun z => absurd z (by decide), fun z => by omega⟩
theorem tkM_59 {k : Nat} : tkM k = 59 ↔ k = 3 := by
  unfold tkM; split
  · exact ⟨fun z => absurd z (by decide), fun z => by omega⟩
  · split
    · exact ⟨fun z => absurd z (by decide), fun z => by omega⟩
    · split
      · exact ⟨fun z => absurd z (by decide), fun z => by omega⟩
      · split
        · exact ⟨fun _ => by assumption, fun _ => rfl⟩
        · exact ⟨fun z => absurd z (by decide), fun z => by omega⟩
theorem kof_1 {v : Nat} : kof v = 1 ↔ 97 ≤ v ∧ v ≤ 122 := by
  unfold kof
  split
  · exact ⟨fun _ => by assumption, fun _ => rfl⟩
  · split
    · exact ⟨fun z => absurd z (by decide), fun z => by omega⟩
    · split
      · exact ⟨fun z => absurd z (by decide), fun z => by omega⟩
      · exact ⟨fun z => absurd z (by decide), fun z => by omega⟩
theorem kof_2 {v : Nat} : kof v = 2 ↔ 48 ≤ v ∧ v ≤ 57 := by
  unfold kof
  split
  · exact ⟨fun z => absurd z (by decide), fun z => by omega⟩
  · split
    · exact ⟨fun _ => by assumption, fun _ => rfl⟩
    · split
      · exact ⟨fun z => absurd z (by decide), fun z => by omega⟩
      · exact ⟨fun z => absurd z (by decide), fun z => by omega⟩
def MB (I : Nat → Nat → Int) (b : Nat → Nat) (n : Nat) : Prop := I 265 3 = (n : Int) ∧ n ≤ 900 ∧ ∀ i, i < n → b i < 256 ∧ I 266 i = (b i : Int)
def sg (b : Nat → Nat) (n i : Nat) : Int := if i < n then (b i : Int) else -1
/-- what a token leaves alone -/
def NF (I I' : Nat → Nat → Int) : Prop := (∀ a, a ≠ 265 → a ≠ 267 → I' a = I a) ∧ ∀ k, k < 4 ∨ 8 < k → I' 265 k = I 265 k
theorem NF_rf {I : Nat → Nat → Int} : NF I I := ⟨fun _ _ _ => rfl, fun _ _ => rfl⟩
theorem NF_tr {I I1 I2 : Nat → Nat → Int} (a : NF I I1) (b : NF I1 I2) : NF I I2 := ⟨fun c h1 h2 => (b.1 c h1 h2).trans (a.1 c h1 h2), fun k h => (b.2 k h).trans (a.2 k h)⟩
theorem NF_5 {I I1 : Nat → Nat → Int} {k : Nat} {v : Int} (h : NF I I1) (q : 4 ≤ k ∧ k ≤ 8) : NF I (uI I1 265 k v) := ⟨fun c h1 h2 => by rw [uI_o1 h1]; exact h.1 c h1 h2, fun j g => by rw [uI_ne (Or.inr (by omega))]; exact h.2 j g⟩
theorem NF_7 {I I1 : Nat → Nat → Int} {k : Nat} {v : Int} (h : NF I I1) : NF I (uI I1 267 k v) := ⟨fun c h1 h2 => by rw [uI_o1 h2]; exact h.1 c h1 h2, fun j g => by rw [uI_ne (Or.inl (by omega))]; exact h.2 j g⟩
theorem MB_nf {I I' : Nat → Nat → Int} {b : Nat → Nat} {n : Nat} (B : MB I b n) (h : NF I I') : MB I' b n := ⟨by rw [h.2 3 (by omega)]; exact B.1, B.2.1, fun i hi => ⟨(B.2.2 i hi).1, by rw [h.1 266 (by omega) (by omega)]; exact (B.2.2 i hi).2⟩⟩
def MK (I : Nat → Nat → Int) (b : Nat → Nat) (n : Nat) (k : Tk) : Prop := MB I b n ∧ I 265 6 = tkM k.1 ∧ I 265 4 = (k.2.1 : Int) ∧ I 265 5 = (k.2.2 : Int) ∧ (∃ e, e ≤ n ∧ k = tok b n e) ∧ (k.1 = 1 → I 265 8 = ((k.2.2 - k.2.1 : Nat) : Int) ∧ ∀ i, i < k.2.2 - k.2.1 → I 267 i = (b (k.2.1 + i) : Int)) ∧ (k.1 = 2 → I 265 7 = (tvl b k : Int))
theorem MK_b {I : Nat → Nat → Int} {b : Nat → Nat} {n : Nat} {k : Tk} (K : MK I b n k) : k.2.1 ≤ k.2.2 ∧ k.2.2 ≤ n ∧ n ≤ 900 := by
  obtain ⟨B, -, -, -, ⟨e, he, rfl⟩, -⟩ := K
  obtain ⟨a, c, d, -⟩ := tok_b b he
  exact ⟨c, d, B.2.1⟩
theorem MK_1 {I : Nat → Nat → Int} {b : Nat → Nat} {n : Nat} {k : Tk} (K : MK I b n k) (h : k.1 = 1) : k.2.2 - k.2.1 ≤ 8 ∧ k.2.1 < k.2.2 ∧ k.2.2 ≤ n := by
  obtain ⟨B, -, -, -, ⟨e, he, rfl⟩, -⟩ := K
  exact ⟨(tok_1 b h).1, (tok_b b he).2.2.2.1 (by omega), (tok_b b he).2.2.1⟩
theorem MK_2 {I : Nat → Nat → Int} {b : Nat → Nat} {n : Nat} {k : Tk} (K : MK I b n k) (h : k.1 = 2) : tvl b k ≤ 999 := by
  obtain ⟨B, -, -, -, ⟨e, he, rfl⟩, -⟩ := K
  exact tvl_le b h
theorem rnl_e (b : Nat → Nat) {n p k : Nat} (h : rnl b n p k < n) (hp : p < n) : kof (b (rnl b n p k)) ≠ k := by
  have := fsti_t (n - (p + 1)) (fun i => decide (kof (b (p + 1 + i)) ≠ k)) (by unfold rnl at h; omega)
  exact of_decide_eq_true this
section
variable {t u : Nat} {I J : Nat → Nat → Int} {b : Nat → Nat} {n : Nat} {k : Tk}
theorem m_see (B : MB I b n) (i : Nat) (hi : i ≤ n) : q_E (185, 0, [vr 265, vi (i : Int)], []) (qk t u I J) = some (vi (sg b n i), qk t u I J) := by
  obtain ⟨h3, hn, hb⟩ := B
  unfold sg
  rw [e185_0, h3]
  by_cases q : i < n
  · have v := (hb i q).2
    simp (disch := omega) only [↓reduceIte, lt_TI, lt_FI, le_TI, le_FI, eq_TI, eq_FI, lt_TN, lt_FN, le_TN, le_FN, eq_TN, eq_FN, and_self, and_true, true_and, and_false, false_and, or_true, true_or, or_false, false_or, not_true_eq_false, not_false_eq_true, wr_of, uI_at, uC_at, q_bi_s, q_bl_s, q_br_s, q_bv_s, Int.toNat_natCast, tn_1, tn_m, tn_n, Int.toNat_zero, Int.toNat_one, v]
  · simp (disch := omega) only [↓reduceIte, lt_TI, lt_FI, le_TI, le_FI, eq_TI, eq_FI, lt_TN, lt_FN, le_TN, le_FN, eq_TN, eq_FN, and_self, and_true, true_and, and_false, false_and, or_true, true_or, or_false, false_or, not_true_eq_false, not_false_eq_true, wr_of, uI_at, uC_at, q_bi_s, q_bl_s, q_br_s, q_bv_s, Int.toNat_natCast, tn_1, tn_m, tn_n, Int.toNat_zero, Int.toNat_one]
theorem m_small_y {i : Nat} (q : i < n) (h : kof (b i) = 1) : q_E (186, 0, [vi (sg b n i)], []) (qk t u I J) = some (vi 1, qk t u I J) := by
  have := kof_1.mp h
  unfold sg
  rw [if_pos q, e186_0]
  simp (disch := omega) only [↓reduceIte, lt_TI, lt_FI, le_TI, le_FI, eq_TI, eq_FI, lt_TN, lt_FN, le_TN, le_FN, eq_TN, eq_FN, and_self, and_true, true_and, and_false, false_and, or_true, true_or, or_false, false_or, not_true_eq_false, not_false_eq_true, wr_of, uI_at, uC_at, q_bi_s, q_bl_s, q_br_s, q_bv_s, Int.toNat_natCast, tn_1, tn_m, tn_n, Int.toNat_zero, Int.toNat_one]
theorem m_small_n {i : Nat} (h : ¬ (i < n ∧ kof (b i) = 1)) : q_E (186, 0, [vi (sg b n i)], []) (qk t u I J) = some (vi 0, qk t u I J) := by
  unfold sg
  rw [e186_0]
  by_cases q : i < n
  · have hk : ¬ (97 ≤ b i ∧ b i ≤ 122) := fun z => h ⟨q, kof_1.mpr z⟩
    rw [if_pos q]
    rcases Classical.em (b i < 97) with z | z <;> simp (disch := omega) only [↓reduceIte, lt_TI, lt_FI, le_TI, le_FI, eq_TI, eq_FI, lt_TN, lt_FN, le_TN, le_FN, eq_TN, eq_FN, and_self, and_true, true_and, and_false, false_and, or_true, true_or, or_false, false_or, not_true_eq_false, not_false_eq_true, wr_of, uI_at, uC_at, q_bi_s, q_bl_s, q_br_s, q_bv_s, Int.toNat_natCast, tn_1, tn_m, tn_n, Int.toNat_zero, Int.toNat_one]
  · rw [if_neg q]
    simp (disch := omega) only [↓reduceIte, lt_TI, lt_FI, le_TI, le_FI, eq_TI, eq_FI, lt_TN, lt_FN, le_TN, le_FN, eq_TN, eq_FN, and_self, and_true, true_and, and_false, false_and, or_true, true_or, or_false, false_or, not_true_eq_false, not_false_eq_true, wr_of, uI_at, uC_at, q_bi_s, q_bl_s, q_br_s, q_bv_s, Int.toNat_natCast, tn_1, tn_m, tn_n, Int.toNat_zero, Int.toNat_one]
theorem m_digit_y {i : Nat} (q : i < n) (h : kof (b i) = 2) : q_E (187, 0, [vi (sg b n i)], []) (qk t u I J) = some (vi 1, qk t u I J) := by
  have := kof_2.mp h
  unfold sg
  rw [if_pos q, e187_0]
  simp (disch := omega) only [↓reduceIte, lt_TI, lt_FI, le_TI, le_FI, eq_TI, eq_FI, lt_TN, lt_FN, le_TN, le_FN, eq_TN, eq_FN, and_self, and_true, true_and, and_false, false_and, or_true, true_or, or_false, false_or, not_true_eq_false, not_false_eq_true, wr_of, uI_at, uC_at, q_bi_s, q_bl_s, q_br_s, q_bv_s, Int.toNat_natCast, tn_1, tn_m, tn_n, Int.toNat_zero, Int.toNat_one]
theorem m_digit_n {i : Nat} (h : ¬ (i < n ∧ kof (b i) = 2)) : q_E (187, 0, [vi (sg b n i)], []) (qk t u I J) = some (vi 0, qk t u I J) := by
  unfold sg
  rw [e187_0]
  by_cases q : i < n
  · have hk : ¬ (48 ≤ b i ∧ b i ≤ 57) := fun z => h ⟨q, kof_2.mpr z⟩
    rw [if_pos q]
    rcases Classical.em (b i < 48) with z | z <;> simp (disch := omega) only [↓reduceIte, lt_TI, lt_FI, le_TI, le_FI, eq_TI, eq_FI, lt_TN, lt_FN, le_TN, le_FN, eq_TN, eq_FN, and_self, and_true, true_and, and_false, false_and, or_true, true_or, or_false, false_or, not_true_eq_false, not_false_eq_true, wr_of, uI_at, uC_at, q_bi_s, q_bl_s, q_br_s, q_bv_s, Int.toNat_natCast, tn_1, tn_m, tn_n, Int.toNat_zero, Int.toNat_one]
  · rw [if_neg q]
    simp (disch := omega) only [↓reduceIte, lt_TI, lt_FI, le_TI, le_FI, eq_TI, eq_FI, lt_TN, lt_FN, le_TN, le_FN, eq_TN, eq_FN, and_self, and_true, true_and, and_false, false_and, or_true, true_or, or_false, false_or, not_true_eq_false, not_false_eq_true, wr_of, uI_at, uC_at, q_bi_s, q_bl_s, q_br_s, q_bv_s, Int.toNat_natCast, tn_1, tn_m, tn_n, Int.toNat_zero, Int.toNat_one]
/-- a word's letters -/
theorem m_letters {p : Nat} (hp : p < n) (hn : n ≤ 900) (hk : kof (b p) = 1) : ∀ (r j : Nat) (I1 : Nat → Nat → Int), p + j + r = rnl b n p 1 → MB I1 b n → I1 265 8 = (j : Int) → (∀ i, i < j → i < 8 → I1 267 i = (b (p + i) : Int)) → ∃ I', q_E (188, 67, [vr 265, vi ((p + j : Nat) : Int), vu, vu], []) (qk t u I1 J) = some (vu, qk t u I' J) ∧ NF I1 I' ∧ I' 265 4 = I1 265 4 ∧ I' 265 5 = (rnl b n p 1 : Int) ∧ I' 265 6 = (if 8 < rnl b n p 1 - p then 1 else 2) ∧ I' 265 8 = ((rnl b n p 1 - p : Nat) : Int) ∧ ∀ i, i < rnl b n p 1 - p → i < 8 → I' 267 i = (b (p + i) : Int) := by
  obtain ⟨r1, r2⟩ := rnl_b b (k := 1) hp
  intro r
  induction r with
  | zero =>
    intro j I1 hj B h8 hl
    have ea : rnl b n p 1 = p + j := by omega
    have s := m_see (t := t) (u := u) (J := J) B (p + j) (by omega)
    have sm := m_small_n (t := t) (u := u) (I := I1) (J := J) (b := b) (n := n) (i := p + j) (fun z => by
      have := rnl_e b (n := n) (p := p) (k := 1) (by omega) hp
      rw [ea] at this
      exact this z.2)
    rw [e188_67, s, q_bi_s, e188_72, sm, q_bi_s, e188_75, if_pos rfl, uI_ne (Or.inr (by omega)), h8, ea, show p + j - p = j by omega]
    by_cases q : 8 < j
    · rw [if_pos (show (8 : Int) < (j : Int) by omega), if_pos q]
      exact ⟨_, rfl, NF_5 (NF_5 NF_rf (by omega)) (by omega), by simp (disch := omega) only [↓reduceIte, lt_TI, lt_FI, le_TI, le_FI, eq_TI, eq_FI, lt_TN, lt_FN, le_TN, le_FN, eq_TN, eq_FN, and_self, and_true, true_and, and_false, false_and, or_true, true_or, or_false, false_or, not_true_eq_false, not_false_eq_true, wr_of, uI_at, uC_at, q_bi_s, q_bl_s, q_br_s, q_bv_s, Int.toNat_natCast, tn_1, tn_m, tn_n, Int.toNat_zero, Int.toNat_one], by simp (disch := omega) only [↓reduceIte, lt_TI, lt_FI, le_TI, le_FI, eq_TI, eq_FI, lt_TN, lt_FN, le_TN, le_FN, eq_TN, eq_FN, and_self, and_true, true_and, and_false, false_and, or_true, true_or, or_false, false_or, not_true_eq_false, not_false_eq_true, wr_of, uI_at, uC_at, q_bi_s, q_bl_s, q_br_s, q_bv_s, Int.toNat_natCast, tn_1, tn_m, tn_n, Int.toNat_zero, Int.toNat_one], by simp (disch := omega) only [↓reduceIte, lt_TI, lt_FI, le_TI, le_FI, eq_TI, eq_FI, lt_TN, lt_FN, le_TN, le_FN, eq_TN, eq_FN, and_self, and_true, true_and, and_false, false_and, or_true, true_or, or_false, false_or, not_true_eq_false, not_false_eq_true, wr_of, uI_at, uC_at, q_bi_s, q_bl_s, q_br_s, q_bv_s, Int.toNat_natCast, tn_1, tn_m, tn_n, Int.toNat_zero, Int.toNat_one], by simp (disch := omega) only [↓reduceIte, lt_TI, lt_FI, le_TI, le_FI, eq_TI, eq_FI, lt_TN, lt_FN, le_TN, le_FN, eq_TN, eq_FN, and_self, and_true, true_and, and_false, false_and, or_true, true_or, or_false, false_or, not_true_eq_false, not_false_eq_true, wr_of, uI_at, uC_at, q_bi_s, q_bl_s, q_br_s, q_bv_s, Int.toNat_natCast, tn_1, tn_m, tn_n, Int.toNat_zero, Int.toNat_one, h8], fun i h1 h2 => by rw [uI_o1 (by omega), uI_o1 (by omega)]; exact hl i h1 h2⟩
    · rw [if_neg (show ¬ (8 : Int) < (j : Int) by omega), if_neg q]
      exact ⟨_, rfl, NF_5 (NF_5 NF_rf (by omega)) (by omega), by simp (disch := omega) only [↓reduceIte, lt_TI, lt_FI, le_TI, le_FI, eq_TI, eq_FI, lt_TN, lt_FN, le_TN, le_FN, eq_TN, eq_FN, and_self, and_true, true_and, and_false, false_and, or_true, true_or, or_false, false_or, not_true_eq_false, not_false_eq_true, wr_of, uI_at, uC_at, q_bi_s, q_bl_s, q_br_s, q_bv_s, Int.toNat_natCast, tn_1, tn_m, tn_n, Int.toNat_zero, Int.toNat_one], by simp (disch := omega) only [↓reduceIte, lt_TI, lt_FI, le_TI, le_FI, eq_TI, eq_FI, lt_TN, lt_FN, le_TN, le_FN, eq_TN, eq_FN, and_self, and_true, true_and, and_false, false_and, or_true, true_or, or_false, false_or, not_true_eq_false, not_false_eq_true, wr_of, uI_at, uC_at, q_bi_s, q_bl_s, q_br_s, q_bv_s, Int.toNat_natCast, tn_1, tn_m, tn_n, Int.toNat_zero, Int.toNat_one], by simp (disch := omega) only [↓reduceIte, lt_TI, lt_FI, le_TI, le_FI, eq_TI, eq_FI, lt_TN, lt_FN, le_TN, le_FN, eq_TN, eq_FN, and_self, and_true, true_and, and_false, false_and, or_true, true_or, or_false, false_or, not_true_eq_false, not_false_eq_true, wr_of, uI_at, uC_at, q_bi_s, q_bl_s, q_br_s, q_bv_s, Int.toNat_natCast, tn_1, tn_m, tn_n, Int.toNat_zero, Int.toNat_one], by simp (disch := omega) only [↓reduceIte, lt_TI, lt_FI, le_TI, le_FI, eq_TI, eq_FI, lt_TN, lt_FN, le_TN, le_FN, eq_TN, eq_FN, and_self, and_true, true_and, and_false, false_and, or_true, true_or, or_false, false_or, not_true_eq_false, not_false_eq_true, wr_of, uI_at, uC_at, q_bi_s, q_bl_s, q_br_s, q_bv_s, Int.toNat_natCast, tn_1, tn_m, tn_n, Int.toNat_zero, Int.toNat_one, h8], fun i h1 h2 => by rw [uI_o1 (by omega), uI_o1 (by omega)]; exact hl i h1 h2⟩
  | succ r ih =>
    intro j I1 hj B h8 hl
    have s := m_see (t := t) (u := u) (J := J) B (p + j) (by omega)
    have sm := m_small_y (t := t) (u := u) (I := I1) (J := J) (b := b) (n := n) (i := p + j) (by omega) (rnl_k b (n := n) hk (p + j) (by omega) (by omega))
    have sv : sg b n (p + j) = (b (p + j) : Int) := if_pos (by omega)
    rw [e188_67, s, q_bi_s, e188_72, sm, q_bi_s, e188_75, if_neg (show ¬ (1 : Int) = 0 by decide), h8]
    by_cases q : j < 8
    · rw [if_pos (show (j : Int) < 8 by omega), s, q_bi_s, e188_100, if_pos (show kd 267 = 1 from rfl), show ln 267 = 8 from rfl, if_pos (show (0 : Int) ≤ (j : Int) ∧ (j : Int) < 8 by omega), Int.toNat_natCast, sv, uI_ne (Or.inl (by omega)), h8, wr_of (by omega) (by omega), wr_of (by omega) (by omega)]
      obtain ⟨I2, x1, x2, x3, x4, x5, x6, x7⟩ := ih (j + 1) (uI (uI I1 267 j (b (p + j) : Int)) 265 8 ((j : Int) + 1)) (by omega) (MB_nf B (NF_5 (NF_7 NF_rf) (by omega))) (by simp (disch := omega) only [↓reduceIte, lt_TI, lt_FI, le_TI, le_FI, eq_TI, eq_FI, lt_TN, lt_FN, le_TN, le_FN, eq_TN, eq_FN, and_self, and_true, true_and, and_false, false_and, or_true, true_or, or_false, false_or, not_true_eq_false, not_false_eq_true, wr_of, uI_at, uC_at, q_bi_s, q_bl_s, q_br_s, q_bv_s, Int.toNat_natCast, tn_1, tn_m, tn_n, Int.toNat_zero, Int.toNat_one] <;> rfl) (fun i h1 h2 => by
        by_cases e : i = j
        · subst e; rw [uI_ne (Or.inl (by omega)), uI_at, if_pos ⟨rfl, rfl⟩]
        · rw [uI_ne (Or.inl (by omega)), uI_ne (Or.inr e)]; exact hl i (by omega) h2)
      exact ⟨I2, x1, NF_tr (NF_5 (NF_7 NF_rf) (by omega)) x2, by rw [x3]; simp (disch := omega) only [↓reduceIte, lt_TI, lt_FI, le_TI, le_FI, eq_TI, eq_FI, lt_TN, lt_FN, le_TN, le_FN, eq_TN, eq_FN, and_self, and_true, true_and, and_false, false_and, or_true, true_or, or_false, false_or, not_true_eq_false, not_false_eq_true, wr_of, uI_at, uC_at, q_bi_s, q_bl_s, q_br_s, q_bv_s, Int.toNat_natCast, tn_1, tn_m, tn_n, Int.toNat_zero, Int.toNat_one], x4, x5, x6, x7⟩
    · rw [if_neg (show ¬ (j : Int) < 8 by omega), wr_of (by omega) (by omega), wr_of (by omega) (by omega)]
      obtain ⟨I2, x1, x2, x3, x4, x5, x6, x7⟩ := ih (j + 1) (uI I1 265 8 ((j : Int) + 1)) (by omega) (MB_nf B (NF_5 NF_rf (by omega))) (by simp (disch := omega) only [↓reduceIte, lt_TI, lt_FI, le_TI, le_FI, eq_TI, eq_FI, lt_TN, lt_FN, le_TN, le_FN, eq_TN, eq_FN, and_self, and_true, true_and, and_false, false_and, or_true, true_or, or_false, false_or, not_true_eq_false, not_false_eq_true, wr_of, uI_at, uC_at, q_bi_s, q_bl_s, q_br_s, q_bv_s, Int.toNat_natCast, tn_1, tn_m, tn_n, Int.toNat_zero, Int.toNat_one] <;> rfl) (fun i h1 h2 => by rw [uI_ne (Or.inl (by omega))]; exact hl i (by omega) h2)
      exact ⟨I2, x1, NF_tr (NF_5 NF_rf (by omega)) x2, by rw [x3]; simp (disch := omega) only [↓reduceIte, lt_TI, lt_FI, le_TI, le_FI, eq_TI, eq_FI, lt_TN, lt_FN, le_TN, le_FN, eq_TN, eq_FN, and_self, and_true, true_and, and_false, false_and, or_true, true_or, or_false, false_or, not_true_eq_false, not_false_eq_true, wr_of, uI_at, uC_at, q_bi_s, q_bl_s, q_br_s, q_bv_s, Int.toNat_natCast, tn_1, tn_m, tn_n, Int.toNat_zero, Int.toNat_one], x4, x5, x6, x7⟩
/-- a whole's digits -/
theorem m_digits {p : Nat} (hp : p < n) (hn : n ≤ 900) (hk : kof (b p) = 2) : ∀ (r j : Nat) (I1 : Nat → Nat → Int), p + j + r = rnl b n p 2 → MB I1 b n → (j ≤ 3 → I1 265 7 = (vlu b p j : Int)) → ∃ I', q_E (188, 152, [vr 265, vi ((p + j : Nat) : Int), vu, vi (j : Int)], []) (qk t u I1 J) = some (vu, qk t u I' J) ∧ NF I1 I' ∧ I' 265 4 = I1 265 4 ∧ I' 265 5 = (rnl b n p 2 : Int) ∧ I' 265 6 = (if 3 < rnl b n p 2 - p then 1 else 3) ∧ (rnl b n p 2 - p ≤ 3 → I' 265 7 = (vlu b p (rnl b n p 2 - p) : Int)) := by
  obtain ⟨r1, r2⟩ := rnl_b b (k := 2) hp
  have dg : ∀ i, p + i < rnl b n p 2 → 48 ≤ b (p + i) ∧ b (p + i) ≤ 57 := fun i hi => kof_2.mp (rnl_k b (n := n) hk (p + i) (by omega) hi)
  intro r
  induction r with
  | zero =>
    intro j I1 hj B h7
    have ea : rnl b n p 2 = p + j := by omega
    have s := m_see (t := t) (u := u) (J := J) B (p + j) (by omega)
    have sm := m_digit_n (t := t) (u := u) (I := I1) (J := J) (b := b) (n := n) (i := p + j) (fun z => by
      have := rnl_e b (n := n) (p := p) (k := 2) (by omega) hp
      rw [ea] at this
      exact this z.2)
    rw [e188_152, s, q_bi_s, e188_157, sm, q_bi_s, e188_160, if_pos rfl, ea, show p + j - p = j by omega]
    by_cases q : 3 < j
    · rw [if_pos (show (3 : Int) < (j : Int) by omega), if_pos q]
      exact ⟨_, rfl, NF_5 (NF_5 NF_rf (by omega)) (by omega), by simp (disch := omega) only [↓reduceIte, lt_TI, lt_FI, le_TI, le_FI, eq_TI, eq_FI, lt_TN, lt_FN, le_TN, le_FN, eq_TN, eq_FN, and_self, and_true, true_and, and_false, false_and, or_true, true_or, or_false, false_or, not_true_eq_false, not_false_eq_true, wr_of, uI_at, uC_at, q_bi_s, q_bl_s, q_br_s, q_bv_s, Int.toNat_natCast, tn_1, tn_m, tn_n, Int.toNat_zero, Int.toNat_one], by simp (disch := omega) only [↓reduceIte, lt_TI, lt_FI, le_TI, le_FI, eq_TI, eq_FI, lt_TN, lt_FN, le_TN, le_FN, eq_TN, eq_FN, and_self, and_true, true_and, and_false, false_and, or_true, true_or, or_false, false_or, not_true_eq_false, not_false_eq_true, wr_of, uI_at, uC_at, q_bi_s, q_bl_s, q_br_s, q_bv_s, Int.toNat_natCast, tn_1, tn_m, tn_n, Int.toNat_zero, Int.toNat_one], by simp (disch := omega) only [↓reduceIte, lt_TI, lt_FI, le_TI, le_FI, eq_TI, eq_FI, lt_TN, lt_FN, le_TN, le_FN, eq_TN, eq_FN, and_self, and_true, true_and, and_false, false_and, or_true, true_or, or_false, false_or, not_true_eq_false, not_false_eq_true, wr_of, uI_at, uC_at, q_bi_s, q_bl_s, q_br_s, q_bv_s, Int.toNat_natCast, tn_1, tn_m, tn_n, Int.toNat_zero, Int.toNat_one], fun z => by omega⟩
    · rw [if_neg (show ¬ (3 : Int) < (j : Int) by omega), if_neg q]
      exact ⟨_, rfl, NF_5 (NF_5 NF_rf (by omega)) (by omega), by simp (disch := omega) only [↓reduceIte, lt_TI, lt_FI, le_TI, le_FI, eq_TI, eq_FI, lt_TN, lt_FN, le_TN, le_FN, eq_TN, eq_FN, and_self, and_true, true_and, and_false, false_and, or_true, true_or, or_false, false_or, not_true_eq_false, not_false_eq_true, wr_of, uI_at, uC_at, q_bi_s, q_bl_s, q_br_s, q_bv_s, Int.toNat_natCast, tn_1, tn_m, tn_n, Int.toNat_zero, Int.toNat_one], by simp (disch := omega) only [↓reduceIte, lt_TI, lt_FI, le_TI, le_FI, eq_TI, eq_FI, lt_TN, lt_FN, le_TN, le_FN, eq_TN, eq_FN, and_self, and_true, true_and, and_false, false_and, or_true, true_or, or_false, false_or, not_true_eq_false, not_false_eq_true, wr_of, uI_at, uC_at, q_bi_s, q_bl_s, q_br_s, q_bv_s, Int.toNat_natCast, tn_1, tn_m, tn_n, Int.toNat_zero, Int.toNat_one], by simp (disch := omega) only [↓reduceIte, lt_TI, lt_FI, le_TI, le_FI, eq_TI, eq_FI, lt_TN, lt_FN, le_TN, le_FN, eq_TN, eq_FN, and_self, and_true, true_and, and_false, false_and, or_true, true_or, or_false, false_or, not_true_eq_false, not_false_eq_true, wr_of, uI_at, uC_at, q_bi_s, q_bl_s, q_br_s, q_bv_s, Int.toNat_natCast, tn_1, tn_m, tn_n, Int.toNat_zero, Int.toNat_one], fun z => by rw [uI_ne (Or.inr (by omega)), uI_ne (Or.inr (by omega))]; exact h7 z⟩
  | succ r ih =>
    intro j I1 hj B h7
    have s := m_see (t := t) (u := u) (J := J) B (p + j) (by omega)
    have sm := m_digit_y (t := t) (u := u) (I := I1) (J := J) (b := b) (n := n) (i := p + j) (by omega) (rnl_k b (n := n) hk (p + j) (by omega) (by omega))
    have sv : sg b n (p + j) = (b (p + j) : Int) := if_pos (by omega)
    rw [e188_152, s, q_bi_s, e188_157, sm, q_bi_s, e188_160, if_neg (show ¬ (1 : Int) = 0 by decide)]
    by_cases q : j < 3
    · obtain ⟨d1, d2⟩ := dg j (by omega)
      have vb := vlu_le b p j (fun i hi => (dg i (by omega)).2)
      have pb := Nat.pow_le_pow_right (show 0 < 10 by omega) (show j ≤ 3 by omega)
      rw [if_pos (show (j : Int) < 3 by omega), s, q_bi_s, e188_181, if_pos (show kd 265 = 21 from rfl), sv, h7 (by omega), wr_of (z := (j : Int) + 1) (by omega) (by omega), wr_of (z := ((p + j : Nat) : Int) + 1) (by omega) (by omega), wr_of (z := 10 * (vlu b p j : Int)) (by omega) (by omega), wr_of (z := 10 * (vlu b p j : Int) + (b (p + j) : Int)) (by omega) (by omega), wr_of (by omega) (by omega)]
      obtain ⟨I2, x1, x2, x3, x4, x5, x6⟩ := ih (j + 1) (uI I1 265 7 (10 * (vlu b p j : Int) + (b (p + j) : Int) - 48)) (by omega) (MB_nf B (NF_5 NF_rf (by omega))) (fun _ => by
        rw [uI_at, if_pos ⟨rfl, rfl⟩]
        show _ = ((10 * vlu b p j + (b (p + j) - 48) : Nat) : Int); omega)
      exact ⟨I2, x1, NF_tr (NF_5 NF_rf (by omega)) x2, by rw [x3]; simp (disch := omega) only [↓reduceIte, lt_TI, lt_FI, le_TI, le_FI, eq_TI, eq_FI, lt_TN, lt_FN, le_TN, le_FN, eq_TN, eq_FN, and_self, and_true, true_and, and_false, false_and, or_true, true_or, or_false, false_or, not_true_eq_false, not_false_eq_true, wr_of, uI_at, uC_at, q_bi_s, q_bl_s, q_br_s, q_bv_s, Int.toNat_natCast, tn_1, tn_m, tn_n, Int.toNat_zero, Int.toNat_one], x4, x5, x6⟩
    · rw [if_neg (show ¬ (j : Int) < 3 by omega), wr_of (z := (j : Int) + 1) (by omega) (by omega), wr_of (by omega) (by omega)]
      obtain ⟨I2, x1, x2, x3, x4, x5, x6⟩ := ih (j + 1) I1 (by omega) B (fun z => by omega)
      exact ⟨I2, x1, x2, x3, x4, x5, x6⟩
/-- the next token -/
theorem m_next {e : Nat} (B : MB I b n) (h5 : I 265 5 = (e : Int)) (he : e ≤ n) : ∃ I', q_E (188, 0, [vr 265, vu, vu, vu], []) (qk t u I J) = some (vu, qk t u I' J) ∧ MK I' b n (tok b n e) ∧ NF I I' := by
  obtain ⟨p1, p2⟩ := plc_b b he
  have hn := B.2.1
  have pf : ∀ i, e ≤ i → i < plc b n e → b i = 32 := fun i h1 h2 => by
    have := fsti_f (n - e) (fun k => decide (b (e + k) ≠ 32)) (i - e) (by unfold plc at h2; omega)
    have := of_decide_eq_false this
    rw [show e + (i - e) = i by omega] at this
    exact Classical.not_not.mp this
  have pt : plc b n e < n → b (plc b n e) ≠ 32 := fun h => of_decide_eq_true (fsti_t (n - e) (fun k => decide (b (e + k) ≠ 32)) (by unfold plc at h; omega))
  have et : tok b n e = if n ≤ plc b n e then (0, plc b n e, plc b n e) else if kof (b (plc b n e)) = 1 then (if 8 < rnl b n (plc b n e) 1 - plc b n e then 4 else 1, plc b n e, rnl b n (plc b n e) 1) else if kof (b (plc b n e)) = 2 then (if 3 < rnl b n (plc b n e) 2 - plc b n e then 4 else 2, plc b n e, rnl b n (plc b n e) 2) else (kof (b (plc b n e)), plc b n e, plc b n e + 1) := rfl
  have ex : ∃ e', e' ≤ n ∧ tok b n e = tok b n e' := ⟨e, he, rfl⟩
  generalize plc b n e = p at *
  have blanks : ∀ X, q_E (188, 5, [vr 265, vi (p : Int), vu, vu], []) (qk t u I J) = X → ∀ (r i : Nat), i + r = p → e ≤ i → q_E (188, 5, [vr 265, vi (i : Int), vu, vu], []) (qk t u I J) = X := by
    intro X hX r
    induction r with
    | zero => intro i hi hei; rw [show i = p by omega]; exact hX
    | succ r ih =>
      intro i hi hei
      have v := m_see (t := t) (u := u) (J := J) B i (by omega)
      have s : sg b n i = 32 := by unfold sg; rw [if_pos (show i < n by omega), pf i hei (by omega)]; rfl
      rw [s] at v
      rw [e188_5, v, q_bi_s, e188_10, if_pos rfl, wr_of (by omega) (by omega)]
      exact ih (i + 1) (by omega) (by omega)
  have B1 : MB (uI I 265 4 (p : Int)) b n := MB_nf B (NF_5 NF_rf (by omega))
  have s0 := m_see (t := t) (u := u) (J := J) B p p2
  have s1 := m_see (t := t) (u := u) (J := J) B1 p p2
  have ne32 : ¬ sg b n p = 32 := by
    unfold sg
    split
    · rename_i q
      have := pt q
      omega
    · decide
  have go : q_E (188, 0, [vr 265, vu, vu, vu], []) (qk t u I J) = q_E (188, 31, [vr 265, vi (p : Int), vu, vu], [vi (sg b n p)]) (qk t u (uI I 265 4 (p : Int)) J) := by
    rw [e188_0, h5]
    refine blanks _ ?_ (p - e) e (by omega) (Nat.le_refl _)
    rw [e188_5, s0, q_bi_s, e188_10, if_neg ne32, s1, q_bi_s]
  rw [go, e188_31]
  by_cases q : n ≤ p
  · rw [if_pos q] at et
    rw [et] at ex ⊢
    rw [if_pos (show sg b n p = -1 from if_neg (by omega))]
    exact ⟨_, rfl, ⟨MB_nf B1 (NF_5 (NF_5 (NF_5 (NF_5 NF_rf (by omega)) (by omega)) (by omega)) (by omega)), by simp (disch := omega) only [↓reduceIte, lt_TI, lt_FI, le_TI, le_FI, eq_TI, eq_FI, lt_TN, lt_FN, le_TN, le_FN, eq_TN, eq_FN, and_self, and_true, true_and, and_false, false_and, or_true, true_or, or_false, false_or, not_true_eq_false, not_false_eq_true, wr_of, uI_at, uC_at, q_bi_s, q_bl_s, q_br_s, q_bv_s, Int.toNat_natCast, tn_1, tn_m, tn_n, Int.toNat_zero, Int.toNat_one] <;> rfl, by simp (disch := omega) only [↓reduceIte, lt_TI, lt_FI, le_TI, le_FI, eq_TI, eq_FI, lt_TN, lt_FN, le_TN, le_FN, eq_TN, eq_FN, and_self, and_true, true_and, and_false, false_and, or_true, true_or, or_false, false_or, not_true_eq_false, not_false_eq_true, wr_of, uI_at, uC_at, q_bi_s, q_bl_s, q_br_s, q_bv_s, Int.toNat_natCast, tn_1, tn_m, tn_n, Int.toNat_zero, Int.toNat_one], by simp (disch := omega) only [↓reduceIte, lt_TI, lt_FI, le_TI, le_FI, eq_TI, eq_FI, lt_TN, lt_FN, le_TN, le_FN, eq_TN, eq_FN, and_self, and_true, true_and, and_false, false_and, or_true, true_or, or_false, false_or, not_true_eq_false, not_false_eq_true, wr_of, uI_at, uC_at, q_bi_s, q_bl_s, q_br_s, q_bv_s, Int.toNat_natCast, tn_1, tn_m, tn_n, Int.toNat_zero, Int.toNat_one], ex, fun z => absurd z (show ¬ (0 : Nat) = 1 by decide), fun z => absurd z (show ¬ (0 : Nat) = 2 by decide)⟩, NF_5 (NF_5 (NF_5 (NF_5 (NF_5 NF_rf (by omega)) (by omega)) (by omega)) (by omega)) (by omega)⟩
  · rw [if_neg q] at et
    have hp : p < n := by omega
    have sv : sg b n p = (b p : Int) := if_pos hp
    rw [if_neg (show ¬ sg b n p = -1 by rw [sv]; omega)]
    generalize hI2 : uI (uI (uI I 265 4 (p : Int)) 265 8 0) 265 7 0 = I2
    have F2 : NF I I2 := by rw [← hI2]; exact NF_5 (NF_5 (NF_5 NF_rf (by omega)) (by omega)) (by omega)
    have B2 := MB_nf B F2
    have g4 : I2 265 4 = (p : Int) := by rw [← hI2]; simp (disch := omega) only [↓reduceIte, lt_TI, lt_FI, le_TI, le_FI, eq_TI, eq_FI, lt_TN, lt_FN, le_TN, le_FN, eq_TN, eq_FN, and_self, and_true, true_and, and_false, false_and, or_true, true_or, or_false, false_or, not_true_eq_false, not_false_eq_true, wr_of, uI_at, uC_at, q_bi_s, q_bl_s, q_br_s, q_bv_s, Int.toNat_natCast, tn_1, tn_m, tn_n, Int.toNat_zero, Int.toNat_one]
    have g8 : I2 265 8 = 0 := by rw [← hI2]; simp (disch := omega) only [↓reduceIte, lt_TI, lt_FI, le_TI, le_FI, eq_TI, eq_FI, lt_TN, lt_FN, le_TN, le_FN, eq_TN, eq_FN, and_self, and_true, true_and, and_false, false_and, or_true, true_or, or_false, false_or, not_true_eq_false, not_false_eq_true, wr_of, uI_at, uC_at, q_bi_s, q_bl_s, q_br_s, q_bv_s, Int.toNat_natCast, tn_1, tn_m, tn_n, Int.toNat_zero, Int.toNat_one]
    have g7 : I2 265 7 = 0 := by rw [← hI2]; simp (disch := omega) only [↓reduceIte, lt_TI, lt_FI, le_TI, le_FI, eq_TI, eq_FI, lt_TN, lt_FN, le_TN, le_FN, eq_TN, eq_FN, and_self, and_true, true_and, and_false, false_and, or_true, true_or, or_false, false_or, not_true_eq_false, not_false_eq_true, wr_of, uI_at, uC_at, q_bi_s, q_bl_s, q_br_s, q_bv_s, Int.toNat_natCast, tn_1, tn_m, tn_n, Int.toNat_zero, Int.toNat_one]
    by_cases k1 : kof (b p) = 1
    · rw [if_pos k1] at et
      obtain ⟨r1, r2⟩ := rnl_b b (k := 1) hp
      rw [m_small_y hp k1, q_bi_s, e188_64, if_neg (show ¬ (1 : Int) = 0 by decide)]
      obtain ⟨I3, x1, x2, x3, x4, x5, x6, x7⟩ := m_letters (t := t) (u := u) (J := J) hp hn k1 (rnl b n p 1 - p) 0 I2 (by omega) B2 g8 (fun i h1 _ => by omega)
      rw [Nat.add_zero] at x1
      refine ⟨I3, x1, ?_, NF_tr F2 x2⟩
      rw [et] at ex ⊢
      by_cases y : 8 < rnl b n p 1 - p
      · rw [if_pos y] at ex x5 ⊢
        exact ⟨MB_nf B2 x2, by rw [x5]; rfl, by rw [x3]; exact g4, x4, ex, fun z => absurd z (show ¬ (4 : Nat) = 1 by decide), fun z => absurd z (show ¬ (4 : Nat) = 2 by decide)⟩
      · rw [if_neg y] at ex x5 ⊢
        exact ⟨MB_nf B2 x2, by rw [x5]; rfl, by rw [x3]; exact g4, x4, ex, fun _ => ⟨x6, fun i hi => x7 i hi (by
          have hi : i < rnl b n p 1 - p := hi
          omega)⟩, fun z => absurd z (show ¬ (1 : Nat) = 2 by decide)⟩
    · rw [if_neg k1] at et
      rw [m_small_n (fun z => k1 z.2), q_bi_s, e188_64, if_pos rfl]
      by_cases k2 : kof (b p) = 2
      · rw [if_pos k2] at et
        obtain ⟨r1, r2⟩ := rnl_b b (k := 2) hp
        rw [m_digit_y hp k2, q_bi_s, e188_147, if_neg (show ¬ (1 : Int) = 0 by decide)]
        obtain ⟨I3, x1, x2, x3, x4, x5, x6⟩ := m_digits (t := t) (u := u) (J := J) hp hn k2 (rnl b n p 2 - p) 0 I2 (by omega) B2 (fun _ => g7)
        rw [Nat.add_zero, Int.natCast_zero] at x1
        refine ⟨I3, x1, ?_, NF_tr F2 x2⟩
        rw [et] at ex ⊢
        by_cases y : 3 < rnl b n p 2 - p
        · rw [if_pos y] at ex x5 ⊢
          exact ⟨MB_nf B2 x2, by rw [x5]; rfl, by rw [x3]; exact g4, x4, ex, fun z => absurd z (show ¬ (4 : Nat) = 1 by decide), fun z => absurd z (show ¬ (4 : Nat) = 2 by decide)⟩
        · rw [if_neg y] at ex x5 ⊢
          exact ⟨MB_nf B2 x2, by rw [x5]; rfl, by rw [x3]; exact g4, x4, ex, fun z => absurd z (show ¬ (2 : Nat) = 1 by decide), fun _ => x6 (by omega)⟩
      · rw [if_neg k2] at et
        rw [m_digit_n (fun z => k2 z.2), q_bi_s, e188_147, if_pos rfl, sv, wr_of (by omega) (by omega)]
        rw [et] at ex ⊢
        obtain ⟨k59, k34⟩ := kof_34 k1 k2
        have M3 : ∀ w : Int, w = tkM (kof (b p)) → MK (uI (uI I2 265 5 ((p : Int) + 1)) 265 6 w) b n (kof (b p), p, p + 1) ∧ NF I (uI (uI I2 265 5 ((p : Int) + 1)) 265 6 w) := fun w hw => ⟨⟨MB_nf B2 (NF_5 (NF_5 NF_rf (by omega)) (by omega)), by simp (disch := omega) only [↓reduceIte, lt_TI, lt_FI, le_TI, le_FI, eq_TI, eq_FI, lt_TN, lt_FN, le_TN, le_FN, eq_TN, eq_FN, and_self, and_true, true_and, and_false, false_and, or_true, true_or, or_false, false_or, not_true_eq_false, not_false_eq_true, wr_of, uI_at, uC_at, q_bi_s, q_bl_s, q_br_s, q_bv_s, Int.toNat_natCast, tn_1, tn_m, tn_n, Int.toNat_zero, Int.toNat_one]; first | done | exact hw, by simp (disch := omega) only [↓reduceIte, lt_TI, lt_FI, le_TI, le_FI, eq_TI, eq_FI, lt_TN, lt_FN, le_TN, le_FN, eq_TN, eq_FN, and_self, and_true, true_and, and_false, false_and, or_true, true_or, or_false, false_or, not_true_eq_false, not_false_eq_true, wr_of, uI_at, uC_at, q_bi_s, q_bl_s, q_br_s, q_bv_s, Int.toNat_natCast, tn_1, tn_m, tn_n, Int.toNat_zero, Int.toNat_one, g4], by simp (disch := omega) only [↓reduceIte, lt_TI, lt_FI, le_TI, le_FI, eq_TI, eq_FI, lt_TN, lt_FN, le_TN, le_FN, eq_TN, eq_FN, and_self, and_true, true_and, and_false, false_and, or_true, true_or, or_false, false_or, not_true_eq_false, not_false_eq_true, wr_of, uI_at, uC_at, q_bi_s, q_bl_s, q_br_s, q_bv_s, Int.toNat_natCast, tn_1, tn_m, tn_n, Int.toNat_zero, Int.toNat_one]; first | done | rfl, ex, fun z => absurd z k1, fun z => absurd z k2⟩, NF_5 (NF_5 F2 (by omega)) (by omega)⟩
        by_cases y : b p = 59
        · rw [if_pos (show (b p : Int) = 59 by omega)]
          refine ⟨_, rfl, M3 _ ?_⟩
          rw [k59.mpr y, y]
          first | done | rfl
        · rw [if_neg (show ¬ (b p : Int) = 59 by omega)]
          refine ⟨_, rfl, M3 _ ?_⟩
          rcases k34 with z | z
          · exact absurd (k59.mp z) y
          · rw [z]; rfl
theorem m_nextk (K : MK I b n k) : ∃ I', q_E (188, 0, [vr 265, vu, vu, vu], []) (qk t u I J) = some (vu, qk t u I' J) ∧ MK I' b n (tok b n k.2.2) ∧ NF I I' := m_next K.1 K.2.2.2.1 (MK_b K).2.1
/-- a word of the language -/
theorem m_isWord (K : MK I b n k) (g : I 265 13 = 0) {i : Nat} (hi : i < 12) : q_E (190, 0, [vr 265, vr (1000 + i), vu, vu], []) (qk t u I J) = some (vi (if isWd b k (1000 + i) = true then 1 else 0), qk t u I J) := by
  have k7 : kd (1000 + i) = 7 := by
    have : i = 0 ∨ i = 1 ∨ i = 2 ∨ i = 3 ∨ i = 4 ∨ i = 5 ∨ i = 6 ∨ i = 7 ∨ i = 8 ∨ i = 9 ∨ i = 10 ∨ i = 11 := by omega
    rcases this with z | z | z | z | z | z | z | z | z | z | z | z <;> subst z <;> rfl
  have sl : q_slen (1000 + i) = ((q_str (1000 + i)).length : Int) := rfl
  have sa : ∀ j, q_sat (1000 + i) j = ((q_str (1000 + i)).getD j 0 : Int) := fun _ => rfl
  have wt : k.1 = 1 → wrd b k.2.1 k.2.2 = q_str (1000 + i) → isWd b k (1000 + i) = true := fun x y => decide_eq_true ⟨x, y⟩
  have wf : ∀ {p : Prop}, (k.1 = 1 → wrd b k.2.1 k.2.2 = q_str (1000 + i) → False) → ¬ isWd b k (1000 + i) = true := fun x y => x (of_decide_eq_true y).1 (of_decide_eq_true y).2
  have K1 := fun h => MK_1 K h
  obtain ⟨B, k6, k4, k5, kx, kw, kv⟩ := K
  have hn := B.2.1
  rw [e190_0, g, if_pos rfl, k6]
  by_cases q1 : k.1 = 1
  · obtain ⟨l8, lp, ln⟩ := K1 q1
    obtain ⟨w8, wl⟩ := kw q1
    rw [if_pos (tkM_2.mpr q1), if_pos k7, w8, sl]
    by_cases q2 : k.2.2 - k.2.1 = (q_str (1000 + i)).length
    · rw [if_pos (by omega)]
      have l0 : ∀ r j : Nat, j + r = k.2.2 - k.2.1 → q_E (190, 32, [vr 265, vr (1000 + i), vi 0, vi (j : Int)], []) (qk t u I J) = some (vi 0, qk t u I J) := by
        intro r
        induction r with
        | zero =>
          intro j hj
          rw [e190_32, w8]
          simp (disch := omega) only [↓reduceIte, lt_TI, lt_FI, le_TI, le_FI, eq_TI, eq_FI, lt_TN, lt_FN, le_TN, le_FN, eq_TN, eq_FN, and_self, and_true, true_and, and_false, false_and, or_true, true_or, or_false, false_or, not_true_eq_false, not_false_eq_true, wr_of, uI_at, uC_at, q_bi_s, q_bl_s, q_br_s, q_bv_s, Int.toNat_natCast, tn_1, tn_m, tn_n, Int.toNat_zero, Int.toNat_one]
        | succ r ih =>
          intro j hj
          rw [e190_32, w8]
          simp (disch := omega) only [↓reduceIte, lt_TI, lt_FI, le_TI, le_FI, eq_TI, eq_FI, lt_TN, lt_FN, le_TN, le_FN, eq_TN, eq_FN, and_self, and_true, true_and, and_false, false_and, or_true, true_or, or_false, false_or, not_true_eq_false, not_false_eq_true, wr_of, uI_at, uC_at, q_bi_s, q_bl_s, q_br_s, q_bv_s, Int.toNat_natCast, tn_1, tn_m, tn_n, Int.toNat_zero, Int.toNat_one]
          exact ih (j + 1) (by omega)
      have l1 : ∀ r j : Nat, j + r = k.2.2 - k.2.1 → (∀ a, a < j → b (k.2.1 + a) = (q_str (1000 + i)).getD a 0) → q_E (190, 32, [vr 265, vr (1000 + i), vi 1, vi (j : Int)], []) (qk t u I J) = some (vi (if isWd b k (1000 + i) = true then 1 else 0), qk t u I J) := by
        intro r
        induction r with
        | zero =>
          intro j hj he
          have e : wrd b k.2.1 k.2.2 = q_str (1000 + i) := gD_ext (by rw [wrd_len]; exact q2) (fun a ha => by rw [wrd_len] at ha; rw [wrd_at b ha]; exact he a (by omega))
          rw [e190_32, w8, if_pos (wt q1 e)]
          simp (disch := omega) only [↓reduceIte, lt_TI, lt_FI, le_TI, le_FI, eq_TI, eq_FI, lt_TN, lt_FN, le_TN, le_FN, eq_TN, eq_FN, and_self, and_true, true_and, and_false, false_and, or_true, true_or, or_false, false_or, not_true_eq_false, not_false_eq_true, wr_of, uI_at, uC_at, q_bi_s, q_bl_s, q_br_s, q_bv_s, Int.toNat_natCast, tn_1, tn_m, tn_n, Int.toNat_zero, Int.toNat_one]
        | succ r ih =>
          intro j hj he
          have v := wl j (by omega)
          rw [e190_32, w8, k7, sl, sa]
          simp (disch := omega) only [↓reduceIte, lt_TI, lt_FI, le_TI, le_FI, eq_TI, eq_FI, lt_TN, lt_FN, le_TN, le_FN, eq_TN, eq_FN, and_self, and_true, true_and, and_false, false_and, or_true, true_or, or_false, false_or, not_true_eq_false, not_false_eq_true, wr_of, uI_at, uC_at, q_bi_s, q_bl_s, q_br_s, q_bv_s, Int.toNat_natCast, tn_1, tn_m, tn_n, Int.toNat_zero, Int.toNat_one, v]
          by_cases y : b (k.2.1 + j) = (q_str (1000 + i)).getD j 0
          · rw [if_pos (show (b (k.2.1 + j) : Int) = ((q_str (1000 + i)).getD j 0 : Int) by omega)]
            exact ih (j + 1) (by omega) (fun a ha => by
              by_cases z : a = j
              · rw [z]; exact y
              · exact he a (by omega))
          · rw [if_neg (show ¬ (b (k.2.1 + j) : Int) = ((q_str (1000 + i)).getD j 0 : Int) by omega)]
            rw [if_neg (wf (p := True) (fun _ z => y (by rw [← wrd_at b (p := k.2.1) (a := k.2.2) (i := j) (by omega), z])))]
            exact l0 r (j + 1) (by omega)
      exact l1 (k.2.2 - k.2.1) 0 (by omega) (fun a ha => by omega)
    · rw [if_neg (by omega), if_neg (wf (p := True) (fun _ z => q2 (by rw [← z, wrd_len])))]
  · rw [if_neg (fun z => q1 (tkM_2.mp z)), if_neg (wf (p := True) (fun z _ => q1 z))]
theorem m_isWord_b (g : I 265 13 = 1) {s : Nat} : q_E (190, 0, [vr 265, vr s, vu, vu], []) (qk t u I J) = some (vi 0, qk t u I J) := by
  rw [e190_0, g, if_neg (by decide)]
end

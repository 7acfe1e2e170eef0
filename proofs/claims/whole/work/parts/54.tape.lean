/-! the text's tokens; Tape -/
def kof (v : Nat) : Nat := if 97 ≤ v ∧ v ≤ 122 then 1 else if 48 ≤ v ∧ v ≤ 57 then 2 else if v = 59 then 3 else 4
def plc (b : Nat → Nat) (n e : Nat) : Nat := e + fsti (fun k => decide (b (e + k) ≠ 32)) (n - e)
def rnl (b : Nat → Nat) (n p k : Nat) : Nat := p + 1 + fsti (fun i => decide (kof (b (p + 1 + i)) ≠ k)) (n - (p + 1))
abbrev Tk : Type := Nat × Nat × Nat
/-- kind (0 the end, 1 a word, 2 a whole, 3 a mark, 4 none such), place, what is behind it -/
def tok (b : Nat → Nat) (n e : Nat) : Tk :=
  if n ≤ plc b n e then (0, plc b n e, plc b n e) else if kof (b (plc b n e)) = 1 then (if 8 < rnl b n (plc b n e) 1 - plc b n e then 4 else 1, plc b n e, rnl b n (plc b n e) 1) else if kof (b (plc b n e)) = 2 then (if 3 < rnl b n (plc b n e) 2 - plc b n e then 4 else 2, plc b n e, rnl b n (plc b n e) 2) else (kof (b (plc b n e)), plc b n e, plc b n e + 1)
def wrd (b : Nat → Nat) (p a : Nat) : List Nat := rg (a - p) (fun i => b (p + i))
def vlu (b : Nat → Nat) (p : Nat) : Nat → Nat
  | 0 => 0
  | i + 1 => 10 * vlu b p i + (b (p + i) - 48)
def tvl (b : Nat → Nat) (k : Tk) : Nat := vlu b k.2.1 (k.2.2 - k.2.1)
theorem plc_b (b : Nat → Nat) {n e : Nat} (h : e ≤ n) : e ≤ plc b n e ∧ plc b n e ≤ n := by
  have := fsti_le (n - e) (fun k => decide (b (e + k) ≠ 32))
  unfold plc; omega
theorem rnl_b (b : Nat → Nat) {n p k : Nat} (h : p < n) : p + 1 ≤ rnl b n p k ∧ rnl b n p k ≤ n := by
  have := fsti_le (n - (p + 1)) (fun i => decide (kof (b (p + 1 + i)) ≠ k))
  unfold rnl; omega
theorem rnl_k (b : Nat → Nat) {n p k : Nat} (h : kof (b p) = k) : ∀ i, p ≤ i → i < rnl b n p k → kof (b i) = k := by
  intro i h1 h2
  by_cases q : i = p
  · rw [q]; exact h
  · have := fsti_f (n - (p + 1)) (fun i => decide (kof (b (p + 1 + i)) ≠ k)) (i - (p + 1)) (by unfold rnl at h2; omega)
    have := of_decide_eq_false this
    rw [show p + 1 + (i - (p + 1)) = i by omega] at this
    exact Classical.not_not.mp this
theorem tok_b (b : Nat → Nat) {n e : Nat} (h : e ≤ n) : e ≤ (tok b n e).2.1 ∧ (tok b n e).2.1 ≤ (tok b n e).2.2 ∧ (tok b n e).2.2 ≤ n ∧ ((tok b n e).1 ≠ 0 → (tok b n e).2.1 < (tok b n e).2.2) ∧ ((tok b n e).1 = 0 → (tok b n e).2.2 = n) := by
  obtain ⟨p1, p2⟩ := plc_b b h
  unfold tok
  split
  · exact ⟨p1, Nat.le_refl _, p2, fun z => absurd rfl z, fun _ => by show plc b n e = n; omega⟩
  · rename_i q
    split
    · obtain ⟨r1, r2⟩ := rnl_b b (k := 1) (show plc b n e < n by omega)
      exact ⟨p1, by show plc b n e ≤ rnl b n (plc b n e) 1; omega, r2, fun _ => by show plc b n e < rnl b n (plc b n e) 1; omega, fun z => by
        exfalso; revert z; show (if _ then 4 else 1) = 0 → False; split <;> omega⟩
    · split
      · obtain ⟨r1, r2⟩ := rnl_b b (k := 2) (show plc b n e < n by omega)
        exact ⟨p1, by show plc b n e ≤ rnl b n (plc b n e) 2; omega, r2, fun _ => by show plc b n e < rnl b n (plc b n e) 2; omega, fun z => by
          exfalso; revert z; show (if _ then 4 else 2) = 0 → False; split <;> omega⟩
      · exact ⟨p1, by show plc b n e ≤ plc b n e + 1; omega, by show plc b n e + 1 ≤ n; omega, fun _ => by show plc b n e < plc b n e + 1; omega, fun z => by
          exfalso; revert z; show kof (b (plc b n e)) = 0 → False; unfold kof; split
          · omega
          · split
            · omega
            · split <;> omega⟩
theorem tok_2 (b : Nat → Nat) {n e : Nat} (h : (tok b n e).1 = 2) : (tok b n e).2.2 - (tok b n e).2.1 ≤ 3 ∧ ∀ i, (tok b n e).2.1 ≤ i → i < (tok b n e).2.2 → 48 ≤ b i ∧ b i ≤ 57 := by
  unfold tok at h ⊢
  split at h
  · exact absurd h (by show ¬ (0 : Nat) = 2; omega)
  · rename_i q
    rw [if_neg q]
    split at h
    · exfalso; revert h; show (if _ then 4 else 1) = 2 → False; split <;> omega
    · rename_i q1
      rw [if_neg q1]
      split at h
      · rename_i q2
        rw [if_pos q2]
        have h : (if 3 < rnl b n (plc b n e) 2 - plc b n e then 4 else 2) = 2 := h
        refine ⟨?_, fun i h1 h2 => ?_⟩
        · show rnl b n (plc b n e) 2 - plc b n e ≤ 3
          split at h <;> omega
        · have := rnl_k b q2 i h1 h2
          unfold kof at this
          split at this
          · omega
          · split at this
            · assumption
            · split at this <;> omega
      · rename_i q2
        exact absurd h q2
theorem tok_1 (b : Nat → Nat) {n e : Nat} (h : (tok b n e).1 = 1) : (tok b n e).2.2 - (tok b n e).2.1 ≤ 8 ∧ (∀ i, (tok b n e).2.1 ≤ i → i < (tok b n e).2.2 → 97 ≤ b i ∧ b i ≤ 122) := by
  unfold tok at h ⊢
  split at h
  · exact absurd h (by show ¬ (0 : Nat) = 1; omega)
  · rename_i q
    rw [if_neg q]
    split at h
    · rename_i q1
      rw [if_pos q1]
      have h : (if 8 < rnl b n (plc b n e) 1 - plc b n e then 4 else 1) = 1 := h
      refine ⟨?_, fun i h1 h2 => ?_⟩
      · show rnl b n (plc b n e) 1 - plc b n e ≤ 8
        split at h <;> omega
      · have := rnl_k b q1 i h1 h2
        unfold kof at this
        split at this
        · assumption
        · split at this
          · omega
          · split at this <;> omega
    · rename_i q1
      rw [if_neg q1]
      split at h
      · exfalso; revert h; show (if _ then 4 else 2) = 1 → False; split <;> omega
      · exact absurd h q1
theorem vlu_le (b : Nat → Nat) (p : Nat) : ∀ i, (∀ j, j < i → b (p + j) ≤ 57) → vlu b p i < 10 ^ i
  | 0, _ => by show 0 < 1; omega
  | i + 1, h => by
    have a := vlu_le b p i (fun j hj => h j (by omega))
    have c := h i (by omega)
    unfold vlu
    rw [Nat.pow_succ]
    omega
theorem tvl_le (b : Nat → Nat) {n e : Nat} (h : (tok b n e).1 = 2) : tvl b (tok b n e) ≤ 999 := by
  obtain ⟨a, c⟩ := tok_2 b h
  have d := vlu_le b (tok b n e).2.1 ((tok b n e).2.2 - (tok b n e).2.1) (fun j hj => (c _ (by omega) (by omega)).2)
  have f := Nat.pow_le_pow_right (show 0 < 10 by omega) a
  unfold tvl
  omega
def KT (I : Nat → Nat → Int) (b : Nat → Nat) (n : Nat) (k : Tk) : Prop := I 3 4 = (n : Int) ∧ n ≤ 900 ∧ (∀ i, i < n → b i < 256 ∧ I 4 i = Int.bmod (b i : Int) 256) ∧ I 3 3 = (k.1 : Int) ∧ I 3 2 = (k.2.1 : Int) ∧ I 3 5 = (k.2.2 : Int) ∧ k.2.1 ≤ k.2.2 ∧ k.2.2 ≤ n ∧ ∃ e, e ≤ n ∧ k = tok b n e
theorem KT_kp {I I' : Nat → Nat → Int} {b : Nat → Nat} {n lo hi : Nat} {k : Tk} (H : KT I b n k) (K : Kp lo hi I I') (q : hi < 3 ∨ 4 < lo) : KT I' b n k := by
  obtain ⟨h1, h2, h3, h4, h5, h6, h7⟩ := H
  exact ⟨by rw [K 3 (by omega)]; exact h1, h2, fun i hi => by rw [K 4 (by omega)]; exact h3 i hi, by rw [K 3 (by omega)]; exact h4, by rw [K 3 (by omega)]; exact h5, by rw [K 3 (by omega)]; exact h6, h7⟩
theorem bm_eq {v w : Nat} (h : v < 256) (hw : w < 128) : (Int.bmod (v : Int) 256 = (w : Int)) ↔ v = w := by
  rw [Int.bmod_def]
  split <;> omega
theorem bm_eqv {v w : Nat} (h : v < 256) (hw : w < 256) : (Int.bmod (v : Int) 256 = Int.bmod (w : Int) 256) ↔ v = w := by
  rw [Int.bmod_def, Int.bmod_def]
  split <;> split <;> omega
theorem bm_sm {v : Nat} (h : v < 128) : Int.bmod (v : Int) 256 = (v : Int) := (bm_eq (by omega) h).mpr rfl
section
variable {t u : Nat} {I J : Nat → Nat → Int} {b : Nat → Nat} {n : Nat} {k : Tk}
theorem c_kindOf {v : Nat} (h : v < 256) : q_E (87, 0, [vi (Int.bmod (v : Int) 256)], []) (qk t u I J) = some (vi (kof v : Int), qk t u I J) := by
  have e : Int.bmod (v : Int) 256 = if v < 128 then (v : Int) else (v : Int) - 256 := by
    rw [Int.bmod_def]; split <;> split <;> omega
  rw [e87_0, e]
  unfold kof
  by_cases h1 : v < 128
  · rw [if_pos h1]
    by_cases a1 : 97 ≤ v ∧ v ≤ 122
    · rw [if_pos a1]
      simp (disch := omega) only [↓reduceIte, lt_TI, lt_FI, le_TI, le_FI, eq_TI, eq_FI, lt_TN, lt_FN, le_TN, le_FN, eq_TN, eq_FN, and_self, and_true, true_and, and_false, false_and, or_true, true_or, or_false, false_or, not_true_eq_false, not_false_eq_true, wr_of, uI_at, uC_at, q_bi_s, q_bl_s, q_br_s, q_bv_s, Int.toNat_natCast, tn_1, tn_m, tn_n, Int.toNat_zero, Int.toNat_one]; rfl
    · rw [if_neg a1]
      by_cases a2 : 48 ≤ v ∧ v ≤ 57
      · rw [if_pos a2]
        simp (disch := omega) only [↓reduceIte, lt_TI, lt_FI, le_TI, le_FI, eq_TI, eq_FI, lt_TN, lt_FN, le_TN, le_FN, eq_TN, eq_FN, and_self, and_true, true_and, and_false, false_and, or_true, true_or, or_false, false_or, not_true_eq_false, not_false_eq_true, wr_of, uI_at, uC_at, q_bi_s, q_bl_s, q_br_s, q_bv_s, Int.toNat_natCast, tn_1, tn_m, tn_n, Int.toNat_zero, Int.toNat_one]; rfl
      · rw [if_neg a2]
        by_cases a3 : v = 59
        · rw [if_pos a3]
          subst a3
          simp (disch := omega) only [↓reduceIte, lt_TI, lt_FI, le_TI, le_FI, eq_TI, eq_FI, lt_TN, lt_FN, le_TN, le_FN, eq_TN, eq_FN, and_self, and_true, true_and, and_false, false_and, or_true, true_or, or_false, false_or, not_true_eq_false, not_false_eq_true, wr_of, uI_at, uC_at, q_bi_s, q_bl_s, q_br_s, q_bv_s, Int.toNat_natCast, tn_1, tn_m, tn_n, Int.toNat_zero, Int.toNat_one]; rfl
        · rw [if_neg a3]
          rcases Classical.em ((v : Int) < 97) with z | z
          · rcases Classical.em ((v : Int) < 48) with y | y <;> simp (disch := omega) only [↓reduceIte, lt_TI, lt_FI, le_TI, le_FI, eq_TI, eq_FI, lt_TN, lt_FN, le_TN, le_FN, eq_TN, eq_FN, and_self, and_true, true_and, and_false, false_and, or_true, true_or, or_false, false_or, not_true_eq_false, not_false_eq_true, wr_of, uI_at, uC_at, q_bi_s, q_bl_s, q_br_s, q_bv_s, Int.toNat_natCast, tn_1, tn_m, tn_n, Int.toNat_zero, Int.toNat_one] <;> rfl
          · simp (disch := omega) only [↓reduceIte, lt_TI, lt_FI, le_TI, le_FI, eq_TI, eq_FI, lt_TN, lt_FN, le_TN, le_FN, eq_TN, eq_FN, and_self, and_true, true_and, and_false, false_and, or_true, true_or, or_false, false_or, not_true_eq_false, not_false_eq_true, wr_of, uI_at, uC_at, q_bi_s, q_bl_s, q_br_s, q_bv_s, Int.toNat_natCast, tn_1, tn_m, tn_n, Int.toNat_zero, Int.toNat_one] <;> rfl
  · rw [if_neg h1, if_neg (show ¬ (97 ≤ v ∧ v ≤ 122) by omega), if_neg (show ¬ (48 ≤ v ∧ v ≤ 57) by omega), if_neg (show ¬ v = 59 by omega)]
    simp (disch := omega) only [↓reduceIte, lt_TI, lt_FI, le_TI, le_FI, eq_TI, eq_FI, lt_TN, lt_FN, le_TN, le_FN, eq_TN, eq_FN, and_self, and_true, true_and, and_false, false_and, or_true, true_or, or_false, false_or, not_true_eq_false, not_false_eq_true, wr_of, uI_at, uC_at, q_bi_s, q_bl_s, q_br_s, q_bv_s, Int.toNat_natCast, tn_1, tn_m, tn_n, Int.toNat_zero, Int.toNat_one]; rfl
/-- what one step of the tape leaves alone -/
def KS (I I' : Nat → Nat → Int) : Prop := Kp 3 3 I I' ∧ I' 3 1 = I 3 1 ∧ I' 3 4 = I 3 4
theorem c_tstep {e : Nat} (he : e ≤ n) (hn : n ≤ 900) (h4 : I 3 4 = (n : Int)) (h5 : I 3 5 = (e : Int)) (hb : ∀ i, i < n → b i < 256 ∧ I 4 i = Int.bmod (b i : Int) 256) : ∃ I', q_E (86, 0, [vr 3, vu, vu], []) (qk t u I J) = some (vu, qk t u I' J) ∧ KT I' b n (tok b n e) ∧ KS I I' := by
  obtain ⟨p1, p2⟩ := plc_b b he
  have pf : ∀ i, e ≤ i → i < plc b n e → b i = 32 := fun i h1 h2 => by
    have := fsti_f (n - e) (fun k => decide (b (e + k) ≠ 32)) (i - e) (by unfold plc at h2; omega)
    have := of_decide_eq_false this
    rw [show e + (i - e) = i by omega] at this
    exact Classical.not_not.mp this
  have pt : plc b n e < n → b (plc b n e) ≠ 32 := fun h => of_decide_eq_true (fsti_t (n - e) (fun k => decide (b (e + k) ≠ 32)) (by unfold plc at h; omega))
  -- blanks
  have blanks : ∀ (r i : Nat) (I1 : Nat → Nat → Int), i + r = plc b n e → e ≤ i → I1 3 2 = (i : Int) → KS I I1 → ∃ I', q_E (86, 8, [vr 3, vu, vu], []) (qk t u I1 J) = q_E (86, 8, [vr 3, vu, vu], []) (qk t u I' J) ∧ I' 3 2 = (plc b n e : Int) ∧ KS I I' := by
    intro r
    induction r with
    | zero => intro i I1 hi hei h2 K; exact ⟨I1, rfl, by rw [h2]; congr 1, K⟩
    | succ r ih =>
      intro i I1 hi hei h2 K
      obtain ⟨k1, k2, k3⟩ := K
      have v := (hb i (by omega)).2
      rw [pf i hei (by omega)] at v
      have v3 : I1 4 i = 32 := by rw [k1 4 (by omega), v]; rfl
      have v4 : I1 3 4 = (n : Int) := by rw [k3]; exact h4
      rw [e86_8]
      simp (disch := omega) only [↓reduceIte, lt_TI, lt_FI, le_TI, le_FI, eq_TI, eq_FI, lt_TN, lt_FN, le_TN, le_FN, eq_TN, eq_FN, and_self, and_true, true_and, and_false, false_and, or_true, true_or, or_false, false_or, not_true_eq_false, not_false_eq_true, wr_of, uI_at, uC_at, q_bi_s, q_bl_s, q_br_s, q_bv_s, Int.toNat_natCast, tn_1, tn_m, tn_n, Int.toNat_zero, Int.toNat_one, h2, v4, v3]
      exact ih (i + 1) (uI I1 3 2 ((i : Int) + 1)) (by omega) (by omega) (by simp (disch := omega) only [↓reduceIte, lt_TI, lt_FI, le_TI, le_FI, eq_TI, eq_FI, lt_TN, lt_FN, le_TN, le_FN, eq_TN, eq_FN, and_self, and_true, true_and, and_false, false_and, or_true, true_or, or_false, false_or, not_true_eq_false, not_false_eq_true, wr_of, uI_at, uC_at, q_bi_s, q_bl_s, q_br_s, q_bv_s, Int.toNat_natCast, tn_1, tn_m, tn_n, Int.toNat_zero, Int.toNat_one] <;> rfl) ⟨Kp_uI k1 (by omega) (by omega), by simp (disch := omega) only [↓reduceIte, lt_TI, lt_FI, le_TI, le_FI, eq_TI, eq_FI, lt_TN, lt_FN, le_TN, le_FN, eq_TN, eq_FN, and_self, and_true, true_and, and_false, false_and, or_true, true_or, or_false, false_or, not_true_eq_false, not_false_eq_true, wr_of, uI_at, uC_at, q_bi_s, q_bl_s, q_br_s, q_bv_s, Int.toNat_natCast, tn_1, tn_m, tn_n, Int.toNat_zero, Int.toNat_one] <;> exact k2, by simp (disch := omega) only [↓reduceIte, lt_TI, lt_FI, le_TI, le_FI, eq_TI, eq_FI, lt_TN, lt_FN, le_TN, le_FN, eq_TN, eq_FN, and_self, and_true, true_and, and_false, false_and, or_true, true_or, or_false, false_or, not_true_eq_false, not_false_eq_true, wr_of, uI_at, uC_at, q_bi_s, q_bl_s, q_br_s, q_bv_s, Int.toNat_natCast, tn_1, tn_m, tn_n, Int.toNat_zero, Int.toNat_one] <;> exact k3⟩
  obtain ⟨I1, a1, a2, a3, a4, a5⟩ := blanks (plc b n e - e) e (uI I 3 2 (e : Int)) (by omega) (Nat.le_refl _) (by simp (disch := omega) only [↓reduceIte, lt_TI, lt_FI, le_TI, le_FI, eq_TI, eq_FI, lt_TN, lt_FN, le_TN, le_FN, eq_TN, eq_FN, and_self, and_true, true_and, and_false, false_and, or_true, true_or, or_false, false_or, not_true_eq_false, not_false_eq_true, wr_of, uI_at, uC_at, q_bi_s, q_bl_s, q_br_s, q_bv_s, Int.toNat_natCast, tn_1, tn_m, tn_n, Int.toNat_zero, Int.toNat_one]) ⟨Kp_uI Kp_rf (by omega) (by omega), by simp (disch := omega) only [↓reduceIte, lt_TI, lt_FI, le_TI, le_FI, eq_TI, eq_FI, lt_TN, lt_FN, le_TN, le_FN, eq_TN, eq_FN, and_self, and_true, true_and, and_false, false_and, or_true, true_or, or_false, false_or, not_true_eq_false, not_false_eq_true, wr_of, uI_at, uC_at, q_bi_s, q_bl_s, q_br_s, q_bv_s, Int.toNat_natCast, tn_1, tn_m, tn_n, Int.toNat_zero, Int.toNat_one], by simp (disch := omega) only [↓reduceIte, lt_TI, lt_FI, le_TI, le_FI, eq_TI, eq_FI, lt_TN, lt_FN, le_TN, le_FN, eq_TN, eq_FN, and_self, and_true, true_and, and_false, false_and, or_true, true_or, or_false, false_or, not_true_eq_false, not_false_eq_true, wr_of, uI_at, uC_at, q_bi_s, q_bl_s, q_br_s, q_bv_s, Int.toNat_natCast, tn_1, tn_m, tn_n, Int.toNat_zero, Int.toNat_one]⟩
  have v4 : I1 3 4 = (n : Int) := by rw [a5]; exact h4
  rw [e86_0, h5, a1]
  by_cases q : n ≤ plc b n e
  · have et : tok b n e = (0, plc b n e, plc b n e) := if_pos q
    rw [et, e86_8]
    simp (disch := omega) only [↓reduceIte, lt_TI, lt_FI, le_TI, le_FI, eq_TI, eq_FI, lt_TN, lt_FN, le_TN, le_FN, eq_TN, eq_FN, and_self, and_true, true_and, and_false, false_and, or_true, true_or, or_false, false_or, not_true_eq_false, not_false_eq_true, wr_of, uI_at, uC_at, q_bi_s, q_bl_s, q_br_s, q_bv_s, Int.toNat_natCast, tn_1, tn_m, tn_n, Int.toNat_zero, Int.toNat_one, a2, v4]
    refine ⟨_, rfl, ⟨by simp (disch := omega) only [↓reduceIte, lt_TI, lt_FI, le_TI, le_FI, eq_TI, eq_FI, lt_TN, lt_FN, le_TN, le_FN, eq_TN, eq_FN, and_self, and_true, true_and, and_false, false_and, or_true, true_or, or_false, false_or, not_true_eq_false, not_false_eq_true, wr_of, uI_at, uC_at, q_bi_s, q_bl_s, q_br_s, q_bv_s, Int.toNat_natCast, tn_1, tn_m, tn_n, Int.toNat_zero, Int.toNat_one] <;> exact v4, hn, fun i hi => ⟨(hb i hi).1, by rw [uI_o1 (by omega), uI_o1 (by omega), a3 4 (by omega)]; exact (hb i hi).2⟩, by simp (disch := omega) only [↓reduceIte, lt_TI, lt_FI, le_TI, le_FI, eq_TI, eq_FI, lt_TN, lt_FN, le_TN, le_FN, eq_TN, eq_FN, and_self, and_true, true_and, and_false, false_and, or_true, true_or, or_false, false_or, not_true_eq_false, not_false_eq_true, wr_of, uI_at, uC_at, q_bi_s, q_bl_s, q_br_s, q_bv_s, Int.toNat_natCast, tn_1, tn_m, tn_n, Int.toNat_zero, Int.toNat_one] <;> rfl, by simp (disch := omega) only [↓reduceIte, lt_TI, lt_FI, le_TI, le_FI, eq_TI, eq_FI, lt_TN, lt_FN, le_TN, le_FN, eq_TN, eq_FN, and_self, and_true, true_and, and_false, false_and, or_true, true_or, or_false, false_or, not_true_eq_false, not_false_eq_true, wr_of, uI_at, uC_at, q_bi_s, q_bl_s, q_br_s, q_bv_s, Int.toNat_natCast, tn_1, tn_m, tn_n, Int.toNat_zero, Int.toNat_one, a2], by simp (disch := omega) only [↓reduceIte, lt_TI, lt_FI, le_TI, le_FI, eq_TI, eq_FI, lt_TN, lt_FN, le_TN, le_FN, eq_TN, eq_FN, and_self, and_true, true_and, and_false, false_and, or_true, true_or, or_false, false_or, not_true_eq_false, not_false_eq_true, wr_of, uI_at, uC_at, q_bi_s, q_bl_s, q_br_s, q_bv_s, Int.toNat_natCast, tn_1, tn_m, tn_n, Int.toNat_zero, Int.toNat_one], Nat.le_refl _, p2, e, he, et.symm⟩, ⟨Kp_uI (Kp_uI a3 (by omega) (by omega)) (by omega) (by omega), by simp (disch := omega) only [↓reduceIte, lt_TI, lt_FI, le_TI, le_FI, eq_TI, eq_FI, lt_TN, lt_FN, le_TN, le_FN, eq_TN, eq_FN, and_self, and_true, true_and, and_false, false_and, or_true, true_or, or_false, false_or, not_true_eq_false, not_false_eq_true, wr_of, uI_at, uC_at, q_bi_s, q_bl_s, q_br_s, q_bv_s, Int.toNat_natCast, tn_1, tn_m, tn_n, Int.toNat_zero, Int.toNat_one, a4], by simp (disch := omega) only [↓reduceIte, lt_TI, lt_FI, le_TI, le_FI, eq_TI, eq_FI, lt_TN, lt_FN, le_TN, le_FN, eq_TN, eq_FN, and_self, and_true, true_and, and_false, false_and, or_true, true_or, or_false, false_or, not_true_eq_false, not_false_eq_true, wr_of, uI_at, uC_at, q_bi_s, q_bl_s, q_br_s, q_bv_s, Int.toNat_natCast, tn_1, tn_m, tn_n, Int.toNat_zero, Int.toNat_one, a5]⟩⟩
  · have hp : plc b n e < n := by omega
    have v3 : I1 4 (plc b n e) = Int.bmod (b (plc b n e) : Int) 256 := by rw [a3 4 (by omega)]; exact (hb _ hp).2
    have ne32 : ¬ I1 4 (plc b n e) = 32 := fun z => pt hp ((bm_eq (hb _ hp).1 (by omega : 32 < 128)).mp (by rw [← v3]; exact z))
    have kk := c_kindOf (t := t) (u := u) (I := uI I1 3 5 (plc b n e : Int)) (J := J) (hb _ hp).1
    have k17 : kd 3 = 17 := rfl
    rw [e86_8]
    simp (disch := omega) only [↓reduceIte, lt_TI, lt_FI, le_TI, le_FI, eq_TI, eq_FI, lt_TN, lt_FN, le_TN, le_FN, eq_TN, eq_FN, and_self, and_true, true_and, and_false, false_and, or_true, true_or, or_false, false_or, not_true_eq_false, not_false_eq_true, wr_of, uI_at, uC_at, q_bi_s, q_bl_s, q_br_s, q_bv_s, Int.toNat_natCast, tn_1, tn_m, tn_n, Int.toNat_zero, Int.toNat_one, a2, v4]
    rw [v3, kk]
    simp (disch := omega) only [↓reduceIte, lt_TI, lt_FI, le_TI, le_FI, eq_TI, eq_FI, lt_TN, lt_FN, le_TN, le_FN, eq_TN, eq_FN, and_self, and_true, true_and, and_false, false_and, or_true, true_or, or_false, false_or, not_true_eq_false, not_false_eq_true, wr_of, uI_at, uC_at, q_bi_s, q_bl_s, q_br_s, q_bv_s, Int.toNat_natCast, tn_1, tn_m, tn_n, Int.toNat_zero, Int.toNat_one]
    rw [e86_84]
    generalize hI2 : uI (uI (uI I1 3 5 (plc b n e : Int)) 3 3 (kof (b (plc b n e)) : Int)) 3 5 ((plc b n e : Int) + 1) = I2
    have w4 : I2 3 4 = (n : Int) := by rw [← hI2]; simp (disch := omega) only [↓reduceIte, lt_TI, lt_FI, le_TI, le_FI, eq_TI, eq_FI, lt_TN, lt_FN, le_TN, le_FN, eq_TN, eq_FN, and_self, and_true, true_and, and_false, false_and, or_true, true_or, or_false, false_or, not_true_eq_false, not_false_eq_true, wr_of, uI_at, uC_at, q_bi_s, q_bl_s, q_br_s, q_bv_s, Int.toNat_natCast, tn_1, tn_m, tn_n, Int.toNat_zero, Int.toNat_one, v4]
    have w2 : I2 3 2 = (plc b n e : Int) := by rw [← hI2]; simp (disch := omega) only [↓reduceIte, lt_TI, lt_FI, le_TI, le_FI, eq_TI, eq_FI, lt_TN, lt_FN, le_TN, le_FN, eq_TN, eq_FN, and_self, and_true, true_and, and_false, false_and, or_true, true_or, or_false, false_or, not_true_eq_false, not_false_eq_true, wr_of, uI_at, uC_at, q_bi_s, q_bl_s, q_br_s, q_bv_s, Int.toNat_natCast, tn_1, tn_m, tn_n, Int.toNat_zero, Int.toNat_one, a2]
    have w3 : I2 3 3 = (kof (b (plc b n e)) : Int) := by rw [← hI2]; simp (disch := omega) only [↓reduceIte, lt_TI, lt_FI, le_TI, le_FI, eq_TI, eq_FI, lt_TN, lt_FN, le_TN, le_FN, eq_TN, eq_FN, and_self, and_true, true_and, and_false, false_and, or_true, true_or, or_false, false_or, not_true_eq_false, not_false_eq_true, wr_of, uI_at, uC_at, q_bi_s, q_bl_s, q_br_s, q_bv_s, Int.toNat_natCast, tn_1, tn_m, tn_n, Int.toNat_zero, Int.toNat_one]
    have w5 : I2 3 5 = (plc b n e : Int) + 1 := by rw [← hI2]; simp (disch := omega) only [↓reduceIte, lt_TI, lt_FI, le_TI, le_FI, eq_TI, eq_FI, lt_TN, lt_FN, le_TN, le_FN, eq_TN, eq_FN, and_self, and_true, true_and, and_false, false_and, or_true, true_or, or_false, false_or, not_true_eq_false, not_false_eq_true, wr_of, uI_at, uC_at, q_bi_s, q_bl_s, q_br_s, q_bv_s, Int.toNat_natCast, tn_1, tn_m, tn_n, Int.toNat_zero, Int.toNat_one]
    have wK : KS I I2 := by rw [← hI2]; exact ⟨Kp_uI (Kp_uI (Kp_uI a3 (by omega) (by omega)) (by omega) (by omega)) (by omega) (by omega), by simp (disch := omega) only [↓reduceIte, lt_TI, lt_FI, le_TI, le_FI, eq_TI, eq_FI, lt_TN, lt_FN, le_TN, le_FN, eq_TN, eq_FN, and_self, and_true, true_and, and_false, false_and, or_true, true_or, or_false, false_or, not_true_eq_false, not_false_eq_true, wr_of, uI_at, uC_at, q_bi_s, q_bl_s, q_br_s, q_bv_s, Int.toNat_natCast, tn_1, tn_m, tn_n, Int.toNat_zero, Int.toNat_one, a4], by simp (disch := omega) only [↓reduceIte, lt_TI, lt_FI, le_TI, le_FI, eq_TI, eq_FI, lt_TN, lt_FN, le_TN, le_FN, eq_TN, eq_FN, and_self, and_true, true_and, and_false, false_and, or_true, true_or, or_false, false_or, not_true_eq_false, not_false_eq_true, wr_of, uI_at, uC_at, q_bi_s, q_bl_s, q_br_s, q_bv_s, Int.toNat_natCast, tn_1, tn_m, tn_n, Int.toNat_zero, Int.toNat_one, a5]⟩
    have et0 : ∀ kd' : Nat, (∀ h : kof (b (plc b n e)) = kd', ¬ (kd' = 1 ∨ kd' = 2) → tok b n e = (kd', plc b n e, plc b n e + 1)) := fun kd' h1 h2 => by
      unfold tok
      rw [if_neg q, h1, if_neg (fun z => h2 (Or.inl z)), if_neg (fun z => h2 (Or.inr z))]
    -- the end, by the longest that may be
    have fin : ∀ (I3 : Nat → Nat → Int) (kd' a mx : Nat), (kd' = 1 ∧ mx = 8 ∨ kd' = 2 ∧ mx = 3) → plc b n e ≤ a → a ≤ n → KS I I3 → I3 3 2 = (plc b n e : Int) → I3 3 3 = (kd' : Int) → I3 3 5 = (a : Int) → tok b n e = (if mx < a - plc b n e then 4 else kd', plc b n e, a) → ∃ I', (if I3 3 3 = 1 then (if (8 : Int) < wr (I3 3 5 - I3 3 2) then some (vu, qk t u (uI I3 3 3 4) J) else some (vu, qk t u I3 J)) else (if (3 : Int) < wr (I3 3 5 - I3 3 2) then some (vu, qk t u (uI I3 3 3 4) J) else some (vu, qk t u I3 J))) = some (vu, qk t u I' J) ∧ KT I' b n (tok b n e) ∧ KS I I' := by
      intro I3 kd' a mx hk ha1 ha2 K b2 b3 b5 et
      have b4 : I3 3 4 = (n : Int) := by rw [K.2.2]; exact h4
      by_cases y : mx < a - plc b n e
      · rw [if_pos y] at et
        rw [et]
        refine ⟨uI I3 3 3 4, ?_, ⟨by simp (disch := omega) only [↓reduceIte, lt_TI, lt_FI, le_TI, le_FI, eq_TI, eq_FI, lt_TN, lt_FN, le_TN, le_FN, eq_TN, eq_FN, and_self, and_true, true_and, and_false, false_and, or_true, true_or, or_false, false_or, not_true_eq_false, not_false_eq_true, wr_of, uI_at, uC_at, q_bi_s, q_bl_s, q_br_s, q_bv_s, Int.toNat_natCast, tn_1, tn_m, tn_n, Int.toNat_zero, Int.toNat_one, b4], hn, fun i hi => ⟨(hb i hi).1, by rw [uI_o1 (by omega), K.1 4 (by omega)]; exact (hb i hi).2⟩, by simp (disch := omega) only [↓reduceIte, lt_TI, lt_FI, le_TI, le_FI, eq_TI, eq_FI, lt_TN, lt_FN, le_TN, le_FN, eq_TN, eq_FN, and_self, and_true, true_and, and_false, false_and, or_true, true_or, or_false, false_or, not_true_eq_false, not_false_eq_true, wr_of, uI_at, uC_at, q_bi_s, q_bl_s, q_br_s, q_bv_s, Int.toNat_natCast, tn_1, tn_m, tn_n, Int.toNat_zero, Int.toNat_one] <;> rfl, by simp (disch := omega) only [↓reduceIte, lt_TI, lt_FI, le_TI, le_FI, eq_TI, eq_FI, lt_TN, lt_FN, le_TN, le_FN, eq_TN, eq_FN, and_self, and_true, true_and, and_false, false_and, or_true, true_or, or_false, false_or, not_true_eq_false, not_false_eq_true, wr_of, uI_at, uC_at, q_bi_s, q_bl_s, q_br_s, q_bv_s, Int.toNat_natCast, tn_1, tn_m, tn_n, Int.toNat_zero, Int.toNat_one, b2], by simp (disch := omega) only [↓reduceIte, lt_TI, lt_FI, le_TI, le_FI, eq_TI, eq_FI, lt_TN, lt_FN, le_TN, le_FN, eq_TN, eq_FN, and_self, and_true, true_and, and_false, false_and, or_true, true_or, or_false, false_or, not_true_eq_false, not_false_eq_true, wr_of, uI_at, uC_at, q_bi_s, q_bl_s, q_br_s, q_bv_s, Int.toNat_natCast, tn_1, tn_m, tn_n, Int.toNat_zero, Int.toNat_one, b5], ha1, ha2, e, he, et.symm⟩, ⟨Kp_uI K.1 (by omega) (by omega), by simp (disch := omega) only [↓reduceIte, lt_TI, lt_FI, le_TI, le_FI, eq_TI, eq_FI, lt_TN, lt_FN, le_TN, le_FN, eq_TN, eq_FN, and_self, and_true, true_and, and_false, false_and, or_true, true_or, or_false, false_or, not_true_eq_false, not_false_eq_true, wr_of, uI_at, uC_at, q_bi_s, q_bl_s, q_br_s, q_bv_s, Int.toNat_natCast, tn_1, tn_m, tn_n, Int.toNat_zero, Int.toNat_one, K.2.1], by simp (disch := omega) only [↓reduceIte, lt_TI, lt_FI, le_TI, le_FI, eq_TI, eq_FI, lt_TN, lt_FN, le_TN, le_FN, eq_TN, eq_FN, and_self, and_true, true_and, and_false, false_and, or_true, true_or, or_false, false_or, not_true_eq_false, not_false_eq_true, wr_of, uI_at, uC_at, q_bi_s, q_bl_s, q_br_s, q_bv_s, Int.toNat_natCast, tn_1, tn_m, tn_n, Int.toNat_zero, Int.toNat_one, K.2.2]⟩⟩
        rcases hk with ⟨z1, z2⟩ | ⟨z1, z2⟩ <;> subst z1 z2 <;> simp (disch := omega) only [↓reduceIte, lt_TI, lt_FI, le_TI, le_FI, eq_TI, eq_FI, lt_TN, lt_FN, le_TN, le_FN, eq_TN, eq_FN, and_self, and_true, true_and, and_false, false_and, or_true, true_or, or_false, false_or, not_true_eq_false, not_false_eq_true, wr_of, uI_at, uC_at, q_bi_s, q_bl_s, q_br_s, q_bv_s, Int.toNat_natCast, tn_1, tn_m, tn_n, Int.toNat_zero, Int.toNat_one, b2, b3, b5]
      · rw [if_neg y] at et
        rw [et]
        refine ⟨I3, ?_, ⟨b4, hn, fun i hi => ⟨(hb i hi).1, by rw [K.1 4 (by omega)]; exact (hb i hi).2⟩, b3, b2, b5, ha1, ha2, e, he, et.symm⟩, K⟩
        rcases hk with ⟨z1, z2⟩ | ⟨z1, z2⟩ <;> subst z1 z2 <;> simp (disch := omega) only [↓reduceIte, lt_TI, lt_FI, le_TI, le_FI, eq_TI, eq_FI, lt_TN, lt_FN, le_TN, le_FN, eq_TN, eq_FN, and_self, and_true, true_and, and_false, false_and, or_true, true_or, or_false, false_or, not_true_eq_false, not_false_eq_true, wr_of, uI_at, uC_at, q_bi_s, q_bl_s, q_br_s, q_bv_s, Int.toNat_natCast, tn_1, tn_m, tn_n, Int.toNat_zero, Int.toNat_one, b2, b3, b5]
    have runs : ∀ (kd' mx : Nat), (kd' = 1 ∧ mx = 8 ∨ kd' = 2 ∧ mx = 3) → kof (b (plc b n e)) = kd' → tok b n e = (if mx < rnl b n (plc b n e) kd' - plc b n e then 4 else kd', plc b n e, rnl b n (plc b n e) kd') → ∀ (r a : Nat) (I3 : Nat → Nat → Int), a + r = rnl b n (plc b n e) kd' → plc b n e < a → KS I I3 → I3 3 2 = (plc b n e : Int) → I3 3 3 = (kd' : Int) → I3 3 5 = (a : Int) → ∃ I', q_E (86, 119, [vr 3, vi 1, vu], []) (qk t u I3 J) = some (vu, qk t u I' J) ∧ KT I' b n (tok b n e) ∧ KS I I' := by
      intro kd' mx hk hkof et r
      obtain ⟨r1, r2⟩ := rnl_b b (k := kd') hp
      induction r with
      | zero =>
        intro a I3 hr hpa K b2 b3 b5
        have ea : a = rnl b n (plc b n e) kd' := by omega
        have b4 : I3 3 4 = (n : Int) := by rw [K.2.2]; exact h4
        have f := fin I3 kd' a mx hk (by omega) (by omega) K b2 b3 b5 (by rw [ea]; exact et)
        rw [e86_119]
        rw [if_neg (show ¬ (1 : Int) = 0 by decide)]
        by_cases y : a < n
        · have nk : kof (b a) ≠ kd' := by
            have := fsti_t (n - (plc b n e + 1)) (fun i => decide (kof (b (plc b n e + 1 + i)) ≠ kd')) (by unfold rnl at ea; omega)
            have := of_decide_eq_true this
            rw [show plc b n e + 1 + fsti (fun i => decide (kof (b (plc b n e + 1 + i)) ≠ kd')) (n - (plc b n e + 1)) = a by rw [ea]; rfl] at this
            exact this
          have kk := c_kindOf (t := t) (u := u) (I := I3) (J := J) (hb a y).1
          have v3 : I3 4 a = Int.bmod (b a : Int) 256 := by rw [K.1 4 (by omega)]; exact (hb a y).2
          rw [b5, b4, if_pos (show (a : Int) < (n : Int) by omega), if_pos (show (0 : Int) ≤ (a : Int) ∧ (a : Int) < 900 by omega), Int.toNat_natCast, v3, kk, q_bi_s, e86_146, b3, if_neg (show ¬ (kof (b a) : Int) = (kd' : Int) by omega)]
          rw [b3, b5] at f
          rw [b5]
          exact f
        · rw [b5, b4, if_neg (show ¬ (a : Int) < (n : Int) by omega)]
          rw [b5] at f
          exact f
      | succ r ih =>
        intro a I3 hr hpa K b2 b3 b5
        have b4 : I3 3 4 = (n : Int) := by rw [K.2.2]; exact h4
        have ek := rnl_k b (n := n) hkof a (by omega) (by omega)
        have kk := c_kindOf (t := t) (u := u) (I := I3) (J := J) (hb a (by omega)).1
        have v3 : I3 4 a = Int.bmod (b a : Int) 256 := by rw [K.1 4 (by omega)]; exact (hb a (by omega)).2
        rw [e86_119, if_neg (show ¬ (1 : Int) = 0 by decide), b5, b4, if_pos (show (a : Int) < (n : Int) by omega), if_pos (show (0 : Int) ≤ (a : Int) ∧ (a : Int) < 900 by omega), Int.toNat_natCast, v3, kk, q_bi_s, e86_146, b3, if_pos (show (kof (b a) : Int) = (kd' : Int) by omega), b5, wr_of (by omega) (by omega)]
        exact ih (a + 1) (uI I3 3 5 ((a : Int) + 1)) (by omega) (by omega) ⟨Kp_uI K.1 (by omega) (by omega), by simp (disch := omega) only [↓reduceIte, lt_TI, lt_FI, le_TI, le_FI, eq_TI, eq_FI, lt_TN, lt_FN, le_TN, le_FN, eq_TN, eq_FN, and_self, and_true, true_and, and_false, false_and, or_true, true_or, or_false, false_or, not_true_eq_false, not_false_eq_true, wr_of, uI_at, uC_at, q_bi_s, q_bl_s, q_br_s, q_bv_s, Int.toNat_natCast, tn_1, tn_m, tn_n, Int.toNat_zero, Int.toNat_one, K.2.1], by simp (disch := omega) only [↓reduceIte, lt_TI, lt_FI, le_TI, le_FI, eq_TI, eq_FI, lt_TN, lt_FN, le_TN, le_FN, eq_TN, eq_FN, and_self, and_true, true_and, and_false, false_and, or_true, true_or, or_false, false_or, not_true_eq_false, not_false_eq_true, wr_of, uI_at, uC_at, q_bi_s, q_bl_s, q_br_s, q_bv_s, Int.toNat_natCast, tn_1, tn_m, tn_n, Int.toNat_zero, Int.toNat_one, K.2.2]⟩ (by simp (disch := omega) only [↓reduceIte, lt_TI, lt_FI, le_TI, le_FI, eq_TI, eq_FI, lt_TN, lt_FN, le_TN, le_FN, eq_TN, eq_FN, and_self, and_true, true_and, and_false, false_and, or_true, true_or, or_false, false_or, not_true_eq_false, not_false_eq_true, wr_of, uI_at, uC_at, q_bi_s, q_bl_s, q_br_s, q_bv_s, Int.toNat_natCast, tn_1, tn_m, tn_n, Int.toNat_zero, Int.toNat_one, b2]) (by simp (disch := omega) only [↓reduceIte, lt_TI, lt_FI, le_TI, le_FI, eq_TI, eq_FI, lt_TN, lt_FN, le_TN, le_FN, eq_TN, eq_FN, and_self, and_true, true_and, and_false, false_and, or_true, true_or, or_false, false_or, not_true_eq_false, not_false_eq_true, wr_of, uI_at, uC_at, q_bi_s, q_bl_s, q_br_s, q_bv_s, Int.toNat_natCast, tn_1, tn_m, tn_n, Int.toNat_zero, Int.toNat_one, b3]) (by simp (disch := omega) only [↓reduceIte, lt_TI, lt_FI, le_TI, le_FI, eq_TI, eq_FI, lt_TN, lt_FN, le_TN, le_FN, eq_TN, eq_FN, and_self, and_true, true_and, and_false, false_and, or_true, true_or, or_false, false_or, not_true_eq_false, not_false_eq_true, wr_of, uI_at, uC_at, q_bi_s, q_bl_s, q_br_s, q_bv_s, Int.toNat_natCast, tn_1, tn_m, tn_n, Int.toNat_zero, Int.toNat_one] <;> rfl)
    rw [if_pos k17]
    have ew : (uI (uI (uI I1 3 5 (plc b n e : Int)) 3 3 (kof (b (plc b n e)) : Int)) 3 5 (wr ((uI (uI I1 3 5 (plc b n e : Int)) 3 3 (kof (b (plc b n e)) : Int)) 3 2 + 1))) = I2 := by
      rw [← hI2]; simp (disch := omega) only [↓reduceIte, lt_TI, lt_FI, le_TI, le_FI, eq_TI, eq_FI, lt_TN, lt_FN, le_TN, le_FN, eq_TN, eq_FN, and_self, and_true, true_and, and_false, false_and, or_true, true_or, or_false, false_or, not_true_eq_false, not_false_eq_true, wr_of, uI_at, uC_at, q_bi_s, q_bl_s, q_br_s, q_bv_s, Int.toNat_natCast, tn_1, tn_m, tn_n, Int.toNat_zero, Int.toNat_one, a2]
    rw [ew, w3]
    by_cases k1 : kof (b (plc b n e)) = 1
    · have et : tok b n e = (if 8 < rnl b n (plc b n e) 1 - plc b n e then 4 else 1, plc b n e, rnl b n (plc b n e) 1) := by unfold tok; rw [if_neg q, if_pos k1]
      have r0 := rnl_b b (k := 1) hp
      rw [k1] at w3 ⊢
      rw [if_pos (show ((1 : Nat) : Int) = 1 from rfl)]
      exact runs 1 8 (Or.inl ⟨rfl, rfl⟩) k1 et (rnl b n (plc b n e) 1 - (plc b n e + 1)) (plc b n e + 1) I2 (by omega) (by omega) wK w2 w3 w5
    · rw [if_neg (show ¬ (kof (b (plc b n e)) : Int) = 1 by omega)]
      by_cases k2 : kof (b (plc b n e)) = 2
      · have et : tok b n e = (if 3 < rnl b n (plc b n e) 2 - plc b n e then 4 else 2, plc b n e, rnl b n (plc b n e) 2) := by unfold tok; rw [if_neg q, if_neg k1, if_pos k2]
        have r0 := rnl_b b (k := 2) hp
        rw [k2] at w3 ⊢
        rw [if_pos (show ((2 : Nat) : Int) = 2 from rfl)]
        exact runs 2 3 (Or.inr ⟨rfl, rfl⟩) k2 et (rnl b n (plc b n e) 2 - (plc b n e + 1)) (plc b n e + 1) I2 (by omega) (by omega) wK w2 w3 w5
      · have et := et0 _ rfl (fun z => z.elim k1 k2)
        rw [if_neg (show ¬ (kof (b (plc b n e)) : Int) = 2 by omega), et, e86_119, if_pos rfl, w3, if_neg (show ¬ (kof (b (plc b n e)) : Int) = 1 by omega), w5, w2]
        rw [wr_of (by omega) (by omega), if_neg (show ¬ (3 : Int) < (plc b n e : Int) + 1 - (plc b n e : Int) by omega)]
        exact ⟨I2, rfl, ⟨w4, hn, fun i hi => ⟨(hb i hi).1, by rw [wK.1 4 (by omega)]; exact (hb i hi).2⟩, w3, w2, w5, by show plc b n e ≤ plc b n e + 1; omega, by show plc b n e + 1 ≤ n; omega, e, he, et.symm⟩, wK⟩
theorem c_next (H : KT I b n k) : ∃ I', q_E (86, 0, [vr 3, vu, vu], []) (qk t u I J) = some (vu, qk t u I' J) ∧ KT I' b n (tok b n k.2.2) ∧ KS I I' := by
  obtain ⟨h1, h2, h3, h4, h5, h6, h7, h8, -⟩ := H
  exact c_tstep h8 h2 h1 h6 h3
theorem KT_2 (H : KT I b n k) (h : k.1 = 2) : k.2.2 - k.2.1 ≤ 3 ∧ (∀ i, k.2.1 ≤ i → i < k.2.2 → 48 ≤ b i ∧ b i ≤ 57) ∧ tvl b k ≤ 999 := by
  obtain ⟨-, -, -, -, -, -, -, -, e, -, rfl⟩ := H
  obtain ⟨a, c⟩ := tok_2 b h
  exact ⟨a, c, tvl_le b h⟩
theorem KT_1 (H : KT I b n k) (h : k.1 = 1) : k.2.2 - k.2.1 ≤ 8 ∧ (∀ i, k.2.1 ≤ i → i < k.2.2 → 97 ≤ b i ∧ b i ≤ 122) ∧ k.2.1 < k.2.2 := by
  obtain ⟨-, -, -, -, -, -, -, -, e, he, rfl⟩ := H
  obtain ⟨a, c⟩ := tok_1 b h
  exact ⟨a, c, (tok_b b he).2.2.2.1 (by omega)⟩
theorem c_whole (H : KT I b n k) (h : k.1 = 2) : q_E (88, 0, [vr 3, vu, vu], []) (qk t u I J) = some (vi (tvl b k : Int), qk t u I J) := by
  obtain ⟨l3, dg, -⟩ := KT_2 H h
  obtain ⟨h1, h2, h3, h4, h5, h6, h7, h8, -⟩ := H
  have loop : ∀ r i : Nat, i + r = k.2.2 - k.2.1 → q_E (88, 7, [vr 3, vi (vlu b k.2.1 i : Int), vi ((k.2.1 + i : Nat) : Int)], []) (qk t u I J) = some (vi (tvl b k : Int), qk t u I J) := by
    intro r
    induction r with
    | zero =>
      intro i hi
      rw [e88_7]
      simp (disch := omega) only [↓reduceIte, lt_TI, lt_FI, le_TI, le_FI, eq_TI, eq_FI, lt_TN, lt_FN, le_TN, le_FN, eq_TN, eq_FN, and_self, and_true, true_and, and_false, false_and, or_true, true_or, or_false, false_or, not_true_eq_false, not_false_eq_true, wr_of, uI_at, uC_at, q_bi_s, q_bl_s, q_br_s, q_bv_s, Int.toNat_natCast, tn_1, tn_m, tn_n, Int.toNat_zero, Int.toNat_one, h6]
      rw [show i = k.2.2 - k.2.1 by omega]
      rfl
    | succ r ih =>
      intro i hi
      obtain ⟨d1, d2⟩ := dg (k.2.1 + i) (by omega) (by omega)
      have vb := vlu_le b k.2.1 i (fun j hj => (dg _ (by omega) (by omega)).2)
      have pb := Nat.pow_le_pow_right (show 0 < 10 by omega) (show i ≤ 3 by omega)
      have v3 := (h3 (k.2.1 + i) (by omega)).2
      rw [bm_sm (by omega)] at v3
      have en := ih (i + 1) (by omega)
      rw [e88_7]
      simp (disch := omega) only [↓reduceIte, lt_TI, lt_FI, le_TI, le_FI, eq_TI, eq_FI, lt_TN, lt_FN, le_TN, le_FN, eq_TN, eq_FN, and_self, and_true, true_and, and_false, false_and, or_true, true_or, or_false, false_or, not_true_eq_false, not_false_eq_true, wr_of, uI_at, uC_at, q_bi_s, q_bl_s, q_br_s, q_bv_s, Int.toNat_natCast, tn_1, tn_m, tn_n, Int.toNat_zero, Int.toNat_one, h6, v3]
      rw [← en, show ((10 * (vlu b k.2.1 i : Int) + (b (k.2.1 + i) : Int)) - 48) = (vlu b k.2.1 (i + 1) : Int) by
        show _ = ((10 * vlu b k.2.1 i + (b (k.2.1 + i) - 48) : Nat) : Int); omega]
      rfl
  rw [e88_0, h5]
  exact loop (k.2.2 - k.2.1) 0 (by omega)
theorem wrd_len (b : Nat → Nat) (p a : Nat) : (wrd b p a).length = a - p := rg_len _ _
theorem wrd_at (b : Nat → Nat) {p a i : Nat} (h : i < a - p) : (wrd b p a).getD i 0 = b (p + i) := rg_at h
theorem q_str_b : (List.range 12).all (fun i => (q_str (1000 + i)).all (fun c => decide (c < 128))) = true := by decide +kernel
def isWd (b : Nat → Nat) (k : Tk) (s : Nat) : Bool := decide (k.1 = 1 ∧ wrd b k.2.1 k.2.2 = q_str s)
theorem c_isWord (H : KT I b n k) {i : Nat} (hi : i < 12) : q_E (90, 0, [vr 3, vr (1000 + i), vu], []) (qk t u I J) = some (vi (if isWd b k (1000 + i) = true then 1 else 0), qk t u I J) := by
  have sb : ∀ j, j < (q_str (1000 + i)).length → (q_str (1000 + i)).getD j 0 < 128 := fun j hj => by
    have := List.all_eq_true.mp q_str_b i (List.mem_range.mpr hi)
    exact of_decide_eq_true (List.all_eq_true.mp this _ (gD_mem hj))
  have k7 : kd (1000 + i) = 7 := by
    have : i = 0 ∨ i = 1 ∨ i = 2 ∨ i = 3 ∨ i = 4 ∨ i = 5 ∨ i = 6 ∨ i = 7 ∨ i = 8 ∨ i = 9 ∨ i = 10 ∨ i = 11 := by omega
    rcases this with z | z | z | z | z | z | z | z | z | z | z | z <;> subst z <;> rfl
  have K1 := fun h => KT_1 H h
  obtain ⟨h1, h2, h3, h4, h5, h6, h7, h8, -⟩ := H
  have sl : q_slen (1000 + i) = ((q_str (1000 + i)).length : Int) := rfl
  have sa : ∀ j, q_sat (1000 + i) j = ((q_str (1000 + i)).getD j 0 : Int) := fun _ => rfl
  have wt : k.1 = 1 → wrd b k.2.1 k.2.2 = q_str (1000 + i) → isWd b k (1000 + i) = true := fun x y => decide_eq_true ⟨x, y⟩
  have wf : ∀ {p : Prop}, (k.1 = 1 → wrd b k.2.1 k.2.2 = q_str (1000 + i) → False) → ¬ isWd b k (1000 + i) = true := fun x y => x (of_decide_eq_true y).1 (of_decide_eq_true y).2
  rw [e90_0]
  by_cases q1 : k.1 = 1
  · by_cases q2 : k.2.2 - k.2.1 = (q_str (1000 + i)).length
    · rw [h4, h5, h6, k7, sl]
      simp (disch := omega) only [↓reduceIte, lt_TI, lt_FI, le_TI, le_FI, eq_TI, eq_FI, lt_TN, lt_FN, le_TN, le_FN, eq_TN, eq_FN, and_self, and_true, true_and, and_false, false_and, or_true, true_or, or_false, false_or, not_true_eq_false, not_false_eq_true, wr_of, uI_at, uC_at, q_bi_s, q_bl_s, q_br_s, q_bv_s, Int.toNat_natCast, tn_1, tn_m, tn_n, Int.toNat_zero, Int.toNat_one, q1]
      have loop : ∀ r j : Nat, j + r = (q_str (1000 + i)).length → (∀ a, a < j → b (k.2.1 + a) = (q_str (1000 + i)).getD a 0) → q_E (90, 28, [vr 3, vr (1000 + i), vi (j : Int)], []) (qk t u I J) = some (vi (if isWd b k (1000 + i) = true then 1 else 0), qk t u I J) := by
        intro r
        induction r with
        | zero =>
          intro j hj he
          have e : wrd b k.2.1 k.2.2 = q_str (1000 + i) := gD_ext (by rw [wrd_len]; exact q2) (fun a ha => by rw [wrd_len] at ha; rw [wrd_at b ha]; exact he a (by omega))
          rw [e90_28, if_pos (wt q1 e), k7, sl]
          simp (disch := omega) only [↓reduceIte, lt_TI, lt_FI, le_TI, le_FI, eq_TI, eq_FI, lt_TN, lt_FN, le_TN, le_FN, eq_TN, eq_FN, and_self, and_true, true_and, and_false, false_and, or_true, true_or, or_false, false_or, not_true_eq_false, not_false_eq_true, wr_of, uI_at, uC_at, q_bi_s, q_bl_s, q_br_s, q_bv_s, Int.toNat_natCast, tn_1, tn_m, tn_n, Int.toNat_zero, Int.toNat_one]
        | succ r ih =>
          intro j hj he
          have v3 := (h3 (k.2.1 + j) (by omega)).2
          have vb := (h3 (k.2.1 + j) (by omega)).1
          have s1 := sb j (by omega)
          rw [e90_28, k7, sl, h5]
          simp (disch := omega) only [↓reduceIte, lt_TI, lt_FI, le_TI, le_FI, eq_TI, eq_FI, lt_TN, lt_FN, le_TN, le_FN, eq_TN, eq_FN, and_self, and_true, true_and, and_false, false_and, or_true, true_or, or_false, false_or, not_true_eq_false, not_false_eq_true, wr_of, uI_at, uC_at, q_bi_s, q_bl_s, q_br_s, q_bv_s, Int.toNat_natCast, tn_1, tn_m, tn_n, Int.toNat_zero, Int.toNat_one]
          rw [tn_a, v3, sa]
          by_cases q3 : b (k.2.1 + j) = (q_str (1000 + i)).getD j 0
          · rw [if_pos ((bm_eq vb s1).mpr q3)]
            exact ih (j + 1) (by omega) (fun a ha => by
              by_cases z : a = j
              · rw [z]; exact q3
              · exact he a (by omega))
          · rw [if_neg (fun z => q3 ((bm_eq vb s1).mp z)), if_neg (wf (p := True) (fun _ z => q3 (by rw [← z, wrd_at b (by omega)])))]
      have l0 := loop (q_str (1000 + i)).length 0 (by omega) (fun a ha => by omega)
      exact l0
    · rw [if_neg (wf (p := True) (fun _ z => q2 (by rw [← z, wrd_len])))]
      rw [h4, h5, h6, k7, sl]
      simp (disch := omega) only [↓reduceIte, lt_TI, lt_FI, le_TI, le_FI, eq_TI, eq_FI, lt_TN, lt_FN, le_TN, le_FN, eq_TN, eq_FN, and_self, and_true, true_and, and_false, false_and, or_true, true_or, or_false, false_or, not_true_eq_false, not_false_eq_true, wr_of, uI_at, uC_at, q_bi_s, q_bl_s, q_br_s, q_bv_s, Int.toNat_natCast, tn_1, tn_m, tn_n, Int.toNat_zero, Int.toNat_one]
  · rw [if_neg (wf (p := True) (fun z _ => q1 z))]
    simp (disch := omega) only [↓reduceIte, lt_TI, lt_FI, le_TI, le_FI, eq_TI, eq_FI, lt_TN, lt_FN, le_TN, le_FN, eq_TN, eq_FN, and_self, and_true, true_and, and_false, false_and, or_true, true_or, or_false, false_or, not_true_eq_false, not_false_eq_true, wr_of, uI_at, uC_at, q_bi_s, q_bl_s, q_br_s, q_bv_s, Int.toNat_natCast, tn_1, tn_m, tn_n, Int.toNat_zero, Int.toNat_one, h4]
end

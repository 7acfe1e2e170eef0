/-! what the class's Heaps answer -/
section
variable {t u : Nat} {I J : Nat → Nat → Int} {h : Nat} {xs : List Nat} {k : Nat}
theorem c_heightAt (H : HAt I h xs k) (i : Nat) : q_E (25, 0, [vr h, vi (i : Int)], []) (qk t u I J) = some (vi (xs.getD i 0 : Int), qk t u I J) := by
  obtain ⟨⟨k1, k2, k3, _, _, k5⟩, h1, h2, h3, h4⟩ := H
  rw [e25_0]
  by_cases hl : i < xs.length
  · simp (disch := omega) only [↓reduceIte, lt_TI, lt_FI, le_TI, le_FI, eq_TI, eq_FI, lt_TN, lt_FN, le_TN, le_FN, eq_TN, eq_FN, and_self, and_true, true_and, and_false, false_and, or_true, true_or, or_false, false_or, not_true_eq_false, not_false_eq_true, wr_of, uI_at, uC_at, q_bi_s, q_bl_s, q_br_s, q_bv_s, Int.toNat_natCast, tn_1, tn_m, tn_n, Int.toNat_zero, Int.toNat_one, k1, k2, k3, k5, h1, h4 i hl]
  · rw [gD_ge (l := xs) (by omega)]
    simp (disch := omega) only [↓reduceIte, lt_TI, lt_FI, le_TI, le_FI, eq_TI, eq_FI, lt_TN, lt_FN, le_TN, le_FN, eq_TN, eq_FN, and_self, and_true, true_and, and_false, false_and, or_true, true_or, or_false, false_or, not_true_eq_false, not_false_eq_true, wr_of, uI_at, uC_at, q_bi_s, q_bl_s, q_br_s, q_bv_s, Int.toNat_natCast, tn_1, tn_m, tn_n, Int.toNat_zero, Int.toNat_one, k1, k2, k3, k5, h1]
    rfl
theorem c_higherThan_l (H : HAt I h xs k) (S : SD xs) (j : Nat) (hj : j ≤ 1000) : ∀ n i : Nat, i + n = xs.length → (∀ a, a < i → j < xs.getD a 0) → q_E (26, 2, [vr h, vi (j : Int), vi (i : Int)], []) (qk t u I J) = some (vi (xs.countP (fun a => decide (j < a)) : Int), qk t u I J) := by
  obtain ⟨⟨k1, k2, k3, _, _, k5⟩, h1, h2, h3, h4⟩ := H
  intro n
  induction n with
  | zero =>
    intro i hi ha
    rw [e26_2, cnt_at S (k := i) (by omega) ha (fun q => by omega)]
    simp (disch := omega) only [↓reduceIte, lt_TI, lt_FI, le_TI, le_FI, eq_TI, eq_FI, lt_TN, lt_FN, le_TN, le_FN, eq_TN, eq_FN, and_self, and_true, true_and, and_false, false_and, or_true, true_or, or_false, false_or, not_true_eq_false, not_false_eq_true, wr_of, uI_at, uC_at, q_bi_s, q_bl_s, q_br_s, q_bv_s, Int.toNat_natCast, tn_1, tn_m, tn_n, Int.toNat_zero, Int.toNat_one, k1, k2, k3, k5, h1]
  | succ n ih =>
    intro i hi ha
    rw [e26_2]
    by_cases q : j < xs.getD i 0
    · simp (disch := omega) only [↓reduceIte, lt_TI, lt_FI, le_TI, le_FI, eq_TI, eq_FI, lt_TN, lt_FN, le_TN, le_FN, eq_TN, eq_FN, and_self, and_true, true_and, and_false, false_and, or_true, true_or, or_false, false_or, not_true_eq_false, not_false_eq_true, wr_of, uI_at, uC_at, q_bi_s, q_bl_s, q_br_s, q_bv_s, Int.toNat_natCast, tn_1, tn_m, tn_n, Int.toNat_zero, Int.toNat_one, k1, k2, k3, k5, h1, h4 i (by omega)]
      exact ih (i + 1) (by omega) (fun a hb => by
        by_cases e : a = i
        · rw [e]; exact q
        · exact ha a (by omega))
    · rw [cnt_at S (k := i) (by omega) ha (fun _ => by omega)]
      simp (disch := omega) only [↓reduceIte, lt_TI, lt_FI, le_TI, le_FI, eq_TI, eq_FI, lt_TN, lt_FN, le_TN, le_FN, eq_TN, eq_FN, and_self, and_true, true_and, and_false, false_and, or_true, true_or, or_false, false_or, not_true_eq_false, not_false_eq_true, wr_of, uI_at, uC_at, q_bi_s, q_bl_s, q_br_s, q_bv_s, Int.toNat_natCast, tn_1, tn_m, tn_n, Int.toNat_zero, Int.toNat_one, k1, k2, k3, k5, h1, h4 i (by omega)]
theorem c_higherThan (H : HAt I h xs k) (S : SD xs) (j : Nat) (hj : j ≤ 1000) : q_E (26, 0, [vr h, vi (j : Int), vu], []) (qk t u I J) = some (vi (xs.countP (fun a => decide (j < a)) : Int), qk t u I J) := by
  rw [e26_0]
  exact c_higherThan_l H S j hj xs.length 0 (by omega) (fun a q => by omega)
theorem c_inHeaps_l (H : HAt I h xs k) : ∀ n i s : Nat, i + n = xs.length → s + (xs.drop i).sum ≤ 100000 → q_E (27, 4, [vr h, vi (s : Int), vi (i : Int)], []) (qk t u I J) = some (vi ((s + (xs.drop i).sum : Nat) : Int), qk t u I J) := by
  obtain ⟨⟨k1, k2, k3, _, _, k5⟩, h1, h2, h3, h4⟩ := H
  intro n
  induction n with
  | zero =>
    intro i s hi hs
    rw [e27_4]
    simp (disch := omega) only [↓reduceIte, lt_TI, lt_FI, le_TI, le_FI, eq_TI, eq_FI, lt_TN, lt_FN, le_TN, le_FN, eq_TN, eq_FN, and_self, and_true, true_and, and_false, false_and, or_true, true_or, or_false, false_or, not_true_eq_false, not_false_eq_true, wr_of, uI_at, uC_at, q_bi_s, q_bl_s, q_br_s, q_bv_s, Int.toNat_natCast, tn_1, tn_m, tn_n, Int.toNat_zero, Int.toNat_one, k1, k2, k3, k5, h1]
    rw [List.drop_of_length_le (by omega)]
    rfl
  | succ n ih =>
    intro i s hi hs
    rw [sum_drop (show i < xs.length by omega)] at hs
    rw [e27_4, sum_drop (show i < xs.length by omega), ← Nat.add_assoc]
    simp (disch := omega) only [↓reduceIte, lt_TI, lt_FI, le_TI, le_FI, eq_TI, eq_FI, lt_TN, lt_FN, le_TN, le_FN, eq_TN, eq_FN, and_self, and_true, true_and, and_false, false_and, or_true, true_or, or_false, false_or, not_true_eq_false, not_false_eq_true, wr_of, uI_at, uC_at, q_bi_s, q_bl_s, q_br_s, q_bv_s, Int.toNat_natCast, tn_1, tn_m, tn_n, Int.toNat_zero, Int.toNat_one, k1, k2, k3, k5, h1, h4 i (by omega)]
    exact ih (i + 1) (s + xs.getD i 0) (by omega) (by omega)
theorem c_inHeaps (H : HAt I h xs k) (hs : xs.sum ≤ 1000) : q_E (27, 0, [vr h, vu, vu], []) (qk t u I J) = some (vi (xs.sum : Int), qk t u I J) := by
  rw [e27_0]
  have := c_inHeaps_l (t := t) (u := u) (J := J) H xs.length 0 0 (by omega) (by rw [List.drop_zero]; omega)
  rw [List.drop_zero, Nat.zero_add] at this
  exact this
theorem c_stones (H : HAt I h xs k) (hs : xs.sum + k ≤ 1000) : q_E (28, 0, [vr h], []) (qk t u I J) = some (vi ((xs.sum + k : Nat) : Int), qk t u I J) := by
  have e := c_inHeaps (t := t) (u := u) (J := J) H (by omega)
  obtain ⟨⟨k1, k2, k3, _, _, k5⟩, h1, h2, h3, h4⟩ := H
  rw [e28_0, e]
  simp (disch := omega) only [↓reduceIte, lt_TI, lt_FI, le_TI, le_FI, eq_TI, eq_FI, lt_TN, lt_FN, le_TN, le_FN, eq_TN, eq_FN, and_self, and_true, true_and, and_false, false_and, or_true, true_or, or_false, false_or, not_true_eq_false, not_false_eq_true, wr_of, uI_at, uC_at, q_bi_s, q_bl_s, q_br_s, q_bv_s, Int.toNat_natCast, tn_1, tn_m, tn_n, Int.toNat_zero, Int.toNat_one, k1]
  rw [e28_4]
  simp (disch := omega) only [↓reduceIte, lt_TI, lt_FI, le_TI, le_FI, eq_TI, eq_FI, lt_TN, lt_FN, le_TN, le_FN, eq_TN, eq_FN, and_self, and_true, true_and, and_false, false_and, or_true, true_or, or_false, false_or, not_true_eq_false, not_false_eq_true, wr_of, uI_at, uC_at, q_bi_s, q_bl_s, q_br_s, q_bv_s, Int.toNat_natCast, tn_1, tn_m, tn_n, Int.toNat_zero, Int.toNat_one, k1, h2]
  rfl
theorem c_copyFrom {g : Nat} (Hs : HId h) (G : HAt I g xs k) (d : h + 1 < g ∨ g + 1 < h) : ∃ I', q_E (22, 0, [vr h, vr g], []) (qk t u I J) = some (vu, qk t u I' J) ∧ HAt I' h xs k ∧ Kp h (h + 1) I I' := by
  obtain ⟨k1, k2, k3, k4, k6, k5⟩ := Hs
  obtain ⟨⟨j1, j2, j3, _, _, j5⟩, h1, h2, h3, h4⟩ := G
  rw [e22_0]
  simp (disch := omega) only [↓reduceIte, lt_TI, lt_FI, le_TI, le_FI, eq_TI, eq_FI, lt_TN, lt_FN, le_TN, le_FN, eq_TN, eq_FN, and_self, and_true, true_and, and_false, false_and, or_true, true_or, or_false, false_or, not_true_eq_false, not_false_eq_true, wr_of, uI_at, uC_at, q_bi_s, q_bl_s, q_br_s, q_bv_s, Int.toNat_natCast, tn_1, tn_m, tn_n, Int.toNat_zero, Int.toNat_one, k1, k2, k3, k5, j1, j2, j3, j5, h1, h2]
  refine ⟨_, rfl, ⟨⟨k1, k2, k3, k4, k6, k5⟩, ?_, ?_, h3, fun i hi => ?_⟩, ?_⟩
  · simp (disch := omega) only [↓reduceIte, lt_TI, lt_FI, le_TI, le_FI, eq_TI, eq_FI, lt_TN, lt_FN, le_TN, le_FN, eq_TN, eq_FN, and_self, and_true, true_and, and_false, false_and, or_true, true_or, or_false, false_or, not_true_eq_false, not_false_eq_true, wr_of, uI_at, uC_at, q_bi_s, q_bl_s, q_br_s, q_bv_s, Int.toNat_natCast, tn_1, tn_m, tn_n, Int.toNat_zero, Int.toNat_one]
  · simp (disch := omega) only [↓reduceIte, lt_TI, lt_FI, le_TI, le_FI, eq_TI, eq_FI, lt_TN, lt_FN, le_TN, le_FN, eq_TN, eq_FN, and_self, and_true, true_and, and_false, false_and, or_true, true_or, or_false, false_or, not_true_eq_false, not_false_eq_true, wr_of, uI_at, uC_at, q_bi_s, q_bl_s, q_br_s, q_bv_s, Int.toNat_natCast, tn_1, tn_m, tn_n, Int.toNat_zero, Int.toNat_one]
  · simp (disch := omega) only [↓reduceIte, lt_TI, lt_FI, le_TI, le_FI, eq_TI, eq_FI, lt_TN, lt_FN, le_TN, le_FN, eq_TN, eq_FN, and_self, and_true, true_and, and_false, false_and, or_true, true_or, or_false, false_or, not_true_eq_false, not_false_eq_true, wr_of, uI_at, uC_at, q_bi_s, q_bl_s, q_br_s, q_bv_s, Int.toNat_natCast, tn_1, tn_m, tn_n, Int.toNat_zero, Int.toNat_one, Nat.zero_add, Nat.sub_zero] <;> exact h4 i hi
  · exact Kp_uI (Kp_uI (Kp_uC Kp_rf (by omega) (by omega)) (by omega) (by omega)) (by omega) (by omega)
theorem c_lay0 {z : Int} (hz : z ≤ 0) : q_E (29, 0, [vr h, vi z, vu], []) (qk t u I J) = some (vu, qk t u I J) := by
  rw [e29_0]
  simp (disch := omega) only [↓reduceIte, lt_TI, lt_FI, le_TI, le_FI, eq_TI, eq_FI, lt_TN, lt_FN, le_TN, le_FN, eq_TN, eq_FN, and_self, and_true, true_and, and_false, false_and, or_true, true_or, or_false, false_or, not_true_eq_false, not_false_eq_true, wr_of, uI_at, uC_at, q_bi_s, q_bl_s, q_br_s, q_bv_s, Int.toNat_natCast, tn_1, tn_m, tn_n, Int.toNat_zero, Int.toNat_one]
theorem lay_fin {I1 : Nat → Nat → Int} {z a : Nat} (k0 : HId h) (h2 : I1 h 2 = (k : Int)) (hl : xs.length < 60) (ha : a ≤ xs.length) (e1 : ∀ i, i < a → I1 (h + 1) i = (xs.getD i 0 : Int)) (e2 : ∀ i, a < i → i ≤ xs.length → I1 (h + 1) i = (xs.getD (i - 1) 0 : Int)) (e3 : ∀ i, a ≤ i → i < xs.length → xs.getD i 0 < z) (e4 : ∀ i, i < a → z ≤ xs.getD i 0) : HAt (uI (uI I1 (h + 1) a (z : Int)) h 1 ((xs.length : Int) + 1)) h (ins z xs) k := by
  refine ⟨k0, ?_, ?_, ?_, fun i hi => ?_⟩
  · rw [ins_len]; simp (disch := omega) only [↓reduceIte, lt_TI, lt_FI, le_TI, le_FI, eq_TI, eq_FI, lt_TN, lt_FN, le_TN, le_FN, eq_TN, eq_FN, and_self, and_true, true_and, and_false, false_and, or_true, true_or, or_false, false_or, not_true_eq_false, not_false_eq_true, wr_of, uI_at, uC_at, q_bi_s, q_bl_s, q_br_s, q_bv_s, Int.toNat_natCast, tn_1, tn_m, tn_n, Int.toNat_zero, Int.toNat_one] <;> rfl
  · simp (disch := omega) only [↓reduceIte, lt_TI, lt_FI, le_TI, le_FI, eq_TI, eq_FI, lt_TN, lt_FN, le_TN, le_FN, eq_TN, eq_FN, and_self, and_true, true_and, and_false, false_and, or_true, true_or, or_false, false_or, not_true_eq_false, not_false_eq_true, wr_of, uI_at, uC_at, q_bi_s, q_bl_s, q_br_s, q_bv_s, Int.toNat_natCast, tn_1, tn_m, tn_n, Int.toNat_zero, Int.toNat_one] <;> exact h2
  · rw [ins_len]; omega
  · rw [ins_len] at hi
    rw [ins_at z xs a ha e4 e3, gD_app, List.length_take, Nat.min_eq_left ha]
    by_cases q : i = a
    · subst q
      simp (disch := omega) only [↓reduceIte, lt_TI, lt_FI, le_TI, le_FI, eq_TI, eq_FI, lt_TN, lt_FN, le_TN, le_FN, eq_TN, eq_FN, and_self, and_true, true_and, and_false, false_and, or_true, true_or, or_false, false_or, not_true_eq_false, not_false_eq_true, wr_of, uI_at, uC_at, q_bi_s, q_bl_s, q_br_s, q_bv_s, Int.toNat_natCast, tn_1, tn_m, tn_n, Int.toNat_zero, Int.toNat_one, Nat.sub_self, List.getD_cons_zero]
    · by_cases q2 : i < a
      · simp (disch := omega) only [↓reduceIte, lt_TI, lt_FI, le_TI, le_FI, eq_TI, eq_FI, lt_TN, lt_FN, le_TN, le_FN, eq_TN, eq_FN, and_self, and_true, true_and, and_false, false_and, or_true, true_or, or_false, false_or, not_true_eq_false, not_false_eq_true, wr_of, uI_at, uC_at, q_bi_s, q_bl_s, q_br_s, q_bv_s, Int.toNat_natCast, tn_1, tn_m, tn_n, Int.toNat_zero, Int.toNat_one, gD_tk] <;> exact e1 i q2
      · rw [if_neg q2, show i - a = (i - a - 1) + 1 by omega, List.getD_cons_succ, gD_dp, show a + (i - a - 1) = i - 1 by omega]
        simp (disch := omega) only [↓reduceIte, lt_TI, lt_FI, le_TI, le_FI, eq_TI, eq_FI, lt_TN, lt_FN, le_TN, le_FN, eq_TN, eq_FN, and_self, and_true, true_and, and_false, false_and, or_true, true_or, or_false, false_or, not_true_eq_false, not_false_eq_true, wr_of, uI_at, uC_at, q_bi_s, q_bl_s, q_br_s, q_bv_s, Int.toNat_natCast, tn_1, tn_m, tn_n, Int.toNat_zero, Int.toNat_one] <;> exact e2 i (by omega) (by omega)
theorem c_lay_l (k0 : HId h) {z : Nat} (hz : z ≤ 1000) (S : SD xs) (hl : xs.length < 60) : ∀ (a : Nat) (I1 : Nat → Nat → Int), a ≤ xs.length → I1 h 1 = (xs.length : Int) → I1 h 2 = (k : Int) → (∀ i, i < a → I1 (h + 1) i = (xs.getD i 0 : Int)) → (∀ i, a < i → i ≤ xs.length → I1 (h + 1) i = (xs.getD (i - 1) 0 : Int)) → (∀ i, a ≤ i → i < xs.length → xs.getD i 0 < z) → ∃ I', q_E (29, 22, [vr h, vi (z : Int), vi (a : Int)], []) (qk t u I1 J) = some (vu, qk t u I' J) ∧ HAt I' h (ins z xs) k ∧ Kp h (h + 1) I1 I' := by
  obtain ⟨k1, k2, k3, _, _, k5⟩ := id k0
  intro a
  induction a with
  | zero =>
    intro I1 ha h1 h2 e1 e2 e3
    rw [e29_22]
    simp (disch := omega) only [↓reduceIte, lt_TI, lt_FI, le_TI, le_FI, eq_TI, eq_FI, lt_TN, lt_FN, le_TN, le_FN, eq_TN, eq_FN, and_self, and_true, true_and, and_false, false_and, or_true, true_or, or_false, false_or, not_true_eq_false, not_false_eq_true, wr_of, uI_at, uC_at, q_bi_s, q_bl_s, q_br_s, q_bv_s, Int.toNat_natCast, tn_1, tn_m, tn_n, Int.toNat_zero, Int.toNat_one, k1, k2, k3, k5, h1, Int.natCast_zero]
    exact ⟨_, rfl, lay_fin k0 h2 hl ha e1 e2 e3 (fun i q => by omega), Kp_uI (Kp_uI Kp_rf (by omega) (by omega)) (by omega) (by omega)⟩
  | succ a ih =>
    intro I1 ha h1 h2 e1 e2 e3
    rw [e29_22]
    by_cases q : xs.getD a 0 < z
    · simp (disch := omega) only [↓reduceIte, lt_TI, lt_FI, le_TI, le_FI, eq_TI, eq_FI, lt_TN, lt_FN, le_TN, le_FN, eq_TN, eq_FN, and_self, and_true, true_and, and_false, false_and, or_true, true_or, or_false, false_or, not_true_eq_false, not_false_eq_true, wr_of, uI_at, uC_at, q_bi_s, q_bl_s, q_br_s, q_bv_s, Int.toNat_natCast, tn_1, tn_m, tn_n, Int.toNat_zero, Int.toNat_one, k1, k2, k3, k5, h1, e1 a (by omega), Int.natCast_add, Int.natCast_one, Int.add_sub_cancel]
      obtain ⟨I', a1, a2, a3⟩ := ih (uI I1 (h + 1) (a + 1) (xs.getD a 0 : Int)) (by omega) (by simp (disch := omega) only [↓reduceIte, lt_TI, lt_FI, le_TI, le_FI, eq_TI, eq_FI, lt_TN, lt_FN, le_TN, le_FN, eq_TN, eq_FN, and_self, and_true, true_and, and_false, false_and, or_true, true_or, or_false, false_or, not_true_eq_false, not_false_eq_true, wr_of, uI_at, uC_at, q_bi_s, q_bl_s, q_br_s, q_bv_s, Int.toNat_natCast, tn_1, tn_m, tn_n, Int.toNat_zero, Int.toNat_one] <;> exact h1) (by simp (disch := omega) only [↓reduceIte, lt_TI, lt_FI, le_TI, le_FI, eq_TI, eq_FI, lt_TN, lt_FN, le_TN, le_FN, eq_TN, eq_FN, and_self, and_true, true_and, and_false, false_and, or_true, true_or, or_false, false_or, not_true_eq_false, not_false_eq_true, wr_of, uI_at, uC_at, q_bi_s, q_bl_s, q_br_s, q_bv_s, Int.toNat_natCast, tn_1, tn_m, tn_n, Int.toNat_zero, Int.toNat_one] <;> exact h2) (fun i hi => by simp (disch := omega) only [↓reduceIte, lt_TI, lt_FI, le_TI, le_FI, eq_TI, eq_FI, lt_TN, lt_FN, le_TN, le_FN, eq_TN, eq_FN, and_self, and_true, true_and, and_false, false_and, or_true, true_or, or_false, false_or, not_true_eq_false, not_false_eq_true, wr_of, uI_at, uC_at, q_bi_s, q_bl_s, q_br_s, q_bv_s, Int.toNat_natCast, tn_1, tn_m, tn_n, Int.toNat_zero, Int.toNat_one] <;> exact e1 i (by omega)) (fun i hi hi2 => by
        by_cases qq : i = a + 1
        · subst qq; simp (disch := omega) only [↓reduceIte, lt_TI, lt_FI, le_TI, le_FI, eq_TI, eq_FI, lt_TN, lt_FN, le_TN, le_FN, eq_TN, eq_FN, and_self, and_true, true_and, and_false, false_and, or_true, true_or, or_false, false_or, not_true_eq_false, not_false_eq_true, wr_of, uI_at, uC_at, q_bi_s, q_bl_s, q_br_s, q_bv_s, Int.toNat_natCast, tn_1, tn_m, tn_n, Int.toNat_zero, Int.toNat_one, Nat.add_sub_cancel]
        · simp (disch := omega) only [↓reduceIte, lt_TI, lt_FI, le_TI, le_FI, eq_TI, eq_FI, lt_TN, lt_FN, le_TN, le_FN, eq_TN, eq_FN, and_self, and_true, true_and, and_false, false_and, or_true, true_or, or_false, false_or, not_true_eq_false, not_false_eq_true, wr_of, uI_at, uC_at, q_bi_s, q_bl_s, q_br_s, q_bv_s, Int.toNat_natCast, tn_1, tn_m, tn_n, Int.toNat_zero, Int.toNat_one] <;> exact e2 i (by omega) hi2) (fun i hi hi2 => by
        by_cases qq : i = a
        · subst qq; exact q
        · exact e3 i (by omega) hi2)
      refine ⟨I', ?_, a2, Kp_tr (Kp_uI Kp_rf (by omega) (by omega) : Kp h (h + 1) I1 _) a3 (by omega) (by omega) (by omega) (by omega)⟩
      rw [← a1, show ((a : Int) + 1 + -1) = (a : Int) by omega]
    · simp (disch := omega) only [↓reduceIte, lt_TI, lt_FI, le_TI, le_FI, eq_TI, eq_FI, lt_TN, lt_FN, le_TN, le_FN, eq_TN, eq_FN, and_self, and_true, true_and, and_false, false_and, or_true, true_or, or_false, false_or, not_true_eq_false, not_false_eq_true, wr_of, uI_at, uC_at, q_bi_s, q_bl_s, q_br_s, q_bv_s, Int.toNat_natCast, tn_1, tn_m, tn_n, Int.toNat_zero, Int.toNat_one, k1, k2, k3, k5, h1, e1 a (by omega), Int.natCast_add, Int.natCast_one, Int.add_sub_cancel]
      exact ⟨_, rfl, lay_fin k0 h2 hl ha e1 e2 e3 (fun i q3 => by
        have := SD_gD S (show i ≤ a by omega)
        omega), Kp_uI (Kp_uI Kp_rf (by omega) (by omega)) (by omega) (by omega)⟩
theorem c_lay (H : HAt I h xs k) (S : SD xs) {z : Nat} (hz : 0 < z) (hz2 : z ≤ 1000) (hl : xs.length < 60) : ∃ I', q_E (29, 0, [vr h, vi (z : Int), vu], []) (qk t u I J) = some (vu, qk t u I' J) ∧ HAt I' h (ins z xs) k ∧ Kp h (h + 1) I I' := by
  obtain ⟨k0, h1, h2, h3, h4⟩ := H
  obtain ⟨k1, k2, k3, _, _, k5⟩ := id k0
  rw [e29_0]
  simp (disch := omega) only [↓reduceIte, lt_TI, lt_FI, le_TI, le_FI, eq_TI, eq_FI, lt_TN, lt_FN, le_TN, le_FN, eq_TN, eq_FN, and_self, and_true, true_and, and_false, false_and, or_true, true_or, or_false, false_or, not_true_eq_false, not_false_eq_true, wr_of, uI_at, uC_at, q_bi_s, q_bl_s, q_br_s, q_bv_s, Int.toNat_natCast, tn_1, tn_m, tn_n, Int.toNat_zero, Int.toNat_one, k1, k2, k3, k5, h1]
  exact c_lay_l k0 hz2 S hl xs.length I (by omega) h1 h2 h4 (fun i q1 q2 => by omega) (fun i q1 q2 => by omega)
theorem c_lift_l (k0 : HId h) {i : Nat} (hl : xs.length ≤ 60) {v : Int} : ∀ (n m : Nat) (I1 : Nat → Nat → Int), m + n = xs.length → i + 1 ≤ m → I1 h 1 = (xs.length : Int) → I1 h 2 = (k : Int) → (∀ j, j + 1 < m → I1 (h + 1) j = ((xs.eraseIdx i).getD j 0 : Int)) → (∀ j, m ≤ j → j < xs.length → I1 (h + 1) j = (xs.getD j 0 : Int)) → ∃ I', q_E (30, 25, [vr h, vu, vi v, vi (m : Int)], []) (qk t u I1 J) = some (vi v, qk t u I' J) ∧ HAt I' h (xs.eraseIdx i) k ∧ Kp h (h + 1) I1 I' := by
  obtain ⟨k1, k2, k3, _, _, k5⟩ := id k0
  intro n
  induction n with
  | zero =>
    intro m I1 hm hi h1 h2 e1 e2
    rw [e30_25]
    simp (disch := omega) only [↓reduceIte, lt_TI, lt_FI, le_TI, le_FI, eq_TI, eq_FI, lt_TN, lt_FN, le_TN, le_FN, eq_TN, eq_FN, and_self, and_true, true_and, and_false, false_and, or_true, true_or, or_false, false_or, not_true_eq_false, not_false_eq_true, wr_of, uI_at, uC_at, q_bi_s, q_bl_s, q_br_s, q_bv_s, Int.toNat_natCast, tn_1, tn_m, tn_n, Int.toNat_zero, Int.toNat_one, k1, k2, k3, k5, h1]
    refine ⟨_, rfl, ⟨k0, ?_, ?_, ?_, fun j hj => ?_⟩, Kp_uI Kp_rf (by omega) (by omega)⟩
    · rw [List.length_eraseIdx]; simp (disch := omega) only [↓reduceIte, lt_TI, lt_FI, le_TI, le_FI, eq_TI, eq_FI, lt_TN, lt_FN, le_TN, le_FN, eq_TN, eq_FN, and_self, and_true, true_and, and_false, false_and, or_true, true_or, or_false, false_or, not_true_eq_false, not_false_eq_true, wr_of, uI_at, uC_at, q_bi_s, q_bl_s, q_br_s, q_bv_s, Int.toNat_natCast, tn_1, tn_m, tn_n, Int.toNat_zero, Int.toNat_one] <;> omega
    · simp (disch := omega) only [↓reduceIte, lt_TI, lt_FI, le_TI, le_FI, eq_TI, eq_FI, lt_TN, lt_FN, le_TN, le_FN, eq_TN, eq_FN, and_self, and_true, true_and, and_false, false_and, or_true, true_or, or_false, false_or, not_true_eq_false, not_false_eq_true, wr_of, uI_at, uC_at, q_bi_s, q_bl_s, q_br_s, q_bv_s, Int.toNat_natCast, tn_1, tn_m, tn_n, Int.toNat_zero, Int.toNat_one] <;> exact h2
    · rw [List.length_eraseIdx]; simp (disch := omega) only [↓reduceIte, lt_TI, lt_FI, le_TI, le_FI, eq_TI, eq_FI, lt_TN, lt_FN, le_TN, le_FN, eq_TN, eq_FN, and_self, and_true, true_and, and_false, false_and, or_true, true_or, or_false, false_or, not_true_eq_false, not_false_eq_true, wr_of, uI_at, uC_at, q_bi_s, q_bl_s, q_br_s, q_bv_s, Int.toNat_natCast, tn_1, tn_m, tn_n, Int.toNat_zero, Int.toNat_one] <;> omega
    · rw [List.length_eraseIdx, if_pos (by omega)] at hj
      simp (disch := omega) only [↓reduceIte, lt_TI, lt_FI, le_TI, le_FI, eq_TI, eq_FI, lt_TN, lt_FN, le_TN, le_FN, eq_TN, eq_FN, and_self, and_true, true_and, and_false, false_and, or_true, true_or, or_false, false_or, not_true_eq_false, not_false_eq_true, wr_of, uI_at, uC_at, q_bi_s, q_bl_s, q_br_s, q_bv_s, Int.toNat_natCast, tn_1, tn_m, tn_n, Int.toNat_zero, Int.toNat_one] <;> exact e1 j (by omega)
  | succ n ih =>
    intro m I1 hm hi h1 h2 e1 e2
    rw [e30_25]
    simp (disch := omega) only [↓reduceIte, lt_TI, lt_FI, le_TI, le_FI, eq_TI, eq_FI, lt_TN, lt_FN, le_TN, le_FN, eq_TN, eq_FN, and_self, and_true, true_and, and_false, false_and, or_true, true_or, or_false, false_or, not_true_eq_false, not_false_eq_true, wr_of, uI_at, uC_at, q_bi_s, q_bl_s, q_br_s, q_bv_s, Int.toNat_natCast, tn_1, tn_m, tn_n, Int.toNat_zero, Int.toNat_one, k1, k2, k3, k5, h1, e2 m (by omega) (by omega)]
    obtain ⟨I', a1, a2, a3⟩ := ih (m + 1) (uI I1 (h + 1) (m - 1) (xs.getD m 0 : Int)) (by omega) (by omega) (by simp (disch := omega) only [↓reduceIte, lt_TI, lt_FI, le_TI, le_FI, eq_TI, eq_FI, lt_TN, lt_FN, le_TN, le_FN, eq_TN, eq_FN, and_self, and_true, true_and, and_false, false_and, or_true, true_or, or_false, false_or, not_true_eq_false, not_false_eq_true, wr_of, uI_at, uC_at, q_bi_s, q_bl_s, q_br_s, q_bv_s, Int.toNat_natCast, tn_1, tn_m, tn_n, Int.toNat_zero, Int.toNat_one] <;> exact h1) (by simp (disch := omega) only [↓reduceIte, lt_TI, lt_FI, le_TI, le_FI, eq_TI, eq_FI, lt_TN, lt_FN, le_TN, le_FN, eq_TN, eq_FN, and_self, and_true, true_and, and_false, false_and, or_true, true_or, or_false, false_or, not_true_eq_false, not_false_eq_true, wr_of, uI_at, uC_at, q_bi_s, q_bl_s, q_br_s, q_bv_s, Int.toNat_natCast, tn_1, tn_m, tn_n, Int.toNat_zero, Int.toNat_one] <;> exact h2) (fun j hj => by
      by_cases q : j = m - 1
      · subst q
        rw [gD_er, if_neg (by omega), show m - 1 + 1 = m by omega]
        simp (disch := omega) only [↓reduceIte, lt_TI, lt_FI, le_TI, le_FI, eq_TI, eq_FI, lt_TN, lt_FN, le_TN, le_FN, eq_TN, eq_FN, and_self, and_true, true_and, and_false, false_and, or_true, true_or, or_false, false_or, not_true_eq_false, not_false_eq_true, wr_of, uI_at, uC_at, q_bi_s, q_bl_s, q_br_s, q_bv_s, Int.toNat_natCast, tn_1, tn_m, tn_n, Int.toNat_zero, Int.toNat_one]
      · simp (disch := omega) only [↓reduceIte, lt_TI, lt_FI, le_TI, le_FI, eq_TI, eq_FI, lt_TN, lt_FN, le_TN, le_FN, eq_TN, eq_FN, and_self, and_true, true_and, and_false, false_and, or_true, true_or, or_false, false_or, not_true_eq_false, not_false_eq_true, wr_of, uI_at, uC_at, q_bi_s, q_bl_s, q_br_s, q_bv_s, Int.toNat_natCast, tn_1, tn_m, tn_n, Int.toNat_zero, Int.toNat_one] <;> exact e1 j (by omega)) (fun j q1 q2 => by simp (disch := omega) only [↓reduceIte, lt_TI, lt_FI, le_TI, le_FI, eq_TI, eq_FI, lt_TN, lt_FN, le_TN, le_FN, eq_TN, eq_FN, and_self, and_true, true_and, and_false, false_and, or_true, true_or, or_false, false_or, not_true_eq_false, not_false_eq_true, wr_of, uI_at, uC_at, q_bi_s, q_bl_s, q_br_s, q_bv_s, Int.toNat_natCast, tn_1, tn_m, tn_n, Int.toNat_zero, Int.toNat_one] <;> exact e2 j (by omega) q2)
    exact ⟨I', a1, a2, Kp_tr (Kp_uI Kp_rf (by omega) (by omega) : Kp h (h + 1) I1 _) a3 (by omega) (by omega) (by omega) (by omega)⟩
theorem c_lift (H : HAt I h xs k) {i : Nat} (hi : i < xs.length) : ∃ I', q_E (30, 0, [vr h, vi (i : Int), vu, vu], []) (qk t u I J) = some (vi (xs.getD i 0 : Int), qk t u I' J) ∧ HAt I' h (xs.eraseIdx i) k ∧ Kp h (h + 1) I I' := by
  obtain ⟨k0, h1, h2, h3, h4⟩ := H
  obtain ⟨k1, k2, k3, _, _, k5⟩ := id k0
  rw [e30_0]
  simp (disch := omega) only [↓reduceIte, lt_TI, lt_FI, le_TI, le_FI, eq_TI, eq_FI, lt_TN, lt_FN, le_TN, le_FN, eq_TN, eq_FN, and_self, and_true, true_and, and_false, false_and, or_true, true_or, or_false, false_or, not_true_eq_false, not_false_eq_true, wr_of, uI_at, uC_at, q_bi_s, q_bl_s, q_br_s, q_bv_s, Int.toNat_natCast, tn_1, tn_m, tn_n, Int.toNat_zero, Int.toNat_one, k1, k2, k3, k5, h1, h4 i hi]
  exact c_lift_l k0 h3 (xs.length - (i + 1)) (i + 1) I (by omega) (by omega) h1 h2 (fun j hj => by rw [gD_er, if_pos (by omega)]; exact h4 j (by omega)) (fun j q1 q2 => h4 j q2)
end

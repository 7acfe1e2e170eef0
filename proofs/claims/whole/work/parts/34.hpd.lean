/-! a night of one cellar, two cellars alike: what the class's Heaps answer -/
theorem dec_len {l : List Nat} (h : SD l) : (dec l).length = l.countP (fun a => decide (1 < a)) := by
  unfold dec pos
  rw [← List.countP_eq_length_filter, List.countP_map]
  congr 1
  funext a
  exact decide_eq_decide.mpr (by show 0 < a - 1 ↔ 1 < a; omega)
theorem dec_at {l : List Nat} (h : SD l) {i : Nat} (hi : i < l.countP (fun a => decide (1 < a))) : (dec l).getD i 0 = l.getD i 0 - 1 := by
  have e : l.countP (fun a => decide (1 < a)) = (l.map (fun a => a - 1)).countP (fun a => decide (0 < a)) := by
    rw [List.countP_map]
    congr 1
    funext a
    exact decide_eq_decide.mpr (by show 1 < a ↔ 0 < a - 1; omega)
  have hl : i < l.length := Nat.lt_of_lt_of_le hi List.countP_le_length
  unfold dec pos
  rw [SD_filter (map_pred_sd h), gD_tk, ← e, if_pos hi, gD_map hl]
theorem pdc_len {l : List Nat} (h : SD l) (hp : PS l) (h0 : l ≠ []) : (pos (dcH l)).length = if (dcH l).getD (l.length - 1) 0 = 0 then l.length - 1 else l.length := by
  have hl : 0 < l.length := by cases l with | nil => exact absurd rfl h0 | cons a l => simp
  unfold pos
  rw [← List.countP_eq_length_filter]
  have f : ∀ i, i < l.length - 1 → 0 < (dcH l).getD i 0 := fun i hi => by
    rw [dcH_at (by omega)]
    have := PS_gD hp (show i + 1 < l.length by omega)
    have := PS_gD hp (show i < l.length by omega)
    split
    · rename_i q; unfold lst at q; have := of_decide_eq_true q; omega
    · omega
  split
  · rename_i q
    exact cnt_at (dcH_sd h) (by rw [dcH_len]; omega) f (fun _ => by omega)
  · rename_i q
    exact cnt_at (dcH_sd h) (by rw [dcH_len]; omega) (fun i hi => by
      by_cases e : i = l.length - 1
      · rw [e]; omega
      · exact f i (by omega)) (fun q => by rw [dcH_len] at q; omega)
theorem pdc_at {l : List Nat} (h : SD l) {i : Nat} (hi : i < (pos (dcH l)).length) : (pos (dcH l)).getD i 0 = (dcH l).getD i 0 := by
  unfold pos at hi ⊢
  rw [← List.countP_eq_length_filter] at hi
  rw [SD_filter (dcH_sd h), gD_tk, if_pos hi]
section
variable {t u : Nat} {I J : Nat → Nat → Int} {h : Nat} {xs : List Nat} {k : Nat}
theorem c_toe_l (k0 : HId h) (hl : xs.length ≤ 60) (hs : xs.sum ≤ 1000) (P : PS xs) {v : Int} : ∀ (a : Nat) (I1 : Nat → Nat → Int), a ≤ xs.length → I1 h 1 = ((a + (xs.drop a).countP (fun a => decide (1 < a)) : Nat) : Int) → I1 h 2 = (k : Int) → (∀ i, i < a → I1 (h + 1) i = (xs.getD i 0 : Int)) → (∀ i, a ≤ i → i < xs.length → I1 (h + 1) i = ((xs.getD i 0 - 1 : Nat) : Int)) → ∃ I', q_E (32, 9, [vr h, vi v, vi ((a : Int) - 1)], []) (qk t u I1 J) = some (vi v, qk t u I' J) ∧ I' h 1 = ((xs.countP (fun a => decide (1 < a)) : Nat) : Int) ∧ I' h 2 = (k : Int) ∧ (∀ i, i < xs.length → I' (h + 1) i = ((xs.getD i 0 - 1 : Nat) : Int)) ∧ Kp h (h + 1) I1 I' := by
  obtain ⟨k1, k2, k3, _, _, k5⟩ := id k0
  intro a
  induction a with
  | zero =>
    intro I1 ha h1 h2 e1 e2
    rw [e32_9]
    simp (disch := omega) only [↓reduceIte, lt_TI, lt_FI, le_TI, le_FI, eq_TI, eq_FI, lt_TN, lt_FN, le_TN, le_FN, eq_TN, eq_FN, and_self, and_true, true_and, and_false, false_and, or_true, true_or, or_false, false_or, not_true_eq_false, not_false_eq_true, wr_of, uI_at, uC_at, q_bi_s, q_bl_s, q_br_s, q_bv_s, Int.toNat_natCast, tn_1, tn_m, tn_n, Int.toNat_zero, Int.toNat_one, Int.natCast_zero]
    refine ⟨_, rfl, ?_, h2, fun i hi => e2 i (by omega) hi, Kp_rf⟩
    rw [h1, Nat.zero_add, List.drop_zero]
  | succ a ih =>
    intro I1 ha h1 h2 e1 e2
    have b1 := gD_sum (l := xs) a
    have b2 := PS_gD P (show a < xs.length by omega)
    have b3 : (xs.drop (a + 1)).countP (fun a => decide (1 < a)) ≤ (xs.drop (a + 1)).length := List.countP_le_length
    rw [List.length_drop] at b3
    have e : (((a + 1 : Nat) : Int) - 1) = (a : Int) := by omega
    rw [e, e32_9]
    have c : (xs.drop a).countP (fun a => decide (1 < a)) = (xs.drop (a + 1)).countP (fun a => decide (1 < a)) + if 1 < xs.getD a 0 then 1 else 0 := by
      rw [gD_drop (show a < xs.length by omega), List.countP_cons]
      by_cases q : 1 < xs.getD a 0 <;> simp only [q, decide_true, decide_false, if_true, if_false, Bool.false_eq_true]
    by_cases q : xs.getD a 0 = 1
    · simp (disch := omega) only [↓reduceIte, lt_TI, lt_FI, le_TI, le_FI, eq_TI, eq_FI, lt_TN, lt_FN, le_TN, le_FN, eq_TN, eq_FN, and_self, and_true, true_and, and_false, false_and, or_true, true_or, or_false, false_or, not_true_eq_false, not_false_eq_true, wr_of, uI_at, uC_at, q_bi_s, q_bl_s, q_br_s, q_bv_s, Int.toNat_natCast, tn_1, tn_m, tn_n, Int.toNat_zero, Int.toNat_one, k1, k2, k3, k5, h1, e1 a (by omega)]
      obtain ⟨I', a1, a2, a3, a4, a5⟩ := ih (uI (uI I1 (h + 1) a ((xs.getD a 0 : Int) - 1)) h 1 (((a + 1 + (xs.drop (a + 1)).countP (fun a => decide (1 < a)) : Nat) : Int) - 1)) (by omega) (by simp (disch := omega) only [↓reduceIte, lt_TI, lt_FI, le_TI, le_FI, eq_TI, eq_FI, lt_TN, lt_FN, le_TN, le_FN, eq_TN, eq_FN, and_self, and_true, true_and, and_false, false_and, or_true, true_or, or_false, false_or, not_true_eq_false, not_false_eq_true, wr_of, uI_at, uC_at, q_bi_s, q_bl_s, q_br_s, q_bv_s, Int.toNat_natCast, tn_1, tn_m, tn_n, Int.toNat_zero, Int.toNat_one, c] <;> omega) (by simp (disch := omega) only [↓reduceIte, lt_TI, lt_FI, le_TI, le_FI, eq_TI, eq_FI, lt_TN, lt_FN, le_TN, le_FN, eq_TN, eq_FN, and_self, and_true, true_and, and_false, false_and, or_true, true_or, or_false, false_or, not_true_eq_false, not_false_eq_true, wr_of, uI_at, uC_at, q_bi_s, q_bl_s, q_br_s, q_bv_s, Int.toNat_natCast, tn_1, tn_m, tn_n, Int.toNat_zero, Int.toNat_one] <;> exact h2) (fun i hi => by simp (disch := omega) only [↓reduceIte, lt_TI, lt_FI, le_TI, le_FI, eq_TI, eq_FI, lt_TN, lt_FN, le_TN, le_FN, eq_TN, eq_FN, and_self, and_true, true_and, and_false, false_and, or_true, true_or, or_false, false_or, not_true_eq_false, not_false_eq_true, wr_of, uI_at, uC_at, q_bi_s, q_bl_s, q_br_s, q_bv_s, Int.toNat_natCast, tn_1, tn_m, tn_n, Int.toNat_zero, Int.toNat_one] <;> exact e1 i (by omega)) (fun i q1 q2 => by
        by_cases qq : i = a
        · subst qq; simp (disch := omega) only [↓reduceIte, lt_TI, lt_FI, le_TI, le_FI, eq_TI, eq_FI, lt_TN, lt_FN, le_TN, le_FN, eq_TN, eq_FN, and_self, and_true, true_and, and_false, false_and, or_true, true_or, or_false, false_or, not_true_eq_false, not_false_eq_true, wr_of, uI_at, uC_at, q_bi_s, q_bl_s, q_br_s, q_bv_s, Int.toNat_natCast, tn_1, tn_m, tn_n, Int.toNat_zero, Int.toNat_one] <;> omega
        · simp (disch := omega) only [↓reduceIte, lt_TI, lt_FI, le_TI, le_FI, eq_TI, eq_FI, lt_TN, lt_FN, le_TN, le_FN, eq_TN, eq_FN, and_self, and_true, true_and, and_false, false_and, or_true, true_or, or_false, false_or, not_true_eq_false, not_false_eq_true, wr_of, uI_at, uC_at, q_bi_s, q_bl_s, q_br_s, q_bv_s, Int.toNat_natCast, tn_1, tn_m, tn_n, Int.toNat_zero, Int.toNat_one] <;> exact e2 i (by omega) q2)
      exact ⟨I', a1, a2, a3, a4, Kp_tr (Kp_uI (Kp_uI Kp_rf (by omega) (by omega)) (by omega) (by omega) : Kp h (h + 1) I1 _) a5 (by omega) (by omega) (by omega) (by omega)⟩
    · simp (disch := omega) only [↓reduceIte, lt_TI, lt_FI, le_TI, le_FI, eq_TI, eq_FI, lt_TN, lt_FN, le_TN, le_FN, eq_TN, eq_FN, and_self, and_true, true_and, and_false, false_and, or_true, true_or, or_false, false_or, not_true_eq_false, not_false_eq_true, wr_of, uI_at, uC_at, q_bi_s, q_bl_s, q_br_s, q_bv_s, Int.toNat_natCast, tn_1, tn_m, tn_n, Int.toNat_zero, Int.toNat_one, k1, k2, k3, k5, h1, e1 a (by omega)]
      obtain ⟨I', a1, a2, a3, a4, a5⟩ := ih (uI I1 (h + 1) a ((xs.getD a 0 : Int) - 1)) (by omega) (by simp (disch := omega) only [↓reduceIte, lt_TI, lt_FI, le_TI, le_FI, eq_TI, eq_FI, lt_TN, lt_FN, le_TN, le_FN, eq_TN, eq_FN, and_self, and_true, true_and, and_false, false_and, or_true, true_or, or_false, false_or, not_true_eq_false, not_false_eq_true, wr_of, uI_at, uC_at, q_bi_s, q_bl_s, q_br_s, q_bv_s, Int.toNat_natCast, tn_1, tn_m, tn_n, Int.toNat_zero, Int.toNat_one, h1, c] <;> omega) (by simp (disch := omega) only [↓reduceIte, lt_TI, lt_FI, le_TI, le_FI, eq_TI, eq_FI, lt_TN, lt_FN, le_TN, le_FN, eq_TN, eq_FN, and_self, and_true, true_and, and_false, false_and, or_true, true_or, or_false, false_or, not_true_eq_false, not_false_eq_true, wr_of, uI_at, uC_at, q_bi_s, q_bl_s, q_br_s, q_bv_s, Int.toNat_natCast, tn_1, tn_m, tn_n, Int.toNat_zero, Int.toNat_one] <;> exact h2) (fun i hi => by simp (disch := omega) only [↓reduceIte, lt_TI, lt_FI, le_TI, le_FI, eq_TI, eq_FI, lt_TN, lt_FN, le_TN, le_FN, eq_TN, eq_FN, and_self, and_true, true_and, and_false, false_and, or_true, true_or, or_false, false_or, not_true_eq_false, not_false_eq_true, wr_of, uI_at, uC_at, q_bi_s, q_bl_s, q_br_s, q_bv_s, Int.toNat_natCast, tn_1, tn_m, tn_n, Int.toNat_zero, Int.toNat_one] <;> exact e1 i (by omega)) (fun i q1 q2 => by
        by_cases qq : i = a
        · subst qq; simp (disch := omega) only [↓reduceIte, lt_TI, lt_FI, le_TI, le_FI, eq_TI, eq_FI, lt_TN, lt_FN, le_TN, le_FN, eq_TN, eq_FN, and_self, and_true, true_and, and_false, false_and, or_true, true_or, or_false, false_or, not_true_eq_false, not_false_eq_true, wr_of, uI_at, uC_at, q_bi_s, q_bl_s, q_br_s, q_bv_s, Int.toNat_natCast, tn_1, tn_m, tn_n, Int.toNat_zero, Int.toNat_one] <;> omega
        · simp (disch := omega) only [↓reduceIte, lt_TI, lt_FI, le_TI, le_FI, eq_TI, eq_FI, lt_TN, lt_FN, le_TN, le_FN, eq_TN, eq_FN, and_self, and_true, true_and, and_false, false_and, or_true, true_or, or_false, false_or, not_true_eq_false, not_false_eq_true, wr_of, uI_at, uC_at, q_bi_s, q_bl_s, q_br_s, q_bv_s, Int.toNat_natCast, tn_1, tn_m, tn_n, Int.toNat_zero, Int.toNat_one] <;> exact e2 i (by omega) q2)
      exact ⟨I', a1, a2, a3, a4, Kp_tr (Kp_uI Kp_rf (by omega) (by omega) : Kp h (h + 1) I1 _) a5 (by omega) (by omega) (by omega) (by omega)⟩
theorem c_toe (H : HAt I h xs k) (S : SD xs) (P : PS xs) (hs : xs.sum ≤ 1000) : ∃ I', q_E (32, 0, [vr h, vu, vu], []) (qk t u I J) = some (vi (xs.length : Int), qk t u I' J) ∧ HAt I' h (dec xs) k ∧ Kp h (h + 1) I I' := by
  obtain ⟨k0, h1, h2, h3, h4⟩ := H
  obtain ⟨k1, k2, k3, _, _, k5⟩ := id k0
  rw [e32_0]
  simp (disch := omega) only [↓reduceIte, lt_TI, lt_FI, le_TI, le_FI, eq_TI, eq_FI, lt_TN, lt_FN, le_TN, le_FN, eq_TN, eq_FN, and_self, and_true, true_and, and_false, false_and, or_true, true_or, or_false, false_or, not_true_eq_false, not_false_eq_true, wr_of, uI_at, uC_at, q_bi_s, q_bl_s, q_br_s, q_bv_s, Int.toNat_natCast, tn_1, tn_m, tn_n, Int.toNat_zero, Int.toNat_one, k1, k2, k3, k5, h1]
  obtain ⟨I', a1, a2, a3, a4, a5⟩ := c_toe_l (t := t) (u := u) (J := J) k0 h3 hs P (v := (xs.length : Int)) xs.length I (by omega) (by rw [List.drop_of_length_le (by omega)]; exact h1) h2 h4 (fun i q1 q2 => by omega)
  have hd : (dec xs).length = xs.countP (fun a => decide (1 < a)) := dec_len S
  have hc : xs.countP (fun a => decide (1 < a)) ≤ xs.length := List.countP_le_length
  exact ⟨I', a1, ⟨k0, by rw [a2, hd], a3, by omega, fun i hi => by rw [hd] at hi; rw [a4 i (by omega), dec_at S hi]⟩, a5⟩
theorem c_toh_l (k0 : HId h) (hl : xs.length ≤ 60) (hs : xs.sum ≤ 1000) (S : SD xs) (P : PS xs) (h0 : xs ≠ []) : ∀ (n i : Nat) (I1 : Nat → Nat → Int), i + n = xs.length → I1 h 1 = (xs.length : Int) → I1 h 2 = (k : Int) → (∀ j, j < i → I1 (h + 1) j = ((dcH xs).getD j 0 : Int)) → (∀ j, i ≤ j → j < xs.length → I1 (h + 1) j = (xs.getD j 0 : Int)) → ∃ I', q_E (33, 4, [vr h, vi ((List.range i).countP (lst xs) : Int), vi (i : Int)], []) (qk t u I1 J) = some (vi (crn xs : Int), qk t u I' J) ∧ HAt I' h (pos (dcH xs)) k ∧ Kp h (h + 1) I1 I' := by
  obtain ⟨k1, k2, k3, _, _, k5⟩ := id k0
  have hl0 : 0 < xs.length := by cases xs with | nil => exact absurd rfl h0 | cons a l => simp
  intro n
  induction n with
  | zero =>
    intro i I1 hi h1 h2 e1 e2
    have hi : i = xs.length := by omega
    subst hi
    have hp := pdc_len S P h0
    rw [e33_4]
    by_cases q : (dcH xs).getD (xs.length - 1) 0 = 0
    · rw [if_pos q] at hp
      simp (disch := omega) only [↓reduceIte, lt_TI, lt_FI, le_TI, le_FI, eq_TI, eq_FI, lt_TN, lt_FN, le_TN, le_FN, eq_TN, eq_FN, and_self, and_true, true_and, and_false, false_and, or_true, true_or, or_false, false_or, not_true_eq_false, not_false_eq_true, wr_of, uI_at, uC_at, q_bi_s, q_bl_s, q_br_s, q_bv_s, Int.toNat_natCast, tn_1, tn_m, tn_n, Int.toNat_zero, Int.toNat_one, k1, k2, k3, k5, h1, e1 (xs.length - 1) (by omega)]
      refine ⟨_, rfl, ⟨k0, ?_, ?_, ?_, fun j hj => ?_⟩, Kp_uI Kp_rf (by omega) (by omega)⟩
      · rw [hp]; simp (disch := omega) only [↓reduceIte, lt_TI, lt_FI, le_TI, le_FI, eq_TI, eq_FI, lt_TN, lt_FN, le_TN, le_FN, eq_TN, eq_FN, and_self, and_true, true_and, and_false, false_and, or_true, true_or, or_false, false_or, not_true_eq_false, not_false_eq_true, wr_of, uI_at, uC_at, q_bi_s, q_bl_s, q_br_s, q_bv_s, Int.toNat_natCast, tn_1, tn_m, tn_n, Int.toNat_zero, Int.toNat_one] <;> omega
      · simp (disch := omega) only [↓reduceIte, lt_TI, lt_FI, le_TI, le_FI, eq_TI, eq_FI, lt_TN, lt_FN, le_TN, le_FN, eq_TN, eq_FN, and_self, and_true, true_and, and_false, false_and, or_true, true_or, or_false, false_or, not_true_eq_false, not_false_eq_true, wr_of, uI_at, uC_at, q_bi_s, q_bl_s, q_br_s, q_bv_s, Int.toNat_natCast, tn_1, tn_m, tn_n, Int.toNat_zero, Int.toNat_one] <;> exact h2
      · omega
      · rw [pdc_at S hj]; simp (disch := omega) only [↓reduceIte, lt_TI, lt_FI, le_TI, le_FI, eq_TI, eq_FI, lt_TN, lt_FN, le_TN, le_FN, eq_TN, eq_FN, and_self, and_true, true_and, and_false, false_and, or_true, true_or, or_false, false_or, not_true_eq_false, not_false_eq_true, wr_of, uI_at, uC_at, q_bi_s, q_bl_s, q_br_s, q_bv_s, Int.toNat_natCast, tn_1, tn_m, tn_n, Int.toNat_zero, Int.toNat_one] <;> exact e1 j (by omega)
    · rw [if_neg q] at hp
      simp (disch := omega) only [↓reduceIte, lt_TI, lt_FI, le_TI, le_FI, eq_TI, eq_FI, lt_TN, lt_FN, le_TN, le_FN, eq_TN, eq_FN, and_self, and_true, true_and, and_false, false_and, or_true, true_or, or_false, false_or, not_true_eq_false, not_false_eq_true, wr_of, uI_at, uC_at, q_bi_s, q_bl_s, q_br_s, q_bv_s, Int.toNat_natCast, tn_1, tn_m, tn_n, Int.toNat_zero, Int.toNat_one, k1, k2, k3, k5, h1, e1 (xs.length - 1) (by omega)]
      refine ⟨_, rfl, ⟨k0, ?_, h2, ?_, fun j hj => ?_⟩, Kp_rf⟩
      · rw [hp]; exact h1
      · omega
      · rw [pdc_at S hj]; exact e1 j (by omega)
  | succ n ih =>
    intro i I1 hi h1 h2 e1 e2
    have b1 := gD_sum (l := xs) i
    have b2 := PS_gD P (show i < xs.length by omega)
    have b3 : (List.range i).countP (lst xs) ≤ (List.range i).length := List.countP_le_length
    rw [List.length_range] at b3
    have d := dcH_at (show i < xs.length by omega)
    have c : (List.range (i + 1)).countP (lst xs) = (List.range i).countP (lst xs) + if lst xs i = true then 1 else 0 := by
      rw [List.range_succ, List.countP_append, List.countP_singleton]
    rw [e33_4]
    by_cases q : lst xs i = true
    · rw [if_pos q] at c d
      have q' : xs.getD (i + 1) 0 < xs.getD i 0 := of_decide_eq_true q
      obtain ⟨I', a1, a2, a3⟩ := ih (i + 1) (uI I1 (h + 1) i ((xs.getD i 0 : Int) - 1)) (by omega) (by simp (disch := omega) only [↓reduceIte, lt_TI, lt_FI, le_TI, le_FI, eq_TI, eq_FI, lt_TN, lt_FN, le_TN, le_FN, eq_TN, eq_FN, and_self, and_true, true_and, and_false, false_and, or_true, true_or, or_false, false_or, not_true_eq_false, not_false_eq_true, wr_of, uI_at, uC_at, q_bi_s, q_bl_s, q_br_s, q_bv_s, Int.toNat_natCast, tn_1, tn_m, tn_n, Int.toNat_zero, Int.toNat_one] <;> exact h1) (by simp (disch := omega) only [↓reduceIte, lt_TI, lt_FI, le_TI, le_FI, eq_TI, eq_FI, lt_TN, lt_FN, le_TN, le_FN, eq_TN, eq_FN, and_self, and_true, true_and, and_false, false_and, or_true, true_or, or_false, false_or, not_true_eq_false, not_false_eq_true, wr_of, uI_at, uC_at, q_bi_s, q_bl_s, q_br_s, q_bv_s, Int.toNat_natCast, tn_1, tn_m, tn_n, Int.toNat_zero, Int.toNat_one] <;> exact h2) (fun j hj => by
        by_cases qq : j = i
        · subst qq; rw [d]; simp (disch := omega) only [↓reduceIte, lt_TI, lt_FI, le_TI, le_FI, eq_TI, eq_FI, lt_TN, lt_FN, le_TN, le_FN, eq_TN, eq_FN, and_self, and_true, true_and, and_false, false_and, or_true, true_or, or_false, false_or, not_true_eq_false, not_false_eq_true, wr_of, uI_at, uC_at, q_bi_s, q_bl_s, q_br_s, q_bv_s, Int.toNat_natCast, tn_1, tn_m, tn_n, Int.toNat_zero, Int.toNat_one] <;> omega
        · simp (disch := omega) only [↓reduceIte, lt_TI, lt_FI, le_TI, le_FI, eq_TI, eq_FI, lt_TN, lt_FN, le_TN, le_FN, eq_TN, eq_FN, and_self, and_true, true_and, and_false, false_and, or_true, true_or, or_false, false_or, not_true_eq_false, not_false_eq_true, wr_of, uI_at, uC_at, q_bi_s, q_bl_s, q_br_s, q_bv_s, Int.toNat_natCast, tn_1, tn_m, tn_n, Int.toNat_zero, Int.toNat_one] <;> exact e1 j (by omega)) (fun j q1 q2 => by simp (disch := omega) only [↓reduceIte, lt_TI, lt_FI, le_TI, le_FI, eq_TI, eq_FI, lt_TN, lt_FN, le_TN, le_FN, eq_TN, eq_FN, and_self, and_true, true_and, and_false, false_and, or_true, true_or, or_false, false_or, not_true_eq_false, not_false_eq_true, wr_of, uI_at, uC_at, q_bi_s, q_bl_s, q_br_s, q_bv_s, Int.toNat_natCast, tn_1, tn_m, tn_n, Int.toNat_zero, Int.toNat_one] <;> exact e2 j (by omega) q2)
      rw [c] at a1
      refine ⟨I', ?_, a2, Kp_tr (Kp_uI Kp_rf (by omega) (by omega) : Kp h (h + 1) I1 _) a3 (by omega) (by omega) (by omega) (by omega)⟩
      rw [← a1]
      by_cases qq : i + 1 < xs.length
      · simp (disch := omega) only [↓reduceIte, lt_TI, lt_FI, le_TI, le_FI, eq_TI, eq_FI, lt_TN, lt_FN, le_TN, le_FN, eq_TN, eq_FN, and_self, and_true, true_and, and_false, false_and, or_true, true_or, or_false, false_or, not_true_eq_false, not_false_eq_true, wr_of, uI_at, uC_at, q_bi_s, q_bl_s, q_br_s, q_bv_s, Int.toNat_natCast, tn_1, tn_m, tn_n, Int.toNat_zero, Int.toNat_one, k1, k2, k3, k5, h1, e2 i (by omega) (by omega), e2 (i + 1) (by omega) qq]
        rfl
      · simp (disch := omega) only [↓reduceIte, lt_TI, lt_FI, le_TI, le_FI, eq_TI, eq_FI, lt_TN, lt_FN, le_TN, le_FN, eq_TN, eq_FN, and_self, and_true, true_and, and_false, false_and, or_true, true_or, or_false, false_or, not_true_eq_false, not_false_eq_true, wr_of, uI_at, uC_at, q_bi_s, q_bl_s, q_br_s, q_bv_s, Int.toNat_natCast, tn_1, tn_m, tn_n, Int.toNat_zero, Int.toNat_one, k1, k2, k3, k5, h1, e2 i (by omega) (by omega)]
        rfl
    · rw [if_neg q] at c d
      have q' : ¬ xs.getD (i + 1) 0 < xs.getD i 0 := fun z => q (decide_eq_true z)
      have qq : i + 1 < xs.length := by
        by_cases z : i + 1 < xs.length
        · exact z
        · rw [gD_ge (show xs.length ≤ i + 1 by omega)] at q'; omega
      obtain ⟨I', a1, a2, a3⟩ := ih (i + 1) I1 (by omega) h1 h2 (fun j hj => by
        by_cases qq : j = i
        · subst qq; rw [d]; exact e2 j (by omega) (by omega)
        · exact e1 j (by omega)) (fun j q1 q2 => e2 j (by omega) q2)
      rw [c] at a1
      refine ⟨I', ?_, a2, a3⟩
      rw [← a1]
      simp (disch := omega) only [↓reduceIte, lt_TI, lt_FI, le_TI, le_FI, eq_TI, eq_FI, lt_TN, lt_FN, le_TN, le_FN, eq_TN, eq_FN, and_self, and_true, true_and, and_false, false_and, or_true, true_or, or_false, false_or, not_true_eq_false, not_false_eq_true, wr_of, uI_at, uC_at, q_bi_s, q_bl_s, q_br_s, q_bv_s, Int.toNat_natCast, tn_1, tn_m, tn_n, Int.toNat_zero, Int.toNat_one, k1, k2, k3, k5, h1, e2 i (by omega) (by omega), e2 (i + 1) (by omega) qq]
      rfl
theorem c_toh (H : HAt I h xs k) (S : SD xs) (P : PS xs) (hs : xs.sum ≤ 1000) (h0 : xs ≠ []) : ∃ I', q_E (33, 0, [vr h, vu, vu], []) (qk t u I J) = some (vi (crn xs : Int), qk t u I' J) ∧ HAt I' h (pos (dcH xs)) k ∧ Kp h (h + 1) I I' := by
  obtain ⟨k0, h1, h2, h3, h4⟩ := H
  rw [e33_0]
  exact c_toh_l k0 h3 hs S P h0 xs.length 0 I (by omega) h1 h2 (fun j q => by omega) (fun j _ q => h4 j q)
theorem c_give2_l (k0 : HId h) {a : Nat} (hb : xs.length + (a - xs.length) ≤ 60) : ∀ (n m : Nat) (I1 : Nat → Nat → Int), m + n = a - xs.length → I1 h 1 = ((xs.length + m : Nat) : Int) → I1 h 2 = (k : Int) → (∀ j, j < xs.length + m → I1 (h + 1) j = ((giv a xs).getD j 0 : Int)) → ∃ I', q_E (34, 36, [vr h, vu, vu, vi (n : Int)], []) (qk t u I1 J) = some (vu, qk t u I' J) ∧ HAt I' h (giv a xs) k ∧ Kp h (h + 1) I1 I' := by
  obtain ⟨k1, k2, k3, _, _, k5⟩ := id k0
  intro n
  induction n with
  | zero =>
    intro m I1 hm h1 h2 e1
    rw [e34_36]
    simp (disch := omega) only [↓reduceIte, lt_TI, lt_FI, le_TI, le_FI, eq_TI, eq_FI, lt_TN, lt_FN, le_TN, le_FN, eq_TN, eq_FN, and_self, and_true, true_and, and_false, false_and, or_true, true_or, or_false, false_or, not_true_eq_false, not_false_eq_true, wr_of, uI_at, uC_at, q_bi_s, q_bl_s, q_br_s, q_bv_s, Int.toNat_natCast, tn_1, tn_m, tn_n, Int.toNat_zero, Int.toNat_one, Int.natCast_zero]
    exact ⟨_, rfl, ⟨k0, by rw [giv_len, h1, ← hm]; rfl, h2, by rw [giv_len]; omega, fun j hj => e1 j (by rw [giv_len] at hj; omega)⟩, Kp_rf⟩
  | succ n ih =>
    intro m I1 hm h1 h2 e1
    rw [e34_36]
    simp (disch := omega) only [↓reduceIte, lt_TI, lt_FI, le_TI, le_FI, eq_TI, eq_FI, lt_TN, lt_FN, le_TN, le_FN, eq_TN, eq_FN, and_self, and_true, true_and, and_false, false_and, or_true, true_or, or_false, false_or, not_true_eq_false, not_false_eq_true, wr_of, uI_at, uC_at, q_bi_s, q_bl_s, q_br_s, q_bv_s, Int.toNat_natCast, tn_1, tn_m, tn_n, Int.toNat_zero, Int.toNat_one, k1, k2, k3, k5, h1]
    obtain ⟨I', a1, a2, a3⟩ := ih (m + 1) (uI (uI I1 (h + 1) (xs.length + m) 1) h 1 (((xs.length + m : Nat) : Int) + 1)) (by omega) (by simp (disch := omega) only [↓reduceIte, lt_TI, lt_FI, le_TI, le_FI, eq_TI, eq_FI, lt_TN, lt_FN, le_TN, le_FN, eq_TN, eq_FN, and_self, and_true, true_and, and_false, false_and, or_true, true_or, or_false, false_or, not_true_eq_false, not_false_eq_true, wr_of, uI_at, uC_at, q_bi_s, q_bl_s, q_br_s, q_bv_s, Int.toNat_natCast, tn_1, tn_m, tn_n, Int.toNat_zero, Int.toNat_one] <;> rfl) (by simp (disch := omega) only [↓reduceIte, lt_TI, lt_FI, le_TI, le_FI, eq_TI, eq_FI, lt_TN, lt_FN, le_TN, le_FN, eq_TN, eq_FN, and_self, and_true, true_and, and_false, false_and, or_true, true_or, or_false, false_or, not_true_eq_false, not_false_eq_true, wr_of, uI_at, uC_at, q_bi_s, q_bl_s, q_br_s, q_bv_s, Int.toNat_natCast, tn_1, tn_m, tn_n, Int.toNat_zero, Int.toNat_one] <;> exact h2) (fun j hj => by
      by_cases q : j = xs.length + m
      · subst q; rw [giv_at (by omega)]; simp (disch := omega) only [↓reduceIte, lt_TI, lt_FI, le_TI, le_FI, eq_TI, eq_FI, lt_TN, lt_FN, le_TN, le_FN, eq_TN, eq_FN, and_self, and_true, true_and, and_false, false_and, or_true, true_or, or_false, false_or, not_true_eq_false, not_false_eq_true, wr_of, uI_at, uC_at, q_bi_s, q_bl_s, q_br_s, q_bv_s, Int.toNat_natCast, tn_1, tn_m, tn_n, Int.toNat_zero, Int.toNat_one] <;> rfl
      · simp (disch := omega) only [↓reduceIte, lt_TI, lt_FI, le_TI, le_FI, eq_TI, eq_FI, lt_TN, lt_FN, le_TN, le_FN, eq_TN, eq_FN, and_self, and_true, true_and, and_false, false_and, or_true, true_or, or_false, false_or, not_true_eq_false, not_false_eq_true, wr_of, uI_at, uC_at, q_bi_s, q_bl_s, q_br_s, q_bv_s, Int.toNat_natCast, tn_1, tn_m, tn_n, Int.toNat_zero, Int.toNat_one] <;> exact e1 j (by omega))
    refine ⟨I', ?_, a2, Kp_tr (Kp_uI (Kp_uI Kp_rf (by omega) (by omega)) (by omega) (by omega) : Kp h (h + 1) I1 _) a3 (by omega) (by omega) (by omega) (by omega)⟩
    rw [← a1, show (((n + 1 : Nat) : Int) + -1) = (n : Int) by omega]
theorem c_give1_l (k0 : HId h) {a : Nat} (ha : a ≤ 1000) (hl : xs.length ≤ 60) (hs : xs.sum ≤ 1000) (hb : xs.length + (a - xs.length) ≤ 60) : ∀ (n i : Nat) (I1 : Nat → Nat → Int), i + n = min a xs.length → I1 h 1 = (xs.length : Int) → I1 h 2 = (k : Int) → (∀ j, j < i → I1 (h + 1) j = ((xs.getD j 0 + 1 : Nat) : Int)) → (∀ j, i ≤ j → j < xs.length → I1 (h + 1) j = (xs.getD j 0 : Int)) → ∃ I', q_E (34, 11, [vr h, vi (a : Int), vi ((min a xs.length : Nat) : Int), vi (i : Int)], []) (qk t u I1 J) = some (vu, qk t u I' J) ∧ HAt I' h (giv a xs) k ∧ Kp h (h + 1) I1 I' := by
  obtain ⟨k1, k2, k3, _, _, k5⟩ := id k0
  intro n
  induction n with
  | zero =>
    intro i I1 hi h1 h2 e1 e2
    rw [e34_11]
    simp (disch := omega) only [↓reduceIte, lt_TI, lt_FI, le_TI, le_FI, eq_TI, eq_FI, lt_TN, lt_FN, le_TN, le_FN, eq_TN, eq_FN, and_self, and_true, true_and, and_false, false_and, or_true, true_or, or_false, false_or, not_true_eq_false, not_false_eq_true, wr_of, uI_at, uC_at, q_bi_s, q_bl_s, q_br_s, q_bv_s, Int.toNat_natCast, tn_1, tn_m, tn_n, Int.toNat_zero, Int.toNat_one]
    obtain ⟨I', a1, a2, a3⟩ := c_give2_l (t := t) (u := u) (J := J) (xs := xs) (k := k) (a := a) k0 hb (a - xs.length) 0 I1 (by omega) h1 h2 (fun j hj => by
      rw [giv_at (by omega), if_pos (by omega)]
      by_cases q : j < i
      · rw [if_pos (by omega)]; exact e1 j q
      · rw [if_neg (by omega)]; exact e2 j (by omega) (by omega))
    refine ⟨I', ?_, a2, a3⟩
    rw [← a1, show ((a : Int) - ((min a xs.length : Nat) : Int)) = ((a - xs.length : Nat) : Int) by omega]
  | succ n ih =>
    intro i I1 hi h1 h2 e1 e2
    have b1 := gD_sum (l := xs) i
    rw [e34_11]
    simp (disch := omega) only [↓reduceIte, lt_TI, lt_FI, le_TI, le_FI, eq_TI, eq_FI, lt_TN, lt_FN, le_TN, le_FN, eq_TN, eq_FN, and_self, and_true, true_and, and_false, false_and, or_true, true_or, or_false, false_or, not_true_eq_false, not_false_eq_true, wr_of, uI_at, uC_at, q_bi_s, q_bl_s, q_br_s, q_bv_s, Int.toNat_natCast, tn_1, tn_m, tn_n, Int.toNat_zero, Int.toNat_one, k1, k2, k3, k5, h1, e2 i (by omega) (by omega)]
    obtain ⟨I', a1, a2, a3⟩ := ih (i + 1) (uI I1 (h + 1) i ((xs.getD i 0 : Int) + 1)) (by omega) (by simp (disch := omega) only [↓reduceIte, lt_TI, lt_FI, le_TI, le_FI, eq_TI, eq_FI, lt_TN, lt_FN, le_TN, le_FN, eq_TN, eq_FN, and_self, and_true, true_and, and_false, false_and, or_true, true_or, or_false, false_or, not_true_eq_false, not_false_eq_true, wr_of, uI_at, uC_at, q_bi_s, q_bl_s, q_br_s, q_bv_s, Int.toNat_natCast, tn_1, tn_m, tn_n, Int.toNat_zero, Int.toNat_one] <;> exact h1) (by simp (disch := omega) only [↓reduceIte, lt_TI, lt_FI, le_TI, le_FI, eq_TI, eq_FI, lt_TN, lt_FN, le_TN, le_FN, eq_TN, eq_FN, and_self, and_true, true_and, and_false, false_and, or_true, true_or, or_false, false_or, not_true_eq_false, not_false_eq_true, wr_of, uI_at, uC_at, q_bi_s, q_bl_s, q_br_s, q_bv_s, Int.toNat_natCast, tn_1, tn_m, tn_n, Int.toNat_zero, Int.toNat_one] <;> exact h2) (fun j hj => by
      by_cases q : j = i
      · subst q; simp (disch := omega) only [↓reduceIte, lt_TI, lt_FI, le_TI, le_FI, eq_TI, eq_FI, lt_TN, lt_FN, le_TN, le_FN, eq_TN, eq_FN, and_self, and_true, true_and, and_false, false_and, or_true, true_or, or_false, false_or, not_true_eq_false, not_false_eq_true, wr_of, uI_at, uC_at, q_bi_s, q_bl_s, q_br_s, q_bv_s, Int.toNat_natCast, tn_1, tn_m, tn_n, Int.toNat_zero, Int.toNat_one] <;> rfl
      · simp (disch := omega) only [↓reduceIte, lt_TI, lt_FI, le_TI, le_FI, eq_TI, eq_FI, lt_TN, lt_FN, le_TN, le_FN, eq_TN, eq_FN, and_self, and_true, true_and, and_false, false_and, or_true, true_or, or_false, false_or, not_true_eq_false, not_false_eq_true, wr_of, uI_at, uC_at, q_bi_s, q_bl_s, q_br_s, q_bv_s, Int.toNat_natCast, tn_1, tn_m, tn_n, Int.toNat_zero, Int.toNat_one] <;> exact e1 j (by omega)) (fun j q1 q2 => by simp (disch := omega) only [↓reduceIte, lt_TI, lt_FI, le_TI, le_FI, eq_TI, eq_FI, lt_TN, lt_FN, le_TN, le_FN, eq_TN, eq_FN, and_self, and_true, true_and, and_false, false_and, or_true, true_or, or_false, false_or, not_true_eq_false, not_false_eq_true, wr_of, uI_at, uC_at, q_bi_s, q_bl_s, q_br_s, q_bv_s, Int.toNat_natCast, tn_1, tn_m, tn_n, Int.toNat_zero, Int.toNat_one] <;> exact e2 j (by omega) q2)
    exact ⟨I', a1, a2, Kp_tr (Kp_uI Kp_rf (by omega) (by omega) : Kp h (h + 1) I1 _) a3 (by omega) (by omega) (by omega) (by omega)⟩
theorem c_give (H : HAt I h xs k) {a : Nat} (hs : xs.sum + a ≤ 1000) (hb : xs.length + (a - xs.length) ≤ 60) : ∃ I', q_E (34, 0, [vr h, vi (a : Int), vu, vu], []) (qk t u I J) = some (vu, qk t u I' J) ∧ HAt I' h (giv a xs) k ∧ Kp h (h + 1) I I' := by
  obtain ⟨k0, h1, h2, h3, h4⟩ := H
  obtain ⟨k1, k2, k3, _, _, k5⟩ := id k0
  have := c_give1_l (t := t) (u := u) (J := J) (xs := xs) (k := k) (a := a) k0 (by omega) h3 (by omega) hb (min a xs.length) 0 I (by omega) h1 h2 (fun j q => by omega) (fun j _ q => h4 j q)
  rw [e34_0]
  by_cases q : a < xs.length
  · rw [Nat.min_eq_left (by omega)] at this
    simp (disch := omega) only [↓reduceIte, lt_TI, lt_FI, le_TI, le_FI, eq_TI, eq_FI, lt_TN, lt_FN, le_TN, le_FN, eq_TN, eq_FN, and_self, and_true, true_and, and_false, false_and, or_true, true_or, or_false, false_or, not_true_eq_false, not_false_eq_true, wr_of, uI_at, uC_at, q_bi_s, q_bl_s, q_br_s, q_bv_s, Int.toNat_natCast, tn_1, tn_m, tn_n, Int.toNat_zero, Int.toNat_one, k1, h1]
    exact this
  · rw [Nat.min_eq_right (by omega)] at this
    simp (disch := omega) only [↓reduceIte, lt_TI, lt_FI, le_TI, le_FI, eq_TI, eq_FI, lt_TN, lt_FN, le_TN, le_FN, eq_TN, eq_FN, and_self, and_true, true_and, and_false, false_and, or_true, true_or, or_false, false_or, not_true_eq_false, not_false_eq_true, wr_of, uI_at, uC_at, q_bi_s, q_bl_s, q_br_s, q_bv_s, Int.toNat_natCast, tn_1, tn_m, tn_n, Int.toNat_zero, Int.toNat_one, k1, h1]
    exact this
theorem c_isAsHigh {g : Nat} {ys : List Nat} {k' : Nat} (H : HAt I h xs k) (G : HAt I g ys k') : q_E (23, 0, [vr h, vr g, vu], []) (qk t u I J) = some (vi (if xs = ys then 1 else 0), qk t u I J) := by
  obtain ⟨⟨k1, k2, k3, _, _, k5⟩, h1, h2, h3, h4⟩ := H
  obtain ⟨⟨j1, j2, j3, _, _, j5⟩, g1, g2, g3, g4⟩ := G
  rw [e23_0]
  by_cases hl : xs.length = ys.length
  · simp (disch := omega) only [↓reduceIte, lt_TI, lt_FI, le_TI, le_FI, eq_TI, eq_FI, lt_TN, lt_FN, le_TN, le_FN, eq_TN, eq_FN, and_self, and_true, true_and, and_false, false_and, or_true, true_or, or_false, false_or, not_true_eq_false, not_false_eq_true, wr_of, uI_at, uC_at, q_bi_s, q_bl_s, q_br_s, q_bv_s, Int.toNat_natCast, tn_1, tn_m, tn_n, Int.toNat_zero, Int.toNat_one, k1, j1, h1, g1, hl]
    have key : ∀ n i : Nat, i + n = xs.length → (∀ j, j < i → xs.getD j 0 = ys.getD j 0) → q_E (23, 15, [vr h, vr g, vi (i : Int)], []) (qk t u I J) = some (vi (if xs = ys then 1 else 0), qk t u I J) := by
      intro n
      induction n with
      | zero =>
        intro i hi e
        rw [e23_15, if_pos (gD_ext hl (fun j hj => e j (by omega)))]
        simp (disch := omega) only [↓reduceIte, lt_TI, lt_FI, le_TI, le_FI, eq_TI, eq_FI, lt_TN, lt_FN, le_TN, le_FN, eq_TN, eq_FN, and_self, and_true, true_and, and_false, false_and, or_true, true_or, or_false, false_or, not_true_eq_false, not_false_eq_true, wr_of, uI_at, uC_at, q_bi_s, q_bl_s, q_br_s, q_bv_s, Int.toNat_natCast, tn_1, tn_m, tn_n, Int.toNat_zero, Int.toNat_one, k1, h1]
      | succ n ih =>
        intro i hi e
        rw [e23_15]
        by_cases q : xs.getD i 0 = ys.getD i 0
        · simp (disch := omega) only [↓reduceIte, lt_TI, lt_FI, le_TI, le_FI, eq_TI, eq_FI, lt_TN, lt_FN, le_TN, le_FN, eq_TN, eq_FN, and_self, and_true, true_and, and_false, false_and, or_true, true_or, or_false, false_or, not_true_eq_false, not_false_eq_true, wr_of, uI_at, uC_at, q_bi_s, q_bl_s, q_br_s, q_bv_s, Int.toNat_natCast, tn_1, tn_m, tn_n, Int.toNat_zero, Int.toNat_one, k1, k2, k3, k5, j1, j2, j3, j5, h1, g1, h4 i (by omega), g4 i (by omega)]
          exact ih (i + 1) (by omega) (fun j hj => by
            by_cases z : j = i
            · rw [z]; exact q
            · exact e j (by omega))
        · have hne : ¬ xs = ys := fun z => q (by rw [z])
          rw [if_neg hne]
          simp (disch := omega) only [↓reduceIte, lt_TI, lt_FI, le_TI, le_FI, eq_TI, eq_FI, lt_TN, lt_FN, le_TN, le_FN, eq_TN, eq_FN, and_self, and_true, true_and, and_false, false_and, or_true, true_or, or_false, false_or, not_true_eq_false, not_false_eq_true, wr_of, uI_at, uC_at, q_bi_s, q_bl_s, q_br_s, q_bv_s, Int.toNat_natCast, tn_1, tn_m, tn_n, Int.toNat_zero, Int.toNat_one, k1, k2, k3, k5, j1, j2, j3, j5, h1, g1, h4 i (by omega), g4 i (by omega)]
    exact key xs.length 0 (by omega) (fun j q => by omega)
  · have hne : ¬ xs = ys := fun z => hl (by rw [z])
    rw [if_neg hne]
    simp (disch := omega) only [↓reduceIte, lt_TI, lt_FI, le_TI, le_FI, eq_TI, eq_FI, lt_TN, lt_FN, le_TN, le_FN, eq_TN, eq_FN, and_self, and_true, true_and, and_false, false_and, or_true, true_or, or_false, false_or, not_true_eq_false, not_false_eq_true, wr_of, uI_at, uC_at, q_bi_s, q_bl_s, q_br_s, q_bv_s, Int.toNat_natCast, tn_1, tn_m, tn_n, Int.toNat_zero, Int.toNat_one, k1, j1, h1, g1]
theorem c_isSame {g : Nat} {ys : List Nat} {k' : Nat} (H : HAt I h xs k) (G : HAt I g ys k') : q_E (24, 0, [vr h, vr g], []) (qk t u I J) = some (vi (if (xs, k) = (ys, k') then 1 else 0), qk t u I J) := by
  have e := c_isAsHigh (t := t) (u := u) (J := J) H G
  obtain ⟨⟨k1, k2, k3, _, _, k5⟩, h1, h2, h3, h4⟩ := H
  obtain ⟨⟨j1, j2, j3, _, _, j5⟩, g1, g2, g3, g4⟩ := G
  rw [e24_0]
  by_cases q : k = k'
  · subst q
    simp (disch := omega) only [↓reduceIte, lt_TI, lt_FI, le_TI, le_FI, eq_TI, eq_FI, lt_TN, lt_FN, le_TN, le_FN, eq_TN, eq_FN, and_self, and_true, true_and, and_false, false_and, or_true, true_or, or_false, false_or, not_true_eq_false, not_false_eq_true, wr_of, uI_at, uC_at, q_bi_s, q_bl_s, q_br_s, q_bv_s, Int.toNat_natCast, tn_1, tn_m, tn_n, Int.toNat_zero, Int.toNat_one, k1, j1, h2, g2, e]
    rw [e24_16]
    by_cases z : xs = ys
    · rw [if_pos z, if_pos (show (xs, k) = (ys, k) by rw [z])]; simp (disch := omega) only [↓reduceIte, lt_TI, lt_FI, le_TI, le_FI, eq_TI, eq_FI, lt_TN, lt_FN, le_TN, le_FN, eq_TN, eq_FN, and_self, and_true, true_and, and_false, false_and, or_true, true_or, or_false, false_or, not_true_eq_false, not_false_eq_true, wr_of, uI_at, uC_at, q_bi_s, q_bl_s, q_br_s, q_bv_s, Int.toNat_natCast, tn_1, tn_m, tn_n, Int.toNat_zero, Int.toNat_one]
    · rw [if_neg z, if_neg (show ¬ (xs, k) = (ys, k) from fun w => z (Prod.mk.inj w).1)]; simp (disch := omega) only [↓reduceIte, lt_TI, lt_FI, le_TI, le_FI, eq_TI, eq_FI, lt_TN, lt_FN, le_TN, le_FN, eq_TN, eq_FN, and_self, and_true, true_and, and_false, false_and, or_true, true_or, or_false, false_or, not_true_eq_false, not_false_eq_true, wr_of, uI_at, uC_at, q_bi_s, q_bl_s, q_br_s, q_bv_s, Int.toNat_natCast, tn_1, tn_m, tn_n, Int.toNat_zero, Int.toNat_one]
  · rw [if_neg (fun w => q (Prod.mk.inj w).2)]
    simp (disch := omega) only [↓reduceIte, lt_TI, lt_FI, le_TI, le_FI, eq_TI, eq_FI, lt_TN, lt_FN, le_TN, le_FN, eq_TN, eq_FN, and_self, and_true, true_and, and_false, false_and, or_true, true_or, or_false, false_or, not_true_eq_false, not_false_eq_true, wr_of, uI_at, uC_at, q_bi_s, q_bl_s, q_br_s, q_bv_s, Int.toNat_natCast, tn_1, tn_m, tn_n, Int.toNat_zero, Int.toNat_one, k1, j1, h2, g2]
/-- the banker lays heaps while he can -/
theorem c_bank_l {hold : Nat} (hh : 2 ≤ hold) (hh2 : hold ≤ 9) : ∀ (n : Nat) (xs : List Nat) (k : Nat) (I1 : Nat → Nat → Int), n = k / hold → HAt I1 h xs k → SD xs → PS xs → xs.sum + k ≤ 60 → ∃ I', q_E (31, 41, [vr h, vu, vi (hold : Int)], []) (qk t u I1 J) = some (vu, qk t u I' J) ∧ HAt I' h (insR n hold xs) (k % hold) ∧ Kp h (h + 1) I1 I' := by
  intro n
  induction n with
  | zero =>
    intro xs k I1 hn H S P hs
    have hk : k < hold := by
      by_cases q : k < hold
      · exact q
      · have := Nat.div_pos (Nat.le_of_not_lt q) (by omega : 0 < hold); omega
    obtain ⟨⟨k1, k2, k3, _, _, k5⟩, h1, h2, h3, h4⟩ := id H
    rw [e31_41]
    simp (disch := omega) only [↓reduceIte, lt_TI, lt_FI, le_TI, le_FI, eq_TI, eq_FI, lt_TN, lt_FN, le_TN, le_FN, eq_TN, eq_FN, and_self, and_true, true_and, and_false, false_and, or_true, true_or, or_false, false_or, not_true_eq_false, not_false_eq_true, wr_of, uI_at, uC_at, q_bi_s, q_bl_s, q_br_s, q_bv_s, Int.toNat_natCast, tn_1, tn_m, tn_n, Int.toNat_zero, Int.toNat_one, k1, h2]
    rw [e31_96_10, Nat.mod_eq_of_lt hk]
    exact ⟨_, rfl, H, Kp_rf⟩
  | succ n ih =>
    intro xs k I1 hn H S P hs
    have hk : hold ≤ k := by
      by_cases q : k < hold
      · rw [Nat.div_eq_of_lt q] at hn; omega
      · omega
    have hlen := len_sum P
    obtain ⟨I2, a1, a2, a3⟩ := c_lay (t := t) (u := u) (J := J) H S (z := hold) (by omega) (by omega) (by omega)
    obtain ⟨⟨k1, k2, k3, _, _, k5⟩, h1, h2, h3, h4⟩ := id H
    rw [e31_41]
    simp (disch := omega) only [↓reduceIte, lt_TI, lt_FI, le_TI, le_FI, eq_TI, eq_FI, lt_TN, lt_FN, le_TN, le_FN, eq_TN, eq_FN, and_self, and_true, true_and, and_false, false_and, or_true, true_or, or_false, false_or, not_true_eq_false, not_false_eq_true, wr_of, uI_at, uC_at, q_bi_s, q_bl_s, q_br_s, q_bv_s, Int.toNat_natCast, tn_1, tn_m, tn_n, Int.toNat_zero, Int.toNat_one, k1, h2, a1]
    rw [e31_58]
    obtain ⟨b0, b1, b2, b3, b4⟩ := a2
    simp (disch := omega) only [↓reduceIte, lt_TI, lt_FI, le_TI, le_FI, eq_TI, eq_FI, lt_TN, lt_FN, le_TN, le_FN, eq_TN, eq_FN, and_self, and_true, true_and, and_false, false_and, or_true, true_or, or_false, false_or, not_true_eq_false, not_false_eq_true, wr_of, uI_at, uC_at, q_bi_s, q_bl_s, q_br_s, q_bv_s, Int.toNat_natCast, tn_1, tn_m, tn_n, Int.toNat_zero, Int.toNat_one, k1, b2]
    have hd : (k - hold) / hold = n := by
      have := Nat.div_eq_sub_div (show 0 < hold by omega) hk
      omega
    obtain ⟨I3, c1, c2, c3⟩ := ih (ins hold xs) (k - hold) (uI I2 h 2 ((k - hold : Nat) : Int)) hd.symm ⟨b0, by simp (disch := omega) only [↓reduceIte, lt_TI, lt_FI, le_TI, le_FI, eq_TI, eq_FI, lt_TN, lt_FN, le_TN, le_FN, eq_TN, eq_FN, and_self, and_true, true_and, and_false, false_and, or_true, true_or, or_false, false_or, not_true_eq_false, not_false_eq_true, wr_of, uI_at, uC_at, q_bi_s, q_bl_s, q_br_s, q_bv_s, Int.toNat_natCast, tn_1, tn_m, tn_n, Int.toNat_zero, Int.toNat_one] <;> exact b1, by simp (disch := omega) only [↓reduceIte, lt_TI, lt_FI, le_TI, le_FI, eq_TI, eq_FI, lt_TN, lt_FN, le_TN, le_FN, eq_TN, eq_FN, and_self, and_true, true_and, and_false, false_and, or_true, true_or, or_false, false_or, not_true_eq_false, not_false_eq_true, wr_of, uI_at, uC_at, q_bi_s, q_bl_s, q_br_s, q_bv_s, Int.toNat_natCast, tn_1, tn_m, tn_n, Int.toNat_zero, Int.toNat_one], b3, fun i hi => by simp (disch := omega) only [↓reduceIte, lt_TI, lt_FI, le_TI, le_FI, eq_TI, eq_FI, lt_TN, lt_FN, le_TN, le_FN, eq_TN, eq_FN, and_self, and_true, true_and, and_false, false_and, or_true, true_or, or_false, false_or, not_true_eq_false, not_false_eq_true, wr_of, uI_at, uC_at, q_bi_s, q_bl_s, q_br_s, q_bv_s, Int.toNat_natCast, tn_1, tn_m, tn_n, Int.toNat_zero, Int.toNat_one] <;> exact b4 i hi⟩ (ins_sd _ _ S) (ins_ps (by omega) P) (by rw [ins_sum]; omega)
    refine ⟨I3, ?_, ?_, ?_⟩
    · rw [← c1, show ((k : Int) - (hold : Int)) = ((k - hold : Nat) : Int) by omega]
    · rw [Nat.mod_eq_sub_mod hk]; exact c2
    · exact Kp_tr a3 (Kp_tr (Kp_uI Kp_rf (by omega) (by omega) : Kp h (h + 1) I2 _) c3 (Nat.le_refl _) (Nat.le_refl _) (Nat.le_refl _) (Nat.le_refl _)) (Nat.le_refl _) (Nat.le_refl _) (Nat.le_refl _) (Nat.le_refl _)
theorem c_pass {law hold : Nat} (H : HAt I h xs k) (hx : HOk (xs, k)) (h1 : law ≤ 3) (hh : 2 ≤ hold) (hh2 : hold ≤ 9) : ∃ I', q_E (31, 0, [vr h, vi (law : Int), vi (hold : Int)], []) (qk t u I J) = some (vu, qk t u I' J) ∧ HAt I' h (nt law hold (xs, k)).1 (nt law hold (xs, k)).2 ∧ Kp h (h + 1) I I' := by
  obtain ⟨S, P, hs⟩ := hx
  simp only at S P hs
  have hl := len_sum P
  obtain ⟨k0, h1', h2, h3, h4⟩ := id H
  obtain ⟨k1, k2, k3, _, _, k5⟩ := id k0
  rw [e31_0]
  unfold nt
  by_cases e : xs = []
  · subst e
    simp (disch := omega) only [↓reduceIte, lt_TI, lt_FI, le_TI, le_FI, eq_TI, eq_FI, lt_TN, lt_FN, le_TN, le_FN, eq_TN, eq_FN, and_self, and_true, true_and, and_false, false_and, or_true, true_or, or_false, false_or, not_true_eq_false, not_false_eq_true, wr_of, uI_at, uC_at, q_bi_s, q_bl_s, q_br_s, q_bv_s, Int.toNat_natCast, tn_1, tn_m, tn_n, Int.toNat_zero, Int.toNat_one, k1, h1', List.length_nil, Int.natCast_zero]
    exact ⟨_, rfl, H, Kp_rf⟩
  have hl0 : 0 < xs.length := by cases q : xs with | nil => exact absurd q e | cons a l => simp
  rw [if_neg e]
  have hds := dec_sum P
  have hcs := dcH_sum (l := xs)
  have hcp := crn_pos P e
  by_cases l0 : law = 0
  · subst l0
    obtain ⟨I1, a1, a2, a3⟩ := c_toe (t := t) (u := u) (J := J) H S P (by omega)
    have hdl : (dec xs).length ≤ (dec xs).sum := len_sum (pos_ps _)
    obtain ⟨I2, b1, b2, b3⟩ := c_lay (t := t) (u := u) (J := J) a2 (dec_sd S) (z := xs.length) hl0 (by omega) (by omega)
    simp (disch := omega) only [↓reduceIte, lt_TI, lt_FI, le_TI, le_FI, eq_TI, eq_FI, lt_TN, lt_FN, le_TN, le_FN, eq_TN, eq_FN, and_self, and_true, true_and, and_false, false_and, or_true, true_or, or_false, false_or, not_true_eq_false, not_false_eq_true, wr_of, uI_at, uC_at, q_bi_s, q_bl_s, q_br_s, q_bv_s, Int.toNat_natCast, tn_1, tn_m, tn_n, Int.toNat_zero, Int.toNat_one, k1, h1', a1, Int.natCast_zero]
    rw [e31_17]
    simp (disch := omega) only [↓reduceIte, lt_TI, lt_FI, le_TI, le_FI, eq_TI, eq_FI, lt_TN, lt_FN, le_TN, le_FN, eq_TN, eq_FN, and_self, and_true, true_and, and_false, false_and, or_true, true_or, or_false, false_or, not_true_eq_false, not_false_eq_true, wr_of, uI_at, uC_at, q_bi_s, q_bl_s, q_br_s, q_bv_s, Int.toNat_natCast, tn_1, tn_m, tn_n, Int.toNat_zero, Int.toNat_one, k1, b1]
    rw [e31_20, e31_96_9]
    exact ⟨I2, rfl, b2, Kp_tr a3 b3 (Nat.le_refl _) (Nat.le_refl _) (Nat.le_refl _) (Nat.le_refl _)⟩
  by_cases l1 : law = 1
  · subst l1
    obtain ⟨I1, a1, a2, a3⟩ := c_toe (t := t) (u := u) (J := J) H S P (by omega)
    simp (disch := omega) only [↓reduceIte, lt_TI, lt_FI, le_TI, le_FI, eq_TI, eq_FI, lt_TN, lt_FN, le_TN, le_FN, eq_TN, eq_FN, and_self, and_true, true_and, and_false, false_and, or_true, true_or, or_false, false_or, not_true_eq_false, not_false_eq_true, wr_of, uI_at, uC_at, q_bi_s, q_bl_s, q_br_s, q_bv_s, Int.toNat_natCast, tn_1, tn_m, tn_n, Int.toNat_zero, Int.toNat_one, k1, h1', h2, a1, Int.natCast_one]
    rw [e31_37]
    obtain ⟨b0, b1, b2, b3, b4⟩ := a2
    simp (disch := omega) only [↓reduceIte, lt_TI, lt_FI, le_TI, le_FI, eq_TI, eq_FI, lt_TN, lt_FN, le_TN, le_FN, eq_TN, eq_FN, and_self, and_true, true_and, and_false, false_and, or_true, true_or, or_false, false_or, not_true_eq_false, not_false_eq_true, wr_of, uI_at, uC_at, q_bi_s, q_bl_s, q_br_s, q_bv_s, Int.toNat_natCast, tn_1, tn_m, tn_n, Int.toNat_zero, Int.toNat_one, k1]
    obtain ⟨I3, c1, c2, c3⟩ := c_bank_l (t := t) (u := u) (J := J) (h := h) hh hh2 ((k + xs.length) / hold) (dec xs) (k + xs.length) (uI I1 h 2 ((k : Int) + (xs.length : Int))) rfl ⟨b0, by simp (disch := omega) only [↓reduceIte, lt_TI, lt_FI, le_TI, le_FI, eq_TI, eq_FI, lt_TN, lt_FN, le_TN, le_FN, eq_TN, eq_FN, and_self, and_true, true_and, and_false, false_and, or_true, true_or, or_false, false_or, not_true_eq_false, not_false_eq_true, wr_of, uI_at, uC_at, q_bi_s, q_bl_s, q_br_s, q_bv_s, Int.toNat_natCast, tn_1, tn_m, tn_n, Int.toNat_zero, Int.toNat_one] <;> exact b1, by simp (disch := omega) only [↓reduceIte, lt_TI, lt_FI, le_TI, le_FI, eq_TI, eq_FI, lt_TN, lt_FN, le_TN, le_FN, eq_TN, eq_FN, and_self, and_true, true_and, and_false, false_and, or_true, true_or, or_false, false_or, not_true_eq_false, not_false_eq_true, wr_of, uI_at, uC_at, q_bi_s, q_bl_s, q_br_s, q_bv_s, Int.toNat_natCast, tn_1, tn_m, tn_n, Int.toNat_zero, Int.toNat_one] <;> rfl, b3, fun i hi => by simp (disch := omega) only [↓reduceIte, lt_TI, lt_FI, le_TI, le_FI, eq_TI, eq_FI, lt_TN, lt_FN, le_TN, le_FN, eq_TN, eq_FN, and_self, and_true, true_and, and_false, false_and, or_true, true_or, or_false, false_or, not_true_eq_false, not_false_eq_true, wr_of, uI_at, uC_at, q_bi_s, q_bl_s, q_br_s, q_bv_s, Int.toNat_natCast, tn_1, tn_m, tn_n, Int.toNat_zero, Int.toNat_one] <;> exact b4 i hi⟩ (dec_sd S) (pos_ps _) (by omega)
    exact ⟨I3, c1, c2, Kp_tr a3 (Kp_tr (Kp_uI Kp_rf (by omega) (by omega) : Kp h (h + 1) I1 _) c3 (Nat.le_refl _) (Nat.le_refl _) (Nat.le_refl _) (Nat.le_refl _)) (Nat.le_refl _) (Nat.le_refl _) (Nat.le_refl _) (Nat.le_refl _)⟩
  by_cases l2 : law = 2
  · subst l2
    obtain ⟨I1, a1, a2, a3⟩ := c_toh (t := t) (u := u) (J := J) H S P (by omega) e
    have hdl : (pos (dcH xs)).length ≤ (pos (dcH xs)).sum := len_sum (pos_ps _)
    rw [pos_sum] at hdl
    obtain ⟨I2, b1, b2, b3⟩ := c_lay (t := t) (u := u) (J := J) a2 (pos_sd (dcH_sd S)) (z := crn xs) hcp (by omega) (by omega)
    simp (disch := omega) only [↓reduceIte, lt_TI, lt_FI, le_TI, le_FI, eq_TI, eq_FI, lt_TN, lt_FN, le_TN, le_FN, eq_TN, eq_FN, and_self, and_true, true_and, and_false, false_and, or_true, true_or, or_false, false_or, not_true_eq_false, not_false_eq_true, wr_of, uI_at, uC_at, q_bi_s, q_bl_s, q_br_s, q_bv_s, Int.toNat_natCast, tn_1, tn_m, tn_n, Int.toNat_zero, Int.toNat_one, k1, h1', a1]
    rw [e31_81]
    simp (disch := omega) only [↓reduceIte, lt_TI, lt_FI, le_TI, le_FI, eq_TI, eq_FI, lt_TN, lt_FN, le_TN, le_FN, eq_TN, eq_FN, and_self, and_true, true_and, and_false, false_and, or_true, true_or, or_false, false_or, not_true_eq_false, not_false_eq_true, wr_of, uI_at, uC_at, q_bi_s, q_bl_s, q_br_s, q_bv_s, Int.toNat_natCast, tn_1, tn_m, tn_n, Int.toNat_zero, Int.toNat_one, k1, b1]
    rw [e31_84, e31_96_9]
    exact ⟨I2, rfl, b2, Kp_tr a3 b3 (Nat.le_refl _) (Nat.le_refl _) (Nat.le_refl _) (Nat.le_refl _)⟩
  · have l3 : law = 3 := by omega
    subst l3
    obtain ⟨I1, a1, a2, a3⟩ := c_lift (t := t) (u := u) (J := J) H hl0
    have ht := tail_sum (l := xs)
    have htl : xs.tail.length ≤ xs.tail.sum := len_sum (PS_tail P)
    rw [List.eraseIdx_zero] at a2
    obtain ⟨I2, b1, b2, b3⟩ := c_give (t := t) (u := u) (J := J) a2 (a := xs.getD 0 0) (by omega) (by omega)
    simp (disch := omega) only [↓reduceIte, lt_TI, lt_FI, le_TI, le_FI, eq_TI, eq_FI, lt_TN, lt_FN, le_TN, le_FN, eq_TN, eq_FN, and_self, and_true, true_and, and_false, false_and, or_true, true_or, or_false, false_or, not_true_eq_false, not_false_eq_true, wr_of, uI_at, uC_at, q_bi_s, q_bl_s, q_br_s, q_bv_s, Int.toNat_natCast, tn_1, tn_m, tn_n, Int.toNat_zero, Int.toNat_one, k1, h1']
    rw [show (0 : Int) = ((0 : Nat) : Int) from rfl, a1]
    simp (disch := omega) only [↓reduceIte, lt_TI, lt_FI, le_TI, le_FI, eq_TI, eq_FI, lt_TN, lt_FN, le_TN, le_FN, eq_TN, eq_FN, and_self, and_true, true_and, and_false, false_and, or_true, true_or, or_false, false_or, not_true_eq_false, not_false_eq_true, wr_of, uI_at, uC_at, q_bi_s, q_bl_s, q_br_s, q_bv_s, Int.toNat_natCast, tn_1, tn_m, tn_n, Int.toNat_zero, Int.toNat_one]
    rw [e31_93]
    simp (disch := omega) only [↓reduceIte, lt_TI, lt_FI, le_TI, le_FI, eq_TI, eq_FI, lt_TN, lt_FN, le_TN, le_FN, eq_TN, eq_FN, and_self, and_true, true_and, and_false, false_and, or_true, true_or, or_false, false_or, not_true_eq_false, not_false_eq_true, wr_of, uI_at, uC_at, q_bi_s, q_bl_s, q_br_s, q_bv_s, Int.toNat_natCast, tn_1, tn_m, tn_n, Int.toNat_zero, Int.toNat_one, k1, b1]
    rw [e31_96_9]
    exact ⟨I2, rfl, b2, Kp_tr a3 b3 (Nat.le_refl _) (Nat.le_refl _) (Nat.le_refl _) (Nat.le_refl _)⟩
end

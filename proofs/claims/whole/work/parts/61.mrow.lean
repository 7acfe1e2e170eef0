/-! THE MODEL'S ROWS: heaps from the greatest on, noughts behind, what is held last -/
def LA (I : Nat → Nat → Int) (a p : Nat) (L : List Nat) : Prop := ∀ i, i < 60 → I a (p + i) = (L.getD i 0 : Int)
/-- nothing but the places lo .. hi-1 of the row a has changed -/
def FrA (a lo hi : Nat) (I I' : Nat → Nat → Int) : Prop := ∀ b j, ¬ (b = a ∧ lo ≤ j ∧ j < hi) → I' b j = I b j
def AId (a N : Nat) : Prop := kd a = 1 ∧ ln a = (N : Int) ∧ N ≤ 100000
theorem FrA_rf {a lo hi : Nat} {I : Nat → Nat → Int} : FrA a lo hi I I := fun _ _ _ => rfl
theorem FrA_uI {a lo hi k : Nat} {v : Int} {I I' : Nat → Nat → Int} (h : FrA a lo hi I I') (h1 : lo ≤ k) (h2 : k < hi) : FrA a lo hi I (uI I' a k v) := fun b j q => by
  rw [← h b j q]
  exact if_neg (fun z => q ⟨z.1, by omega, by omega⟩)
theorem FrA_tr {a lo hi lo2 hi2 : Nat} {I I1 I2 : Nat → Nat → Int} (h : FrA a lo hi I I1) (g : FrA a lo2 hi2 I1 I2) {l u : Nat} (q1 : l ≤ lo) (q2 : hi ≤ u) (q3 : l ≤ lo2) (q4 : hi2 ≤ u) : FrA a l u I I2 := fun b j q => (g b j (fun z => q ⟨z.1, by omega, by omega⟩)).trans (h b j (fun z => q ⟨z.1, by omega, by omega⟩))
theorem FrA_w {a lo hi l u : Nat} {I I1 : Nat → Nat → Int} (h : FrA a lo hi I I1) (q1 : l ≤ lo) (q2 : hi ≤ u) : FrA a l u I I1 := fun b j q => h b j (fun z => q ⟨z.1, by omega, by omega⟩)
theorem FrA_o {a lo hi b : Nat} {I I1 : Nat → Nat → Int} (h : FrA a lo hi I I1) (q : b ≠ a) : I1 b = I b := by
  funext j; exact h b j (fun z => q z.1)
theorem LA_fr {a lo hi p b : Nat} {I I1 : Nat → Nat → Int} {L : List Nat} (H : LA I b p L) (h : FrA a lo hi I I1) (q : b ≠ a ∨ p + 60 ≤ lo ∨ hi ≤ p) : LA I1 b p L := fun i hi => by
  rw [h b (p + i) (fun z => by rcases q with q | q | q; exact q z.1; omega; omega)]
  exact H i hi
theorem gD_pad {L : List Nat} (i n : Nat) : (L ++ List.replicate n 0).getD i 0 = L.getD i 0 := by
  rw [gD_app]
  split
  · rfl
  · rename_i h
    rw [gD_ge (l := L) (by omega)]
    by_cases q : i - L.length < n
    · exact gD_rep q
    · rw [gD_ge (by rw [List.length_replicate]; omega)]
theorem pos_pad (L : List Nat) (n : Nat) : pos (L ++ List.replicate n 0) = pos L := by
  rw [pos_app]
  have : pos (List.replicate n 0) = [] := List.filter_eq_nil_iff.mpr (fun a ha => by rw [(List.mem_replicate.mp ha).2]; simp)
  rw [this, List.append_nil]
theorem pos_gD {M : List Nat} (h : SD M) (i : Nat) : (pos M).getD i 0 = M.getD i 0 := by
  have hc : M.countP (fun a => decide (0 < a)) ≤ M.length := List.countP_le_length
  have e : pos M = M.take (M.countP (fun a => decide (0 < a))) := SD_filter h
  rw [e, gD_tk]
  split
  · rfl
  · rename_i q
    by_cases z : i < M.length
    · have : ¬ 0 < M.getD i 0 := fun y => q ((cnt_gt h i 0).mpr y)
      omega
    · rw [gD_ge (by omega)]
section
variable {t u : Nat} {I J : Nat → Nat → Int} {a p N : Nat}
theorem c_sort_in (A : AId a N) (hp : p + 60 ≤ N) {L : List Nat} (hL : L.length = 60) (hb : ∀ i, L.getD i 0 ≤ 100000) {k : Nat} (hk : k < 60) (S : SD (L.take k)) : ∀ (i : Nat) (I1 : Nat → Nat → Int), i ≤ k → (∀ j, j < i → I1 a (p + j) = (L.getD j 0 : Int)) → (∀ j, i < j → j ≤ k → I1 a (p + j) = (L.getD (j - 1) 0 : Int)) → (∀ j, k < j → j < 60 → I1 a (p + j) = (L.getD j 0 : Int)) → (∀ j, i ≤ j → j < k → L.getD j 0 < L.getD k 0) → ∃ I', q_E (213, 17, [vr a, vi (p : Int), vi (k : Int), vi (L.getD k 0 : Int), vi (i : Int)], []) (qk t u I1 J) = q_E (213, 2, [vr a, vi (p : Int), vi ((k : Int) + 1), vu, vu], []) (qk t u I' J) ∧ LA I' a p (ins (L.getD k 0) (L.take k) ++ L.drop (k + 1)) ∧ FrA a p (p + 60) I1 I' := by
  obtain ⟨a1, a2, a3⟩ := A
  have fin : ∀ (i : Nat) (I1 : Nat → Nat → Int), i ≤ k → (∀ j, j < i → I1 a (p + j) = (L.getD j 0 : Int)) → (∀ j, i < j → j ≤ k → I1 a (p + j) = (L.getD (j - 1) 0 : Int)) → (∀ j, k < j → j < 60 → I1 a (p + j) = (L.getD j 0 : Int)) → (∀ j, i ≤ j → j < k → L.getD j 0 < L.getD k 0) → (∀ j, j < i → L.getD k 0 ≤ L.getD j 0) → LA (uI I1 a (p + i) (L.getD k 0 : Int)) a p (ins (L.getD k 0) (L.take k) ++ L.drop (k + 1)) := by
    intro i I1 hi e1 e2 e3 e4 e5 j hj
    have lt : (L.take k).length = k := by rw [List.length_take]; omega
    rw [ins_at (L.getD k 0) (L.take k) i (by omega) (fun j hj => by rw [gD_tk, if_pos (by omega)]; exact e5 j hj) (fun j h1 h2 => by rw [gD_tk, if_pos (by omega)]; exact e4 j h1 (by omega))]
    rw [gD_app, List.length_append, List.length_cons, List.length_take, List.length_drop, lt]
    by_cases q : j = i
    · subst q
      rw [uI_at, if_pos ⟨rfl, rfl⟩, if_pos (by omega), gD_app, List.length_take, lt, if_neg (by omega), show j - min j k = 0 by omega, List.getD_cons_zero]
    · rw [uI_ne (Or.inr (by omega))]
      by_cases q2 : j < i
      · rw [if_pos (by omega), gD_app, List.length_take, lt, if_pos (by omega), gD_tk, if_pos q2, gD_tk, if_pos (by omega)]
        exact e1 j q2
      · by_cases q3 : j ≤ k
        · rw [if_pos (by omega), gD_app, List.length_take, lt, if_neg (by omega), show j - min i k = (j - i - 1) + 1 by omega, List.getD_cons_succ, gD_dp, gD_tk, if_pos (by omega), show i + (j - i - 1) = j - 1 by omega]
          exact e2 j (by omega) q3
        · rw [if_neg (by omega), gD_dp, show k + 1 + (j - (min i k + (k - i + 1))) = j by omega]
          exact e3 j (by omega) hj
  intro i
  induction i with
  | zero =>
    intro I1 hi e1 e2 e3 e4
    rw [e213_17]
    simp (disch := omega) only [↓reduceIte, lt_TI, lt_FI, le_TI, le_FI, eq_TI, eq_FI, lt_TN, lt_FN, le_TN, le_FN, eq_TN, eq_FN, and_self, and_true, true_and, and_false, false_and, or_true, true_or, or_false, false_or, not_true_eq_false, not_false_eq_true, wr_of, uI_at, uC_at, q_bi_s, q_bl_s, q_br_s, q_bv_s, Int.toNat_natCast, tn_1, tn_m, tn_n, Int.toNat_zero, Int.toNat_one, a1, a2, Int.natCast_zero, Int.add_zero]
    exact ⟨_, rfl, fin 0 I1 hi e1 e2 e3 e4 (fun j hj => by omega), FrA_uI FrA_rf (by omega) (by omega)⟩
  | succ i ih =>
    intro I1 hi e1 e2 e3 e4
    have v := e1 i (by omega)
    have b1 := hb i
    have b2 := hb k
    have t1 : ((p : Int) + ((i + 1 : Nat) : Int) - 1).toNat = p + i := by omega
    have t2 : ((p : Int) + ((i + 1 : Nat) : Int)).toNat = p + (i + 1) := by omega
    rw [e213_17]
    by_cases q : L.getD i 0 < L.getD k 0
    · simp (disch := omega) only [↓reduceIte, lt_TI, lt_FI, le_TI, le_FI, eq_TI, eq_FI, lt_TN, lt_FN, le_TN, le_FN, eq_TN, eq_FN, and_self, and_true, true_and, and_false, false_and, or_true, true_or, or_false, false_or, not_true_eq_false, not_false_eq_true, wr_of, uI_at, uC_at, q_bi_s, q_bl_s, q_br_s, q_bv_s, Int.toNat_natCast, tn_1, tn_m, tn_n, Int.toNat_zero, Int.toNat_one, a1, a2, t1, t2, v]
      obtain ⟨I', x1, x2, x3⟩ := ih (uI I1 a (p + (i + 1)) (L.getD i 0 : Int)) (by omega) (fun j hj => by rw [uI_ne (Or.inr (by omega))]; exact e1 j (by omega)) (fun j h1 h2 => by
        by_cases z : j = i + 1
        · subst z; rw [uI_at, if_pos ⟨rfl, rfl⟩, Nat.add_sub_cancel]
        · rw [uI_ne (Or.inr (by omega))]; exact e2 j (by omega) h2) (fun j h1 h2 => by rw [uI_ne (Or.inr (by omega))]; exact e3 j h1 h2) (fun j h1 h2 => by
        by_cases z : j = i
        · subst z; exact q
        · exact e4 j (by omega) h2)
      refine ⟨I', ?_, x2, FrA_tr (FrA_uI FrA_rf (by omega) (by omega) : FrA a p (p + 60) I1 _) x3 (Nat.le_refl _) (Nat.le_refl _) (Nat.le_refl _) (Nat.le_refl _)⟩
      rw [← x1, show (((i + 1 : Nat) : Int) + -1) = (i : Int) by omega]
    · simp (disch := omega) only [↓reduceIte, lt_TI, lt_FI, le_TI, le_FI, eq_TI, eq_FI, lt_TN, lt_FN, le_TN, le_FN, eq_TN, eq_FN, and_self, and_true, true_and, and_false, false_and, or_true, true_or, or_false, false_or, not_true_eq_false, not_false_eq_true, wr_of, uI_at, uC_at, q_bi_s, q_bl_s, q_br_s, q_bv_s, Int.toNat_natCast, tn_1, tn_m, tn_n, Int.toNat_zero, Int.toNat_one, a1, a2, t1, t2, v]
      exact ⟨_, rfl, fin (i + 1) I1 hi e1 e2 e3 e4 (fun j hj => by
        have s := SD_gD S (show j ≤ i by omega)
        rw [gD_tk, gD_tk, if_pos (by omega), if_pos (by omega)] at s
        omega), FrA_uI FrA_rf (by omega) (by omega)⟩
theorem c_sort_m (A : AId a N) (hp : p + 60 ≤ N) : ∀ (r k : Nat) (L : List Nat) (I1 : Nat → Nat → Int), k + r = 60 → 1 ≤ k → L.length = 60 → (∀ i, L.getD i 0 ≤ 100000) → SD (L.take k) → LA I1 a p L → ∃ M I', q_E (213, 2, [vr a, vi (p : Int), vi (k : Int), vu, vu], []) (qk t u I1 J) = some (vu, qk t u I' J) ∧ M.length = 60 ∧ SD M ∧ M.Perm L ∧ LA I' a p M ∧ FrA a p (p + 60) I1 I' := by
  obtain ⟨a1, a2, a3⟩ := id A
  intro r
  induction r with
  | zero =>
    intro k L I1 hk h1 hL hb S H
    rw [e213_2]
    simp (disch := omega) only [↓reduceIte, lt_TI, lt_FI, le_TI, le_FI, eq_TI, eq_FI, lt_TN, lt_FN, le_TN, le_FN, eq_TN, eq_FN, and_self, and_true, true_and, and_false, false_and, or_true, true_or, or_false, false_or, not_true_eq_false, not_false_eq_true, wr_of, uI_at, uC_at, q_bi_s, q_bl_s, q_br_s, q_bv_s, Int.toNat_natCast, tn_1, tn_m, tn_n, Int.toNat_zero, Int.toNat_one]
    exact ⟨L, I1, rfl, hL, by rw [List.take_of_length_le (by omega)] at S; exact S, List.Perm.refl _, H, FrA_rf⟩
  | succ r ih =>
    intro k L I1 hk h1 hL hb S H
    have v := H k (by omega)
    obtain ⟨I2, x1, x2, x3⟩ := c_sort_in (t := t) (u := u) (J := J) A hp hL hb (k := k) (by omega) S k I1 (Nat.le_refl _) (fun j hj => H j (by omega)) (fun j q1 q2 => by omega) (fun j q1 q2 => H j q2) (fun j q1 q2 => by omega)
    have lt : (L.take k).length = k := by rw [List.length_take]; omega
    have pm : (ins (L.getD k 0) (L.take k) ++ L.drop (k + 1)).Perm L := by
      have e : L = L.take k ++ L.getD k 0 :: L.drop (k + 1) := by rw [← gD_drop (by omega), List.take_append_drop]
      have p1 : (ins (L.getD k 0) (L.take k) ++ L.drop (k + 1)).Perm (L.getD k 0 :: L.take k ++ L.drop (k + 1)) := List.Perm.append_right _ (ins_perm _ _)
      have p2 : (L.take k ++ L.getD k 0 :: L.drop (k + 1)).Perm (L.getD k 0 :: (L.take k ++ L.drop (k + 1))) := List.perm_middle
      rw [← e] at p2
      exact p1.trans p2.symm
    have tk : (ins (L.getD k 0) (L.take k) ++ L.drop (k + 1)).take (k + 1) = ins (L.getD k 0) (L.take k) := by
      rw [List.take_append_of_le_length (by rw [ins_len, lt]; omega), List.take_of_length_le (by rw [ins_len, lt]; omega)]
    obtain ⟨M, I3, y1, y2, y3, y4, y5, y6⟩ := ih (k + 1) (ins (L.getD k 0) (L.take k) ++ L.drop (k + 1)) I2 (by omega) (by omega) (by rw [pm.length_eq]; exact hL) (fun i => by
      by_cases q : i < (ins (L.getD k 0) (L.take k) ++ L.drop (k + 1)).length
      · have m := pm.mem_iff.mp (gD_mem q)
        obtain ⟨j, hj, ej⟩ := List.mem_iff_getElem.mp m
        rw [← ej, ← gD_lt hj]; exact hb j
      · rw [gD_ge (by omega)]; omega) (by rw [tk]; exact ins_sd _ _ S) x2
    refine ⟨M, I3, ?_, y2, y3, y4.trans pm, y5, FrA_tr x3 y6 (Nat.le_refl _) (Nat.le_refl _) (Nat.le_refl _) (Nat.le_refl _)⟩
    rw [e213_2]
    simp (disch := omega) only [↓reduceIte, lt_TI, lt_FI, le_TI, le_FI, eq_TI, eq_FI, lt_TN, lt_FN, le_TN, le_FN, eq_TN, eq_FN, and_self, and_true, true_and, and_false, false_and, or_true, true_or, or_false, false_or, not_true_eq_false, not_false_eq_true, wr_of, uI_at, uC_at, q_bi_s, q_bl_s, q_br_s, q_bv_s, Int.toNat_natCast, tn_1, tn_m, tn_n, Int.toNat_zero, Int.toNat_one, a1, a2, tn_a, v]
    rw [x1]
    exact y1
/-- all heaps in order: those higher than nought -/
theorem c_sortOf (A : AId a N) (hp : p + 60 ≤ N) {L ys : List Nat} (H : LA I a p L) (hL : L.length ≤ 60) (hb : ∀ i, L.getD i 0 ≤ 100000) (S : SD ys) (P : PS ys) (hy : ys.Perm (pos L)) : ∃ I', q_E (213, 0, [vr a, vi (p : Int), vu, vu, vu], []) (qk t u I J) = some (vu, qk t u I' J) ∧ LA I' a p ys ∧ FrA a p (p + 60) I I' := by
  obtain ⟨M, I', x1, x2, x3, x4, x5, x6⟩ := c_sort_m (t := t) (u := u) (J := J) A hp 59 1 (L ++ List.replicate (60 - L.length) 0) I (by omega) (Nat.le_refl _) (by rw [List.length_append, List.length_replicate]; omega) (fun i => by rw [gD_pad]; exact hb i) (by
    refine SD_of fun i hi => ?_
    rw [List.length_take] at hi; omega) (fun i hi => by rw [gD_pad]; exact H i hi)
  have e : pos M = ys := SD_eq (pos_sd x3) S ((pos_perm x4).trans (by rw [pos_pad]; exact hy.symm))
  rw [e213_0]
  exact ⟨I', x1, fun i hi => by rw [x5 i hi, ← e, pos_gD x3], x6⟩
theorem c_manyOf (A : AId a N) (hp : p + 60 ≤ N) {xs : List Nat} (H : LA I a p xs) (P : PS xs) (hl : xs.length ≤ 60) : q_E (214, 0, [vr a, vi (p : Int), vu], []) (qk t u I J) = some (vi (xs.length : Int), qk t u I J) := by
  obtain ⟨a1, a2, a3⟩ := A
  have loop : ∀ r i : Nat, i + r = xs.length → q_E (214, 2, [vr a, vi (p : Int), vi (i : Int)], []) (qk t u I J) = some (vi (xs.length : Int), qk t u I J) := by
    intro r
    induction r with
    | zero =>
      intro i hi
      rw [e214_2]
      by_cases q : i < 60
      · have v := H i q
        rw [gD_ge (by omega), Int.natCast_zero] at v
        simp (disch := omega) only [↓reduceIte, lt_TI, lt_FI, le_TI, le_FI, eq_TI, eq_FI, lt_TN, lt_FN, le_TN, le_FN, eq_TN, eq_FN, and_self, and_true, true_and, and_false, false_and, or_true, true_or, or_false, false_or, not_true_eq_false, not_false_eq_true, wr_of, uI_at, uC_at, q_bi_s, q_bl_s, q_br_s, q_bv_s, Int.toNat_natCast, tn_1, tn_m, tn_n, Int.toNat_zero, Int.toNat_one, a1, a2, tn_a, v]
        rw [show i = xs.length by omega]
      · simp (disch := omega) only [↓reduceIte, lt_TI, lt_FI, le_TI, le_FI, eq_TI, eq_FI, lt_TN, lt_FN, le_TN, le_FN, eq_TN, eq_FN, and_self, and_true, true_and, and_false, false_and, or_true, true_or, or_false, false_or, not_true_eq_false, not_false_eq_true, wr_of, uI_at, uC_at, q_bi_s, q_bl_s, q_br_s, q_bv_s, Int.toNat_natCast, tn_1, tn_m, tn_n, Int.toNat_zero, Int.toNat_one]
        rw [show i = xs.length by omega]
    | succ r ih =>
      intro i hi
      have v := H i (by omega)
      have q := PS_gD P (show i < xs.length by omega)
      rw [e214_2]
      simp (disch := omega) only [↓reduceIte, lt_TI, lt_FI, le_TI, le_FI, eq_TI, eq_FI, lt_TN, lt_FN, le_TN, le_FN, eq_TN, eq_FN, and_self, and_true, true_and, and_false, false_and, or_true, true_or, or_false, false_or, not_true_eq_false, not_false_eq_true, wr_of, uI_at, uC_at, q_bi_s, q_bl_s, q_br_s, q_bv_s, Int.toNat_natCast, tn_1, tn_m, tn_n, Int.toNat_zero, Int.toNat_one, a1, a2, tn_a, v]
      exact ih (i + 1) (by omega)
  rw [e214_0]
  exact loop xs.length 0 (by omega)
theorem c_stonesOf (A : AId a N) (hp : p + 60 ≤ N) {xs : List Nat} (H : LA I a p xs) (hl : xs.length ≤ 60) (hs : xs.sum ≤ 10000) : q_E (215, 0, [vr a, vi (p : Int), vu, vu], []) (qk t u I J) = some (vi (xs.sum : Int), qk t u I J) := by
  obtain ⟨a1, a2, a3⟩ := A
  have ext : ∀ n, xs.length ≤ n → (rg n (fun i => xs.getD i 0)).sum = xs.sum := fun n hn => by
    induction hn with
    | refl => rw [rg_id]
    | step h ih =>
      rw [rg_sum_s, ih, gD_ge h]; rfl
  have loop : ∀ r i : Nat, i + r = 60 → q_E (215, 4, [vr a, vi (p : Int), vi ((rg i (fun i => xs.getD i 0)).sum : Int), vi (i : Int)], []) (qk t u I J) = some (vi (xs.sum : Int), qk t u I J) := by
    intro r
    induction r with
    | zero =>
      intro i hi
      rw [e215_4]
      simp (disch := omega) only [↓reduceIte, lt_TI, lt_FI, le_TI, le_FI, eq_TI, eq_FI, lt_TN, lt_FN, le_TN, le_FN, eq_TN, eq_FN, and_self, and_true, true_and, and_false, false_and, or_true, true_or, or_false, false_or, not_true_eq_false, not_false_eq_true, wr_of, uI_at, uC_at, q_bi_s, q_bl_s, q_br_s, q_bv_s, Int.toNat_natCast, tn_1, tn_m, tn_n, Int.toNat_zero, Int.toNat_one]
      rw [show i = 60 by omega, ext 60 hl]
    | succ r ih =>
      intro i hi
      have v := H i (by omega)
      have m := rg_mono (fun i => xs.getD i 0) (show i + 1 ≤ 60 by omega)
      rw [ext 60 hl, rg_sum_s] at m
      have en := ih (i + 1) (by omega)
      rw [rg_sum_s, Int.natCast_add, show ((i + 1 : Nat) : Int) = (i : Int) + 1 from rfl] at en
      rw [e215_4]
      simp (disch := omega) only [↓reduceIte, lt_TI, lt_FI, le_TI, le_FI, eq_TI, eq_FI, lt_TN, lt_FN, le_TN, le_FN, eq_TN, eq_FN, and_self, and_true, true_and, and_false, false_and, or_true, true_or, or_false, false_or, not_true_eq_false, not_false_eq_true, wr_of, uI_at, uC_at, q_bi_s, q_bl_s, q_br_s, q_bv_s, Int.toNat_natCast, tn_1, tn_m, tn_n, Int.toNat_zero, Int.toNat_one, a1, a2, tn_a, v]
      exact en
  rw [e215_0]
  have e0 := loop 60 0 (by omega)
  exact e0
theorem LA_app {xs : List Nat} (H : LA I a p xs) (z : Nat) : LA (uI I a (p + xs.length) (z : Int)) a p (xs ++ [z]) := fun i hi => by
  rw [gD_app]
  by_cases q : i < xs.length
  · rw [if_pos q, uI_ne (Or.inr (by omega))]; exact H i hi
  · rw [if_neg q]
    by_cases q2 : i = xs.length
    · subst q2; rw [uI_at, if_pos ⟨rfl, rfl⟩, Nat.sub_self, List.getD_cons_zero]
    · rw [uI_ne (Or.inr (by omega)), gD_ge (l := [z]) (by simp; omega), H i hi, gD_ge (l := xs) (by omega)]
theorem c_layOn (A : AId a N) (hp : p + 60 ≤ N) {xs : List Nat} (H : LA I a p xs) (P : PS xs) (hl : xs.length < 60) {z : Nat} (hz : 0 < z) (hz2 : z ≤ 1000) : ∃ I', q_E (216, 0, [vr a, vi (p : Int), vi (z : Int)], []) (qk t u I J) = some (vu, qk t u I' J) ∧ LA I' a p (xs ++ [z]) ∧ FrA a p (p + 60) I I' := by
  have m := c_manyOf (t := t) (u := u) (J := J) A hp H P (by omega)
  obtain ⟨a1, a2, a3⟩ := A
  simp (disch := omega) only [↓reduceIte, lt_TI, lt_FI, le_TI, le_FI, eq_TI, eq_FI, lt_TN, lt_FN, le_TN, le_FN, eq_TN, eq_FN, and_self, and_true, true_and, and_false, false_and, or_true, true_or, or_false, false_or, not_true_eq_false, not_false_eq_true, wr_of, uI_at, uC_at, q_bi_s, q_bl_s, q_br_s, q_bv_s, Int.toNat_natCast, tn_1, tn_m, tn_n, Int.toNat_zero, Int.toNat_one, e216_0, m, e216_11, a1, a2, tn_a]
  exact ⟨_, rfl, LA_app H z, FrA_uI FrA_rf (by omega) (by omega)⟩
theorem c_layOn0 : q_E (216, 0, [vr a, vi (p : Int), vi 0], []) (qk t u I J) = some (vu, qk t u I J) := by
  simp (disch := omega) only [↓reduceIte, lt_TI, lt_FI, le_TI, le_FI, eq_TI, eq_FI, lt_TN, lt_FN, le_TN, le_FN, eq_TN, eq_FN, and_self, and_true, true_and, and_false, false_and, or_true, true_or, or_false, false_or, not_true_eq_false, not_false_eq_true, wr_of, uI_at, uC_at, q_bi_s, q_bl_s, q_br_s, q_bv_s, Int.toNat_natCast, tn_1, tn_m, tn_n, Int.toNat_zero, Int.toNat_one, e216_0]
theorem c_takenOf (A : AId a N) (hp : p + 60 ≤ N) {xs : List Nat} (H : LA I a p xs) (S : SD xs) (P : PS xs) (hs : xs.sum ≤ 60) : ∃ I', q_E (217, 0, [vr a, vi (p : Int), vi 0, vu, vu, vu], []) (qk t u I J) = some (vi (xs.length : Int), qk t u I' J) ∧ LA I' a p (dec xs) ∧ FrA a p (p + 60) I I' := by
  have hl := len_sum P
  have m := c_manyOf (t := t) (u := u) (J := J) A hp H P (by omega)
  obtain ⟨a1, a2, a3⟩ := id A
  have loop : ∀ (r i : Nat) (I1 : Nat → Nat → Int), i + r = xs.length → FrA a p (p + 60) I I1 → (∀ j, j < 60 → I1 a (p + j) = if j < i then ((xs.getD j 0 - 1 : Nat) : Int) else (xs.getD j 0 : Int)) → ∃ I', q_E (217, 12, [vr a, vi (p : Int), vi 0, vi (xs.length : Int), vi (i : Int), vi (i : Int)], []) (qk t u I1 J) = some (vi (xs.length : Int), qk t u I' J) ∧ LA I' a p (dec xs) ∧ FrA a p (p + 60) I I' := by
    intro r
    induction r with
    | zero =>
      intro i I1 hi F e
      have L1 : LA I1 a p (xs.map (fun a => a - 1)) := fun j hj => by
        rw [e j hj]
        by_cases q : j < xs.length
        · rw [if_pos (by omega), gD_map q]
        · rw [if_neg (by omega), gD_ge (by omega), gD_ge (by rw [List.length_map]; omega)]
      have hm := map_pred_sum P
      obtain ⟨I2, x1, x2, x3⟩ := c_sortOf (t := t) (u := u) (J := J) (ys := dec xs) A hp L1 (by rw [List.length_map]; omega) (fun i => by have := gD_sum (l := xs.map (fun a => a - 1)) i; omega) (dec_sd S) (pos_ps _) (List.Perm.refl _)
      rw [e217_12]
      simp (disch := omega) only [↓reduceIte, lt_TI, lt_FI, le_TI, le_FI, eq_TI, eq_FI, lt_TN, lt_FN, le_TN, le_FN, eq_TN, eq_FN, and_self, and_true, true_and, and_false, false_and, or_true, true_or, or_false, false_or, not_true_eq_false, not_false_eq_true, wr_of, uI_at, uC_at, q_bi_s, q_bl_s, q_br_s, q_bv_s, Int.toNat_natCast, tn_1, tn_m, tn_n, Int.toNat_zero, Int.toNat_one, x1, e217_74]
      exact ⟨I2, by rw [show i = xs.length by omega], x2, FrA_tr F x3 (Nat.le_refl _) (Nat.le_refl _) (Nat.le_refl _) (Nat.le_refl _)⟩
    | succ r ih =>
      intro i I1 hi F e
      have v := e i (by omega)
      rw [if_neg (by omega)] at v
      have pp := PS_gD P (show i < xs.length by omega)
      have gb := gD_sum (l := xs) i
      rw [e217_12]
      simp (disch := omega) only [↓reduceIte, lt_TI, lt_FI, le_TI, le_FI, eq_TI, eq_FI, lt_TN, lt_FN, le_TN, le_FN, eq_TN, eq_FN, and_self, and_true, true_and, and_false, false_and, or_true, true_or, or_false, false_or, not_true_eq_false, not_false_eq_true, wr_of, uI_at, uC_at, q_bi_s, q_bl_s, q_br_s, q_bv_s, Int.toNat_natCast, tn_1, tn_m, tn_n, Int.toNat_zero, Int.toNat_one, a1, a2, tn_a, v]
      exact ih (i + 1) _ (by omega) (FrA_uI F (by omega) (by omega)) (fun j hj => by
        by_cases q : j = i
        · subst q; rw [uI_at, if_pos ⟨rfl, rfl⟩, if_pos (by omega)]; omega
        · rw [uI_ne (Or.inr (by omega)), e j hj]
          by_cases z : j < i
          · rw [if_pos z, if_pos (by omega)]
          · rw [if_neg z, if_neg (by omega)])
  simp (disch := omega) only [↓reduceIte, lt_TI, lt_FI, le_TI, le_FI, eq_TI, eq_FI, lt_TN, lt_FN, le_TN, le_FN, eq_TN, eq_FN, and_self, and_true, true_and, and_false, false_and, or_true, true_or, or_false, false_or, not_true_eq_false, not_false_eq_true, wr_of, uI_at, uC_at, q_bi_s, q_bl_s, q_br_s, q_bv_s, Int.toNat_natCast, tn_1, tn_m, tn_n, Int.toNat_zero, Int.toNat_one, e217_0, m, e217_5]
  exact loop xs.length 0 I (by omega) FrA_rf (fun j hj => by rw [if_neg (by omega)]; exact H j hj)
theorem c_takenH (A : AId a N) (hp : p + 60 ≤ N) {xs : List Nat} (H : LA I a p xs) (S : SD xs) (P : PS xs) (hs : xs.sum ≤ 60) : ∃ I', q_E (217, 0, [vr a, vi (p : Int), vi 1, vu, vu, vu], []) (qk t u I J) = some (vi (crn xs : Int), qk t u I' J) ∧ LA I' a p (pos (dcH xs)) ∧ FrA a p (p + 60) I I' := by
  have hl := len_sum P
  have m := c_manyOf (t := t) (u := u) (J := J) A hp H P (by omega)
  obtain ⟨a1, a2, a3⟩ := id A
  have loop : ∀ (r i : Nat) (I1 : Nat → Nat → Int), i + r = xs.length → FrA a p (p + 60) I I1 → (∀ j, j < 60 → I1 a (p + j) = if j < i then ((dcH xs).getD j 0 : Int) else (xs.getD j 0 : Int)) → ∃ I', q_E (217, 12, [vr a, vi (p : Int), vi 1, vi (xs.length : Int), vi ((List.range i).countP (lst xs) : Int), vi (i : Int)], []) (qk t u I1 J) = some (vi (crn xs : Int), qk t u I' J) ∧ LA I' a p (pos (dcH xs)) ∧ FrA a p (p + 60) I I' := by
    intro r
    induction r with
    | zero =>
      intro i I1 hi F e
      have ei : i = xs.length := by omega
      subst ei
      have L1 : LA I1 a p (dcH xs) := fun j hj => by
        rw [e j hj]
        by_cases q : j < xs.length
        · rw [if_pos q]
        · rw [if_neg q, gD_ge (by omega), gD_ge (by rw [dcH_len]; omega)]
      have hm := dcH_sum (l := xs)
      obtain ⟨I2, x1, x2, x3⟩ := c_sortOf (t := t) (u := u) (J := J) (ys := pos (dcH xs)) A hp L1 (by rw [dcH_len]; omega) (fun i => by have := gD_sum (l := dcH xs) i; omega) (pos_sd (dcH_sd S)) (pos_ps _) (List.Perm.refl _)
      rw [e217_12]
      simp (disch := omega) only [↓reduceIte, lt_TI, lt_FI, le_TI, le_FI, eq_TI, eq_FI, lt_TN, lt_FN, le_TN, le_FN, eq_TN, eq_FN, and_self, and_true, true_and, and_false, false_and, or_true, true_or, or_false, false_or, not_true_eq_false, not_false_eq_true, wr_of, uI_at, uC_at, q_bi_s, q_bl_s, q_br_s, q_bv_s, Int.toNat_natCast, tn_1, tn_m, tn_n, Int.toNat_zero, Int.toNat_one, x1, e217_74]
      exact ⟨I2, rfl, x2, FrA_tr F x3 (Nat.le_refl _) (Nat.le_refl _) (Nat.le_refl _) (Nat.le_refl _)⟩
    | succ r ih =>
      intro i I1 hi F e
      have v := e i (by omega)
      rw [if_neg (by omega)] at v
      have pp := PS_gD P (show i < xs.length by omega)
      have gb := gD_sum (l := xs) i
      have cb := cr_le (lst xs) i
      have d := dcH_at (show i < xs.length by omega)
      have sd := SD_gD S (show i ≤ i + 1 by omega)
      rw [e217_12]
      by_cases q : lst xs i = true
      · have q' : xs.getD (i + 1) 0 < xs.getD i 0 := of_decide_eq_true q
        rw [if_pos q] at d
        obtain ⟨I2, y1, y2⟩ := ih (i + 1) (uI I1 a (p + i) ((xs.getD i 0 : Int) - 1)) (by omega) (FrA_uI F (by omega) (by omega)) (fun j hj => by
          by_cases q : j = i
          · subst q; rw [uI_at, if_pos ⟨rfl, rfl⟩, if_pos (by omega), d]; omega
          · rw [uI_ne (Or.inr (by omega)), e j hj]
            by_cases z : j < i
            · rw [if_pos z, if_pos (by omega)]
            · rw [if_neg z, if_neg (by omega)])
        rw [cr_s, if_pos q] at y1
        refine ⟨I2, ?_, y2⟩
        rw [← y1]
        by_cases z : i + 1 < xs.length
        · have v1 := e (i + 1) (by omega)
          rw [if_neg (by omega), ← Nat.add_assoc] at v1
          simp (disch := omega) only [↓reduceIte, lt_TI, lt_FI, le_TI, le_FI, eq_TI, eq_FI, lt_TN, lt_FN, le_TN, le_FN, eq_TN, eq_FN, and_self, and_true, true_and, and_false, false_and, or_true, true_or, or_false, false_or, not_true_eq_false, not_false_eq_true, wr_of, uI_at, uC_at, q_bi_s, q_bl_s, q_br_s, q_bv_s, Int.toNat_natCast, tn_1, tn_m, tn_n, Int.toNat_zero, Int.toNat_one, a1, a2, tn_a, tn_a1, v, v1]
          rfl
        · simp (disch := omega) only [↓reduceIte, lt_TI, lt_FI, le_TI, le_FI, eq_TI, eq_FI, lt_TN, lt_FN, le_TN, le_FN, eq_TN, eq_FN, and_self, and_true, true_and, and_false, false_and, or_true, true_or, or_false, false_or, not_true_eq_false, not_false_eq_true, wr_of, uI_at, uC_at, q_bi_s, q_bl_s, q_br_s, q_bv_s, Int.toNat_natCast, tn_1, tn_m, tn_n, Int.toNat_zero, Int.toNat_one, a1, a2, tn_a, tn_a1, v]
          rfl
      · have q' : ¬ xs.getD (i + 1) 0 < xs.getD i 0 := fun z => q (decide_eq_true z)
        rw [if_neg q] at d
        have z : i + 1 < xs.length := by
          rcases Nat.lt_or_ge (i + 1) xs.length with z | z
          · exact z
          · rw [gD_ge z] at q'; omega
        have v1 := e (i + 1) (by omega)
        rw [if_neg (by omega), ← Nat.add_assoc] at v1
        obtain ⟨I2, y1, y2⟩ := ih (i + 1) I1 (by omega) F (fun j hj => by
          rw [e j hj]
          by_cases q : j = i
          · subst q; rw [if_neg (by omega), if_pos (by omega), d]
          · by_cases z : j < i
            · rw [if_pos z, if_pos (by omega)]
            · rw [if_neg z, if_neg (by omega)])
        rw [cr_s, if_neg q] at y1
        refine ⟨I2, ?_, y2⟩
        rw [← y1]
        simp (disch := omega) only [↓reduceIte, lt_TI, lt_FI, le_TI, le_FI, eq_TI, eq_FI, lt_TN, lt_FN, le_TN, le_FN, eq_TN, eq_FN, and_self, and_true, true_and, and_false, false_and, or_true, true_or, or_false, false_or, not_true_eq_false, not_false_eq_true, wr_of, uI_at, uC_at, q_bi_s, q_bl_s, q_br_s, q_bv_s, Int.toNat_natCast, tn_1, tn_m, tn_n, Int.toNat_zero, Int.toNat_one, a1, a2, tn_a, tn_a1, v, v1]
        rfl
  simp (disch := omega) only [↓reduceIte, lt_TI, lt_FI, le_TI, le_FI, eq_TI, eq_FI, lt_TN, lt_FN, le_TN, le_FN, eq_TN, eq_FN, and_self, and_true, true_and, and_false, false_and, or_true, true_or, or_false, false_or, not_true_eq_false, not_false_eq_true, wr_of, uI_at, uC_at, q_bi_s, q_bl_s, q_br_s, q_bv_s, Int.toNat_natCast, tn_1, tn_m, tn_n, Int.toNat_zero, Int.toNat_one, e217_0, m, e217_5]
  exact loop xs.length 0 I (by omega) FrA_rf (fun j hj => by rw [if_neg (by omega)]; exact H j hj)
theorem c_lay1s (A : AId a N) (hp : p + 60 ≤ N) : ∀ (r : Nat) (xs : List Nat) (I1 : Nat → Nat → Int), LA I1 a p xs → PS xs → xs.length + r ≤ 60 → ∃ I', q_E (218, 53, [vu, vr a, vi (p : Int), vu, vi (r : Int), vu], []) (qk t u I1 J) = some (vu, qk t u I' J) ∧ LA I' a p (xs ++ List.replicate r 1) ∧ FrA a p (p + 60) I1 I' := by
  intro r
  induction r with
  | zero =>
    intro xs I1 H P hl
    rw [e218_53]
    simp (disch := omega) only [↓reduceIte, lt_TI, lt_FI, le_TI, le_FI, eq_TI, eq_FI, lt_TN, lt_FN, le_TN, le_FN, eq_TN, eq_FN, and_self, and_true, true_and, and_false, false_and, or_true, true_or, or_false, false_or, not_true_eq_false, not_false_eq_true, wr_of, uI_at, uC_at, q_bi_s, q_bl_s, q_br_s, q_bv_s, Int.toNat_natCast, tn_1, tn_m, tn_n, Int.toNat_zero, Int.toNat_one, Int.natCast_zero]
    exact ⟨I1, rfl, by rw [show List.replicate 0 1 = ([] : List Nat) from rfl, List.append_nil]; exact H, FrA_rf⟩
  | succ r ih =>
    intro xs I1 H P hl
    obtain ⟨I2, x1, x2, x3⟩ := c_layOn (t := t) (u := u) (J := J) A hp H P (by omega) (z := 1) (by omega) (by omega)
    obtain ⟨I3, y1, y2, y3⟩ := ih (xs ++ [1]) I2 x2 (fun a ha => by
      rcases List.mem_append.mp ha with q | q
      · exact P a q
      · rw [List.mem_singleton.mp q]; omega) (by rw [List.length_append]; simp; omega)
    rw [e218_53]
    rw [show ((1 : Nat) : Int) = 1 from rfl] at x1
    simp (disch := omega) only [↓reduceIte, lt_TI, lt_FI, le_TI, le_FI, eq_TI, eq_FI, lt_TN, lt_FN, le_TN, le_FN, eq_TN, eq_FN, and_self, and_true, true_and, and_false, false_and, or_true, true_or, or_false, false_or, not_true_eq_false, not_false_eq_true, wr_of, uI_at, uC_at, q_bi_s, q_bl_s, q_br_s, q_bv_s, Int.toNat_natCast, tn_1, tn_m, tn_n, Int.toNat_zero, Int.toNat_one, x1, e218_64]
    refine ⟨I3, ?_, ?_, FrA_tr x3 y3 (Nat.le_refl _) (Nat.le_refl _) (Nat.le_refl _) (Nat.le_refl _)⟩
    · rw [← y1, show (((r + 1 : Nat) : Int) + -1) = (r : Int) by omega]
    · rw [List.replicate_succ, show xs ++ 1 :: List.replicate r 1 = xs ++ [1] ++ List.replicate r 1 by simp]; exact y2
theorem c_giveOf (A : AId a N) (hp : p + 60 ≤ N) {xs : List Nat} (H : LA I a p xs) (S : SD xs) (P : PS xs) (hs : xs.sum ≤ 60) (h0 : xs ≠ []) : ∃ I', q_E (218, 0, [vr 265, vr a, vi (p : Int), vu, vu, vu], []) (qk t u I J) = some (vu, qk t u I' J) ∧ LA I' a p (giv (xs.getD 0 0) xs.tail) ∧ FrA a p (p + 60) I I' := by
  have hl := len_sum P
  have hl0 : 0 < xs.length := by cases e : xs with | nil => exact absurd e h0 | cons a l => simp
  have m := c_manyOf (t := t) (u := u) (J := J) A hp H P (by omega)
  obtain ⟨a1, a2, a3⟩ := id A
  have tl : xs.tail.length = xs.length - 1 := List.length_tail
  have tg : ∀ i, xs.tail.getD i 0 = xs.getD (i + 1) 0 := fun i => by cases xs <;> simp
  have ts := tail_sum (l := xs)
  have tls : xs.tail.length ≤ xs.tail.sum := len_sum (PS_tail P)
  have v0 := H 0 (by omega)
  -- the raised ones
  have loop : ∀ (r i : Nat) (I1 : Nat → Nat → Int), i + r = min (xs.getD 0 0) (xs.length - 1) → FrA a p (p + 60) I I1 → I1 a p = 0 → (∀ j, 1 ≤ j → j < 60 → I1 a (p + j) = if j ≤ i then ((xs.getD j 0 + 1 : Nat) : Int) else (xs.getD j 0 : Int)) → ∃ I', q_E (218, 18, [vu, vr a, vi (p : Int), vi (xs.length : Int), vi ((xs.getD 0 0 : Int) - (i : Int)), vi ((i : Int) + 1)], []) (qk t u I1 J) = some (vu, qk t u I' J) ∧ LA I' a p (giv (xs.getD 0 0) xs.tail) ∧ FrA a p (p + 60) I I' := by
    intro r
    induction r with
    | zero =>
      intro i I1 hi F z0 e
      have L1 : LA I1 a p (0 :: rg xs.tail.length (fun j => xs.tail.getD j 0 + if j < xs.getD 0 0 then 1 else 0)) := fun j hj => by
        cases j with
        | zero => rw [List.getD_cons_zero, Nat.add_zero, z0]; rfl
        | succ j =>
          rw [List.getD_cons_succ, e (j + 1) (by omega) hj]
          by_cases q : j < xs.tail.length
          · rw [rg_at q, tg]
            by_cases y : j < xs.getD 0 0
            · rw [if_pos y, if_pos (by omega)]
            · rw [if_neg y, if_neg (by omega)]; rfl
          · rw [if_neg (by omega), gD_ge (l := xs) (by omega), gD_ge (by rw [rg_len]; omega)]
      have gs := giv_sd (a := xs.getD 0 0) (SD_tail S) (PS_tail P)
      have gp := giv_ps (a := xs.getD 0 0) (PS_tail P)
      have gv : giv (xs.getD 0 0) xs.tail = rg xs.tail.length (fun j => xs.tail.getD j 0 + if j < xs.getD 0 0 then 1 else 0) ++ List.replicate (xs.getD 0 0 - xs.tail.length) 1 := rfl
      have gsum := giv_sum (xs.getD 0 0) xs.tail
      rw [gv] at gs gp
      have rp : PS (rg xs.tail.length (fun j => xs.tail.getD j 0 + if j < xs.getD 0 0 then 1 else 0)) := fun a ha => gp a (List.mem_append.mpr (Or.inl ha))
      have rs : SD (rg xs.tail.length (fun j => xs.tail.getD j 0 + if j < xs.getD 0 0 then 1 else 0)) := List.Pairwise.sublist (List.sublist_append_left _ _) gs
      have e0 : pos (0 :: rg xs.tail.length (fun j => xs.tail.getD j 0 + if j < xs.getD 0 0 then 1 else 0)) = rg xs.tail.length (fun j => xs.tail.getD j 0 + if j < xs.getD 0 0 then 1 else 0) := by
        show List.filter _ _ = _
        rw [List.filter_cons_of_neg (by simp)]
        exact pos_id rp
      obtain ⟨I2, x1, x2, x3⟩ := c_sortOf (t := t) (u := u) (J := J) A hp L1 (by rw [List.length_cons, rg_len]; omega) (fun j => by
        cases j with
        | zero => rw [List.getD_cons_zero]; omega
        | succ j =>
          rw [List.getD_cons_succ]
          by_cases q : j < xs.tail.length
          · rw [rg_at q]
            have := gD_sum (l := xs.tail) j
            split <;> omega
          · rw [gD_ge (by rw [rg_len]; omega)]; omega) rs rp (by rw [e0])
      have left : (xs.getD 0 0 : Int) - (i : Int) = ((xs.getD 0 0 - xs.tail.length : Nat) : Int) := by omega
      obtain ⟨I3, y1, y2, y3⟩ := c_lay1s (t := t) (u := u) (J := J) A hp (xs.getD 0 0 - xs.tail.length) _ I2 x2 rp (by rw [rg_len]; omega)
      refine ⟨I3, ?_, y2, FrA_tr F (FrA_tr x3 y3 (Nat.le_refl _) (Nat.le_refl _) (Nat.le_refl _) (Nat.le_refl _)) (Nat.le_refl _) (Nat.le_refl _) (Nat.le_refl _) (Nat.le_refl _)⟩
      rw [e218_18, left]
      by_cases q : (i : Int) + 1 < (xs.length : Int)
      · simp (disch := omega) only [↓reduceIte, lt_TI, lt_FI, le_TI, le_FI, eq_TI, eq_FI, lt_TN, lt_FN, le_TN, le_FN, eq_TN, eq_FN, and_self, and_true, true_and, and_false, false_and, or_true, true_or, or_false, false_or, not_true_eq_false, not_false_eq_true, wr_of, uI_at, uC_at, q_bi_s, q_bl_s, q_br_s, q_bv_s, Int.toNat_natCast, tn_1, tn_m, tn_n, Int.toNat_zero, Int.toNat_one, x1]
        exact y1
      · simp (disch := omega) only [↓reduceIte, lt_TI, lt_FI, le_TI, le_FI, eq_TI, eq_FI, lt_TN, lt_FN, le_TN, le_FN, eq_TN, eq_FN, and_self, and_true, true_and, and_false, false_and, or_true, true_or, or_false, false_or, not_true_eq_false, not_false_eq_true, wr_of, uI_at, uC_at, q_bi_s, q_bl_s, q_br_s, q_bv_s, Int.toNat_natCast, tn_1, tn_m, tn_n, Int.toNat_zero, Int.toNat_one, x1]
        exact y1
    | succ r ih =>
      intro i I1 hi F z0 e
      have v := e (i + 1) (by omega) (by omega)
      rw [if_neg (by omega)] at v
      have gb := gD_sum (l := xs) (i + 1)
      have gb0 := gD_sum (l := xs) 0
      have tt : ((p : Int) + ((i : Int) + 1)).toNat = p + (i + 1) := by omega
      obtain ⟨I2, y1, y2⟩ := ih (i + 1) (uI I1 a (p + (i + 1)) ((xs.getD (i + 1) 0 : Int) + 1)) (by omega) (FrA_uI F (by omega) (by omega)) (by rw [uI_ne (Or.inr (by omega))]; exact z0) (fun j h1 h2 => by
        by_cases q : j = i + 1
        · subst q; rw [uI_at, if_pos ⟨rfl, rfl⟩, if_pos (by omega)]; rfl
        · rw [uI_ne (Or.inr (by omega)), e j h1 h2]
          by_cases z : j ≤ i
          · rw [if_pos z, if_pos (by omega)]
          · rw [if_neg z, if_neg (by omega)])
      refine ⟨I2, ?_, y2⟩
      rw [← y1, e218_18]
      simp (disch := omega) only [↓reduceIte, lt_TI, lt_FI, le_TI, le_FI, eq_TI, eq_FI, lt_TN, lt_FN, le_TN, le_FN, eq_TN, eq_FN, and_self, and_true, true_and, and_false, false_and, or_true, true_or, or_false, false_or, not_true_eq_false, not_false_eq_true, wr_of, uI_at, uC_at, q_bi_s, q_bl_s, q_br_s, q_bv_s, Int.toNat_natCast, tn_1, tn_m, tn_n, Int.toNat_zero, Int.toNat_one, a1, a2, tt, v]
      rw [show ((xs.getD 0 0 : Int) - (i : Int) + -1) = (xs.getD 0 0 : Int) - ((i + 1 : Nat) : Int) by omega]
      rfl
  rw [Nat.add_zero] at v0
  obtain ⟨I2, x1, x2, x3⟩ := loop (min (xs.getD 0 0) (xs.length - 1)) 0 (uI I a p 0) (by omega) (FrA_uI FrA_rf (by omega) (by omega)) (if_pos ⟨rfl, rfl⟩) (fun j h1 h2 => by rw [if_neg (by omega), uI_ne (Or.inr (by omega))]; exact H j h2)
  refine ⟨I2, ?_, x2, x3⟩
  rw [← x1]
  simp (disch := omega) only [↓reduceIte, lt_TI, lt_FI, le_TI, le_FI, eq_TI, eq_FI, lt_TN, lt_FN, le_TN, le_FN, eq_TN, eq_FN, and_self, and_true, true_and, and_false, false_and, or_true, true_or, or_false, false_or, not_true_eq_false, not_false_eq_true, wr_of, uI_at, uC_at, q_bi_s, q_bl_s, q_br_s, q_bv_s, Int.toNat_natCast, tn_1, tn_m, tn_n, Int.toNat_zero, Int.toNat_one, e218_0, m, e218_5, a1, a2, v0, Int.natCast_zero, Int.sub_zero, Int.zero_add]
end

/-! Guesses' answers; Shapes -/
def GF (I : Nat → Nat → Int) (F : List Nat) : Prop := I 227 1 = (F.length : Int) ∧ (∀ i, i < F.length → I 228 i = (F.getD i 0 : Int)) ∧ F.length ≤ 16 ∧ ∀ f ∈ F, f < 16
theorem GAt_F {I : Nat → Nat → Int} {T : Tt} (G : GAt I T) (h : tU T ≤ 4) : GF I (fitL T) := ⟨G.1, G.2.1, fit_len h, fun f hf => by have := fit_lt hf; have := pow_le_16 h; omega⟩
theorem b_or16 : ∀ s : Nat, s < 16 → ∀ u : Nat, u < 16 → s ||| u < 16 := by decide +kernel
theorem b_and16 : ∀ s : Nat, s < 16 → ∀ u : Nat, u < 16 → s &&& u < 16 := by decide +kernel
def askI (F : List Nat) (n : Nat) : Int := if F = [] then -2 else bstI F n
theorem bstI_lt (F : List Nat) : ∀ n, bstI F n = -2 ∨ ∃ k : Nat, k < n ∧ bstI F n = (k : Int)
  | 0 => Or.inl rfl
  | n + 1 => by
    unfold bstI
    split
    · exact Or.inr ⟨n, by omega, rfl⟩
    · rcases bstI_lt F n with h | ⟨k, h1, h2⟩
      · exact Or.inl h
      · exact Or.inr ⟨k, by omega, h2⟩
section
variable {t u : Nat} {I J : Nat → Nat → Int} {F : List Nat}
theorem c_inSome (G : GF I F) : q_E (16, 0, [vr 227, vu, vu], []) (qk t u I J) = some (vi (someL F : Int), qk t u I J) := by
  obtain ⟨g1, g2, g3, g4⟩ := G
  have loop : ∀ n i acc : Nat, i + n = F.length → acc < 16 → q_E (16, 4, [vr 227, vi (acc : Int), vi (i : Int)], []) (qk t u I J) = some (vi (((F.drop i).foldl (fun a b => a ||| b) acc : Nat) : Int), qk t u I J) := by
    intro n
    induction n with
    | zero =>
      intro i acc hi ha
      rw [e16_4, List.drop_of_length_le (by omega)]
      simp (disch := omega) only [↓reduceIte, lt_TI, lt_FI, le_TI, le_FI, eq_TI, eq_FI, lt_TN, lt_FN, le_TN, le_FN, eq_TN, eq_FN, and_self, and_true, true_and, and_false, false_and, or_true, true_or, or_false, false_or, not_true_eq_false, not_false_eq_true, wr_of, uI_at, uC_at, q_bi_s, q_bl_s, q_br_s, q_bv_s, Int.toNat_natCast, tn_1, tn_m, tn_n, Int.toNat_zero, Int.toNat_one, g1]
      rfl
    | succ n ih =>
      intro i acc hi ha
      have hf := g4 _ (gD_mem (show i < F.length by omega))
      rw [e16_4, gD_drop (show i < F.length by omega)]
      simp (disch := omega) only [↓reduceIte, lt_TI, lt_FI, le_TI, le_FI, eq_TI, eq_FI, lt_TN, lt_FN, le_TN, le_FN, eq_TN, eq_FN, and_self, and_true, true_and, and_false, false_and, or_true, true_or, or_false, false_or, not_true_eq_false, not_false_eq_true, wr_of, uI_at, uC_at, q_bi_s, q_bl_s, q_br_s, q_bv_s, Int.toNat_natCast, tn_1, tn_m, tn_n, Int.toNat_zero, Int.toNat_one, g1, g2 i (by omega), b_or acc ha _ hf]
      exact ih (i + 1) _ (by omega) (b_or16 acc ha _ hf)
  rw [e16_0]
  exact loop F.length 0 0 (by omega) (by omega)
theorem c_inAll (G : GF I F) : q_E (17, 0, [vr 227, vu, vu], []) (qk t u I J) = some (vi (allL F : Int), qk t u I J) := by
  obtain ⟨g1, g2, g3, g4⟩ := G
  have loop : ∀ n i acc : Nat, i + n = F.length → acc < 16 → q_E (17, 20, [vr 227, vi (acc : Int), vi (i : Int)], []) (qk t u I J) = some (vi (((F.drop i).foldl (fun a b => a &&& b) acc : Nat) : Int), qk t u I J) := by
    intro n
    induction n with
    | zero =>
      intro i acc hi ha
      rw [e17_20, List.drop_of_length_le (by omega)]
      simp (disch := omega) only [↓reduceIte, lt_TI, lt_FI, le_TI, le_FI, eq_TI, eq_FI, lt_TN, lt_FN, le_TN, le_FN, eq_TN, eq_FN, and_self, and_true, true_and, and_false, false_and, or_true, true_or, or_false, false_or, not_true_eq_false, not_false_eq_true, wr_of, uI_at, uC_at, q_bi_s, q_bl_s, q_br_s, q_bv_s, Int.toNat_natCast, tn_1, tn_m, tn_n, Int.toNat_zero, Int.toNat_one, g1]
      rfl
    | succ n ih =>
      intro i acc hi ha
      have hf := g4 _ (gD_mem (show i < F.length by omega))
      rw [e17_20, gD_drop (show i < F.length by omega)]
      simp (disch := omega) only [↓reduceIte, lt_TI, lt_FI, le_TI, le_FI, eq_TI, eq_FI, lt_TN, lt_FN, le_TN, le_FN, eq_TN, eq_FN, and_self, and_true, true_and, and_false, false_and, or_true, true_or, or_false, false_or, not_true_eq_false, not_false_eq_true, wr_of, uI_at, uC_at, q_bi_s, q_bl_s, q_br_s, q_bv_s, Int.toNat_natCast, tn_1, tn_m, tn_n, Int.toNat_zero, Int.toNat_one, g1, g2 i (by omega), b_and acc ha _ hf]
      exact ih (i + 1) _ (by omega) (b_and16 acc ha _ hf)
  rw [e17_0]
  unfold allL
  cases hF : F with
  | nil =>
    subst hF
    simp (disch := omega) only [↓reduceIte, lt_TI, lt_FI, le_TI, le_FI, eq_TI, eq_FI, lt_TN, lt_FN, le_TN, le_FN, eq_TN, eq_FN, and_self, and_true, true_and, and_false, false_and, or_true, true_or, or_false, false_or, not_true_eq_false, not_false_eq_true, wr_of, uI_at, uC_at, q_bi_s, q_bl_s, q_br_s, q_bv_s, Int.toNat_natCast, tn_1, tn_m, tn_n, Int.toNat_zero, Int.toNat_one, g1, List.length_nil, Int.natCast_zero]
    rw [e17_20]
    simp (disch := omega) only [↓reduceIte, lt_TI, lt_FI, le_TI, le_FI, eq_TI, eq_FI, lt_TN, lt_FN, le_TN, le_FN, eq_TN, eq_FN, and_self, and_true, true_and, and_false, false_and, or_true, true_or, or_false, false_or, not_true_eq_false, not_false_eq_true, wr_of, uI_at, uC_at, q_bi_s, q_bl_s, q_br_s, q_bv_s, Int.toNat_natCast, tn_1, tn_m, tn_n, Int.toNat_zero, Int.toNat_one, g1, List.length_nil, Int.natCast_zero]
    rfl
  | cons a l =>
    have hl : F.length = l.length + 1 := by rw [hF]; rfl
    have e := loop l.length 1 (F.getD 0 0) (by omega) (g4 _ (gD_mem (by omega)))
    rw [← hF]
    simp (disch := omega) only [↓reduceIte, lt_TI, lt_FI, le_TI, le_FI, eq_TI, eq_FI, lt_TN, lt_FN, le_TN, le_FN, eq_TN, eq_FN, and_self, and_true, true_and, and_false, false_and, or_true, true_or, or_false, false_or, not_true_eq_false, not_false_eq_true, wr_of, uI_at, uC_at, q_bi_s, q_bl_s, q_br_s, q_bv_s, Int.toNat_natCast, tn_1, tn_m, tn_n, Int.toNat_zero, Int.toNat_one, g1, g2 0 (by omega)]
    rw [List.drop_one] at e
    exact e
theorem c_left (G : GF I F) {v : Nat} (hv : v < 4) : q_E (18, 0, [vr 227, vi (v : Int), vu, vu], []) (qk t u I J) = some (vi (lvs F v : Int), qk t u I J) := by
  obtain ⟨g1, g2, g3, g4⟩ := G
  have loop : ∀ n i : Nat, i + n = F.length → q_E (18, 4, [vr 227, vi (v : Int), vi ((F.take i).countP (fun s => decide (bt s v = 1)) : Int), vi (i : Int)], []) (qk t u I J) = some (vi (lvs F v : Int), qk t u I J) := by
    intro n
    induction n with
    | zero =>
      intro i hi
      have e : F.take i = F := List.take_of_length_le (by omega)
      have hc : F.countP (fun s => decide (bt s v = 1)) ≤ F.length := List.countP_le_length
      rw [e18_4, e]
      unfold lvs wth
      by_cases q : F.countP (fun s => decide (bt s v = 1)) < F.length - F.countP (fun s => decide (bt s v = 1))
      · rw [Nat.max_eq_right (by omega)]
        simp (disch := omega) only [↓reduceIte, lt_TI, lt_FI, le_TI, le_FI, eq_TI, eq_FI, lt_TN, lt_FN, le_TN, le_FN, eq_TN, eq_FN, and_self, and_true, true_and, and_false, false_and, or_true, true_or, or_false, false_or, not_true_eq_false, not_false_eq_true, wr_of, uI_at, uC_at, q_bi_s, q_bl_s, q_br_s, q_bv_s, Int.toNat_natCast, tn_1, tn_m, tn_n, Int.toNat_zero, Int.toNat_one, g1]
        rw [show ((F.length : Int) - (F.countP (fun s => decide (bt s v = 1)) : Int)) = ((F.length - F.countP (fun s => decide (bt s v = 1)) : Nat) : Int) by omega]
      · rw [Nat.max_eq_left (by omega)]
        simp (disch := omega) only [↓reduceIte, lt_TI, lt_FI, le_TI, le_FI, eq_TI, eq_FI, lt_TN, lt_FN, le_TN, le_FN, eq_TN, eq_FN, and_self, and_true, true_and, and_false, false_and, or_true, true_or, or_false, false_or, not_true_eq_false, not_false_eq_true, wr_of, uI_at, uC_at, q_bi_s, q_bl_s, q_br_s, q_bv_s, Int.toNat_natCast, tn_1, tn_m, tn_n, Int.toNat_zero, Int.toNat_one, g1]
    | succ n ih =>
      intro i hi
      have hf := g4 _ (gD_mem (show i < F.length by omega))
      have hc : (F.take i).countP (fun s => decide (bt s v = 1)) ≤ (F.take i).length := List.countP_le_length
      rw [List.length_take] at hc
      have hb := bt_01 (F.getD i 0) v
      rw [e18_4]
      simp (disch := omega) only [↓reduceIte, lt_TI, lt_FI, le_TI, le_FI, eq_TI, eq_FI, lt_TN, lt_FN, le_TN, le_FN, eq_TN, eq_FN, and_self, and_true, true_and, and_false, false_and, or_true, true_or, or_false, false_or, not_true_eq_false, not_false_eq_true, wr_of, uI_at, uC_at, q_bi_s, q_bl_s, q_br_s, q_bv_s, Int.toNat_natCast, tn_1, tn_m, tn_n, Int.toNat_zero, Int.toNat_one, g1, g2 i (by omega), b_bit _ hf v hv]
      have e := ih (i + 1) (by omega)
      rw [gD_take (show i < F.length by omega), List.countP_append, List.countP_singleton] at e
      rw [← e]
      rcases hb with q | q
      · rw [q]; rfl
      · rw [q]; rfl
  rw [e18_0]
  exact loop F.length 0 (by omega)
theorem c_bestAsked (G : GF I F) {n : Nat} (hn : n ≤ 4) : q_E (19, 0, [vr 227, vi (n : Int), vu, vu], []) (qk t u I J) = some (vi (askI F n), qk t u I J) := by
  have G' := G
  obtain ⟨g1, g2, g3, g4⟩ := G
  rw [e19_0]
  unfold askI
  by_cases hF : F = []
  · rw [if_pos hF, e19_5]
    subst hF
    simp (disch := omega) only [↓reduceIte, lt_TI, lt_FI, le_TI, le_FI, eq_TI, eq_FI, lt_TN, lt_FN, le_TN, le_FN, eq_TN, eq_FN, and_self, and_true, true_and, and_false, false_and, or_true, true_or, or_false, false_or, not_true_eq_false, not_false_eq_true, wr_of, uI_at, uC_at, q_bi_s, q_bl_s, q_br_s, q_bv_s, Int.toNat_natCast, tn_1, tn_m, tn_n, Int.toNat_zero, Int.toNat_one, g1, List.length_nil, Int.natCast_zero]
    split <;> rfl
  · rw [if_neg hF]
    have hl : 0 < F.length := by cases h : F with | nil => exact absurd h hF | cons a l => simp
    have loop : ∀ r i : Nat, i + r = n → q_E (19, 5, [vr 227, vi (n : Int), vi (bstI F i), vi (i : Int)], []) (qk t u I J) = some (vi (bstI F n), qk t u I J) := by
      intro r
      induction r with
      | zero =>
        intro i hi
        have e : i = n := by omega
        subst e
        rw [e19_5]
        simp (disch := omega) only [↓reduceIte, lt_TI, lt_FI, le_TI, le_FI, eq_TI, eq_FI, lt_TN, lt_FN, le_TN, le_FN, eq_TN, eq_FN, and_self, and_true, true_and, and_false, false_and, or_true, true_or, or_false, false_or, not_true_eq_false, not_false_eq_true, wr_of, uI_at, uC_at, q_bi_s, q_bl_s, q_br_s, q_bv_s, Int.toNat_natCast, tn_1, tn_m, tn_n, Int.toNat_zero, Int.toNat_one]
      | succ r ih =>
        intro i hi
        have e := ih (i + 1) (by omega)
        have eb : bstI F (i + 1) = if bstI F i = -2 ∨ lvs F i < lvs F (bstI F i).toNat then (i : Int) else bstI F i := rfl
        rw [e19_5]
        rcases bstI_lt F i with h | ⟨k, h1, h2⟩
        · rw [eb, if_pos (Or.inl h)] at e
          simp (disch := omega) only [↓reduceIte, lt_TI, lt_FI, le_TI, le_FI, eq_TI, eq_FI, lt_TN, lt_FN, le_TN, le_FN, eq_TN, eq_FN, and_self, and_true, true_and, and_false, false_and, or_true, true_or, or_false, false_or, not_true_eq_false, not_false_eq_true, wr_of, uI_at, uC_at, q_bi_s, q_bl_s, q_br_s, q_bv_s, Int.toNat_natCast, tn_1, tn_m, tn_n, Int.toNat_zero, Int.toNat_one, g1, h]
          exact e
        · rw [h2, Int.toNat_natCast] at eb
          have hb : lvs F i ≤ 16 := by unfold lvs wth; have := List.countP_le_length (p := fun s => decide (bt s i = 1)) (l := F); omega
          simp (disch := omega) only [↓reduceIte, lt_TI, lt_FI, le_TI, le_FI, eq_TI, eq_FI, lt_TN, lt_FN, le_TN, le_FN, eq_TN, eq_FN, and_self, and_true, true_and, and_false, false_and, or_true, true_or, or_false, false_or, not_true_eq_false, not_false_eq_true, wr_of, uI_at, uC_at, q_bi_s, q_bl_s, q_br_s, q_bv_s, Int.toNat_natCast, tn_1, tn_m, tn_n, Int.toNat_zero, Int.toNat_one, g1, h2, c_left G' (v := i) (by omega)]
          rw [e19_28, c_left G' (v := k) (by omega)]
          simp (disch := omega) only [↓reduceIte, lt_TI, lt_FI, le_TI, le_FI, eq_TI, eq_FI, lt_TN, lt_FN, le_TN, le_FN, eq_TN, eq_FN, and_self, and_true, true_and, and_false, false_and, or_true, true_or, or_false, false_or, not_true_eq_false, not_false_eq_true, wr_of, uI_at, uC_at, q_bi_s, q_bl_s, q_br_s, q_bv_s, Int.toNat_natCast, tn_1, tn_m, tn_n, Int.toNat_zero, Int.toNat_one]
          rw [e19_33]
          by_cases q : lvs F i < lvs F k
          · rw [eb, if_pos (Or.inr q)] at e
            simp (disch := omega) only [↓reduceIte, lt_TI, lt_FI, le_TI, le_FI, eq_TI, eq_FI, lt_TN, lt_FN, le_TN, le_FN, eq_TN, eq_FN, and_self, and_true, true_and, and_false, false_and, or_true, true_or, or_false, false_or, not_true_eq_false, not_false_eq_true, wr_of, uI_at, uC_at, q_bi_s, q_bl_s, q_br_s, q_bv_s, Int.toNat_natCast, tn_1, tn_m, tn_n, Int.toNat_zero, Int.toNat_one]
            exact e
          · rw [eb, if_neg (fun z => z.elim (fun w => by omega) q)] at e
            simp (disch := omega) only [↓reduceIte, lt_TI, lt_FI, le_TI, le_FI, eq_TI, eq_FI, lt_TN, lt_FN, le_TN, le_FN, eq_TN, eq_FN, and_self, and_true, true_and, and_false, false_and, or_true, true_or, or_false, false_or, not_true_eq_false, not_false_eq_true, wr_of, uI_at, uC_at, q_bi_s, q_bl_s, q_br_s, q_bv_s, Int.toNat_natCast, tn_1, tn_m, tn_n, Int.toNat_zero, Int.toNat_one]
            exact e
    exact loop n 0 (by omega)
end
def isF (l : List Nat) (i : Nat) : Bool := decide (i = 0 ∨ l.getD i 0 ≠ l.getD (i - 1) 0)
def crF (l : List Nat) : Nat := (List.range l.length).countP (isF l)
def sqr (l : List Nat) : Nat := fsti (fun i => decide (l.getD i 0 ≤ i)) 60
def cnt (l : List Nat) (j : Nat) : Nat := l.countP (fun a => decide (j < a))
def hkI (l : List Nat) (i j : Nat) : Int := (l.getD i 0 : Int) - (j : Int) + (cnt l j : Int) - (i : Int) - 1
def cmn (l m : List Nat) : Nat := (rg 60 (fun i => min (l.getD i 0) (m.getD i 0))).sum
def mir (l m : List Nat) : Bool := (List.range 60).all (fun j => decide (cnt l j = m.getD j 0))
def cnw (l : List Nat) (i : Nat) : Bool := isF l i && decide (l.length ≤ l.getD i 0 + 1)
def srcN (l : List Nat) : Nat := if l = [] then 1 else (List.range l.length).countP (cnw l)
def kfst (l : List Nat) (k : Nat) : Nat := fsti (fun i => cnw l i && decide ((List.range i).countP (cnw l) = k)) l.length
def hbf (l : List Nat) (f i : Nat) : Nat := if i + 1 < l.length then (if i < f then l.getD i 0 else l.getD (i + 1) 0) + 1 else if i < l.getD f 0 then 1 else 0
def srcH (l : List Nat) (k i : Nat) : Nat := if kfst l k < l.length then hbf l (kfst l k) i else 0
theorem cr_s (p : Nat → Bool) (n : Nat) : (List.range (n + 1)).countP p = (List.range n).countP p + if p n then 1 else 0 := by
  rw [List.range_succ, List.countP_append, List.countP_singleton]
theorem cr_le (p : Nat → Bool) (n : Nat) : (List.range n).countP p ≤ n := by
  have := List.countP_le_length (p := p) (l := List.range n)
  rw [List.length_range] at this; exact this
theorem cnt_le (l : List Nat) (j : Nat) : cnt l j ≤ l.length := List.countP_le_length
theorem cnt_gt {l : List Nat} (h : SD l) (i j : Nat) : i < cnt l j ↔ j < l.getD i 0 := by
  have key : ∃ k, k ≤ l.length ∧ (∀ i, i < k → j < l.getD i 0) ∧ (k < l.length → l.getD k 0 ≤ j) := by
    refine ⟨fsti (fun i => decide (l.getD i 0 ≤ j)) l.length, fsti_le _ _, fun i hi => ?_, fun hk => ?_⟩
    · have := of_decide_eq_false (fsti_f l.length (fun i => decide (l.getD i 0 ≤ j)) i hi); omega
    · exact of_decide_eq_true (fsti_t l.length (fun i => decide (l.getD i 0 ≤ j)) hk)
  obtain ⟨k, h1, h2, h3⟩ := key
  have e : cnt l j = k := cnt_at h h1 h2 h3
  rw [e]
  constructor
  · exact h2 i
  · intro q
    by_cases z : i < k
    · exact z
    · by_cases y : k < l.length
      · have := h3 y
        have := SD_gD h (show k ≤ i by omega)
        omega
      · rw [gD_ge (by omega)] at q; omega
theorem hk_rng {l : List Nat} (h : SD l) (hp : PS l) {i j : Nat} (hi : i < l.length) (hj : j < l.getD i 0) : ∃ n : Nat, hkI l i j = (n : Int) ∧ 1 ≤ n ∧ n ≤ l.sum := by
  have c := (cnt_gt h i j).mpr hj
  have cl := cnt_le l j
  have d := len_sum (fun a ha => hp a (List.mem_of_mem_drop ha) : PS (l.drop (i + 1)))
  rw [List.length_drop] at d
  have s := sum_drop hi
  have s2 := sum_drop_le (l := l) i
  refine ⟨(l.getD i 0 - j) + (cnt l j - i) - 1, ?_, by omega, by omega⟩
  unfold hkI
  omega
section
variable {t u : Nat} {I J : Nat → Nat → Int} {h : Nat} {xs : List Nat} {k : Nat}
theorem c_square (H : HAt I h xs k) (S : SD xs) (hs : xs.sum ≤ 60) : q_E (59, 0, [vr h, vu], []) (qk t u I J) = some (vi (sqr xs : Int), qk t u I J) := by
  have H' := H
  obtain ⟨⟨k1, k2, k3, _, _, k5⟩, h1, h2, h3, h4⟩ := H
  have loop : ∀ n i : Nat, i + n = xs.length → (∀ a, a < i → a < xs.getD a 0) → q_E (59, 2, [vr h, vi (i : Int)], []) (qk t u I J) = some (vi (sqr xs : Int), qk t u I J) := by
    intro n
    induction n with
    | zero =>
      intro i hi ha
      have e : sqr xs = i := fsti_eq (by omega) (fun a q => decide_eq_false (by have := ha a q; omega)) (fun _ => decide_eq_true (by rw [gD_ge (by omega)]; omega))
      rw [e59_2, e]
      simp (disch := omega) only [↓reduceIte, lt_TI, lt_FI, le_TI, le_FI, eq_TI, eq_FI, lt_TN, lt_FN, le_TN, le_FN, eq_TN, eq_FN, and_self, and_true, true_and, and_false, false_and, or_true, true_or, or_false, false_or, not_true_eq_false, not_false_eq_true, wr_of, uI_at, uC_at, q_bi_s, q_bl_s, q_br_s, q_bv_s, Int.toNat_natCast, tn_1, tn_m, tn_n, Int.toNat_zero, Int.toNat_one, k1, h1]
    | succ n ih =>
      intro i hi ha
      have b := gD_sum (l := xs) i
      rw [e59_2]
      simp (disch := omega) only [↓reduceIte, lt_TI, lt_FI, le_TI, le_FI, eq_TI, eq_FI, lt_TN, lt_FN, le_TN, le_FN, eq_TN, eq_FN, and_self, and_true, true_and, and_false, false_and, or_true, true_or, or_false, false_or, not_true_eq_false, not_false_eq_true, wr_of, uI_at, uC_at, q_bi_s, q_bl_s, q_br_s, q_bv_s, Int.toNat_natCast, tn_1, tn_m, tn_n, Int.toNat_zero, Int.toNat_one, k1, h1, c_heightAt H' i]
      rw [e59_15]
      by_cases q : i < xs.getD i 0
      · simp (disch := omega) only [↓reduceIte, lt_TI, lt_FI, le_TI, le_FI, eq_TI, eq_FI, lt_TN, lt_FN, le_TN, le_FN, eq_TN, eq_FN, and_self, and_true, true_and, and_false, false_and, or_true, true_or, or_false, false_or, not_true_eq_false, not_false_eq_true, wr_of, uI_at, uC_at, q_bi_s, q_bl_s, q_br_s, q_bv_s, Int.toNat_natCast, tn_1, tn_m, tn_n, Int.toNat_zero, Int.toNat_one]
        exact ih (i + 1) (by omega) (fun a hb => by
          by_cases z : a = i
          · rw [z]; exact q
          · exact ha a (by omega))
      · have e : sqr xs = i := fsti_eq (by omega) (fun a q => decide_eq_false (by have := ha a q; omega)) (fun _ => decide_eq_true (by omega))
        rw [e]
        simp (disch := omega) only [↓reduceIte, lt_TI, lt_FI, le_TI, le_FI, eq_TI, eq_FI, lt_TN, lt_FN, le_TN, le_FN, eq_TN, eq_FN, and_self, and_true, true_and, and_false, false_and, or_true, true_or, or_false, false_or, not_true_eq_false, not_false_eq_true, wr_of, uI_at, uC_at, q_bi_s, q_bl_s, q_br_s, q_bv_s, Int.toNat_natCast, tn_1, tn_m, tn_n, Int.toNat_zero, Int.toNat_one]
  rw [e59_0]
  exact loop xs.length 0 (by omega) (fun a q => by omega)
theorem c_isFirst (H : HAt I h xs k) {i : Nat} (hi : i < 100) : q_E (61, 0, [vr h, vi (i : Int)], []) (qk t u I J) = some (vi (if isF xs i = true then 1 else 0), qk t u I J) := by
  have k1 := H.1.1
  rw [e61_0]
  by_cases q : i = 0
  · rw [if_pos (show isF xs i = true from decide_eq_true (Or.inl q))]
    simp (disch := omega) only [↓reduceIte, lt_TI, lt_FI, le_TI, le_FI, eq_TI, eq_FI, lt_TN, lt_FN, le_TN, le_FN, eq_TN, eq_FN, and_self, and_true, true_and, and_false, false_and, or_true, true_or, or_false, false_or, not_true_eq_false, not_false_eq_true, wr_of, uI_at, uC_at, q_bi_s, q_bl_s, q_br_s, q_bv_s, Int.toNat_natCast, tn_1, tn_m, tn_n, Int.toNat_zero, Int.toNat_one]
  · simp (disch := omega) only [↓reduceIte, lt_TI, lt_FI, le_TI, le_FI, eq_TI, eq_FI, lt_TN, lt_FN, le_TN, le_FN, eq_TN, eq_FN, and_self, and_true, true_and, and_false, false_and, or_true, true_or, or_false, false_or, not_true_eq_false, not_false_eq_true, wr_of, uI_at, uC_at, q_bi_s, q_bl_s, q_br_s, q_bv_s, Int.toNat_natCast, tn_1, tn_m, tn_n, Int.toNat_zero, Int.toNat_one, k1, c_heightAt H i]
    rw [e61_9]
    simp (disch := omega) only [↓reduceIte, lt_TI, lt_FI, le_TI, le_FI, eq_TI, eq_FI, lt_TN, lt_FN, le_TN, le_FN, eq_TN, eq_FN, and_self, and_true, true_and, and_false, false_and, or_true, true_or, or_false, false_or, not_true_eq_false, not_false_eq_true, wr_of, uI_at, uC_at, q_bi_s, q_bl_s, q_br_s, q_bv_s, Int.toNat_natCast, tn_1, tn_m, tn_n, Int.toNat_zero, Int.toNat_one, k1]
    rw [show ((i : Int) - 1) = ((i - 1 : Nat) : Int) by omega, c_heightAt H (i - 1)]
    simp (disch := omega) only [↓reduceIte, lt_TI, lt_FI, le_TI, le_FI, eq_TI, eq_FI, lt_TN, lt_FN, le_TN, le_FN, eq_TN, eq_FN, and_self, and_true, true_and, and_false, false_and, or_true, true_or, or_false, false_or, not_true_eq_false, not_false_eq_true, wr_of, uI_at, uC_at, q_bi_s, q_bl_s, q_br_s, q_bv_s, Int.toNat_natCast, tn_1, tn_m, tn_n, Int.toNat_zero, Int.toNat_one]
    rw [e61_16]
    by_cases z : xs.getD i 0 = xs.getD (i - 1) 0
    · rw [if_neg (show ¬ isF xs i = true from fun w => (of_decide_eq_true w).elim q (fun w => w z))]
      simp (disch := omega) only [↓reduceIte, lt_TI, lt_FI, le_TI, le_FI, eq_TI, eq_FI, lt_TN, lt_FN, le_TN, le_FN, eq_TN, eq_FN, and_self, and_true, true_and, and_false, false_and, or_true, true_or, or_false, false_or, not_true_eq_false, not_false_eq_true, wr_of, uI_at, uC_at, q_bi_s, q_bl_s, q_br_s, q_bv_s, Int.toNat_natCast, tn_1, tn_m, tn_n, Int.toNat_zero, Int.toNat_one]
    · rw [if_pos (show isF xs i = true from decide_eq_true (Or.inr z))]
      simp (disch := omega) only [↓reduceIte, lt_TI, lt_FI, le_TI, le_FI, eq_TI, eq_FI, lt_TN, lt_FN, le_TN, le_FN, eq_TN, eq_FN, and_self, and_true, true_and, and_false, false_and, or_true, true_or, or_false, false_or, not_true_eq_false, not_false_eq_true, wr_of, uI_at, uC_at, q_bi_s, q_bl_s, q_br_s, q_bv_s, Int.toNat_natCast, tn_1, tn_m, tn_n, Int.toNat_zero, Int.toNat_one]
theorem c_corners (H : HAt I h xs k) : q_E (60, 0, [vr h, vu, vu], []) (qk t u I J) = some (vi (crF xs : Int), qk t u I J) := by
  have H' := H
  obtain ⟨⟨k1, k2, k3, _, _, k5⟩, h1, h2, h3, h4⟩ := H
  have loop : ∀ n i : Nat, i + n = xs.length → q_E (60, 4, [vr h, vi ((List.range i).countP (isF xs) : Int), vi (i : Int)], []) (qk t u I J) = some (vi (crF xs : Int), qk t u I J) := by
    intro n
    induction n with
    | zero =>
      intro i hi
      have e : i = xs.length := by omega
      subst e
      rw [e60_4]
      simp (disch := omega) only [↓reduceIte, lt_TI, lt_FI, le_TI, le_FI, eq_TI, eq_FI, lt_TN, lt_FN, le_TN, le_FN, eq_TN, eq_FN, and_self, and_true, true_and, and_false, false_and, or_true, true_or, or_false, false_or, not_true_eq_false, not_false_eq_true, wr_of, uI_at, uC_at, q_bi_s, q_bl_s, q_br_s, q_bv_s, Int.toNat_natCast, tn_1, tn_m, tn_n, Int.toNat_zero, Int.toNat_one, k1, h1]
      rfl
    | succ n ih =>
      intro i hi
      have b := cr_le (isF xs) i
      have e := ih (i + 1) (by omega)
      rw [cr_s] at e
      rw [e60_4]
      simp (disch := omega) only [↓reduceIte, lt_TI, lt_FI, le_TI, le_FI, eq_TI, eq_FI, lt_TN, lt_FN, le_TN, le_FN, eq_TN, eq_FN, and_self, and_true, true_and, and_false, false_and, or_true, true_or, or_false, false_or, not_true_eq_false, not_false_eq_true, wr_of, uI_at, uC_at, q_bi_s, q_bl_s, q_br_s, q_bv_s, Int.toNat_natCast, tn_1, tn_m, tn_n, Int.toNat_zero, Int.toNat_one, k1, h1, c_isFirst H' (i := i) (by omega)]
      rw [e60_17]
      cases q : isF xs i with
      | true => rw [q] at e; simp (disch := omega) only [↓reduceIte, lt_TI, lt_FI, le_TI, le_FI, eq_TI, eq_FI, lt_TN, lt_FN, le_TN, le_FN, eq_TN, eq_FN, and_self, and_true, true_and, and_false, false_and, or_true, true_or, or_false, false_or, not_true_eq_false, not_false_eq_true, wr_of, uI_at, uC_at, q_bi_s, q_bl_s, q_br_s, q_bv_s, Int.toNat_natCast, tn_1, tn_m, tn_n, Int.toNat_zero, Int.toNat_one]; exact e
      | false => rw [q] at e; simp (disch := omega) only [↓reduceIte, lt_TI, lt_FI, le_TI, le_FI, eq_TI, eq_FI, lt_TN, lt_FN, le_TN, le_FN, eq_TN, eq_FN, and_self, and_true, true_and, and_false, false_and, or_true, true_or, or_false, false_or, not_true_eq_false, not_false_eq_true, wr_of, uI_at, uC_at, q_bi_s, q_bl_s, q_br_s, q_bv_s, Int.toNat_natCast, tn_1, tn_m, tn_n, Int.toNat_zero, Int.toNat_one, Bool.false_eq_true]; exact e
  rw [e60_0]
  exact loop xs.length 0 (by omega)
theorem c_hookOf (H : HAt I h xs k) (S : SD xs) (hs : xs.sum ≤ 60) {i j : Nat} (hi : i < 100) (hj : j < 100) : q_E (62, 0, [vr h, vi (i : Int), vi (j : Int)], []) (qk t u I J) = some (vi (hkI xs i j), qk t u I J) := by
  have k1 := H.1.1
  have b := gD_sum (l := xs) i
  have c := cnt_le xs j
  have l := H.2.2.2.1
  rw [e62_0]
  simp (disch := omega) only [↓reduceIte, lt_TI, lt_FI, le_TI, le_FI, eq_TI, eq_FI, lt_TN, lt_FN, le_TN, le_FN, eq_TN, eq_FN, and_self, and_true, true_and, and_false, false_and, or_true, true_or, or_false, false_or, not_true_eq_false, not_false_eq_true, wr_of, uI_at, uC_at, q_bi_s, q_bl_s, q_br_s, q_bv_s, Int.toNat_natCast, tn_1, tn_m, tn_n, Int.toNat_zero, Int.toNat_one, k1, c_heightAt H i]
  rw [e62_5]
  have ec := c_higherThan (t := t) (u := u) (J := J) H S j (by omega)
  simp (disch := omega) only [↓reduceIte, lt_TI, lt_FI, le_TI, le_FI, eq_TI, eq_FI, lt_TN, lt_FN, le_TN, le_FN, eq_TN, eq_FN, and_self, and_true, true_and, and_false, false_and, or_true, true_or, or_false, false_or, not_true_eq_false, not_false_eq_true, wr_of, uI_at, uC_at, q_bi_s, q_bl_s, q_br_s, q_bv_s, Int.toNat_natCast, tn_1, tn_m, tn_n, Int.toNat_zero, Int.toNat_one, k1, ec]
  rw [e62_12]
  unfold hkI
  unfold cnt at c ⊢
  simp (disch := omega) only [↓reduceIte, lt_TI, lt_FI, le_TI, le_FI, eq_TI, eq_FI, lt_TN, lt_FN, le_TN, le_FN, eq_TN, eq_FN, and_self, and_true, true_and, and_false, false_and, or_true, true_or, or_false, false_or, not_true_eq_false, not_false_eq_true, wr_of, uI_at, uC_at, q_bi_s, q_bl_s, q_br_s, q_bv_s, Int.toNat_natCast, tn_1, tn_m, tn_n, Int.toNat_zero, Int.toNat_one]
theorem c_inBoth {g : Nat} {ys : List Nat} {k' : Nat} (H : HAt I h xs k) (G : HAt I g ys k') (hs : xs.sum ≤ 60) : q_E (65, 0, [vr h, vr g, vu, vu], []) (qk t u I J) = some (vi (cmn xs ys : Int), qk t u I J) := by
  have H' := H
  have j1 := G.1.1
  obtain ⟨⟨k1, k2, k3, _, _, k5⟩, h1, h2, h3, h4⟩ := H
  have bnd : ∀ n, (rg n (fun i => min (xs.getD i 0) (ys.getD i 0))).sum ≤ (rg n (fun i => xs.getD i 0)).sum := by
    intro n
    induction n with
    | zero => exact Nat.le_refl _
    | succ n ih => rw [rg_sum_s, rg_sum_s]; omega
  have ext : ∀ n, xs.length ≤ n → (rg n (fun i => min (xs.getD i 0) (ys.getD i 0))).sum = (rg xs.length (fun i => min (xs.getD i 0) (ys.getD i 0))).sum := by
    intro n hn
    induction n with
    | zero => rw [show xs.length = 0 by omega]
    | succ n ih =>
      by_cases q : xs.length ≤ n
      · rw [rg_sum_s, ih q, gD_ge q, Nat.zero_min, Nat.add_zero]
      · rw [show xs.length = n + 1 by omega]
  have b60 : ∀ n, n ≤ xs.length → (rg n (fun i => xs.getD i 0)).sum ≤ 60 := by
    intro n hn
    have e : rg n (fun i => xs.getD i 0) = xs.take n := gD_ext (by rw [rg_len, List.length_take]; omega) (fun i hi => by rw [rg_len] at hi; rw [rg_at hi, gD_tk, if_pos hi])
    rw [e]
    have := List.sum_append_nat (l₁ := xs.take n) (l₂ := xs.drop n)
    rw [List.take_append_drop] at this
    omega
  have loop : ∀ n i : Nat, i + n = xs.length → q_E (65, 4, [vr h, vr g, vi ((rg i (fun i => min (xs.getD i 0) (ys.getD i 0))).sum : Int), vi (i : Int)], []) (qk t u I J) = some (vi (cmn xs ys : Int), qk t u I J) := by
    intro n
    induction n with
    | zero =>
      intro i hi
      have e : i = xs.length := by omega
      subst e
      rw [e65_4]
      unfold cmn
      rw [ext 60 h3]
      simp (disch := omega) only [↓reduceIte, lt_TI, lt_FI, le_TI, le_FI, eq_TI, eq_FI, lt_TN, lt_FN, le_TN, le_FN, eq_TN, eq_FN, and_self, and_true, true_and, and_false, false_and, or_true, true_or, or_false, false_or, not_true_eq_false, not_false_eq_true, wr_of, uI_at, uC_at, q_bi_s, q_bl_s, q_br_s, q_bv_s, Int.toNat_natCast, tn_1, tn_m, tn_n, Int.toNat_zero, Int.toNat_one, k1, h1]
    | succ n ih =>
      intro i hi
      have b1 := bnd i
      have b2 := b60 i (by omega)
      have b3 := gD_sum (l := xs) i
      have e := ih (i + 1) (by omega)
      rw [rg_sum_s] at e
      rw [e65_4]
      simp (disch := omega) only [↓reduceIte, lt_TI, lt_FI, le_TI, le_FI, eq_TI, eq_FI, lt_TN, lt_FN, le_TN, le_FN, eq_TN, eq_FN, and_self, and_true, true_and, and_false, false_and, or_true, true_or, or_false, false_or, not_true_eq_false, not_false_eq_true, wr_of, uI_at, uC_at, q_bi_s, q_bl_s, q_br_s, q_bv_s, Int.toNat_natCast, tn_1, tn_m, tn_n, Int.toNat_zero, Int.toNat_one, k1, h1, c_heightAt H' i]
      rw [e65_18]
      simp (disch := omega) only [↓reduceIte, lt_TI, lt_FI, le_TI, le_FI, eq_TI, eq_FI, lt_TN, lt_FN, le_TN, le_FN, eq_TN, eq_FN, and_self, and_true, true_and, and_false, false_and, or_true, true_or, or_false, false_or, not_true_eq_false, not_false_eq_true, wr_of, uI_at, uC_at, q_bi_s, q_bl_s, q_br_s, q_bv_s, Int.toNat_natCast, tn_1, tn_m, tn_n, Int.toNat_zero, Int.toNat_one, j1, c_heightAt G i]
      rw [e65_23]
      by_cases q : xs.getD i 0 < ys.getD i 0
      · rw [Nat.min_eq_left (by omega)] at e
        simp (disch := omega) only [↓reduceIte, lt_TI, lt_FI, le_TI, le_FI, eq_TI, eq_FI, lt_TN, lt_FN, le_TN, le_FN, eq_TN, eq_FN, and_self, and_true, true_and, and_false, false_and, or_true, true_or, or_false, false_or, not_true_eq_false, not_false_eq_true, wr_of, uI_at, uC_at, q_bi_s, q_bl_s, q_br_s, q_bv_s, Int.toNat_natCast, tn_1, tn_m, tn_n, Int.toNat_zero, Int.toNat_one]
        exact e
      · rw [Nat.min_eq_right (by omega)] at e
        simp (disch := omega) only [↓reduceIte, lt_TI, lt_FI, le_TI, le_FI, eq_TI, eq_FI, lt_TN, lt_FN, le_TN, le_FN, eq_TN, eq_FN, and_self, and_true, true_and, and_false, false_and, or_true, true_or, or_false, false_or, not_true_eq_false, not_false_eq_true, wr_of, uI_at, uC_at, q_bi_s, q_bl_s, q_br_s, q_bv_s, Int.toNat_natCast, tn_1, tn_m, tn_n, Int.toNat_zero, Int.toNat_one]
        exact e
  rw [e65_0]
  exact loop xs.length 0 (by omega)
theorem mir_iff {ys : List Nat} (S : SD xs) (hs : xs.sum ≤ 60) (hp : PS ys) (hy : ys.length ≤ 60) : mir xs ys = true ↔ (xs.getD 0 0 = ys.length ∧ ∀ j, j < ys.length → cnt xs j = ys.getD j 0) := by
  have hb := gD_sum (l := xs) 0
  unfold mir
  rw [List.all_eq_true]
  constructor
  · intro a
    have a' : ∀ j, j < 60 → cnt xs j = ys.getD j 0 := fun j hj => of_decide_eq_true (a j (List.mem_range.mpr hj))
    refine ⟨?_, fun j hj => a' j (by omega)⟩
    rcases Nat.lt_trichotomy (xs.getD 0 0) ys.length with q | q | q
    · have := a' (xs.getD 0 0) (by omega)
      have c := PS_gD hp q
      rw [← this] at c
      have := (cnt_gt S 0 (xs.getD 0 0)).mp c
      omega
    · exact q
    · have := a' ys.length (by omega)
      rw [gD_ge (Nat.le_refl _)] at this
      have := (cnt_gt S 0 ys.length).mpr q
      omega
  · intro ⟨a1, a2⟩ j hj
    refine decide_eq_true ?_
    by_cases q : j < ys.length
    · exact a2 j q
    · rw [gD_ge (l := ys) (by omega)]
      by_cases z : 0 < cnt xs j
      · have := (cnt_gt S 0 j).mp z; omega
      · omega
theorem c_areMirrors {g : Nat} {ys : List Nat} {k' : Nat} (H : HAt I h xs k) (G : HAt I g ys k') (S : SD xs) (hs : xs.sum ≤ 60) (hp : PS ys) (hs2 : ys.sum ≤ 60) : q_E (66, 0, [vr h, vr g, vu], []) (qk t u I J) = some (vi (if mir xs ys = true then 1 else 0), qk t u I J) := by
  have k1 := H.1.1
  have j1 := G.1.1
  have g1 := G.2.1
  have gl := G.2.2.2.1
  have hb := gD_sum (l := xs) 0
  have iff := mir_iff S hs hp gl
  rw [e66_0, show (vi (0 : Int)) = vi ((0 : Nat) : Int) from rfl]
  simp (disch := omega) only [↓reduceIte, lt_TI, lt_FI, le_TI, le_FI, eq_TI, eq_FI, lt_TN, lt_FN, le_TN, le_FN, eq_TN, eq_FN, and_self, and_true, true_and, and_false, false_and, or_true, true_or, or_false, false_or, not_true_eq_false, not_false_eq_true, wr_of, uI_at, uC_at, q_bi_s, q_bl_s, q_br_s, q_bv_s, Int.toNat_natCast, tn_1, tn_m, tn_n, Int.toNat_zero, Int.toNat_one, k1, c_heightAt H 0]
  rw [e66_5]
  by_cases q0 : xs.getD 0 0 = ys.length
  · simp (disch := omega) only [↓reduceIte, lt_TI, lt_FI, le_TI, le_FI, eq_TI, eq_FI, lt_TN, lt_FN, le_TN, le_FN, eq_TN, eq_FN, and_self, and_true, true_and, and_false, false_and, or_true, true_or, or_false, false_or, not_true_eq_false, not_false_eq_true, wr_of, uI_at, uC_at, q_bi_s, q_bl_s, q_br_s, q_bv_s, Int.toNat_natCast, tn_1, tn_m, tn_n, Int.toNat_zero, Int.toNat_one, j1, g1, q0]
    have loop : ∀ n i : Nat, i + n = ys.length → (∀ j, j < i → cnt xs j = ys.getD j 0) → q_E (66, 16, [vr h, vr g, vi (i : Int)], []) (qk t u I J) = some (vi (if mir xs ys = true then 1 else 0), qk t u I J) := by
      intro n
      induction n with
      | zero =>
        intro i hi e
        rw [e66_16, if_pos (iff.mpr ⟨q0, fun j hj => e j (by omega)⟩)]
        simp (disch := omega) only [↓reduceIte, lt_TI, lt_FI, le_TI, le_FI, eq_TI, eq_FI, lt_TN, lt_FN, le_TN, le_FN, eq_TN, eq_FN, and_self, and_true, true_and, and_false, false_and, or_true, true_or, or_false, false_or, not_true_eq_false, not_false_eq_true, wr_of, uI_at, uC_at, q_bi_s, q_bl_s, q_br_s, q_bv_s, Int.toNat_natCast, tn_1, tn_m, tn_n, Int.toNat_zero, Int.toNat_one, j1, g1]
      | succ n ih =>
        intro i hi e
        have ec := c_higherThan (t := t) (u := u) (J := J) H S i (by omega)
        have cl := cnt_le xs i
        have hl := H.2.2.2.1
        have gb := gD_sum (l := ys) i
        rw [e66_16]
        simp (disch := omega) only [↓reduceIte, lt_TI, lt_FI, le_TI, le_FI, eq_TI, eq_FI, lt_TN, lt_FN, le_TN, le_FN, eq_TN, eq_FN, and_self, and_true, true_and, and_false, false_and, or_true, true_or, or_false, false_or, not_true_eq_false, not_false_eq_true, wr_of, uI_at, uC_at, q_bi_s, q_bl_s, q_br_s, q_bv_s, Int.toNat_natCast, tn_1, tn_m, tn_n, Int.toNat_zero, Int.toNat_one, j1, g1, k1, ec]
        rw [e66_29]
        simp (disch := omega) only [↓reduceIte, lt_TI, lt_FI, le_TI, le_FI, eq_TI, eq_FI, lt_TN, lt_FN, le_TN, le_FN, eq_TN, eq_FN, and_self, and_true, true_and, and_false, false_and, or_true, true_or, or_false, false_or, not_true_eq_false, not_false_eq_true, wr_of, uI_at, uC_at, q_bi_s, q_bl_s, q_br_s, q_bv_s, Int.toNat_natCast, tn_1, tn_m, tn_n, Int.toNat_zero, Int.toNat_one, j1, c_heightAt G i]
        rw [e66_34]
        have ecn : xs.countP (fun a => decide (i < a)) = cnt xs i := rfl
        rw [ecn]
        by_cases q : cnt xs i = ys.getD i 0
        · simp (disch := omega) only [↓reduceIte, lt_TI, lt_FI, le_TI, le_FI, eq_TI, eq_FI, lt_TN, lt_FN, le_TN, le_FN, eq_TN, eq_FN, and_self, and_true, true_and, and_false, false_and, or_true, true_or, or_false, false_or, not_true_eq_false, not_false_eq_true, wr_of, uI_at, uC_at, q_bi_s, q_bl_s, q_br_s, q_bv_s, Int.toNat_natCast, tn_1, tn_m, tn_n, Int.toNat_zero, Int.toNat_one]
          exact ih (i + 1) (by omega) (fun j hj => by
            by_cases z : j = i
            · rw [z]; exact q
            · exact e j (by omega))
        · rw [if_neg (fun z => q ((iff.mp z).2 i (by omega)))]
          simp (disch := omega) only [↓reduceIte, lt_TI, lt_FI, le_TI, le_FI, eq_TI, eq_FI, lt_TN, lt_FN, le_TN, le_FN, eq_TN, eq_FN, and_self, and_true, true_and, and_false, false_and, or_true, true_or, or_false, false_or, not_true_eq_false, not_false_eq_true, wr_of, uI_at, uC_at, q_bi_s, q_bl_s, q_br_s, q_bv_s, Int.toNat_natCast, tn_1, tn_m, tn_n, Int.toNat_zero, Int.toNat_one]
    exact loop ys.length 0 (by omega) (fun j hj => by omega)
  · rw [if_neg (fun z => q0 (iff.mp z).1)]
    simp (disch := omega) only [↓reduceIte, lt_TI, lt_FI, le_TI, le_FI, eq_TI, eq_FI, lt_TN, lt_FN, le_TN, le_FN, eq_TN, eq_FN, and_self, and_true, true_and, and_false, false_and, or_true, true_or, or_false, false_or, not_true_eq_false, not_false_eq_true, wr_of, uI_at, uC_at, q_bi_s, q_bl_s, q_br_s, q_bv_s, Int.toNat_natCast, tn_1, tn_m, tn_n, Int.toNat_zero, Int.toNat_one, j1, g1]
theorem c_canBeNew (H : HAt I h xs k) (hs : xs.sum ≤ 60) {i : Nat} (hi : i < 100) : q_E (67, 0, [vr h, vi (i : Int)], []) (qk t u I J) = some (vi (if cnw xs i = true then 1 else 0), qk t u I J) := by
  have k1 := H.1.1
  have h1 := H.2.1
  have hl := H.2.2.2.1
  have b := gD_sum (l := xs) i
  rw [e67_0, c_isFirst H hi]
  simp (disch := omega) only [↓reduceIte, lt_TI, lt_FI, le_TI, le_FI, eq_TI, eq_FI, lt_TN, lt_FN, le_TN, le_FN, eq_TN, eq_FN, and_self, and_true, true_and, and_false, false_and, or_true, true_or, or_false, false_or, not_true_eq_false, not_false_eq_true, wr_of, uI_at, uC_at, q_bi_s, q_bl_s, q_br_s, q_bv_s, Int.toNat_natCast, tn_1, tn_m, tn_n, Int.toNat_zero, Int.toNat_one]
  rw [e67_5]
  unfold cnw
  cases q : isF xs i with
  | false => simp (disch := omega) only [↓reduceIte, lt_TI, lt_FI, le_TI, le_FI, eq_TI, eq_FI, lt_TN, lt_FN, le_TN, le_FN, eq_TN, eq_FN, and_self, and_true, true_and, and_false, false_and, or_true, true_or, or_false, false_or, not_true_eq_false, not_false_eq_true, wr_of, uI_at, uC_at, q_bi_s, q_bl_s, q_br_s, q_bv_s, Int.toNat_natCast, tn_1, tn_m, tn_n, Int.toNat_zero, Int.toNat_one, Bool.false_eq_true, Bool.false_and]
  | true =>
    simp (disch := omega) only [↓reduceIte, lt_TI, lt_FI, le_TI, le_FI, eq_TI, eq_FI, lt_TN, lt_FN, le_TN, le_FN, eq_TN, eq_FN, and_self, and_true, true_and, and_false, false_and, or_true, true_or, or_false, false_or, not_true_eq_false, not_false_eq_true, wr_of, uI_at, uC_at, q_bi_s, q_bl_s, q_br_s, q_bv_s, Int.toNat_natCast, tn_1, tn_m, tn_n, Int.toNat_zero, Int.toNat_one, k1, c_heightAt H i]
    rw [e67_13]
    by_cases z : xs.length ≤ xs.getD i 0 + 1
    · rw [decide_eq_true z]
      simp (disch := omega) only [↓reduceIte, lt_TI, lt_FI, le_TI, le_FI, eq_TI, eq_FI, lt_TN, lt_FN, le_TN, le_FN, eq_TN, eq_FN, and_self, and_true, true_and, and_false, false_and, or_true, true_or, or_false, false_or, not_true_eq_false, not_false_eq_true, wr_of, uI_at, uC_at, q_bi_s, q_bl_s, q_br_s, q_bv_s, Int.toNat_natCast, tn_1, tn_m, tn_n, Int.toNat_zero, Int.toNat_one, k1, h1, Bool.and_self]
    · rw [decide_eq_false z]
      simp (disch := omega) only [↓reduceIte, lt_TI, lt_FI, le_TI, le_FI, eq_TI, eq_FI, lt_TN, lt_FN, le_TN, le_FN, eq_TN, eq_FN, and_self, and_true, true_and, and_false, false_and, or_true, true_or, or_false, false_or, not_true_eq_false, not_false_eq_true, wr_of, uI_at, uC_at, q_bi_s, q_bl_s, q_br_s, q_bv_s, Int.toNat_natCast, tn_1, tn_m, tn_n, Int.toNat_zero, Int.toNat_one, k1, h1, Bool.and_false, Bool.false_eq_true]
theorem c_countSources (H : HAt I h xs k) (hs : xs.sum ≤ 60) : q_E (68, 0, [vr h, vu, vu], []) (qk t u I J) = some (vi (srcN xs : Int), qk t u I J) := by
  have k1 := H.1.1
  have h1 := H.2.1
  have hl := H.2.2.2.1
  rw [e68_0]
  unfold srcN
  by_cases q : xs = []
  · subst q
    simp (disch := omega) only [↓reduceIte, lt_TI, lt_FI, le_TI, le_FI, eq_TI, eq_FI, lt_TN, lt_FN, le_TN, le_FN, eq_TN, eq_FN, and_self, and_true, true_and, and_false, false_and, or_true, true_or, or_false, false_or, not_true_eq_false, not_false_eq_true, wr_of, uI_at, uC_at, q_bi_s, q_bl_s, q_br_s, q_bv_s, Int.toNat_natCast, tn_1, tn_m, tn_n, Int.toNat_zero, Int.toNat_one, k1, h1, List.length_nil, Int.natCast_zero]
    rfl
  · have hl0 : 0 < xs.length := by cases e : xs with | nil => exact absurd e q | cons a l => simp
    rw [if_neg q]
    simp (disch := omega) only [↓reduceIte, lt_TI, lt_FI, le_TI, le_FI, eq_TI, eq_FI, lt_TN, lt_FN, le_TN, le_FN, eq_TN, eq_FN, and_self, and_true, true_and, and_false, false_and, or_true, true_or, or_false, false_or, not_true_eq_false, not_false_eq_true, wr_of, uI_at, uC_at, q_bi_s, q_bl_s, q_br_s, q_bv_s, Int.toNat_natCast, tn_1, tn_m, tn_n, Int.toNat_zero, Int.toNat_one, k1, h1]
    have loop : ∀ n i : Nat, i + n = xs.length → q_E (68, 13, [vr h, vi ((List.range i).countP (cnw xs) : Int), vi (i : Int)], []) (qk t u I J) = some (vi ((List.range xs.length).countP (cnw xs) : Int), qk t u I J) := by
      intro n
      induction n with
      | zero =>
        intro i hi
        have e : i = xs.length := by omega
        subst e
        rw [e68_13]
        simp (disch := omega) only [↓reduceIte, lt_TI, lt_FI, le_TI, le_FI, eq_TI, eq_FI, lt_TN, lt_FN, le_TN, le_FN, eq_TN, eq_FN, and_self, and_true, true_and, and_false, false_and, or_true, true_or, or_false, false_or, not_true_eq_false, not_false_eq_true, wr_of, uI_at, uC_at, q_bi_s, q_bl_s, q_br_s, q_bv_s, Int.toNat_natCast, tn_1, tn_m, tn_n, Int.toNat_zero, Int.toNat_one, k1, h1]
      | succ n ih =>
        intro i hi
        have b := cr_le (cnw xs) i
        have e := ih (i + 1) (by omega)
        rw [cr_s] at e
        rw [e68_13]
        simp (disch := omega) only [↓reduceIte, lt_TI, lt_FI, le_TI, le_FI, eq_TI, eq_FI, lt_TN, lt_FN, le_TN, le_FN, eq_TN, eq_FN, and_self, and_true, true_and, and_false, false_and, or_true, true_or, or_false, false_or, not_true_eq_false, not_false_eq_true, wr_of, uI_at, uC_at, q_bi_s, q_bl_s, q_br_s, q_bv_s, Int.toNat_natCast, tn_1, tn_m, tn_n, Int.toNat_zero, Int.toNat_one, k1, h1, c_canBeNew H hs (i := i) (by omega)]
        rw [e68_26]
        cases q : cnw xs i with
        | true => rw [q] at e; simp (disch := omega) only [↓reduceIte, lt_TI, lt_FI, le_TI, le_FI, eq_TI, eq_FI, lt_TN, lt_FN, le_TN, le_FN, eq_TN, eq_FN, and_self, and_true, true_and, and_false, false_and, or_true, true_or, or_false, false_or, not_true_eq_false, not_false_eq_true, wr_of, uI_at, uC_at, q_bi_s, q_bl_s, q_br_s, q_bv_s, Int.toNat_natCast, tn_1, tn_m, tn_n, Int.toNat_zero, Int.toNat_one]; exact e
        | false => rw [q] at e; simp (disch := omega) only [↓reduceIte, lt_TI, lt_FI, le_TI, le_FI, eq_TI, eq_FI, lt_TN, lt_FN, le_TN, le_FN, eq_TN, eq_FN, and_self, and_true, true_and, and_false, false_and, or_true, true_or, or_false, false_or, not_true_eq_false, not_false_eq_true, wr_of, uI_at, uC_at, q_bi_s, q_bl_s, q_br_s, q_bv_s, Int.toNat_natCast, tn_1, tn_m, tn_n, Int.toNat_zero, Int.toNat_one, Bool.false_eq_true]; exact e
    exact loop xs.length 0 (by omega)
theorem c_heightBefore (H : HAt I h xs k) (hs : xs.sum ≤ 60) {f i : Nat} (hf : f < 100) (hi : i < 100) : q_E (70, 0, [vr h, vi (f : Int), vi (i : Int)], []) (qk t u I J) = some (vi (hbf xs f i : Int), qk t u I J) := by
  have k1 := H.1.1
  have h1 := H.2.1
  have hl := H.2.2.2.1
  have b1 := gD_sum (l := xs) i
  have b2 := gD_sum (l := xs) (i + 1)
  have b3 := gD_sum (l := xs) f
  rw [e70_0]
  unfold hbf
  by_cases q : i + 1 < xs.length
  · rw [if_pos q]
    by_cases z : i < f
    · rw [if_pos z]
      simp (disch := omega) only [↓reduceIte, lt_TI, lt_FI, le_TI, le_FI, eq_TI, eq_FI, lt_TN, lt_FN, le_TN, le_FN, eq_TN, eq_FN, and_self, and_true, true_and, and_false, false_and, or_true, true_or, or_false, false_or, not_true_eq_false, not_false_eq_true, wr_of, uI_at, uC_at, q_bi_s, q_bl_s, q_br_s, q_bv_s, Int.toNat_natCast, tn_1, tn_m, tn_n, Int.toNat_zero, Int.toNat_one, k1, h1, c_heightAt H i]
      rw [e70_26]
      simp (disch := omega) only [↓reduceIte, lt_TI, lt_FI, le_TI, le_FI, eq_TI, eq_FI, lt_TN, lt_FN, le_TN, le_FN, eq_TN, eq_FN, and_self, and_true, true_and, and_false, false_and, or_true, true_or, or_false, false_or, not_true_eq_false, not_false_eq_true, wr_of, uI_at, uC_at, q_bi_s, q_bl_s, q_br_s, q_bv_s, Int.toNat_natCast, tn_1, tn_m, tn_n, Int.toNat_zero, Int.toNat_one]
      rfl
    · rw [if_neg z]
      simp (disch := omega) only [↓reduceIte, lt_TI, lt_FI, le_TI, le_FI, eq_TI, eq_FI, lt_TN, lt_FN, le_TN, le_FN, eq_TN, eq_FN, and_self, and_true, true_and, and_false, false_and, or_true, true_or, or_false, false_or, not_true_eq_false, not_false_eq_true, wr_of, uI_at, uC_at, q_bi_s, q_bl_s, q_br_s, q_bv_s, Int.toNat_natCast, tn_1, tn_m, tn_n, Int.toNat_zero, Int.toNat_one, k1, h1]
      rw [show ((i : Int) + 1) = ((i + 1 : Nat) : Int) from rfl, c_heightAt H (i + 1)]
      simp (disch := omega) only [↓reduceIte, lt_TI, lt_FI, le_TI, le_FI, eq_TI, eq_FI, lt_TN, lt_FN, le_TN, le_FN, eq_TN, eq_FN, and_self, and_true, true_and, and_false, false_and, or_true, true_or, or_false, false_or, not_true_eq_false, not_false_eq_true, wr_of, uI_at, uC_at, q_bi_s, q_bl_s, q_br_s, q_bv_s, Int.toNat_natCast, tn_1, tn_m, tn_n, Int.toNat_zero, Int.toNat_one]
      rw [e70_26]
      simp (disch := omega) only [↓reduceIte, lt_TI, lt_FI, le_TI, le_FI, eq_TI, eq_FI, lt_TN, lt_FN, le_TN, le_FN, eq_TN, eq_FN, and_self, and_true, true_and, and_false, false_and, or_true, true_or, or_false, false_or, not_true_eq_false, not_false_eq_true, wr_of, uI_at, uC_at, q_bi_s, q_bl_s, q_br_s, q_bv_s, Int.toNat_natCast, tn_1, tn_m, tn_n, Int.toNat_zero, Int.toNat_one]
      rfl
  · rw [if_neg q]
    simp (disch := omega) only [↓reduceIte, lt_TI, lt_FI, le_TI, le_FI, eq_TI, eq_FI, lt_TN, lt_FN, le_TN, le_FN, eq_TN, eq_FN, and_self, and_true, true_and, and_false, false_and, or_true, true_or, or_false, false_or, not_true_eq_false, not_false_eq_true, wr_of, uI_at, uC_at, q_bi_s, q_bl_s, q_br_s, q_bv_s, Int.toNat_natCast, tn_1, tn_m, tn_n, Int.toNat_zero, Int.toNat_one, k1, h1, c_heightAt H f]
    rw [e70_35]
    by_cases z : i < xs.getD f 0
    · rw [if_pos z]; simp (disch := omega) only [↓reduceIte, lt_TI, lt_FI, le_TI, le_FI, eq_TI, eq_FI, lt_TN, lt_FN, le_TN, le_FN, eq_TN, eq_FN, and_self, and_true, true_and, and_false, false_and, or_true, true_or, or_false, false_or, not_true_eq_false, not_false_eq_true, wr_of, uI_at, uC_at, q_bi_s, q_bl_s, q_br_s, q_bv_s, Int.toNat_natCast, tn_1, tn_m, tn_n, Int.toNat_zero, Int.toNat_one]; rfl
    · rw [if_neg z]; simp (disch := omega) only [↓reduceIte, lt_TI, lt_FI, le_TI, le_FI, eq_TI, eq_FI, lt_TN, lt_FN, le_TN, le_FN, eq_TN, eq_FN, and_self, and_true, true_and, and_false, false_and, or_true, true_or, or_false, false_or, not_true_eq_false, not_false_eq_true, wr_of, uI_at, uC_at, q_bi_s, q_bl_s, q_br_s, q_bv_s, Int.toNat_natCast, tn_1, tn_m, tn_n, Int.toNat_zero, Int.toNat_one]; rfl
theorem c_sourceHeight (H : HAt I h xs k) (hs : xs.sum ≤ 60) {m i : Nat} (hi : i < 100) (hm : m < 100) : q_E (69, 0, [vr h, vi (m : Int), vi (i : Int), vu, vu], []) (qk t u I J) = some (vi (srcH xs m i : Int), qk t u I J) := by
  have k1 := H.1.1
  have h1 := H.2.1
  have hl := H.2.2.2.1
  have loop : ∀ n f : Nat, f + n = xs.length → (∀ a, a < f → (cnw xs a && decide ((List.range a).countP (cnw xs) = m)) = false) → q_E (69, 5, [vr h, vi (m : Int), vi (i : Int), vi ((List.range f).countP (cnw xs) : Int), vi (f : Int)], []) (qk t u I J) = some (vi (srcH xs m i : Int), qk t u I J) := by
    intro n
    induction n with
    | zero =>
      intro f hf e
      have e0 : f = xs.length := by omega
      subst e0
      have ek : kfst xs m = xs.length := fsti_eq (Nat.le_refl _) e (fun z => by omega)
      rw [e69_5]
      unfold srcH
      rw [ek, if_neg (show ¬ xs.length < xs.length by omega)]
      simp (disch := omega) only [↓reduceIte, lt_TI, lt_FI, le_TI, le_FI, eq_TI, eq_FI, lt_TN, lt_FN, le_TN, le_FN, eq_TN, eq_FN, and_self, and_true, true_and, and_false, false_and, or_true, true_or, or_false, false_or, not_true_eq_false, not_false_eq_true, wr_of, uI_at, uC_at, q_bi_s, q_bl_s, q_br_s, q_bv_s, Int.toNat_natCast, tn_1, tn_m, tn_n, Int.toNat_zero, Int.toNat_one, k1, h1]
      rfl
    | succ n ih =>
      intro f hf e
      have b := cr_le (cnw xs) f
      have en := ih (f + 1) (by omega)
      rw [cr_s] at en
      rw [e69_5]
      simp (disch := omega) only [↓reduceIte, lt_TI, lt_FI, le_TI, le_FI, eq_TI, eq_FI, lt_TN, lt_FN, le_TN, le_FN, eq_TN, eq_FN, and_self, and_true, true_and, and_false, false_and, or_true, true_or, or_false, false_or, not_true_eq_false, not_false_eq_true, wr_of, uI_at, uC_at, q_bi_s, q_bl_s, q_br_s, q_bv_s, Int.toNat_natCast, tn_1, tn_m, tn_n, Int.toNat_zero, Int.toNat_one, k1, h1, c_canBeNew H hs (i := f) (by omega)]
      rw [e69_20]
      cases q : cnw xs f with
      | false =>
        rw [q] at en
        simp (disch := omega) only [↓reduceIte, lt_TI, lt_FI, le_TI, le_FI, eq_TI, eq_FI, lt_TN, lt_FN, le_TN, le_FN, eq_TN, eq_FN, and_self, and_true, true_and, and_false, false_and, or_true, true_or, or_false, false_or, not_true_eq_false, not_false_eq_true, wr_of, uI_at, uC_at, q_bi_s, q_bl_s, q_br_s, q_bv_s, Int.toNat_natCast, tn_1, tn_m, tn_n, Int.toNat_zero, Int.toNat_one, Bool.false_eq_true]
        refine en (fun a ha => ?_)
        by_cases z : a = f
        · rw [z, q]; rfl
        · exact e a (by omega)
      | true =>
        rw [q] at en
        by_cases z : (List.range f).countP (cnw xs) = m
        · have ek : kfst xs m = f := fsti_eq (by omega) e (fun _ => by rw [q, decide_eq_true z]; rfl)
          simp (disch := omega) only [↓reduceIte, lt_TI, lt_FI, le_TI, le_FI, eq_TI, eq_FI, lt_TN, lt_FN, le_TN, le_FN, eq_TN, eq_FN, and_self, and_true, true_and, and_false, false_and, or_true, true_or, or_false, false_or, not_true_eq_false, not_false_eq_true, wr_of, uI_at, uC_at, q_bi_s, q_bl_s, q_br_s, q_bv_s, Int.toNat_natCast, tn_1, tn_m, tn_n, Int.toNat_zero, Int.toNat_one, c_heightBefore H hs (f := f) (i := i) (by omega) hi]
          rw [e69_35]
          unfold srcH
          rw [ek, if_pos (show f < xs.length by omega)]
        · simp (disch := omega) only [↓reduceIte, lt_TI, lt_FI, le_TI, le_FI, eq_TI, eq_FI, lt_TN, lt_FN, le_TN, le_FN, eq_TN, eq_FN, and_self, and_true, true_and, and_false, false_and, or_true, true_or, or_false, false_or, not_true_eq_false, not_false_eq_true, wr_of, uI_at, uC_at, q_bi_s, q_bl_s, q_br_s, q_bv_s, Int.toNat_natCast, tn_1, tn_m, tn_n, Int.toNat_zero, Int.toNat_one]
          refine en (fun a ha => ?_)
          by_cases y : a = f
          · rw [y, decide_eq_false z, Bool.and_false]
          · exact e a (by omega)
  rw [e69_0]
  exact loop xs.length 0 (by omega) (fun a ha => by omega)
end

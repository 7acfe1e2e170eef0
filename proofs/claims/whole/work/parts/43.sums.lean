/-! Sums -/
def wQ : Nat → Nat → Nat
  | 0, n => if n = 0 then 1 else 0
  | h + 1, n => wQ h n + if h + 1 ≤ n then wQ (h + 1) (n - (h + 1)) else 0
termination_by h n => (h, n)
theorem wQ_0 (n : Nat) : wQ 0 n = if n = 0 then 1 else 0 := by unfold wQ; rfl
theorem wQ_s (h n : Nat) : wQ (h + 1) n = wQ h n + if h + 1 ≤ n then wQ (h + 1) (n - (h + 1)) else 0 := by
  rw [wQ]
def wgo (h : Nat) : List Nat → List Nat → List Nat
  | [], acc => acc
  | r :: rs, acc => wgo h rs ((r + acc.getD h 0) :: acc)
def wL : Nat → List Nat
  | 0 => 1 :: List.replicate 60 0
  | h + 1 => (wgo h (wL h) []).reverse
theorem gD_rev {l : List Nat} {i : Nat} (h : i < l.length) : l.reverse.getD i 0 = l.getD (l.length - 1 - i) 0 := by
  rw [gD_lt (by rw [List.length_reverse]; exact h), List.getElem_reverse, gD_lt (by omega)]
theorem wgo_at (h : Nat) : ∀ (rs acc : List Nat) (m : Nat), acc.length = m → (∀ i, i < m → acc.getD i 0 = wQ (h + 1) (m - 1 - i)) → (∀ i, i < rs.length → rs.getD i 0 = wQ h (m + i)) → (wgo h rs acc).length = m + rs.length ∧ ∀ i, i < m + rs.length → (wgo h rs acc).getD i 0 = wQ (h + 1) (m + rs.length - 1 - i)
  | [], acc, m, hl, ha, _ => by
    unfold wgo
    exact ⟨by simp [hl], fun i hi => by simpa using ha i (by simpa using hi)⟩
  | r :: rs, acc, m, hl, ha, hr => by
    unfold wgo
    have r0 := hr 0 (by simp)
    rw [List.getD_cons_zero, Nat.add_zero] at r0
    have e : r + acc.getD h 0 = wQ (h + 1) m := by
      rw [wQ_s, r0]
      congr 1
      by_cases q : h + 1 ≤ m
      · rw [if_pos q, ha h (by omega)]
        congr 1; omega
      · rw [if_neg q, gD_ge (by omega)]
    have a := wgo_at h rs ((r + acc.getD h 0) :: acc) (m + 1) (by rw [List.length_cons, hl]) (fun i hi => by
      cases i with
      | zero => rw [List.getD_cons_zero, e]; rfl
      | succ i => rw [List.getD_cons_succ, ha i (by omega)]; congr 1; omega) (fun i hi => by
      have := hr (i + 1) (by rw [List.length_cons]; omega)
      rw [List.getD_cons_succ] at this
      rw [this]; congr 1; omega)
    rw [List.length_cons, show m + (rs.length + 1) = m + 1 + rs.length by omega]
    exact a
theorem wL_at : ∀ h, (wL h).length = 61 ∧ ∀ n, n < 61 → (wL h).getD n 0 = wQ h n
  | 0 => by
    refine ⟨rfl, fun n hn => ?_⟩
    rw [wQ_0]
    cases n with
    | zero => rfl
    | succ n => rw [if_neg (by omega)]; show (List.replicate 60 0).getD n 0 = 0; exact gD_rep (by omega)
  | h + 1 => by
    obtain ⟨a1, a2⟩ := wL_at h
    obtain ⟨b1, b2⟩ := wgo_at h (wL h) [] 0 rfl (fun i hi => by omega) (fun i hi => by rw [Nat.zero_add]; exact a2 i (by omega))
    rw [a1, Nat.zero_add] at b1 b2
    have c1 : (wL (h + 1)).length = 61 := by show ((wgo h (wL h) []).reverse).length = 61; rw [List.length_reverse]; exact b1
    refine ⟨c1, fun n hn => ?_⟩
    show ((wgo h (wL h) []).reverse).getD n 0 = _
    rw [gD_rev (by omega), b1, b2 _ (by omega)]
    congr 1; omega
theorem wL_b : (wL 60).all (fun v => decide (v ≤ 1000000)) = true := by decide +kernel
theorem wQ_mono {h n : Nat} : ∀ k, wQ h n ≤ wQ (h + k) n
  | 0 => Nat.le_refl _
  | k + 1 => by
    have := wQ_mono (h := h) (n := n) k
    have := wQ_s (h + k) n
    rw [show h + (k + 1) = h + k + 1 by omega]; omega
theorem wQ_b {h n : Nat} (h1 : h ≤ 60) (h2 : n ≤ 60) : wQ h n ≤ 1000000 := by
  have a := wQ_mono (h := h) (n := n) (60 - h)
  rw [show h + (60 - h) = 60 by omega] at a
  obtain ⟨b1, b2⟩ := wL_at 60
  have c := List.all_eq_true.mp wL_b _ (gD_mem (show n < (wL 60).length by omega))
  rw [b2 n (by omega)] at c
  have := of_decide_eq_true c
  omega
def uQ : Nat → Nat → Nat
  | 0, n => if n = 0 then 1 else 0
  | h + 1, n => uQ h n + if h + 1 ≤ n then uQ h (n - (h + 1)) else 0
theorem uQ_le : ∀ h n, uQ h n ≤ wQ h n
  | 0, n => by rw [wQ_0]; exact Nat.le_refl _
  | h + 1, n => by
    rw [wQ_s]
    unfold uQ
    have a := uQ_le h n
    have b := uQ_le h (n - (h + 1))
    have c := wQ_mono (h := h) (n := n - (h + 1)) 1
    split <;> omega
theorem uQ_b {h n : Nat} (h1 : h ≤ 60) (h2 : n ≤ 60) : uQ h n ≤ 1000000 := Nat.le_trans (uQ_le h n) (wQ_b h1 h2)
def xr (l : List Nat) : Nat := l.foldl (fun a b => a ^^^ (b % 4)) 0
theorem b_xor : ∀ a : Nat, a < 4 → ∀ b : Nat, b < 4 → q_xor (a : Int) (b : Int) = ((a ^^^ b : Nat) : Int) ∧ a ^^^ b < 4 := by decide +kernel
theorem xr_lt : ∀ (l : List Nat) (a : Nat), a < 4 → l.foldl (fun a b => a ^^^ (b % 4)) a < 4
  | [], a, h => h
  | b :: l, a, h => xr_lt l _ (b_xor a h (b % 4) (Nat.mod_lt _ (by omega))).2
def wbI (l : List Nat) (i : Nat) : Int :=
  if 1 ≤ l.getD i 0 ∧ (l.getD i 0 - 1) % 4 = xr l ^^^ (l.getD i 0 % 4) then 1 else if 2 ≤ l.getD i 0 ∧ (l.getD i 0 - 2) % 4 = xr l ^^^ (l.getD i 0 % 4) then 2 else if 3 ≤ l.getD i 0 ∧ (l.getD i 0 - 3) % 4 = xr l ^^^ (l.getD i 0 % 4) then 3 else -2
def huf : Nat → List Nat → Nat
  | 0, _ => 0
  | n + 1, l => (l.getD (l.length - 1) 0 + l.getD (l.length - 2) 0) + huf n (ins (l.getD (l.length - 1) 0 + l.getD (l.length - 2) 0) ((l.eraseIdx (l.length - 1)).eraseIdx (l.length - 2)))
def lev (l : List Nat) : Nat := (rg l.length (fun i => l.getD i 0 - (l.sum / l.length + if i < l.sum % l.length then 1 else 0))).sum
def fwi (l : List Nat) : Nat → Nat → Nat
  | 0, n => if n = 0 then 0 else 100000000
  | i + 1, n => if l.getD i 0 ≤ n ∧ fwi l i (n - l.getD i 0) + 1 < fwi l i n then fwi l i (n - l.getD i 0) + 1 else fwi l i n
theorem fwi_b (l : List Nat) : ∀ i n, fwi l i n ≤ i ∨ fwi l i n = 100000000
  | 0, n => by unfold fwi; split <;> omega
  | i + 1, n => by
    have a := fwi_b l i (n - l.getD i 0)
    have b := fwi_b l i n
    unfold fwi
    split <;> omega
def enc (v : Nat) : Int := if 100000000 ≤ v then -2 else (v : Int)
def hal (f : Nat → Nat) : Nat → Nat
  | 0 => 0
  | p + 1 => if 100000000 ≤ f (p + 1) then hal f p else p + 1
theorem er_perm {l : List Nat} {i : Nat} (h : i < l.length) : (l.getD i 0 :: l.eraseIdx i).Perm l := by
  rw [List.eraseIdx_eq_take_drop_succ]
  have e : l = l.take i ++ l.getD i 0 :: l.drop (i + 1) := by rw [← gD_drop h, List.take_append_drop]
  have p : (l.take i ++ l.getD i 0 :: l.drop (i + 1)).Perm (l.getD i 0 :: (l.take i ++ l.drop (i + 1))) := List.perm_middle
  rw [← e] at p
  exact p.symm
theorem er_sum {l : List Nat} {i : Nat} (h : i < l.length) : l.getD i 0 + (l.eraseIdx i).sum = l.sum := by
  have := perm_sum (er_perm h)
  rw [List.sum_cons] at this; exact this
theorem er_sd {l : List Nat} (h : SD l) (i : Nat) : SD (l.eraseIdx i) := List.Pairwise.sublist (List.eraseIdx_sublist _ _) h
theorem er_ps {l : List Nat} (h : PS l) (i : Nat) : PS (l.eraseIdx i) := fun a ha => h a (List.mem_of_mem_eraseIdx ha)
theorem er_len {l : List Nat} {i : Nat} (h : i < l.length) : (l.eraseIdx i).length = l.length - 1 := by rw [List.length_eraseIdx, if_pos h]
section
variable {t u : Nat} {I J : Nat → Nat → Int} {h : Nat} {xs : List Nat} {k : Nat}
theorem c_clearRow {v : Int} : ∃ I', q_E (74, 0, [vr 244, vi v, vu], []) (qk t u I J) = some (vu, qk t u I' J) ∧ (∀ q, q < 61 → I' 245 q = v) ∧ Kp 245 245 I I' := by
  have loop : ∀ (r i : Nat) (I1 : Nat → Nat → Int), i + r = 61 → (∀ q, q < i → I1 245 q = v) → ∃ I', q_E (74, 2, [vr 244, vi v, vi (i : Int)], []) (qk t u I1 J) = some (vu, qk t u I' J) ∧ (∀ q, q < 61 → I' 245 q = v) ∧ Kp 245 245 I1 I' := by
    intro r
    induction r with
    | zero =>
      intro i I1 hi e
      rw [e74_2]
      simp (disch := omega) only [↓reduceIte, lt_TI, lt_FI, le_TI, le_FI, eq_TI, eq_FI, lt_TN, lt_FN, le_TN, le_FN, eq_TN, eq_FN, and_self, and_true, true_and, and_false, false_and, or_true, true_or, or_false, false_or, not_true_eq_false, not_false_eq_true, wr_of, uI_at, uC_at, q_bi_s, q_bl_s, q_br_s, q_bv_s, Int.toNat_natCast, tn_1, tn_m, tn_n, Int.toNat_zero, Int.toNat_one]
      exact ⟨I1, rfl, fun q hq => e q (by omega), Kp_rf⟩
    | succ r ih =>
      intro i I1 hi e
      rw [e74_2]
      simp (disch := omega) only [↓reduceIte, lt_TI, lt_FI, le_TI, le_FI, eq_TI, eq_FI, lt_TN, lt_FN, le_TN, le_FN, eq_TN, eq_FN, and_self, and_true, true_and, and_false, false_and, or_true, true_or, or_false, false_or, not_true_eq_false, not_false_eq_true, wr_of, uI_at, uC_at, q_bi_s, q_bl_s, q_br_s, q_bv_s, Int.toNat_natCast, tn_1, tn_m, tn_n, Int.toNat_zero, Int.toNat_one]
      obtain ⟨I2, a1, a2, a3⟩ := ih (i + 1) (uI I1 245 i v) (by omega) (fun q hq => by
        by_cases z : q = i
        · subst z; simp (disch := omega) only [↓reduceIte, lt_TI, lt_FI, le_TI, le_FI, eq_TI, eq_FI, lt_TN, lt_FN, le_TN, le_FN, eq_TN, eq_FN, and_self, and_true, true_and, and_false, false_and, or_true, true_or, or_false, false_or, not_true_eq_false, not_false_eq_true, wr_of, uI_at, uC_at, q_bi_s, q_bl_s, q_br_s, q_bv_s, Int.toNat_natCast, tn_1, tn_m, tn_n, Int.toNat_zero, Int.toNat_one]
        · rw [uI_ne (Or.inr z)]; exact e q (by omega))
      exact ⟨I2, a1, a2, Kp_tr (Kp_uI Kp_rf (by omega) (by omega) : Kp 245 245 I1 _) a3 (by omega) (by omega) (by omega) (by omega)⟩
  rw [e74_0]
  exact loop 61 0 I (by omega) (fun q hq => by omega)
theorem c_rowAt {n : Nat} (hn : n < 61) : q_E (75, 0, [vr 244, vi (n : Int)], []) (qk t u I J) = some (vi (I 245 n), qk t u I J) := by
  rw [e75_0]
  simp (disch := omega) only [↓reduceIte, lt_TI, lt_FI, le_TI, le_FI, eq_TI, eq_FI, lt_TN, lt_FN, le_TN, le_FN, eq_TN, eq_FN, and_self, and_true, true_and, and_false, false_and, or_true, true_or, or_false, false_or, not_true_eq_false, not_false_eq_true, wr_of, uI_at, uC_at, q_bi_s, q_bl_s, q_br_s, q_bv_s, Int.toNat_natCast, tn_1, tn_m, tn_n, Int.toNat_zero, Int.toNat_one]
theorem c_countWays {N hi : Nat} (hN : N ≤ 60) (hh : hi ≤ 60) : ∃ I', q_E (72, 0, [vr 244, vi (N : Int), vi (hi : Int), vu, vu], []) (qk t u I J) = some (vi (wQ hi N : Int), qk t u I' J) ∧ Kp 245 245 I I' := by
  have inner : ∀ (a : Nat), a + 1 ≤ hi → ∀ (r n : Nat) (I1 : Nat → Nat → Int), n + r = N + 1 → a + 1 ≤ n → (∀ j, j ≤ N → I1 245 j = if j < n then (wQ (a + 1) j : Int) else (wQ a j : Int)) → ∃ I', q_E (72, 22, [vr 244, vi (N : Int), vi (hi : Int), vi ((a : Int) + 1), vi (n : Int)], []) (qk t u I1 J) = q_E (72, 14, [vr 244, vi (N : Int), vi (hi : Int), vi ((a : Int) + 1 + 1), vu], []) (qk t u I' J) ∧ (∀ j, j ≤ N → I' 245 j = (wQ (a + 1) j : Int)) ∧ Kp 245 245 I1 I' := by
    intro a ha r
    induction r with
    | zero =>
      intro n I1 hn han e
      rw [e72_22]
      simp (disch := omega) only [↓reduceIte, lt_TI, lt_FI, le_TI, le_FI, eq_TI, eq_FI, lt_TN, lt_FN, le_TN, le_FN, eq_TN, eq_FN, and_self, and_true, true_and, and_false, false_and, or_true, true_or, or_false, false_or, not_true_eq_false, not_false_eq_true, wr_of, uI_at, uC_at, q_bi_s, q_bl_s, q_br_s, q_bv_s, Int.toNat_natCast, tn_1, tn_m, tn_n, Int.toNat_zero, Int.toNat_one]
      exact ⟨I1, rfl, fun j hj => by rw [e j hj, if_pos (by omega)], Kp_rf⟩
    | succ r ih =>
      intro n I1 hn han e
      have b1 := wQ_b (h := a) (n := n) (by omega) (by omega)
      have b2 := wQ_b (h := a + 1) (n := n - (a + 1)) (by omega) (by omega)
      have v1 := e n (by omega)
      rw [if_neg (by omega)] at v1
      have v2 := e (n - (a + 1)) (by omega)
      rw [if_pos (by omega)] at v2
      have tn : ((n : Int) - ((a : Int) + 1)).toNat = n - (a + 1) := by omega
      rw [e72_22]
      simp (disch := omega) only [↓reduceIte, lt_TI, lt_FI, le_TI, le_FI, eq_TI, eq_FI, lt_TN, lt_FN, le_TN, le_FN, eq_TN, eq_FN, and_self, and_true, true_and, and_false, false_and, or_true, true_or, or_false, false_or, not_true_eq_false, not_false_eq_true, wr_of, uI_at, uC_at, q_bi_s, q_bl_s, q_br_s, q_bv_s, Int.toNat_natCast, tn_1, tn_m, tn_n, Int.toNat_zero, Int.toNat_one, tn, v1, v2]
      obtain ⟨I2, a1, a2, a3⟩ := ih (n + 1) (uI I1 245 n ((wQ a n : Int) + (wQ (a + 1) (n - (a + 1)) : Int))) (by omega) (by omega) (fun j hj => by
        by_cases z : j = n
        · subst z
          rw [if_pos (show j < j + 1 by omega), wQ_s a j, if_pos (show a + 1 ≤ j by omega), uI_at, if_pos ⟨rfl, rfl⟩]
          rfl
        · rw [uI_ne (Or.inr z), e j hj]
          by_cases y : j < n
          · rw [if_pos y, if_pos (by omega)]
          · rw [if_neg y, if_neg (by omega)])
      exact ⟨I2, a1, a2, Kp_tr (Kp_uI Kp_rf (by omega) (by omega) : Kp 245 245 I1 _) a3 (by omega) (by omega) (by omega) (by omega)⟩
  have outer : ∀ (r a : Nat) (I1 : Nat → Nat → Int), a + r = hi → (∀ j, j ≤ N → I1 245 j = (wQ a j : Int)) → ∃ I', q_E (72, 14, [vr 244, vi (N : Int), vi (hi : Int), vi ((a : Int) + 1), vu], []) (qk t u I1 J) = some (vi (wQ hi N : Int), qk t u I' J) ∧ Kp 245 245 I1 I' := by
    intro r
    induction r with
    | zero =>
      intro a I1 ha e
      have z : a = hi := by omega
      subst z
      rw [e72_14]
      simp (disch := omega) only [↓reduceIte, lt_TI, lt_FI, le_TI, le_FI, eq_TI, eq_FI, lt_TN, lt_FN, le_TN, le_FN, eq_TN, eq_FN, and_self, and_true, true_and, and_false, false_and, or_true, true_or, or_false, false_or, not_true_eq_false, not_false_eq_true, wr_of, uI_at, uC_at, q_bi_s, q_bl_s, q_br_s, q_bv_s, Int.toNat_natCast, tn_1, tn_m, tn_n, Int.toNat_zero, Int.toNat_one, c_rowAt (show N < 61 by omega), e N (Nat.le_refl _)]
      rw [e72_74]
      exact ⟨I1, rfl, Kp_rf⟩
    | succ r ih =>
      intro a I1 ha e
      rw [e72_14]
      simp (disch := omega) only [↓reduceIte, lt_TI, lt_FI, le_TI, le_FI, eq_TI, eq_FI, lt_TN, lt_FN, le_TN, le_FN, eq_TN, eq_FN, and_self, and_true, true_and, and_false, false_and, or_true, true_or, or_false, false_or, not_true_eq_false, not_false_eq_true, wr_of, uI_at, uC_at, q_bi_s, q_bl_s, q_br_s, q_bv_s, Int.toNat_natCast, tn_1, tn_m, tn_n, Int.toNat_zero, Int.toNat_one]
      by_cases q : a + 1 ≤ N + 1
      · obtain ⟨I2, a1, a2, a3⟩ := inner a (by omega) (N + 1 - (a + 1)) (a + 1) I1 (by omega) (Nat.le_refl _) (fun j hj => by
          rw [e j hj]
          split
          · rename_i z; rw [wQ_s, if_neg (by omega), Nat.add_zero]
          · rfl)
        rw [show ((a + 1 : Nat) : Int) = (a : Int) + 1 from rfl] at a1
        rw [a1]
        obtain ⟨I3, b1, b2⟩ := ih (a + 1) I2 (by omega) a2
        exact ⟨I3, b1, Kp_tr a3 b2 (by omega) (by omega) (by omega) (by omega)⟩
      · rw [e72_22]
        simp (disch := omega) only [↓reduceIte, lt_TI, lt_FI, le_TI, le_FI, eq_TI, eq_FI, lt_TN, lt_FN, le_TN, le_FN, eq_TN, eq_FN, and_self, and_true, true_and, and_false, false_and, or_true, true_or, or_false, false_or, not_true_eq_false, not_false_eq_true, wr_of, uI_at, uC_at, q_bi_s, q_bl_s, q_br_s, q_bv_s, Int.toNat_natCast, tn_1, tn_m, tn_n, Int.toNat_zero, Int.toNat_one]
        exact ih (a + 1) I1 (by omega) (fun j hj => by rw [e j hj, wQ_s, if_neg (by omega), Nat.add_zero])
  obtain ⟨I1, a1, a2, a3⟩ := c_clearRow (t := t) (u := u) (I := I) (J := J) (v := 0)
  rw [e72_0, a1]
  simp (disch := omega) only [↓reduceIte, lt_TI, lt_FI, le_TI, le_FI, eq_TI, eq_FI, lt_TN, lt_FN, le_TN, le_FN, eq_TN, eq_FN, and_self, and_true, true_and, and_false, false_and, or_true, true_or, or_false, false_or, not_true_eq_false, not_false_eq_true, wr_of, uI_at, uC_at, q_bi_s, q_bl_s, q_br_s, q_bv_s, Int.toNat_natCast, tn_1, tn_m, tn_n, Int.toNat_zero, Int.toNat_one]
  rw [e72_5]
  obtain ⟨I3, b1, b2⟩ := outer hi 0 (uI I1 245 0 1) (by omega) (fun j hj => by
    rw [wQ_0]
    by_cases z : j = 0
    · subst z; simp (disch := omega) only [↓reduceIte, lt_TI, lt_FI, le_TI, le_FI, eq_TI, eq_FI, lt_TN, lt_FN, le_TN, le_FN, eq_TN, eq_FN, and_self, and_true, true_and, and_false, false_and, or_true, true_or, or_false, false_or, not_true_eq_false, not_false_eq_true, wr_of, uI_at, uC_at, q_bi_s, q_bl_s, q_br_s, q_bv_s, Int.toNat_natCast, tn_1, tn_m, tn_n, Int.toNat_zero, Int.toNat_one] <;> rfl
    · rw [uI_ne (Or.inr z), a2 j (by omega), if_neg z]; rfl)
  exact ⟨I3, b1, Kp_tr a3 (Kp_tr (Kp_uI Kp_rf (by omega) (by omega) : Kp 245 245 I1 _) b2 (Nat.le_refl _) (Nat.le_refl _) (Nat.le_refl _) (Nat.le_refl _)) (Nat.le_refl _) (Nat.le_refl _) (Nat.le_refl _) (Nat.le_refl _)⟩
theorem c_unlike {N : Nat} (hN : N ≤ 60) : ∃ I', q_E (73, 0, [vr 244, vi (N : Int), vu, vu], []) (qk t u I J) = some (vi (uQ N N : Int), qk t u I' J) ∧ Kp 245 245 I I' := by
  have inner : ∀ (a : Nat), a + 1 ≤ N → ∀ (r n : Nat) (I1 : Nat → Nat → Int), n = a + r → n ≤ N → (∀ j, j ≤ N → I1 245 j = if n < j then (uQ (a + 1) j : Int) else (uQ a j : Int)) → ∃ I', q_E (73, 26, [vr 244, vi (N : Int), vi ((a : Int) + 1), vi (n : Int)], []) (qk t u I1 J) = q_E (73, 14, [vr 244, vi (N : Int), vi ((a : Int) + 1 + 1), vu], []) (qk t u I' J) ∧ (∀ j, j ≤ N → I' 245 j = (uQ (a + 1) j : Int)) ∧ Kp 245 245 I1 I' := by
    intro a ha r
    induction r with
    | zero =>
      intro n I1 hn hnN e
      rw [e73_26]
      simp (disch := omega) only [↓reduceIte, lt_TI, lt_FI, le_TI, le_FI, eq_TI, eq_FI, lt_TN, lt_FN, le_TN, le_FN, eq_TN, eq_FN, and_self, and_true, true_and, and_false, false_and, or_true, true_or, or_false, false_or, not_true_eq_false, not_false_eq_true, wr_of, uI_at, uC_at, q_bi_s, q_bl_s, q_br_s, q_bv_s, Int.toNat_natCast, tn_1, tn_m, tn_n, Int.toNat_zero, Int.toNat_one]
      refine ⟨I1, rfl, fun j hj => ?_, Kp_rf⟩
      rw [e j hj]
      split
      · rfl
      · have eu : uQ (a + 1) j = uQ a j + if a + 1 ≤ j then uQ a (j - (a + 1)) else 0 := rfl
        rw [eu, if_neg (by omega), Nat.add_zero]
    | succ r ih =>
      intro n I1 hn hnN e
      have b1 := uQ_b (h := a) (n := n) (by omega) (by omega)
      have b2 := uQ_b (h := a) (n := n - (a + 1)) (by omega) (by omega)
      have v1 := e n (by omega)
      rw [if_neg (by omega)] at v1
      have v2 := e (n - (a + 1)) (by omega)
      rw [if_neg (by omega)] at v2
      have tn : ((n : Int) - ((a : Int) + 1)).toNat = n - (a + 1) := by omega
      rw [e73_26]
      simp (disch := omega) only [↓reduceIte, lt_TI, lt_FI, le_TI, le_FI, eq_TI, eq_FI, lt_TN, lt_FN, le_TN, le_FN, eq_TN, eq_FN, and_self, and_true, true_and, and_false, false_and, or_true, true_or, or_false, false_or, not_true_eq_false, not_false_eq_true, wr_of, uI_at, uC_at, q_bi_s, q_bl_s, q_br_s, q_bv_s, Int.toNat_natCast, tn_1, tn_m, tn_n, Int.toNat_zero, Int.toNat_one, tn, v1, v2]
      obtain ⟨I2, a1, a2, a3⟩ := ih (n - 1) (uI I1 245 n ((uQ a n : Int) + (uQ a (n - (a + 1)) : Int))) (by omega) (by omega) (fun j hj => by
        by_cases z : j = n
        · subst z
          have eu : uQ (a + 1) j = uQ a j + if a + 1 ≤ j then uQ a (j - (a + 1)) else 0 := rfl
          rw [if_pos (show j - 1 < j by omega), eu, if_pos (show a + 1 ≤ j by omega), uI_at, if_pos ⟨rfl, rfl⟩]
          rfl
        · rw [uI_ne (Or.inr z), e j hj]
          by_cases y : n < j
          · rw [if_pos y, if_pos (by omega)]
          · rw [if_neg y, if_neg (by omega)])
      refine ⟨I2, ?_, a2, Kp_tr (Kp_uI Kp_rf (by omega) (by omega) : Kp 245 245 I1 _) a3 (by omega) (by omega) (by omega) (by omega)⟩
      rw [← a1, show ((n : Int) + -1) = ((n - 1 : Nat) : Int) by omega]
  have outer : ∀ (r a : Nat) (I1 : Nat → Nat → Int), a + r = N → (∀ j, j ≤ N → I1 245 j = (uQ a j : Int)) → ∃ I', q_E (73, 14, [vr 244, vi (N : Int), vi ((a : Int) + 1), vu], []) (qk t u I1 J) = some (vi (uQ N N : Int), qk t u I' J) ∧ Kp 245 245 I1 I' := by
    intro r
    induction r with
    | zero =>
      intro a I1 ha e
      have z : a = N := by omega
      subst z
      rw [e73_14]
      simp (disch := omega) only [↓reduceIte, lt_TI, lt_FI, le_TI, le_FI, eq_TI, eq_FI, lt_TN, lt_FN, le_TN, le_FN, eq_TN, eq_FN, and_self, and_true, true_and, and_false, false_and, or_true, true_or, or_false, false_or, not_true_eq_false, not_false_eq_true, wr_of, uI_at, uC_at, q_bi_s, q_bl_s, q_br_s, q_bv_s, Int.toNat_natCast, tn_1, tn_m, tn_n, Int.toNat_zero, Int.toNat_one, c_rowAt (show a < 61 by omega), e a (Nat.le_refl _)]
      rw [e73_65]
      exact ⟨I1, rfl, Kp_rf⟩
    | succ r ih =>
      intro a I1 ha e
      obtain ⟨I2, a1, a2, a3⟩ := inner a (by omega) (N - a) N I1 (by omega) (Nat.le_refl _) (fun j hj => by rw [e j hj, if_neg (by omega)])
      obtain ⟨I3, b1, b2⟩ := ih (a + 1) I2 (by omega) a2
      refine ⟨I3, ?_, Kp_tr a3 b2 (by omega) (by omega) (by omega) (by omega)⟩
      rw [e73_14]
      by_cases q : N < 60
      · simp (disch := omega) only [↓reduceIte, lt_TI, lt_FI, le_TI, le_FI, eq_TI, eq_FI, lt_TN, lt_FN, le_TN, le_FN, eq_TN, eq_FN, and_self, and_true, true_and, and_false, false_and, or_true, true_or, or_false, false_or, not_true_eq_false, not_false_eq_true, wr_of, uI_at, uC_at, q_bi_s, q_bl_s, q_br_s, q_bv_s, Int.toNat_natCast, tn_1, tn_m, tn_n, Int.toNat_zero, Int.toNat_one]
        rw [a1]
        exact b1
      · have z : N = 60 := by omega
        rw [z] at a1 b1 ⊢
        simp (disch := omega) only [↓reduceIte, lt_TI, lt_FI, le_TI, le_FI, eq_TI, eq_FI, lt_TN, lt_FN, le_TN, le_FN, eq_TN, eq_FN, and_self, and_true, true_and, and_false, false_and, or_true, true_or, or_false, false_or, not_true_eq_false, not_false_eq_true, wr_of, uI_at, uC_at, q_bi_s, q_bl_s, q_br_s, q_bv_s, Int.toNat_natCast, tn_1, tn_m, tn_n, Int.toNat_zero, Int.toNat_one]
        rw [show vi (60 : Int) = vi ((60 : Nat) : Int) from rfl, a1]
        exact b1
  obtain ⟨I1, a1, a2, a3⟩ := c_clearRow (t := t) (u := u) (I := I) (J := J) (v := 0)
  rw [e73_0, a1]
  simp (disch := omega) only [↓reduceIte, lt_TI, lt_FI, le_TI, le_FI, eq_TI, eq_FI, lt_TN, lt_FN, le_TN, le_FN, eq_TN, eq_FN, and_self, and_true, true_and, and_false, false_and, or_true, true_or, or_false, false_or, not_true_eq_false, not_false_eq_true, wr_of, uI_at, uC_at, q_bi_s, q_bl_s, q_br_s, q_bv_s, Int.toNat_natCast, tn_1, tn_m, tn_n, Int.toNat_zero, Int.toNat_one]
  rw [e73_5]
  obtain ⟨I3, b1, b2⟩ := outer N 0 (uI I1 245 0 1) (by omega) (fun j hj => by
    have eu : uQ 0 j = if j = 0 then 1 else 0 := rfl
    rw [eu]
    by_cases z : j = 0
    · subst z; simp (disch := omega) only [↓reduceIte, lt_TI, lt_FI, le_TI, le_FI, eq_TI, eq_FI, lt_TN, lt_FN, le_TN, le_FN, eq_TN, eq_FN, and_self, and_true, true_and, and_false, false_and, or_true, true_or, or_false, false_or, not_true_eq_false, not_false_eq_true, wr_of, uI_at, uC_at, q_bi_s, q_bl_s, q_br_s, q_bv_s, Int.toNat_natCast, tn_1, tn_m, tn_n, Int.toNat_zero, Int.toNat_one] <;> rfl
    · rw [uI_ne (Or.inr z), a2 j (by omega), if_neg z]; rfl)
  exact ⟨I3, b1, Kp_tr a3 (Kp_tr (Kp_uI Kp_rf (by omega) (by omega) : Kp 245 245 I1 _) b2 (Nat.le_refl _) (Nat.le_refl _) (Nat.le_refl _) (Nat.le_refl _)) (Nat.le_refl _) (Nat.le_refl _) (Nat.le_refl _) (Nat.le_refl _)⟩
theorem c_balance (H : HAt I h xs k) : q_E (76, 0, [vr h, vu, vu], []) (qk t u I J) = some (vi (xr xs : Int), qk t u I J) := by
  have k1 := H.1.1
  have h1 := H.2.1
  have hl := H.2.2.2.1
  have loop : ∀ r i a : Nat, i + r = xs.length → a < 4 → q_E (76, 4, [vr h, vi (a : Int), vi (i : Int)], []) (qk t u I J) = some (vi (((xs.drop i).foldl (fun a b => a ^^^ (b % 4)) a : Nat) : Int), qk t u I J) := by
    intro r
    induction r with
    | zero =>
      intro i a hi ha
      rw [e76_4, List.drop_of_length_le (by omega)]
      simp (disch := omega) only [↓reduceIte, lt_TI, lt_FI, le_TI, le_FI, eq_TI, eq_FI, lt_TN, lt_FN, le_TN, le_FN, eq_TN, eq_FN, and_self, and_true, true_and, and_false, false_and, or_true, true_or, or_false, false_or, not_true_eq_false, not_false_eq_true, wr_of, uI_at, uC_at, q_bi_s, q_bl_s, q_br_s, q_bv_s, Int.toNat_natCast, tn_1, tn_m, tn_n, Int.toNat_zero, Int.toNat_one, k1, h1]
      rfl
    | succ r ih =>
      intro i a hi ha
      have hm : xs.getD i 0 % 4 < 4 := Nat.mod_lt _ (by omega)
      have tm : Int.tmod (xs.getD i 0 : Int) 4 = ((xs.getD i 0 % 4 : Nat) : Int) := (Int.ofNat_tmod _ 4).symm
      obtain ⟨x1, x2⟩ := b_xor a ha _ hm
      rw [e76_4, gD_drop (show i < xs.length by omega)]
      simp (disch := omega) only [↓reduceIte, lt_TI, lt_FI, le_TI, le_FI, eq_TI, eq_FI, lt_TN, lt_FN, le_TN, le_FN, eq_TN, eq_FN, and_self, and_true, true_and, and_false, false_and, or_true, true_or, or_false, false_or, not_true_eq_false, not_false_eq_true, wr_of, uI_at, uC_at, q_bi_s, q_bl_s, q_br_s, q_bv_s, Int.toNat_natCast, tn_1, tn_m, tn_n, Int.toNat_zero, Int.toNat_one, k1, h1, c_heightAt H i]
      rw [e76_18]
      simp (disch := omega) only [↓reduceIte, lt_TI, lt_FI, le_TI, le_FI, eq_TI, eq_FI, lt_TN, lt_FN, le_TN, le_FN, eq_TN, eq_FN, and_self, and_true, true_and, and_false, false_and, or_true, true_or, or_false, false_or, not_true_eq_false, not_false_eq_true, wr_of, uI_at, uC_at, q_bi_s, q_bl_s, q_br_s, q_bv_s, Int.toNat_natCast, tn_1, tn_m, tn_n, Int.toNat_zero, Int.toNat_one, tm, x1]
      exact ih (i + 1) _ (by omega) x2
  rw [e76_0]
  exact loop xs.length 0 0 (by omega) (by omega)
theorem c_bite (H : HAt I h xs k) (hs : xs.sum ≤ 60) {i : Nat} (hi : i < 100) : q_E (77, 0, [vr h, vi (i : Int), vu, vu, vu], []) (qk t u I J) = some (vi (wbI xs i), qk t u I J) := by
  have k1 := H.1.1
  have hx : xr xs < 4 := xr_lt xs 0 (by omega)
  have hm : xs.getD i 0 % 4 < 4 := Nat.mod_lt _ (by omega)
  have tm : Int.tmod (xs.getD i 0 : Int) 4 = ((xs.getD i 0 % 4 : Nat) : Int) := (Int.ofNat_tmod _ 4).symm
  obtain ⟨x1, x2⟩ := b_xor _ hx _ hm
  have gb := gD_sum (l := xs) i
  have tms : ∀ b : Nat, b ≤ xs.getD i 0 → Int.tmod ((xs.getD i 0 : Int) - (b : Int)) 4 = (((xs.getD i 0 - b) % 4 : Nat) : Int) := fun b hb => by
    rw [show ((xs.getD i 0 : Int) - (b : Int)) = ((xs.getD i 0 - b : Nat) : Int) by omega]; exact (Int.ofNat_tmod _ 4).symm
  rw [e77_0]
  simp (disch := omega) only [↓reduceIte, lt_TI, lt_FI, le_TI, le_FI, eq_TI, eq_FI, lt_TN, lt_FN, le_TN, le_FN, eq_TN, eq_FN, and_self, and_true, true_and, and_false, false_and, or_true, true_or, or_false, false_or, not_true_eq_false, not_false_eq_true, wr_of, uI_at, uC_at, q_bi_s, q_bl_s, q_br_s, q_bv_s, Int.toNat_natCast, tn_1, tn_m, tn_n, Int.toNat_zero, Int.toNat_one, k1, c_heightAt H i]
  rw [e77_5, c_balance H]
  simp (disch := omega) only [↓reduceIte, lt_TI, lt_FI, le_TI, le_FI, eq_TI, eq_FI, lt_TN, lt_FN, le_TN, le_FN, eq_TN, eq_FN, and_self, and_true, true_and, and_false, false_and, or_true, true_or, or_false, false_or, not_true_eq_false, not_false_eq_true, wr_of, uI_at, uC_at, q_bi_s, q_bl_s, q_br_s, q_bv_s, Int.toNat_natCast, tn_1, tn_m, tn_n, Int.toNat_zero, Int.toNat_one]
  rw [e77_10]
  simp (disch := omega) only [↓reduceIte, lt_TI, lt_FI, le_TI, le_FI, eq_TI, eq_FI, lt_TN, lt_FN, le_TN, le_FN, eq_TN, eq_FN, and_self, and_true, true_and, and_false, false_and, or_true, true_or, or_false, false_or, not_true_eq_false, not_false_eq_true, wr_of, uI_at, uC_at, q_bi_s, q_bl_s, q_br_s, q_bv_s, Int.toNat_natCast, tn_1, tn_m, tn_n, Int.toNat_zero, Int.toNat_one, tm, x1]
  unfold wbI
  have step : ∀ b : Nat, 1 ≤ b → b ≤ 3 → (R : Option (qV × qM)) → q_E (77, 18, [vu, vu, vi (xs.getD i 0 : Int), vi ((xr xs ^^^ xs.getD i 0 % 4 : Nat) : Int), vi ((b : Int) + 1)], []) (qk t u I J) = R → (xs.getD i 0 < b → R = some (vi (-2), qk t u I J)) → q_E (77, 18, [vu, vu, vi (xs.getD i 0 : Int), vi ((xr xs ^^^ xs.getD i 0 % 4 : Nat) : Int), vi (b : Int)], []) (qk t u I J) = if b ≤ xs.getD i 0 ∧ (xs.getD i 0 - b) % 4 = xr xs ^^^ (xs.getD i 0 % 4) then some (vi (b : Int), qk t u I J) else R := by
    intro b b1 b2 R hR hR2
    rw [e77_18]
    by_cases q : b ≤ xs.getD i 0
    · by_cases z : (xs.getD i 0 - b) % 4 = xr xs ^^^ (xs.getD i 0 % 4)
      · rw [if_pos (show b ≤ xs.getD i 0 ∧ (xs.getD i 0 - b) % 4 = xr xs ^^^ (xs.getD i 0 % 4) from ⟨q, z⟩)]
        simp (disch := omega) only [↓reduceIte, lt_TI, lt_FI, le_TI, le_FI, eq_TI, eq_FI, lt_TN, lt_FN, le_TN, le_FN, eq_TN, eq_FN, and_self, and_true, true_and, and_false, false_and, or_true, true_or, or_false, false_or, not_true_eq_false, not_false_eq_true, wr_of, uI_at, uC_at, q_bi_s, q_bl_s, q_br_s, q_bv_s, Int.toNat_natCast, tn_1, tn_m, tn_n, Int.toNat_zero, Int.toNat_one, tms b q]
      · rw [if_neg (show ¬ (b ≤ xs.getD i 0 ∧ (xs.getD i 0 - b) % 4 = xr xs ^^^ (xs.getD i 0 % 4)) from fun w => z w.2)]
        simp (disch := omega) only [↓reduceIte, lt_TI, lt_FI, le_TI, le_FI, eq_TI, eq_FI, lt_TN, lt_FN, le_TN, le_FN, eq_TN, eq_FN, and_self, and_true, true_and, and_false, false_and, or_true, true_or, or_false, false_or, not_true_eq_false, not_false_eq_true, wr_of, uI_at, uC_at, q_bi_s, q_bl_s, q_br_s, q_bv_s, Int.toNat_natCast, tn_1, tn_m, tn_n, Int.toNat_zero, Int.toNat_one, tms b q]
        exact hR
    · rw [if_neg (show ¬ (b ≤ xs.getD i 0 ∧ (xs.getD i 0 - b) % 4 = xr xs ^^^ (xs.getD i 0 % 4)) from fun w => q w.1), hR2 (by omega)]
      simp (disch := omega) only [↓reduceIte, lt_TI, lt_FI, le_TI, le_FI, eq_TI, eq_FI, lt_TN, lt_FN, le_TN, le_FN, eq_TN, eq_FN, and_self, and_true, true_and, and_false, false_and, or_true, true_or, or_false, false_or, not_true_eq_false, not_false_eq_true, wr_of, uI_at, uC_at, q_bi_s, q_bl_s, q_br_s, q_bv_s, Int.toNat_natCast, tn_1, tn_m, tn_n, Int.toNat_zero, Int.toNat_one]
  have e4 : q_E (77, 18, [vu, vu, vi (xs.getD i 0 : Int), vi ((xr xs ^^^ xs.getD i 0 % 4 : Nat) : Int), vi (((3 : Nat) : Int) + 1)], []) (qk t u I J) = some (vi (-2), qk t u I J) := by
    rw [e77_18]
    simp (disch := omega) only [↓reduceIte, lt_TI, lt_FI, le_TI, le_FI, eq_TI, eq_FI, lt_TN, lt_FN, le_TN, le_FN, eq_TN, eq_FN, and_self, and_true, true_and, and_false, false_and, or_true, true_or, or_false, false_or, not_true_eq_false, not_false_eq_true, wr_of, uI_at, uC_at, q_bi_s, q_bl_s, q_br_s, q_bv_s, Int.toNat_natCast, tn_1, tn_m, tn_n, Int.toNat_zero, Int.toNat_one]
  have e3 := step 3 (by omega) (by omega) _ e4 (fun _ => rfl)
  have e2 := step 2 (by omega) (by omega) _ e3 (fun z => by rw [if_neg (fun w => by omega)])
  have e1 := step 1 (by omega) (by omega) _ e2 (fun z => by rw [if_neg (fun w => by omega), if_neg (fun w => by omega)])
  rw [show vi (1 : Int) = vi ((1 : Nat) : Int) from rfl, e1]
  split
  · rfl
  · split
    · rfl
    · split <;> rfl
end

/-! Guesses: its work, what it answers -/
theorem fr_s (P : Nat → Bool) (n : Nat) : (List.range (n + 1)).filter P = (List.range n).filter P ++ if P n then [n] else [] := by
  rw [List.range_succ, List.filter_append]
  congr 1
  by_cases h : P n = true
  · rw [if_pos h, List.filter_cons_of_pos h]; rfl
  · rw [if_neg h, List.filter_cons_of_neg h]; rfl
theorem fr_len (P : Nat → Bool) (n : Nat) : ((List.range n).filter P).length ≤ n := by
  have := List.length_filter_le P (List.range n)
  rw [List.length_range] at this; exact this
theorem ma1_s (T : Tt) (v s : Nat) : ma1 T v (s + 1) = (ma1 T v s && (!decide (uplI T (tEc T s) = (v : Int)) || so T s 0)) := rfl
theorem ma2_s (T : Tt) (v s : Nat) : ma2 T v (s + 1) = (ma2 T v s && (!decide (uplI T (tEc T s) = (v : Int)) || so T s (tUs T v))) := rfl
section
variable {t u : Nat} {I J : Nat → Nat → Int} {X : Nat} {T : Tt}
theorem c_mayBe {set n : Nat} (hs : set < 16) (hn : n ≤ 4) (m1 m2 : Nat → Bool) (hm : ∀ v, v < 4 → I 229 v = (((if m1 v then 1 else 0) + (if m2 v then 2 else 0) : Nat) : Int)) : q_E (15, 0, [vr 227, vi (set : Int), vi (n : Int), vu, vu], []) (qk t u I J) = some (vi (if (List.range n).all (fun u => if bt set u = 1 then m2 u else m1 u) = true then 1 else 0), qk t u I J) := by
  rw [e15_0]
  have loop : ∀ r i : Nat, i + r = n → (∀ j, j < i → (if bt set j = 1 then m2 j else m1 j) = true) → q_E (15, 2, [vr 227, vi (set : Int), vi (n : Int), vi (i : Int), vu], []) (qk t u I J) = some (vi (if (List.range n).all (fun u => if bt set u = 1 then m2 u else m1 u) = true then 1 else 0), qk t u I J) := by
    intro r
    induction r with
    | zero =>
      intro i hi h
      rw [e15_2, if_pos (show (List.range n).all (fun u => if bt set u = 1 then m2 u else m1 u) = true from List.all_eq_true.mpr (fun j hj => h j (by have := List.mem_range.mp hj; omega)))]
      simp (disch := omega) only [↓reduceIte, lt_TI, lt_FI, le_TI, le_FI, eq_TI, eq_FI, lt_TN, lt_FN, le_TN, le_FN, eq_TN, eq_FN, and_self, and_true, true_and, and_false, false_and, or_true, true_or, or_false, false_or, not_true_eq_false, not_false_eq_true, wr_of, uI_at, uC_at, q_bi_s, q_bl_s, q_br_s, q_bv_s, Int.toNat_natCast, tn_1, tn_m, tn_n, Int.toNat_zero, Int.toNat_one]
    | succ r ih =>
      intro i hi h
      obtain ⟨-, -, x1, x2⟩ := b_ma (m1 i) (m2 i)
      have hb := bt_01 set i
      have hbad : (if bt set i = 1 then m2 i else m1 i) = false → ¬ (List.range n).all (fun u => if bt set u = 1 then m2 u else m1 u) = true := fun z q => by
        have := List.all_eq_true.mp q i (List.mem_range.mpr (by omega))
        rw [z] at this; cases this
      have hgo : (if bt set i = 1 then m2 i else m1 i) = true → ∀ j, j < i + 1 → (if bt set j = 1 then m2 j else m1 j) = true := fun z j hj => by
        by_cases e : j = i
        · rw [e]; exact z
        · exact h j (by omega)
      rw [e15_2]
      by_cases b : bt set i = 1
      · rw [if_pos b] at hbad hgo
        simp (disch := omega) only [↓reduceIte, lt_TI, lt_FI, le_TI, le_FI, eq_TI, eq_FI, lt_TN, lt_FN, le_TN, le_FN, eq_TN, eq_FN, and_self, and_true, true_and, and_false, false_and, or_true, true_or, or_false, false_or, not_true_eq_false, not_false_eq_true, wr_of, uI_at, uC_at, q_bi_s, q_bl_s, q_br_s, q_bv_s, Int.toNat_natCast, tn_1, tn_m, tn_n, Int.toNat_zero, Int.toNat_one, b_bit set hs i (by omega), b, hm i (by omega), x2]
        cases hv : m2 i with
        | false =>
          rw [if_neg (hbad hv)]
          simp (disch := omega) only [↓reduceIte, lt_TI, lt_FI, le_TI, le_FI, eq_TI, eq_FI, lt_TN, lt_FN, le_TN, le_FN, eq_TN, eq_FN, and_self, and_true, true_and, and_false, false_and, or_true, true_or, or_false, false_or, not_true_eq_false, not_false_eq_true, wr_of, uI_at, uC_at, q_bi_s, q_bl_s, q_br_s, q_bv_s, Int.toNat_natCast, tn_1, tn_m, tn_n, Int.toNat_zero, Int.toNat_one, Bool.false_eq_true, Int.natCast_zero]
        | true =>
          simp (disch := omega) only [↓reduceIte, lt_TI, lt_FI, le_TI, le_FI, eq_TI, eq_FI, lt_TN, lt_FN, le_TN, le_FN, eq_TN, eq_FN, and_self, and_true, true_and, and_false, false_and, or_true, true_or, or_false, false_or, not_true_eq_false, not_false_eq_true, wr_of, uI_at, uC_at, q_bi_s, q_bl_s, q_br_s, q_bv_s, Int.toNat_natCast, tn_1, tn_m, tn_n, Int.toNat_zero, Int.toNat_one]
          exact ih (i + 1) (by omega) (hgo hv)
      · rw [if_neg b] at hbad hgo
        simp (disch := omega) only [↓reduceIte, lt_TI, lt_FI, le_TI, le_FI, eq_TI, eq_FI, lt_TN, lt_FN, le_TN, le_FN, eq_TN, eq_FN, and_self, and_true, true_and, and_false, false_and, or_true, true_or, or_false, false_or, not_true_eq_false, not_false_eq_true, wr_of, uI_at, uC_at, q_bi_s, q_bl_s, q_br_s, q_bv_s, Int.toNat_natCast, tn_1, tn_m, tn_n, Int.toNat_zero, Int.toNat_one, b_bit set hs i (by omega), hm i (by omega), x1]
        cases hv : m1 i with
        | false =>
          rw [if_neg (hbad hv)]
          simp (disch := omega) only [↓reduceIte, lt_TI, lt_FI, le_TI, le_FI, eq_TI, eq_FI, lt_TN, lt_FN, le_TN, le_FN, eq_TN, eq_FN, and_self, and_true, true_and, and_false, false_and, or_true, true_or, or_false, false_or, not_true_eq_false, not_false_eq_true, wr_of, uI_at, uC_at, q_bi_s, q_bl_s, q_br_s, q_bv_s, Int.toNat_natCast, tn_1, tn_m, tn_n, Int.toNat_zero, Int.toNat_one, Bool.false_eq_true, Int.natCast_zero]
        | true =>
          simp (disch := omega) only [↓reduceIte, lt_TI, lt_FI, le_TI, le_FI, eq_TI, eq_FI, lt_TN, lt_FN, le_TN, le_FN, eq_TN, eq_FN, and_self, and_true, true_and, and_false, false_and, or_true, true_or, or_false, false_or, not_true_eq_false, not_false_eq_true, wr_of, uI_at, uC_at, q_bi_s, q_bl_s, q_br_s, q_bv_s, Int.toNat_natCast, tn_1, tn_m, tn_n, Int.toNat_zero, Int.toNat_one]
          exact ih (i + 1) (by omega) (hgo hv)
  exact loop n 0 (by omega) (fun j hj => by omega)
theorem c_work1 (A : TAt I X T) (ok : TOk T) : ∀ (n s : Nat) (I1 : Nat → Nat → Int), s + n = tE T → TAt I1 X T → I1 227 2 = fnw T s → I1 227 5 = (if gw T s then 1 else 0) → (∀ v, v < 4 → I1 229 v = (((if ma1 T v s then 1 else 0) + (if ma2 T v s then 2 else 0) : Nat) : Int)) → ∃ I', q_E (12, 33, [vr 227, vr X, vr 232, vi (s : Int), vu, vu, vu], []) (qk t u I1 J) = q_E (12, 117, [vr 227, vr X, vu, vi 0, vu, vu, vu], []) (qk t u (uI I' 227 1 0) J) ∧ I' 227 2 = fnso T ∧ I' 227 5 = (if gw T (tE T) then 1 else 0) ∧ (∀ v, v < 4 → I' 229 v = (((if ma1 T v (tE T) then 1 else 0) + (if ma2 T v (tE T) then 2 else 0) : Nat) : Int)) ∧ Kp 227 236 I1 I' := by
  have hXX : X = 7 ∨ X = 248 := A.1.2.2.2.2.2
  intro n
  induction n with
  | zero =>
    intro s I1 hs A1 f1 f2 f3
    have e : s = tE T := by omega
    subst e
    rw [e12_33]
    simp (disch := omega) only [↓reduceIte, lt_TI, lt_FI, le_TI, le_FI, eq_TI, eq_FI, lt_TN, lt_FN, le_TN, le_FN, eq_TN, eq_FN, and_self, and_true, true_and, and_false, false_and, or_true, true_or, or_false, false_or, not_true_eq_false, not_false_eq_true, wr_of, uI_at, uC_at, q_bi_s, q_bl_s, q_br_s, q_bv_s, Int.toNat_natCast, tn_1, tn_m, tn_n, Int.toNat_zero, Int.toNat_one, A1.1.1, A1.2.2.2.2.2.2.1]
    exact ⟨I1, rfl, by rw [f1]; exact fnw_eq T (tE T), f2, f3, Kp_rf⟩
  | succ n ih =>
    intro s I1 hs A1 f1 f2 f3
    obtain ⟨o1, o2, o3, o4, o5, o6, o7, o8, o9, o10, o11, o12⟩ := id ok
    obtain ⟨⟨k1, k2, k3, k4, ⟨l1, l2, l3, l4, l5, l6⟩, k6⟩, h2, h3, h4, h5, h6, h7, h8, h9, h10⟩ := id A1
    obtain ⟨m1, m2⟩ := k4 3 (by omega)
    obtain ⟨n1, n2⟩ := k4 2 (by omega)
    obtain ⟨v1, v2, v3⟩ := h10 s (by omega)
    obtain ⟨I2, a1, a2⟩ := c_isSo (t := t) (u := u) (J := J) A1 ok (s := s) (by omega) (more := 0) (by omega) WId_232 (Or.inl rfl)
    have K2 : Kp 230 236 I1 I2 := fun a ha => a2 a (by omega) (by omega) (by omega)
    have A2 : TAt I2 X T := TAt_kp A1 K2 (by omega)
    rw [e12_33]
    simp (disch := omega) only [↓reduceIte, lt_TI, lt_FI, le_TI, le_FI, eq_TI, eq_FI, lt_TN, lt_FN, le_TN, le_FN, eq_TN, eq_FN, and_self, and_true, true_and, and_false, false_and, or_true, true_or, or_false, false_or, not_true_eq_false, not_false_eq_true, wr_of, uI_at, uC_at, q_bi_s, q_bl_s, q_br_s, q_bv_s, Int.toNat_natCast, tn_1, tn_m, tn_n, Int.toNat_zero, Int.toNat_one, k1, h7, m1, m2, l4, v1, c_unsurePlace A1 o8]
    rw [e12_51]
    rw [show (vi (0 : Int)) = vi ((0 : Nat) : Int) from rfl, a1]
    simp (disch := omega) only [↓reduceIte, lt_TI, lt_FI, le_TI, le_FI, eq_TI, eq_FI, lt_TN, lt_FN, le_TN, le_FN, eq_TN, eq_FN, and_self, and_true, true_and, and_false, false_and, or_true, true_or, or_false, false_or, not_true_eq_false, not_false_eq_true, wr_of, uI_at, uC_at, q_bi_s, q_bl_s, q_br_s, q_bv_s, Int.toNat_natCast, tn_1, tn_m, tn_n, Int.toNat_zero, Int.toNat_one]
    rw [e12_61]
    -- what note leaves
    have fin : ∀ (b : Bool) (I3 : Nat → Nat → Int), (upl T (tEc T s) < tU T → b = so T s (tUs T (upl T (tEc T s)))) → Kp 230 236 I1 I3 → ∃ I', q_bv (q_E (13, 0, [vr 227, vi (s : Int), vi (uplI T (tEc T s)), vi (if so T s 0 = true then 1 else 0), vi (if b = true then 1 else 0)], []) (qk t u I3 J)) (fun M1 => q_E (12, 104, [vr 227, vr X, vr 232, vi (s : Int), vi (uplI T (tEc T s)), vi (if so T s 0 = true then 1 else 0), vi (if b = true then 1 else 0)], []) M1) = q_E (12, 117, [vr 227, vr X, vu, vi 0, vu, vu, vu], []) (qk t u (uI I' 227 1 0) J) ∧ I' 227 2 = fnso T ∧ I' 227 5 = (if gw T (tE T) then 1 else 0) ∧ (∀ v, v < 4 → I' 229 v = (((if ma1 T v (tE T) then 1 else 0) + (if ma2 T v (tE T) then 2 else 0) : Nat) : Int)) ∧ Kp 227 236 I1 I' := by
      intro b I3 hb K3
      have hv2 : upl T (tEc T s) ≤ tU T := fsti_le _ _
      obtain ⟨I4, b1, b2, b3, b4, b5⟩ := c_note (t := t) (u := u) (I := I3) (J := J) (s := s) (p := uplI T (tEc T s)) (a := so T s 0) (b := b) (f := fnw T s) (g := gw T s) (by unfold uplI; split; exact Or.inr ⟨upl T (tEc T s), by omega, rfl⟩; exact Or.inl rfl) (by rw [K3 227 (by omega)]; exact f1) (by rw [K3 227 (by omega)]; exact f2) (fun v => ma1 T v s) (fun v => ma2 T v s) (fun v hv => by rw [K3 229 (by omega)]; exact f3 v hv)
      have K4 : Kp 227 236 I1 I4 := Kp_tr K3 b5 (by omega) (by omega) (by omega) (by omega)
      obtain ⟨I5, c1, c2, c3, c4, c5⟩ := ih (s + 1) I4 (by omega) (TAt_kp A1 K4 (by omega)) b2 b3 (fun v hv => by
        rw [b4 v hv, ma1_s, ma2_s]
        by_cases e : uplI T (tEc T s) = (v : Int)
        · have e2 := (uplI_u T _ v).mp e
          rw [hb (by omega), e2.1]
        · rw [decide_eq_false e]; simp)
      refine ⟨I5, ?_, c2, c3, c4, Kp_tr K4 c5 (by omega) (by omega) (by omega) (by omega)⟩
      rw [b1]
      simp (disch := omega) only [↓reduceIte, lt_TI, lt_FI, le_TI, le_FI, eq_TI, eq_FI, lt_TN, lt_FN, le_TN, le_FN, eq_TN, eq_FN, and_self, and_true, true_and, and_false, false_and, or_true, true_or, or_false, false_or, not_true_eq_false, not_false_eq_true, wr_of, uI_at, uC_at, q_bi_s, q_bl_s, q_br_s, q_bv_s, Int.toNat_natCast, tn_1, tn_m, tn_n, Int.toNat_zero, Int.toNat_one]
      rw [e12_104]
      simp (disch := omega) only [↓reduceIte, lt_TI, lt_FI, le_TI, le_FI, eq_TI, eq_FI, lt_TN, lt_FN, le_TN, le_FN, eq_TN, eq_FN, and_self, and_true, true_and, and_false, false_and, or_true, true_or, or_false, false_or, not_true_eq_false, not_false_eq_true, wr_of, uI_at, uC_at, q_bi_s, q_bl_s, q_br_s, q_bv_s, Int.toNat_natCast, tn_1, tn_m, tn_n, Int.toNat_zero, Int.toNat_one]
      exact c1
    by_cases q : upl T (tEc T s) < tU T
    · obtain ⟨w1, w2⟩ := h9 _ q
      obtain ⟨-, w3, w4⟩ := o9 _ q
      obtain ⟨I3, c1, c2⟩ := c_isSo (t := t) (u := u) (J := J) A2 ok (s := s) (by omega) (more := tUs T (upl T (tEc T s))) (by omega) WId_232 (Or.inl rfl)
      have K3 : Kp 230 236 I2 I3 := fun a ha => c2 a (by omega) (by omega) (by omega)
      have f := fin (so T s (tUs T (upl T (tEc T s)))) I3 (fun _ => rfl) (Kp_tr K2 K3 (by omega) (by omega) (by omega) (by omega))
      unfold uplI at f
      simp only [if_pos q] at f ⊢
      simp (disch := omega) only [↓reduceIte, lt_TI, lt_FI, le_TI, le_FI, eq_TI, eq_FI, lt_TN, lt_FN, le_TN, le_FN, eq_TN, eq_FN, and_self, and_true, true_and, and_false, false_and, or_true, true_or, or_false, false_or, not_true_eq_false, not_false_eq_true, wr_of, uI_at, uC_at, q_bi_s, q_bl_s, q_br_s, q_bv_s, Int.toNat_natCast, tn_1, tn_m, tn_n, Int.toNat_zero, Int.toNat_one, k1, n1, n2, l3, K2 (X + 11 + 2) (by omega), w2, c1]
      rw [e12_83]
      cases hs : so T s (tUs T (upl T (tEc T s))) with
      | false =>
        rw [hs] at f
        simp (disch := omega) only [↓reduceIte, lt_TI, lt_FI, le_TI, le_FI, eq_TI, eq_FI, lt_TN, lt_FN, le_TN, le_FN, eq_TN, eq_FN, and_self, and_true, true_and, and_false, false_and, or_true, true_or, or_false, false_or, not_true_eq_false, not_false_eq_true, wr_of, uI_at, uC_at, q_bi_s, q_bl_s, q_br_s, q_bv_s, Int.toNat_natCast, tn_1, tn_m, tn_n, Int.toNat_zero, Int.toNat_one, Bool.false_eq_true] at f
        simp (disch := omega) only [↓reduceIte, lt_TI, lt_FI, le_TI, le_FI, eq_TI, eq_FI, lt_TN, lt_FN, le_TN, le_FN, eq_TN, eq_FN, and_self, and_true, true_and, and_false, false_and, or_true, true_or, or_false, false_or, not_true_eq_false, not_false_eq_true, wr_of, uI_at, uC_at, q_bi_s, q_bl_s, q_br_s, q_bv_s, Int.toNat_natCast, tn_1, tn_m, tn_n, Int.toNat_zero, Int.toNat_one, Bool.false_eq_true]
        exact f
      | true =>
        rw [hs] at f
        simp (disch := omega) only [↓reduceIte, lt_TI, lt_FI, le_TI, le_FI, eq_TI, eq_FI, lt_TN, lt_FN, le_TN, le_FN, eq_TN, eq_FN, and_self, and_true, true_and, and_false, false_and, or_true, true_or, or_false, false_or, not_true_eq_false, not_false_eq_true, wr_of, uI_at, uC_at, q_bi_s, q_bl_s, q_br_s, q_bv_s, Int.toNat_natCast, tn_1, tn_m, tn_n, Int.toNat_zero, Int.toNat_one] at f
        simp (disch := omega) only [↓reduceIte, lt_TI, lt_FI, le_TI, le_FI, eq_TI, eq_FI, lt_TN, lt_FN, le_TN, le_FN, eq_TN, eq_FN, and_self, and_true, true_and, and_false, false_and, or_true, true_or, or_false, false_or, not_true_eq_false, not_false_eq_true, wr_of, uI_at, uC_at, q_bi_s, q_bl_s, q_br_s, q_bv_s, Int.toNat_natCast, tn_1, tn_m, tn_n, Int.toNat_zero, Int.toNat_one]
        exact f
    · have f := fin false I2 (fun z => absurd z q) K2
      unfold uplI at f
      simp only [if_neg q] at f ⊢
      simp (disch := omega) only [↓reduceIte, lt_TI, lt_FI, le_TI, le_FI, eq_TI, eq_FI, lt_TN, lt_FN, le_TN, le_FN, eq_TN, eq_FN, and_self, and_true, true_and, and_false, false_and, or_true, true_or, or_false, false_or, not_true_eq_false, not_false_eq_true, wr_of, uI_at, uC_at, q_bi_s, q_bl_s, q_br_s, q_bv_s, Int.toNat_natCast, tn_1, tn_m, tn_n, Int.toNat_zero, Int.toNat_one, Bool.false_eq_true] at f
      simp (disch := omega) only [↓reduceIte, lt_TI, lt_FI, le_TI, le_FI, eq_TI, eq_FI, lt_TN, lt_FN, le_TN, le_FN, eq_TN, eq_FN, and_self, and_true, true_and, and_false, false_and, or_true, true_or, or_false, false_or, not_true_eq_false, not_false_eq_true, wr_of, uI_at, uC_at, q_bi_s, q_bl_s, q_br_s, q_bv_s, Int.toNat_natCast, tn_1, tn_m, tn_n, Int.toNat_zero, Int.toNat_one]
      exact f
/-- the sets that fit are laid down, one by one -/
theorem c_work2 (ok : TOk T) : ∀ (n i : Nat) (I1 : Nat → Nat → Int), i + n = 2 ^ tU T → kd X = 18 → I1 X 10 = (tU T : Int) → (X = 7 ∨ X = 248) → I1 227 5 = (if gw T (tE T) then 1 else 0) → (∀ v, v < 4 → I1 229 v = (((if ma1 T v (tE T) then 1 else 0) + (if ma2 T v (tE T) then 2 else 0) : Nat) : Int)) → I1 227 1 = (((List.range i).filter (may T)).length : Int) → (∀ j, j < ((List.range i).filter (may T)).length → I1 228 j = (((List.range i).filter (may T)).getD j 0 : Int)) → ∃ I', q_E (12, 117, [vr 227, vr X, vu, vi (i : Int), vu, vu, vu], []) (qk t u I1 J) = some (vu, qk t u I' J) ∧ I' 227 1 = ((fitL T).length : Int) ∧ (∀ j, j < (fitL T).length → I' 228 j = ((fitL T).getD j 0 : Int)) ∧ I' 227 2 = I1 227 2 ∧ Kp 227 228 I1 I' := by
  obtain ⟨o1, o2, o3, o4, o5, o6, o7, o8, o9, o10, o11, o12⟩ := id ok
  have p16 := pow_le_16 o8
  intro n
  induction n with
  | zero =>
    intro i I1 hi k1 x10 hX f2 f3 g1 g2
    have e : i = 2 ^ tU T := by omega
    subst e
    rw [e12_117]
    simp (disch := omega) only [↓reduceIte, lt_TI, lt_FI, le_TI, le_FI, eq_TI, eq_FI, lt_TN, lt_FN, le_TN, le_FN, eq_TN, eq_FN, and_self, and_true, true_and, and_false, false_and, or_true, true_or, or_false, false_or, not_true_eq_false, not_false_eq_true, wr_of, uI_at, uC_at, q_bi_s, q_bl_s, q_br_s, q_bv_s, Int.toNat_natCast, tn_1, tn_m, tn_n, Int.toNat_zero, Int.toNat_one, k1, x10, b_shl (tU T) (by omega)]
    rw [fitL_may]
    exact ⟨I1, rfl, g1, g2, rfl, Kp_rf⟩
  | succ n ih =>
    intro i I1 hi k1 x10 hX f2 f3 g1 g2
    have hl := fr_len (may T) i
    have em := c_mayBe (t := t) (u := u) (I := I1) (J := J) (set := i) (n := tU T) (by omega) o8 (fun v => ma1 T v (tE T)) (fun v => ma2 T v (tE T)) f3
    have skip : may T i = false → ∃ I', q_E (12, 117, [vr 227, vr X, vu, vi ((i : Int) + 1), vu, vu, vu], []) (qk t u I1 J) = some (vu, qk t u I' J) ∧ I' 227 1 = ((fitL T).length : Int) ∧ (∀ j, j < (fitL T).length → I' 228 j = ((fitL T).getD j 0 : Int)) ∧ I' 227 2 = I1 227 2 ∧ Kp 227 228 I1 I' := fun hm => by
      have e : (List.range (i + 1)).filter (may T) = (List.range i).filter (may T) := by rw [fr_s, hm]; simp
      exact ih (i + 1) I1 (by omega) k1 x10 hX f2 f3 (by rw [e]; exact g1) (by rw [e]; exact g2)
    rw [e12_117]
    cases hg : gw T (tE T) with
    | false =>
      rw [hg] at f2
      simp (disch := omega) only [↓reduceIte, lt_TI, lt_FI, le_TI, le_FI, eq_TI, eq_FI, lt_TN, lt_FN, le_TN, le_FN, eq_TN, eq_FN, and_self, and_true, true_and, and_false, false_and, or_true, true_or, or_false, false_or, not_true_eq_false, not_false_eq_true, wr_of, uI_at, uC_at, q_bi_s, q_bl_s, q_br_s, q_bv_s, Int.toNat_natCast, tn_1, tn_m, tn_n, Int.toNat_zero, Int.toNat_one, k1, x10, b_shl (tU T) (by omega), f2, Bool.false_eq_true]
      exact skip (by unfold may; rw [hg]; rfl)
    | true =>
      rw [hg] at f2
      simp (disch := omega) only [↓reduceIte, lt_TI, lt_FI, le_TI, le_FI, eq_TI, eq_FI, lt_TN, lt_FN, le_TN, le_FN, eq_TN, eq_FN, and_self, and_true, true_and, and_false, false_and, or_true, true_or, or_false, false_or, not_true_eq_false, not_false_eq_true, wr_of, uI_at, uC_at, q_bi_s, q_bl_s, q_br_s, q_bv_s, Int.toNat_natCast, tn_1, tn_m, tn_n, Int.toNat_zero, Int.toNat_one, k1, x10, b_shl (tU T) (by omega), f2, em]
      rw [e12_143]
      cases ha : (List.range (tU T)).all (fun u => if bt i u = 1 then ma2 T u (tE T) else ma1 T u (tE T)) with
      | false =>
        simp (disch := omega) only [↓reduceIte, lt_TI, lt_FI, le_TI, le_FI, eq_TI, eq_FI, lt_TN, lt_FN, le_TN, le_FN, eq_TN, eq_FN, and_self, and_true, true_and, and_false, false_and, or_true, true_or, or_false, false_or, not_true_eq_false, not_false_eq_true, wr_of, uI_at, uC_at, q_bi_s, q_bl_s, q_br_s, q_bv_s, Int.toNat_natCast, tn_1, tn_m, tn_n, Int.toNat_zero, Int.toNat_one, Bool.false_eq_true]
        exact skip (by unfold may; rw [ha, Bool.and_false])
      | true =>
        simp (disch := omega) only [↓reduceIte, lt_TI, lt_FI, le_TI, le_FI, eq_TI, eq_FI, lt_TN, lt_FN, le_TN, le_FN, eq_TN, eq_FN, and_self, and_true, true_and, and_false, false_and, or_true, true_or, or_false, false_or, not_true_eq_false, not_false_eq_true, wr_of, uI_at, uC_at, q_bi_s, q_bl_s, q_br_s, q_bv_s, Int.toNat_natCast, tn_1, tn_m, tn_n, Int.toNat_zero, Int.toNat_one, g1]
        have hm : may T i = true := by unfold may; rw [ha, hg]; rfl
        have e : (List.range (i + 1)).filter (may T) = (List.range i).filter (may T) ++ [i] := by rw [fr_s, hm]; rfl
        have K1 : Kp 227 228 I1 (uI (uI I1 228 ((List.range i).filter (may T)).length (i : Int)) 227 1 ((((List.range i).filter (may T)).length : Int) + 1)) := Kp_uI (Kp_uI Kp_rf (by omega) (by omega)) (by omega) (by omega)
        obtain ⟨I', a1, a2, a3, a4, a5⟩ := ih (i + 1) (uI (uI I1 228 ((List.range i).filter (may T)).length (i : Int)) 227 1 ((((List.range i).filter (may T)).length : Int) + 1)) (by omega) k1 (by rw [K1 X (by omega)]; exact x10) hX (by rw [hg]; simp (disch := omega) only [↓reduceIte, lt_TI, lt_FI, le_TI, le_FI, eq_TI, eq_FI, lt_TN, lt_FN, le_TN, le_FN, eq_TN, eq_FN, and_self, and_true, true_and, and_false, false_and, or_true, true_or, or_false, false_or, not_true_eq_false, not_false_eq_true, wr_of, uI_at, uC_at, q_bi_s, q_bl_s, q_br_s, q_bv_s, Int.toNat_natCast, tn_1, tn_m, tn_n, Int.toNat_zero, Int.toNat_one, f2]) (fun v hv => by rw [K1 229 (by omega)]; exact f3 v hv) (by rw [e, List.length_append]; simp (disch := omega) only [↓reduceIte, lt_TI, lt_FI, le_TI, le_FI, eq_TI, eq_FI, lt_TN, lt_FN, le_TN, le_FN, eq_TN, eq_FN, and_self, and_true, true_and, and_false, false_and, or_true, true_or, or_false, false_or, not_true_eq_false, not_false_eq_true, wr_of, uI_at, uC_at, q_bi_s, q_bl_s, q_br_s, q_bv_s, Int.toNat_natCast, tn_1, tn_m, tn_n, Int.toNat_zero, Int.toNat_one] <;> rfl) (fun j hj => by
          rw [e, List.length_append] at hj
          have hj : j < ((List.range i).filter (may T)).length + 1 := hj
          rw [e, gD_app]
          by_cases q : j < ((List.range i).filter (may T)).length
          · rw [if_pos q, uI_ne (Or.inl (by omega)), uI_ne (Or.inr (by omega))]; exact g2 j q
          · have z : j = ((List.range i).filter (may T)).length := by omega
            rw [if_neg q, z, Nat.sub_self]; simp (disch := omega) only [↓reduceIte, lt_TI, lt_FI, le_TI, le_FI, eq_TI, eq_FI, lt_TN, lt_FN, le_TN, le_FN, eq_TN, eq_FN, and_self, and_true, true_and, and_false, false_and, or_true, true_or, or_false, false_or, not_true_eq_false, not_false_eq_true, wr_of, uI_at, uC_at, q_bi_s, q_bl_s, q_br_s, q_bv_s, Int.toNat_natCast, tn_1, tn_m, tn_n, Int.toNat_zero, Int.toNat_one, List.getD_cons_zero])
        exact ⟨I', a1, a2, a3, by rw [a4]; simp (disch := omega) only [↓reduceIte, lt_TI, lt_FI, le_TI, le_FI, eq_TI, eq_FI, lt_TN, lt_FN, le_TN, le_FN, eq_TN, eq_FN, and_self, and_true, true_and, and_false, false_and, or_true, true_or, or_false, false_or, not_true_eq_false, not_false_eq_true, wr_of, uI_at, uC_at, q_bi_s, q_bl_s, q_br_s, q_bv_s, Int.toNat_natCast, tn_1, tn_m, tn_n, Int.toNat_zero, Int.toNat_one], Kp_tr K1 a5 (by omega) (by omega) (by omega) (by omega)⟩
theorem c_work (A : TAt I X T) (ok : TOk T) : ∃ I', q_E (12, 0, [vr 227, vr X, vr 232, vu, vu, vu, vu], []) (qk t u I J) = some (vu, qk t u I' J) ∧ GAt I' T ∧ Kp 227 236 I I' := by
  have hX : X = 7 ∨ X = 248 := A.1.2.2.2.2.2
  rw [e12_0]
  have ini : ∃ I1, q_E (12, 13, [vr 227, vr X, vr 232, vi 0, vu, vu, vu], []) (qk t u (uI (uI I 227 2 (-2)) 227 5 1) J) = q_E (12, 33, [vr 227, vr X, vr 232, vi 0, vu, vu, vu], []) (qk t u I1 J) ∧ I1 227 2 = -2 ∧ I1 227 5 = 1 ∧ (∀ v, v < 4 → I1 229 v = 3) ∧ Kp 227 229 I I1 := by
    refine ⟨uI (uI (uI (uI (uI (uI I 227 2 (-2)) 227 5 1) 229 0 3) 229 1 3) 229 2 3) 229 3 3, ?_, by simp (disch := omega) only [↓reduceIte, lt_TI, lt_FI, le_TI, le_FI, eq_TI, eq_FI, lt_TN, lt_FN, le_TN, le_FN, eq_TN, eq_FN, and_self, and_true, true_and, and_false, false_and, or_true, true_or, or_false, false_or, not_true_eq_false, not_false_eq_true, wr_of, uI_at, uC_at, q_bi_s, q_bl_s, q_br_s, q_bv_s, Int.toNat_natCast, tn_1, tn_m, tn_n, Int.toNat_zero, Int.toNat_one], by simp (disch := omega) only [↓reduceIte, lt_TI, lt_FI, le_TI, le_FI, eq_TI, eq_FI, lt_TN, lt_FN, le_TN, le_FN, eq_TN, eq_FN, and_self, and_true, true_and, and_false, false_and, or_true, true_or, or_false, false_or, not_true_eq_false, not_false_eq_true, wr_of, uI_at, uC_at, q_bi_s, q_bl_s, q_br_s, q_bv_s, Int.toNat_natCast, tn_1, tn_m, tn_n, Int.toNat_zero, Int.toNat_one], fun v hv => ?_, Kp_uI (Kp_uI (Kp_uI (Kp_uI (Kp_uI (Kp_uI Kp_rf (by omega) (by omega)) (by omega) (by omega)) (by omega) (by omega)) (by omega) (by omega)) (by omega) (by omega)) (by omega) (by omega)⟩
    · rw [e12_13]; simp (disch := omega) only [↓reduceIte, lt_TI, lt_FI, le_TI, le_FI, eq_TI, eq_FI, lt_TN, lt_FN, le_TN, le_FN, eq_TN, eq_FN, and_self, and_true, true_and, and_false, false_and, or_true, true_or, or_false, false_or, not_true_eq_false, not_false_eq_true, wr_of, uI_at, uC_at, q_bi_s, q_bl_s, q_br_s, q_bv_s, Int.toNat_natCast, tn_1, tn_m, tn_n, Int.toNat_zero, Int.toNat_one]
      rw [e12_13]; simp (disch := omega) only [↓reduceIte, lt_TI, lt_FI, le_TI, le_FI, eq_TI, eq_FI, lt_TN, lt_FN, le_TN, le_FN, eq_TN, eq_FN, and_self, and_true, true_and, and_false, false_and, or_true, true_or, or_false, false_or, not_true_eq_false, not_false_eq_true, wr_of, uI_at, uC_at, q_bi_s, q_bl_s, q_br_s, q_bv_s, Int.toNat_natCast, tn_1, tn_m, tn_n, Int.toNat_zero, Int.toNat_one]
      rw [e12_13]; simp (disch := omega) only [↓reduceIte, lt_TI, lt_FI, le_TI, le_FI, eq_TI, eq_FI, lt_TN, lt_FN, le_TN, le_FN, eq_TN, eq_FN, and_self, and_true, true_and, and_false, false_and, or_true, true_or, or_false, false_or, not_true_eq_false, not_false_eq_true, wr_of, uI_at, uC_at, q_bi_s, q_bl_s, q_br_s, q_bv_s, Int.toNat_natCast, tn_1, tn_m, tn_n, Int.toNat_zero, Int.toNat_one]
      rw [e12_13]; simp (disch := omega) only [↓reduceIte, lt_TI, lt_FI, le_TI, le_FI, eq_TI, eq_FI, lt_TN, lt_FN, le_TN, le_FN, eq_TN, eq_FN, and_self, and_true, true_and, and_false, false_and, or_true, true_or, or_false, false_or, not_true_eq_false, not_false_eq_true, wr_of, uI_at, uC_at, q_bi_s, q_bl_s, q_br_s, q_bv_s, Int.toNat_natCast, tn_1, tn_m, tn_n, Int.toNat_zero, Int.toNat_one]
      rw [e12_13]; simp (disch := omega) only [↓reduceIte, lt_TI, lt_FI, le_TI, le_FI, eq_TI, eq_FI, lt_TN, lt_FN, le_TN, le_FN, eq_TN, eq_FN, and_self, and_true, true_and, and_false, false_and, or_true, true_or, or_false, false_or, not_true_eq_false, not_false_eq_true, wr_of, uI_at, uC_at, q_bi_s, q_bl_s, q_br_s, q_bv_s, Int.toNat_natCast, tn_1, tn_m, tn_n, Int.toNat_zero, Int.toNat_one]
      rfl
    · have : v = 0 ∨ v = 1 ∨ v = 2 ∨ v = 3 := by omega
      rcases this with q | q | q | q <;> subst q <;> simp (disch := omega) only [↓reduceIte, lt_TI, lt_FI, le_TI, le_FI, eq_TI, eq_FI, lt_TN, lt_FN, le_TN, le_FN, eq_TN, eq_FN, and_self, and_true, true_and, and_false, false_and, or_true, true_or, or_false, false_or, not_true_eq_false, not_false_eq_true, wr_of, uI_at, uC_at, q_bi_s, q_bl_s, q_br_s, q_bv_s, Int.toNat_natCast, tn_1, tn_m, tn_n, Int.toNat_zero, Int.toNat_one]
  obtain ⟨I1, a1, a2, a3, a4, a5⟩ := ini
  obtain ⟨I2, b1, b2, b3, b4, b5⟩ := c_work1 (t := t) (u := u) (J := J) A ok (tE T) 0 I1 (by omega) (TAt_kp A a5 (by omega)) a2 a3 (fun v hv => a4 v hv)
  have K3 : Kp 227 228 I2 (uI I2 227 1 0) := Kp_uI Kp_rf (by omega) (by omega)
  have A2 := TAt_kp (TAt_kp (TAt_kp A a5 (by omega)) b5 (by omega)) K3 (by omega)
  obtain ⟨I3, c1, c2, c3, c4, c5⟩ := c_work2 (t := t) (u := u) (J := J) ok (2 ^ tU T) 0 (uI I2 227 1 0) (by omega) A2.1.1 A2.2.2.2.2.2.1 hX (by simp (disch := omega) only [↓reduceIte, lt_TI, lt_FI, le_TI, le_FI, eq_TI, eq_FI, lt_TN, lt_FN, le_TN, le_FN, eq_TN, eq_FN, and_self, and_true, true_and, and_false, false_and, or_true, true_or, or_false, false_or, not_true_eq_false, not_false_eq_true, wr_of, uI_at, uC_at, q_bi_s, q_bl_s, q_br_s, q_bv_s, Int.toNat_natCast, tn_1, tn_m, tn_n, Int.toNat_zero, Int.toNat_one] <;> exact b3) (fun v hv => by rw [K3 229 (by omega)]; exact b4 v hv) (by simp (disch := omega) only [↓reduceIte, lt_TI, lt_FI, le_TI, le_FI, eq_TI, eq_FI, lt_TN, lt_FN, le_TN, le_FN, eq_TN, eq_FN, and_self, and_true, true_and, and_false, false_and, or_true, true_or, or_false, false_or, not_true_eq_false, not_false_eq_true, wr_of, uI_at, uC_at, q_bi_s, q_bl_s, q_br_s, q_bv_s, Int.toNat_natCast, tn_1, tn_m, tn_n, Int.toNat_zero, Int.toNat_one] <;> rfl) (fun j hj => by cases hj)
  rw [a1, show (vi (0 : Int)) = vi ((0 : Nat) : Int) from rfl, b1]
  refine ⟨I3, c1, ⟨c2, c3, by rw [c4, uI_ne (Or.inr (by omega))]; exact b2⟩, ?_⟩
  exact Kp_tr a5 (Kp_tr b5 (Kp_tr K3 c5 (Nat.le_refl _) (Nat.le_refl _) (Nat.le_refl _) (Nat.le_refl _)) (lo := 227) (hi := 236) (by omega) (by omega) (by omega) (by omega)) (by omega) (by omega) (by omega) (by omega)
end

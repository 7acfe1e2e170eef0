/-! Chance -/
section
variable {t u : Nat} {I J : Nat → Nat → Int} {W law hold : Nat} {x : Hp}
theorem c_power {b e : Nat} (hb : b ≤ 100) (he : e ≤ 8) : q_E (8, 0, [vi (b : Int), vi (e : Int), vu, vu, vu], []) (qk t u I J) = some (vl ((b ^ e : Nat) : Int), qk t u I J) := by
  have loop : ∀ r i : Nat, i + r = e → q_E (8, 5, [vi (b : Int), vi (e : Int), vl ((b ^ i : Nat) : Int), vu, vi (i : Int)], []) (qk t u I J) = some (vl ((b ^ e : Nat) : Int), qk t u I J) := by
    intro r
    induction r with
    | zero =>
      intro i hi
      rw [e8_5]
      simp (disch := omega) only [↓reduceIte, lt_TI, lt_FI, le_TI, le_FI, eq_TI, eq_FI, lt_TN, lt_FN, le_TN, le_FN, eq_TN, eq_FN, and_self, and_true, true_and, and_false, false_and, or_true, true_or, or_false, false_or, not_true_eq_false, not_false_eq_true, wr_of, uI_at, uC_at, q_bi_s, q_bl_s, q_br_s, q_bv_s, Int.toNat_natCast, tn_1, tn_m, tn_n, Int.toNat_zero, Int.toNat_one]
      rw [show i = e by omega]
    | succ r ih =>
      intro i hi
      have hz := pb_le (e := i + 1) hb (by omega)
      have en := ih (i + 1) (by omega)
      have ez : ((b ^ i : Nat) : Int) * (b : Int) = ((b ^ (i + 1) : Nat) : Int) := by rw [Nat.pow_succ, Int.natCast_mul]
      rw [e8_5]
      generalize b ^ (i + 1) = Z at hz en ez
      simp (disch := omega) only [↓reduceIte, lt_TI, lt_FI, le_TI, le_FI, eq_TI, eq_FI, lt_TN, lt_FN, le_TN, le_FN, eq_TN, eq_FN, and_self, and_true, true_and, and_false, false_and, or_true, true_or, or_false, false_or, not_true_eq_false, not_false_eq_true, wr_of, uI_at, uC_at, q_bi_s, q_bl_s, q_br_s, q_bv_s, Int.toNat_natCast, tn_1, tn_m, tn_n, Int.toNat_zero, Int.toNat_one, ez, wl_of]
      exact en
  rw [e8_0]
  exact loop e 0 (by omega)
theorem c_choices {n m : Nat} (hn : n ≤ 8) (hm : m ≤ n) : q_E (7, 0, [vi (n : Int), vi (m : Int), vu, vu, vu], []) (qk t u I J) = some (vl (chs n m : Int), qk t u I J) := by
  have loop : ∀ r i : Nat, i + r = m → q_E (7, 5, [vi (n : Int), vi (m : Int), vl (chs n i : Int), vu, vi (i : Int)], []) (qk t u I J) = some (vl (chs n m : Int), qk t u I J) := by
    intro r
    induction r with
    | zero =>
      intro i hi
      rw [e7_5]
      simp (disch := omega) only [↓reduceIte, lt_TI, lt_FI, le_TI, le_FI, eq_TI, eq_FI, lt_TN, lt_FN, le_TN, le_FN, eq_TN, eq_FN, and_self, and_true, true_and, and_false, false_and, or_true, true_or, or_false, false_or, not_true_eq_false, not_false_eq_true, wr_of, uI_at, uC_at, q_bi_s, q_bl_s, q_br_s, q_bv_s, Int.toNat_natCast, tn_1, tn_m, tn_n, Int.toNat_zero, Int.toNat_one]
      rw [show i = m by omega]
    | succ r ih =>
      intro i hi
      obtain ⟨c1, c2⟩ := chs_s n (by omega) i (by omega) (by omega)
      have b := chs_b n (by omega) i (by omega)
      have en := ih (i + 1) (by omega)
      have e1 : (chs n i : Int) * ((n : Int) - (i : Int)) = ((chs n i * (n - i) : Nat) : Int) := by
        rw [Int.natCast_mul, show ((n - i : Nat) : Int) = (n : Int) - (i : Int) by omega]
      have e2 : Int.tdiv ((chs n i * (n - i) : Nat) : Int) ((i : Int) + 1) = (chs n (i + 1) : Int) := by
        rw [← c1]; exact (Int.ofNat_tdiv _ (i + 1)).symm
      have b2 := chs_b n (by omega) (i + 1) (by omega)
      rw [e7_5]
      generalize chs n i * (n - i) = Z at c2 e1 e2
      generalize chs n (i + 1) = Y at b2 e2 en
      simp (disch := omega) only [↓reduceIte, lt_TI, lt_FI, le_TI, le_FI, eq_TI, eq_FI, lt_TN, lt_FN, le_TN, le_FN, eq_TN, eq_FN, and_self, and_true, true_and, and_false, false_and, or_true, true_or, or_false, false_or, not_true_eq_false, not_false_eq_true, wr_of, uI_at, uC_at, q_bi_s, q_bl_s, q_br_s, q_bv_s, Int.toNat_natCast, tn_1, tn_m, tn_n, Int.toNat_zero, Int.toNat_one, e1, e2, wl_of]
      exact en
  rw [e7_0]
  have := loop m 0 (by omega)
  rw [chs_0] at this
  exact this
theorem wt_le {s n a : Nat} (hs : s ≤ 100) (ha : a ≤ n) : wt (100 - s) s n a ≤ 100 ^ n := by
  have h := bn_T (100 - s) s n (fun _ => 1)
  rw [bn_1, show 100 - s + s = 100 by omega] at h
  rw [← h]
  have h2 := rg_mono (fun a => wt (100 - s) s n a * 1) (show a + 1 ≤ n + 1 by omega)
  rw [rg_sum_s] at h2
  omega
theorem c_weight {s n a : Nat} (hs : s ≤ 100) (hn : n ≤ 8) (ha : a ≤ n) : q_E (6, 0, [vi (s : Int), vi (n : Int), vi (a : Int)], []) (qk t u I J) = some (vl (wt (100 - s) s n a : Int), qk t u I J) := by
  have c1 := c_choices (t := t) (u := u) (I := I) (J := J) hn ha
  have c2 := c_power (t := t) (u := u) (I := I) (J := J) (b := 100 - s) (e := a) (by omega) (by omega)
  have c3 := c_power (t := t) (u := u) (I := I) (J := J) (b := s) (e := n - a) (by omega) (by omega)
  have hc := chs_b n (by omega) a (by omega)
  have hp := pb_le (b := 100 - s) (e := a) (by omega) (by omega)
  have hw := wt_le hs ha
  have h10 := p100 hn
  have hm : chs n a * (100 - s) ^ a ≤ 70 * 10000000000000000 := Nat.mul_le_mul hc hp
  have n1 : ((100 : Int) - (s : Int)) = ((100 - s : Nat) : Int) := by omega
  have n2 : ((n : Int) - (a : Int)) = ((n - a : Nat) : Int) := by omega
  have m1 : (chs n a : Int) * (((100 - s) ^ a : Nat) : Int) = ((chs n a * (100 - s) ^ a : Nat) : Int) := (Int.natCast_mul _ _).symm
  have m2 : ((chs n a * (100 - s) ^ a : Nat) : Int) * ((s ^ (n - a) : Nat) : Int) = (wt (100 - s) s n a : Int) := (Int.natCast_mul _ _).symm
  rw [e6_0, c1]
  simp (disch := omega) only [↓reduceIte, lt_TI, lt_FI, le_TI, le_FI, eq_TI, eq_FI, lt_TN, lt_FN, le_TN, le_FN, eq_TN, eq_FN, and_self, and_true, true_and, and_false, false_and, or_true, true_or, or_false, false_or, not_true_eq_false, not_false_eq_true, wr_of, uI_at, uC_at, q_bi_s, q_bl_s, q_br_s, q_bv_s, Int.toNat_natCast, tn_1, tn_m, tn_n, Int.toNat_zero, Int.toNat_one]
  rw [e6_5]
  simp (disch := omega) only [↓reduceIte, lt_TI, lt_FI, le_TI, le_FI, eq_TI, eq_FI, lt_TN, lt_FN, le_TN, le_FN, eq_TN, eq_FN, and_self, and_true, true_and, and_false, false_and, or_true, true_or, or_false, false_or, not_true_eq_false, not_false_eq_true, wr_of, uI_at, uC_at, q_bi_s, q_bl_s, q_br_s, q_bv_s, Int.toNat_natCast, tn_1, tn_m, tn_n, Int.toNat_zero, Int.toNat_one, n1, c2]
  rw [e6_13]
  simp (disch := omega) only [↓reduceIte, lt_TI, lt_FI, le_TI, le_FI, eq_TI, eq_FI, lt_TN, lt_FN, le_TN, le_FN, eq_TN, eq_FN, and_self, and_true, true_and, and_false, false_and, or_true, true_or, or_false, false_or, not_true_eq_false, not_false_eq_true, wr_of, uI_at, uC_at, q_bi_s, q_bl_s, q_br_s, q_bv_s, Int.toNat_natCast, tn_1, tn_m, tn_n, Int.toNat_zero, Int.toNat_one, n2, c3]
  rw [m1]
  generalize chs n a * (100 - s) ^ a = Z at hm m2 ⊢
  rw [e6_21, wl_of (z := (Z : Int)) (by omega) (by omega), m2]
  generalize wt (100 - s) s n a = Y at hw ⊢
  rw [wl_of (z := (Y : Int)) (by omega) (by omega)]
theorem c_odds (h1 : law ≤ 3) (hh : 2 ≤ hold) (hh2 : hold ≤ 9) {s n many : Nat} (hs : s ≤ 100) (hn : n ≤ 8) (hm : many ≤ 100) (hx : HOk x) (A : WWk I W law hold x 0) : ∃ I', q_E (4, 0, [vr W, vi (s : Int), vi (n : Int), vi (many : Int), vu, vu, vu], []) (qk t u I J) = some (vl (bn (100 - s) s n (fun a => if many ≤ (nti law hold a x).1.length then 1 else 0) : Int), qk t u I' J) ∧ Kp W (W + 4) I I' := by
  have tot := bn_T (100 - s) s n (fun a => if many ≤ (nti law hold a x).1.length then 1 else 0)
  have bd := bn_le (100 - s) s n (fun a => if many ≤ (nti law hold a x).1.length then 1 else 0) (M := 1) (fun a => by show (if _ then 1 else 0) ≤ 1; split <;> omega)
  have h10 := p100 hn
  rw [show 100 - s + s = 100 by omega] at bd
  have loop : ∀ (r a : Nat) (I1 : Nat → Nat → Int), a + r = n + 1 → WWk I1 W law hold (nti law hold a x) a → ∃ I', q_E (4, 6, [vr W, vi (s : Int), vi (n : Int), vi (many : Int), vl ((rg a (fun a => wt (100 - s) s n a * if many ≤ (nti law hold a x).1.length then 1 else 0)).sum : Int), vu, vi (a : Int)], []) (qk t u I1 J) = some (vl (bn (100 - s) s n (fun a => if many ≤ (nti law hold a x).1.length then 1 else 0) : Int), qk t u I' J) ∧ Kp W (W + 4) I1 I' := by
    intro r
    induction r with
    | zero =>
      intro a I1 ha A
      rw [e4_6]
      simp (disch := omega) only [↓reduceIte, lt_TI, lt_FI, le_TI, le_FI, eq_TI, eq_FI, lt_TN, lt_FN, le_TN, le_FN, eq_TN, eq_FN, and_self, and_true, true_and, and_false, false_and, or_true, true_or, or_false, false_or, not_true_eq_false, not_false_eq_true, wr_of, uI_at, uC_at, q_bi_s, q_bl_s, q_br_s, q_bv_s, Int.toNat_natCast, tn_1, tn_m, tn_n, Int.toNat_zero, Int.toNat_one]
      rw [show a = n + 1 by omega, tot]
      exact ⟨I1, rfl, Kp_rf⟩
    | succ r ih =>
      intro a I1 ha A
      obtain ⟨z, I2, a1, a2, a3⟩ := c_wstepk (t := t) (u := u) (J := J) h1 hh hh2 A (nti_ok hh hx a) (by omega)
      obtain ⟨I3, b1, b2⟩ := ih (a + 1) I2 (by omega) a2
      obtain ⟨y, sm, nm, ⟨w, hA, -⟩, -⟩ := A
      have w1 := w.1
      have w2 := w.2.2.1.1
      have rr := (w.2.2.2.2 t u).1
      have cw := c_weight (t := t) (u := u) (I := I1) (J := J) (s := s) (n := n) (a := a) hs hn (by omega)
      have hw := wt_le (s := s) (n := n) (a := a) hs (by omega)
      have hmono := rg_mono (fun a => wt (100 - s) s n a * if many ≤ (nti law hold a x).1.length then 1 else 0) (show a ≤ n + 1 by omega)
      refine ⟨I3, ?_, Kp_tr a3 b2 (by omega) (by omega) (by omega) (by omega)⟩
      rw [← b1, rg_sum_s, e4_6]
      rw [tot] at hmono
      generalize (rg a (fun a => wt (100 - s) s n a * if many ≤ (nti law hold a x).1.length then 1 else 0)).sum = S at hmono ⊢
      generalize bn (100 - s) s n (fun a => if many ≤ (nti law hold a x).1.length then 1 else 0) = B at bd hmono
      generalize wt (100 - s) s n a = V at cw hw ⊢
      by_cases q : many ≤ (nti law hold a x).1.length
      · rw [if_pos q]
        simp (disch := omega) only [↓reduceIte, lt_TI, lt_FI, le_TI, le_FI, eq_TI, eq_FI, lt_TN, lt_FN, le_TN, le_FN, eq_TN, eq_FN, and_self, and_true, true_and, and_false, false_and, or_true, true_or, or_false, false_or, not_true_eq_false, not_false_eq_true, wr_of, uI_at, uC_at, q_bi_s, q_bl_s, q_br_s, q_bv_s, Int.toNat_natCast, tn_1, tn_m, tn_n, Int.toNat_zero, Int.toNat_one, w1, w2, rr, hA.2.1, cw]
        rw [e4_32]
        simp (disch := omega) only [↓reduceIte, lt_TI, lt_FI, le_TI, le_FI, eq_TI, eq_FI, lt_TN, lt_FN, le_TN, le_FN, eq_TN, eq_FN, and_self, and_true, true_and, and_false, false_and, or_true, true_or, or_false, false_or, not_true_eq_false, not_false_eq_true, wr_of, uI_at, uC_at, q_bi_s, q_bl_s, q_br_s, q_bv_s, Int.toNat_natCast, tn_1, tn_m, tn_n, Int.toNat_zero, Int.toNat_one, w1, a1, wl_of]
        rw [e4_39]
        simp (disch := omega) only [↓reduceIte, lt_TI, lt_FI, le_TI, le_FI, eq_TI, eq_FI, lt_TN, lt_FN, le_TN, le_FN, eq_TN, eq_FN, and_self, and_true, true_and, and_false, false_and, or_true, true_or, or_false, false_or, not_true_eq_false, not_false_eq_true, wr_of, uI_at, uC_at, q_bi_s, q_bl_s, q_br_s, q_bv_s, Int.toNat_natCast, tn_1, tn_m, tn_n, Int.toNat_zero, Int.toNat_one, Nat.mul_one]
        rfl
      · rw [if_neg q]
        simp (disch := omega) only [↓reduceIte, lt_TI, lt_FI, le_TI, le_FI, eq_TI, eq_FI, lt_TN, lt_FN, le_TN, le_FN, eq_TN, eq_FN, and_self, and_true, true_and, and_false, false_and, or_true, true_or, or_false, false_or, not_true_eq_false, not_false_eq_true, wr_of, uI_at, uC_at, q_bi_s, q_bl_s, q_br_s, q_bv_s, Int.toNat_natCast, tn_1, tn_m, tn_n, Int.toNat_zero, Int.toNat_one, w1, w2, rr, hA.2.1, a1]
        rw [e4_39]
        simp (disch := omega) only [↓reduceIte, lt_TI, lt_FI, le_TI, le_FI, eq_TI, eq_FI, lt_TN, lt_FN, le_TN, le_FN, eq_TN, eq_FN, and_self, and_true, true_and, and_false, false_and, or_true, true_or, or_false, false_or, not_true_eq_false, not_false_eq_true, wr_of, uI_at, uC_at, q_bi_s, q_bl_s, q_br_s, q_bv_s, Int.toNat_natCast, tn_1, tn_m, tn_n, Int.toNat_zero, Int.toNat_one, Nat.mul_zero, Nat.add_zero]
        rfl
  rw [e4_0]
  exact loop (n + 1) 0 I (by omega) A
theorem c_mean (h1 : law ≤ 3) (hh : 2 ≤ hold) (hh2 : hold ≤ 9) {s n : Nat} (hs : s ≤ 100) (hn : n ≤ 8) (hx : HOk x) (A : WWk I W law hold x 0) : ∃ I', q_E (5, 0, [vr W, vi (s : Int), vi (n : Int), vu, vu, vu], []) (qk t u I J) = some (vl (bn (100 - s) s n (fun a => (nti law hold a x).1.length) : Int), qk t u I' J) ∧ Kp W (W + 4) I I' := by
  have tot := bn_T (100 - s) s n (fun a => (nti law hold a x).1.length)
  have bd := bn_le (100 - s) s n (fun a => (nti law hold a x).1.length) (M := 60) (fun a => HOk_len (nti_ok hh hx a))
  have h10 := p100 hn
  rw [show 100 - s + s = 100 by omega] at bd
  have loop : ∀ (r a : Nat) (I1 : Nat → Nat → Int), a + r = n + 1 → WWk I1 W law hold (nti law hold a x) a → ∃ I', q_E (5, 5, [vr W, vi (s : Int), vi (n : Int), vl ((rg a (fun a => wt (100 - s) s n a * (nti law hold a x).1.length)).sum : Int), vu, vi (a : Int)], []) (qk t u I1 J) = some (vl (bn (100 - s) s n (fun a => (nti law hold a x).1.length) : Int), qk t u I' J) ∧ Kp W (W + 4) I1 I' := by
    intro r
    induction r with
    | zero =>
      intro a I1 ha A
      rw [e5_5]
      simp (disch := omega) only [↓reduceIte, lt_TI, lt_FI, le_TI, le_FI, eq_TI, eq_FI, lt_TN, lt_FN, le_TN, le_FN, eq_TN, eq_FN, and_self, and_true, true_and, and_false, false_and, or_true, true_or, or_false, false_or, not_true_eq_false, not_false_eq_true, wr_of, uI_at, uC_at, q_bi_s, q_bl_s, q_br_s, q_bv_s, Int.toNat_natCast, tn_1, tn_m, tn_n, Int.toNat_zero, Int.toNat_one]
      rw [show a = n + 1 by omega, tot]
      exact ⟨I1, rfl, Kp_rf⟩
    | succ r ih =>
      intro a I1 ha A
      have hlen := HOk_len (nti_ok hh hx a (law := law))
      obtain ⟨z, I2, a1, a2, a3⟩ := c_wstepk (t := t) (u := u) (J := J) h1 hh hh2 A (nti_ok hh hx a) (by omega)
      obtain ⟨I3, b1, b2⟩ := ih (a + 1) I2 (by omega) a2
      obtain ⟨y, sm, nm, ⟨w, hA, -⟩, -⟩ := A
      have w1 := w.1
      have w2 := w.2.2.1.1
      have rr := (w.2.2.2.2 t u).1
      have cw := c_weight (t := t) (u := u) (I := I1) (J := J) (s := s) (n := n) (a := a) hs hn (by omega)
      have hw := wt_le (s := s) (n := n) (a := a) hs (by omega)
      have hmono := rg_mono (fun a => wt (100 - s) s n a * (nti law hold a x).1.length) (show a + 1 ≤ n + 1 by omega)
      refine ⟨I3, ?_, Kp_tr a3 b2 (by omega) (by omega) (by omega) (by omega)⟩
      rw [← b1, rg_sum_s, e5_5]
      rw [tot, rg_sum_s] at hmono
      generalize (rg a (fun a => wt (100 - s) s n a * (nti law hold a x).1.length)).sum = S at hmono ⊢
      generalize bn (100 - s) s n (fun a => (nti law hold a x).1.length) = B at bd hmono
      generalize wt (100 - s) s n a = V at cw hw hmono ⊢
      generalize ea : (nti law hold a x).1.length = L at hlen hmono ⊢
      have e1 : (L : Int) * (V : Int) = ((V * L : Nat) : Int) := by rw [Nat.mul_comm, Int.natCast_mul]
      generalize V * L = Z at e1 hmono ⊢
      simp (disch := omega) only [↓reduceIte, lt_TI, lt_FI, le_TI, le_FI, eq_TI, eq_FI, lt_TN, lt_FN, le_TN, le_FN, eq_TN, eq_FN, and_self, and_true, true_and, and_false, false_and, or_true, true_or, or_false, false_or, not_true_eq_false, not_false_eq_true, wr_of, uI_at, uC_at, q_bi_s, q_bl_s, q_br_s, q_bv_s, Int.toNat_natCast, tn_1, tn_m, tn_n, Int.toNat_zero, Int.toNat_one, w1, w2, rr, hA.2.1, ea, cw]
      rw [e5_27, e1, wl_of (z := (Z : Int)) (by omega) (by omega)]
      simp (disch := omega) only [↓reduceIte, lt_TI, lt_FI, le_TI, le_FI, eq_TI, eq_FI, lt_TN, lt_FN, le_TN, le_FN, eq_TN, eq_FN, and_self, and_true, true_and, and_false, false_and, or_true, true_or, or_false, false_or, not_true_eq_false, not_false_eq_true, wr_of, uI_at, uC_at, q_bi_s, q_bl_s, q_br_s, q_bv_s, Int.toNat_natCast, tn_1, tn_m, tn_n, Int.toNat_zero, Int.toNat_one, w1, a1, wl_of]
      rw [e5_34]
      simp (disch := omega) only [↓reduceIte, lt_TI, lt_FI, le_TI, le_FI, eq_TI, eq_FI, lt_TN, lt_FN, le_TN, le_FN, eq_TN, eq_FN, and_self, and_true, true_and, and_false, false_and, or_true, true_or, or_false, false_or, not_true_eq_false, not_false_eq_true, wr_of, uI_at, uC_at, q_bi_s, q_bl_s, q_br_s, q_bv_s, Int.toNat_natCast, tn_1, tn_m, tn_n, Int.toNat_zero, Int.toNat_one]
      rfl
  rw [e5_0]
  exact loop (n + 1) 0 I (by omega) A
theorem c_gcd {a b : Nat} (ha : a < 2 ^ 62) (hb : b < 2 ^ 62) : q_E (10, 0, [vl (a : Int), vu, vl (b : Int), vu, vu, vu, vu, vu, vu, vu, vu], []) (qk t u I J) = some (vl (Nat.gcd a b : Int), qk t u I J) := by
  have z0 : ∀ (i a : Nat), i ≤ 200 → q_E (10, 9, [vu, vu, vu, vu, vl (a : Int), vu, vl ((0 : Nat) : Int), vu, vi (i : Int), vu, vu], []) (qk t u I J) = some (vl (Nat.gcd a 0 : Int), qk t u I J) := by
    intro i a hi
    rw [e10_9, Nat.gcd_zero_right]
    by_cases q : i < 200
    · simp (disch := omega) only [↓reduceIte, lt_TI, lt_FI, le_TI, le_FI, eq_TI, eq_FI, lt_TN, lt_FN, le_TN, le_FN, eq_TN, eq_FN, and_self, and_true, true_and, and_false, false_and, or_true, true_or, or_false, false_or, not_true_eq_false, not_false_eq_true, wr_of, uI_at, uC_at, q_bi_s, q_bl_s, q_br_s, q_bv_s, Int.toNat_natCast, tn_1, tn_m, tn_n, Int.toNat_zero, Int.toNat_one, Int.natCast_zero]
    · simp (disch := omega) only [↓reduceIte, lt_TI, lt_FI, le_TI, le_FI, eq_TI, eq_FI, lt_TN, lt_FN, le_TN, le_FN, eq_TN, eq_FN, and_self, and_true, true_and, and_false, false_and, or_true, true_or, or_false, false_or, not_true_eq_false, not_false_eq_true, wr_of, uI_at, uC_at, q_bi_s, q_bl_s, q_br_s, q_bv_s, Int.toNat_natCast, tn_1, tn_m, tn_n, Int.toNat_zero, Int.toNat_one]
  have st : ∀ (i a b : Nat), i < 200 → 0 < b → q_E (10, 9, [vu, vu, vu, vu, vl (a : Int), vu, vl (b : Int), vu, vi (i : Int), vu, vu], []) (qk t u I J) = q_E (10, 9, [vu, vu, vu, vu, vl (b : Int), vu, vl ((a % b : Nat) : Int), vu, vi ((i + 1 : Nat) : Int), vu, vu], []) (qk t u I J) := by
    intro i a b hi hb
    have e : Int.tmod (a : Int) (b : Int) = ((a % b : Nat) : Int) := (Int.ofNat_tmod _ _).symm
    rw [e10_9]
    simp (disch := omega) only [↓reduceIte, lt_TI, lt_FI, le_TI, le_FI, eq_TI, eq_FI, lt_TN, lt_FN, le_TN, le_FN, eq_TN, eq_FN, and_self, and_true, true_and, and_false, false_and, or_true, true_or, or_false, false_or, not_true_eq_false, not_false_eq_true, wr_of, uI_at, uC_at, q_bi_s, q_bl_s, q_br_s, q_bv_s, Int.toNat_natCast, tn_1, tn_m, tn_n, Int.toNat_zero, Int.toNat_one, e]
    rfl
  have main : ∀ (r i a b : Nat), i + 2 * r + 1 ≤ 199 → b < 2 ^ r → q_E (10, 9, [vu, vu, vu, vu, vl (a : Int), vu, vl (b : Int), vu, vi (i : Int), vu, vu], []) (qk t u I J) = some (vl (Nat.gcd a b : Int), qk t u I J) := by
    intro r
    induction r with
    | zero =>
      intro i a b hi hb
      have : b = 0 := by omega
      subst this
      exact z0 i a (by omega)
    | succ r ih =>
      intro i a b hi hb
      rw [Nat.pow_succ] at hb
      by_cases q : b = 0
      · subst q; exact z0 i a (by omega)
      · have e1 : Nat.gcd a b = Nat.gcd b (a % b) := by rw [Nat.gcd_comm a b, Nat.gcd_rec b a, Nat.gcd_comm]
        rw [st i a b (by omega) (by omega), e1]
        by_cases q2 : a % b = 0
        · rw [q2]; exact z0 (i + 1) b (by omega)
        · have hl := Nat.mod_lt a (show 0 < b by omega)
          have hs := half_step (b := b) (c := a % b) (by omega) (by omega)
          have e2 : Nat.gcd b (a % b) = Nat.gcd (a % b) (b % (a % b)) := by rw [Nat.gcd_comm b, Nat.gcd_rec (a % b) b, Nat.gcd_comm]
          rw [st (i + 1) b (a % b) (by omega) (by omega), e2]
          exact ih (i + 1 + 1) (a % b) (b % (a % b)) (by omega) (by omega)
  rw [e10_0]
  exact main 62 0 a b (by omega) hb
theorem c_lowest {up down : Nat} (h1 : up < 2 ^ 62) (h2 : down < 2 ^ 62) (h3 : 0 < down) {l : Bool} : q_E (9, 0, [vl (up : Int), vu, vl (down : Int), vu, vi (if l = true then 1 else 0), vu, vu], []) (qk t u I J) = some (vl (lowN up down l : Int), qk t u I J) := by
  have hg : 0 < Nat.gcd up down := Nat.gcd_pos_of_pos_right _ h3
  have d1 : Int.tdiv (up : Int) (Nat.gcd up down : Int) = ((up / Nat.gcd up down : Nat) : Int) := (Int.ofNat_tdiv _ _).symm
  have d2 : Int.tdiv (down : Int) (Nat.gcd up down : Int) = ((down / Nat.gcd up down : Nat) : Int) := (Int.ofNat_tdiv _ _).symm
  have l1 : up / Nat.gcd up down ≤ up := Nat.div_le_self _ _
  have l2 : down / Nat.gcd up down ≤ down := Nat.div_le_self _ _
  rw [e9_0, c_gcd h1 h2]
  simp (disch := omega) only [↓reduceIte, lt_TI, lt_FI, le_TI, le_FI, eq_TI, eq_FI, lt_TN, lt_FN, le_TN, le_FN, eq_TN, eq_FN, and_self, and_true, true_and, and_false, false_and, or_true, true_or, or_false, false_or, not_true_eq_false, not_false_eq_true, wr_of, uI_at, uC_at, q_bi_s, q_bl_s, q_br_s, q_bv_s, Int.toNat_natCast, tn_1, tn_m, tn_n, Int.toNat_zero, Int.toNat_one]
  rw [e9_5]
  have f1 : lowN up down false = up / Nat.gcd up down := rfl
  have f2 : lowN up down true = down / Nat.gcd up down := rfl
  cases l with
  | false =>
    rw [f1]
    generalize up / Nat.gcd up down = A at d1 l1 ⊢
    generalize Nat.gcd up down = G at *
    simp (disch := omega) only [↓reduceIte, lt_TI, lt_FI, le_TI, le_FI, eq_TI, eq_FI, lt_TN, lt_FN, le_TN, le_FN, eq_TN, eq_FN, and_self, and_true, true_and, and_false, false_and, or_true, true_or, or_false, false_or, not_true_eq_false, not_false_eq_true, wr_of, uI_at, uC_at, q_bi_s, q_bl_s, q_br_s, q_bv_s, Int.toNat_natCast, tn_1, tn_m, tn_n, Int.toNat_zero, Int.toNat_one, d1, wl_of, Bool.false_eq_true]
  | true =>
    rw [f2]
    generalize down / Nat.gcd up down = B at d2 l2 ⊢
    generalize Nat.gcd up down = G at *
    simp (disch := omega) only [↓reduceIte, lt_TI, lt_FI, le_TI, le_FI, eq_TI, eq_FI, lt_TN, lt_FN, le_TN, le_FN, eq_TN, eq_FN, and_self, and_true, true_and, and_false, false_and, or_true, true_or, or_false, false_or, not_true_eq_false, not_false_eq_true, wr_of, uI_at, uC_at, q_bi_s, q_bl_s, q_br_s, q_bv_s, Int.toNat_natCast, tn_1, tn_m, tn_n, Int.toNat_zero, Int.toNat_one, d2, wl_of]
end

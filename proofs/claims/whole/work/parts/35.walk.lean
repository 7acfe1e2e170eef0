/-! nights one by one, Walk -/
def nti (law hold : Nat) : Nat → Hp → Hp
  | 0, x => x
  | n + 1, x => nt law hold (nti law hold n x)
theorem nti_ok {law hold : Nat} (hh : 2 ≤ hold) {x : Hp} (h : HOk x) : ∀ n, HOk (nti law hold n x)
  | 0 => h
  | n + 1 => (nt_ok (nti_ok hh h n) hh).1
theorem nti_add {law hold : Nat} {x : Hp} : ∀ a b, nti law hold (a + b) x = nti law hold a (nti law hold b x)
  | 0, b => by rw [Nat.zero_add]; rfl
  | a + 1, b => by
    rw [show a + 1 + b = (a + b) + 1 by omega]
    unfold nti
    rw [nti_add a b]
theorem nti_eq {law hold : Nat} {x : Hp} {m n : Nat} (h : nti law hold n x = nti law hold m x) (k : Nat) : nti law hold (n + k) x = nti law hold (m + k) x := by
  rw [Nat.add_comm n, Nat.add_comm m, nti_add, nti_add, h]
theorem nti_per {law hold : Nat} {x : Hp} {m p : Nat} (h : nti law hold (m + p) x = nti law hold m x) : ∀ q k, nti law hold (m + (q * p + k)) x = nti law hold (m + k) x
  | 0, k => by rw [Nat.zero_mul, Nat.zero_add]
  | q + 1, k => by
    have := nti_eq h (q * p + k)
    rw [show m + ((q + 1) * p + k) = m + p + (q * p + k) by rw [Nat.succ_mul]; omega, this]
    exact nti_per h q k
theorem nti_mod {law hold : Nat} {x : Hp} {m n : Nat} (hm : m < n) (h : nti law hold n x = nti law hold m x) (k : Nat) : nti law hold (n + k) x = nti law hold (n + k % (n - m)) x := by
  have h' : nti law hold (m + (n - m)) x = nti law hold m x := by rw [show m + (n - m) = n by omega]; exact h
  have e1 := nti_per h' (k / (n - m) + 1) (k % (n - m))
  have e2 := nti_per h' 1 (k % (n - m))
  have e3 : k / (n - m) * (n - m) + k % (n - m) = k := by rw [Nat.mul_comm]; exact Nat.div_add_mod k (n - m)
  rw [Nat.succ_mul] at e1
  rw [show m + (k / (n - m) * (n - m) + (n - m) + k % (n - m)) = n + k by omega] at e1
  rw [show m + (1 * (n - m) + k % (n - m)) = n + k % (n - m) by omega] at e2
  rw [e1, e2]
def WId (W : Nat) : Prop := kd W = 19 ∧ 1 ≤ W ∧ HId (W + 1) ∧ HId (W + 3) ∧ ∀ t u, q_R t u W 0 = W + 1 ∧ q_R t u W 1 = W + 3
def WAt (I : Nat → Nat → Int) (W law hold : Nat) (x y : Hp) (sm nm : Nat) : Prop := WId W ∧ HAt I (W + 1) x.1 x.2 ∧ HAt I (W + 3) y.1 y.2 ∧ I W 2 = (law : Int) ∧ I W 3 = (hold : Int) ∧ I W 4 = (sm : Int) ∧ I W 5 = (nm : Int)
/-- what every step keeps: heaps x; B bounds the rest -/
def WWk (I : Nat → Nat → Int) (W law hold : Nat) (x : Hp) (B : Nat) : Prop := ∃ y sm nm, WAt I W law hold x y sm nm ∧ sm ≤ B ∧ 1 ≤ nm ∧ nm ≤ 2 * B + 1
theorem WAt_kp {I I' : Nat → Nat → Int} {W law hold lo hi : Nat} {x y : Hp} {sm nm : Nat} (H : WAt I W law hold x y sm nm) (K : Kp lo hi I I') (q : W + 4 < lo ∨ hi < W) : WAt I' W law hold x y sm nm := by
  obtain ⟨h1, h2, h3, h4, h5, h6, h7⟩ := H
  exact ⟨h1, HAt_kp h2 K (by omega), HAt_kp h3 K (by omega), by rw [K W (by omega)]; exact h4, by rw [K W (by omega)]; exact h5, by rw [K W (by omega)]; exact h6, by rw [K W (by omega)]; exact h7⟩
theorem WWk_kp {I I' : Nat → Nat → Int} {W law hold lo hi B : Nat} {x : Hp} (H : WWk I W law hold x B) (K : Kp lo hi I I') (q : W + 4 < lo ∨ hi < W) : WWk I' W law hold x B := by
  obtain ⟨y, sm, nm, h, r⟩ := H
  exact ⟨y, sm, nm, WAt_kp h K q, r⟩
section
variable {t u : Nat} {I J : Nat → Nat → Int} {W law hold : Nat} {x y : Hp} {sm nm : Nat}
theorem c_wbegin {g : Nat} (w : WId W) (G : HAt I g x.1 x.2) (d : W + 4 < g ∨ g + 1 < W) : ∃ I', q_E (97, 0, [vr W, vr g, vi (law : Int), vi (hold : Int)], []) (qk t u I J) = some (vu, qk t u I' J) ∧ WAt I' W law hold x x 0 1 ∧ Kp W (W + 4) I I' := by
  obtain ⟨w1, w2, w3, w4, w5⟩ := id w
  have r1 := (w5 t u).1
  have r2 := (w5 t u).2
  have K0 : Kp W (W + 4) I (uI (uI I W 2 (law : Int)) W 3 (hold : Int)) := Kp_uI (Kp_uI Kp_rf (by omega) (by omega)) (by omega) (by omega)
  obtain ⟨I1, a1, a2, a3⟩ := c_copyFrom (t := t) (u := u) (J := J) (g := g) w3 (HAt_kp G K0 (by omega)) (by omega)
  obtain ⟨I2, b1, b2, b3⟩ := c_copyFrom (t := t) (u := u) (J := J) (g := g) w4 (HAt_kp (HAt_kp G K0 (by omega)) a3 (by omega)) (by omega)
  rw [e97_0]
  simp (disch := omega) only [↓reduceIte, lt_TI, lt_FI, le_TI, le_FI, eq_TI, eq_FI, lt_TN, lt_FN, le_TN, le_FN, eq_TN, eq_FN, and_self, and_true, true_and, and_false, false_and, or_true, true_or, or_false, false_or, not_true_eq_false, not_false_eq_true, wr_of, uI_at, uC_at, q_bi_s, q_bl_s, q_br_s, q_bv_s, Int.toNat_natCast, tn_1, tn_m, tn_n, Int.toNat_zero, Int.toNat_one, w1, w3.1, w4.1, r1, r2, a1]
  rw [e97_18]
  simp (disch := omega) only [↓reduceIte, lt_TI, lt_FI, le_TI, le_FI, eq_TI, eq_FI, lt_TN, lt_FN, le_TN, le_FN, eq_TN, eq_FN, and_self, and_true, true_and, and_false, false_and, or_true, true_or, or_false, false_or, not_true_eq_false, not_false_eq_true, wr_of, uI_at, uC_at, q_bi_s, q_bl_s, q_br_s, q_bv_s, Int.toNat_natCast, tn_1, tn_m, tn_n, Int.toNat_zero, Int.toNat_one, w1, w3.1, w4.1, r1, r2, b1]
  rw [e97_26]
  simp (disch := omega) only [↓reduceIte, lt_TI, lt_FI, le_TI, le_FI, eq_TI, eq_FI, lt_TN, lt_FN, le_TN, le_FN, eq_TN, eq_FN, and_self, and_true, true_and, and_false, false_and, or_true, true_or, or_false, false_or, not_true_eq_false, not_false_eq_true, wr_of, uI_at, uC_at, q_bi_s, q_bl_s, q_br_s, q_bv_s, Int.toNat_natCast, tn_1, tn_m, tn_n, Int.toNat_zero, Int.toNat_one, w1, w3.1, w4.1, r1, r2]
  have K3 : Kp W W I2 (uI (uI I2 W 4 0) W 5 1) := Kp_uI (Kp_uI Kp_rf (by omega) (by omega)) (by omega) (by omega)
  refine ⟨_, rfl, ⟨w, HAt_kp (HAt_kp a2 b3 (by omega)) K3 (by omega), HAt_kp b2 K3 (by omega), ?_, ?_, ?_, ?_⟩, ?_⟩
  · simp (disch := omega) only [↓reduceIte, lt_TI, lt_FI, le_TI, le_FI, eq_TI, eq_FI, lt_TN, lt_FN, le_TN, le_FN, eq_TN, eq_FN, and_self, and_true, true_and, and_false, false_and, or_true, true_or, or_false, false_or, not_true_eq_false, not_false_eq_true, wr_of, uI_at, uC_at, q_bi_s, q_bl_s, q_br_s, q_bv_s, Int.toNat_natCast, tn_1, tn_m, tn_n, Int.toNat_zero, Int.toNat_one, b3 W (by omega), a3 W (by omega)]
  · simp (disch := omega) only [↓reduceIte, lt_TI, lt_FI, le_TI, le_FI, eq_TI, eq_FI, lt_TN, lt_FN, le_TN, le_FN, eq_TN, eq_FN, and_self, and_true, true_and, and_false, false_and, or_true, true_or, or_false, false_or, not_true_eq_false, not_false_eq_true, wr_of, uI_at, uC_at, q_bi_s, q_bl_s, q_br_s, q_bv_s, Int.toNat_natCast, tn_1, tn_m, tn_n, Int.toNat_zero, Int.toNat_one, b3 W (by omega), a3 W (by omega)]
  · simp (disch := omega) only [↓reduceIte, lt_TI, lt_FI, le_TI, le_FI, eq_TI, eq_FI, lt_TN, lt_FN, le_TN, le_FN, eq_TN, eq_FN, and_self, and_true, true_and, and_false, false_and, or_true, true_or, or_false, false_or, not_true_eq_false, not_false_eq_true, wr_of, uI_at, uC_at, q_bi_s, q_bl_s, q_br_s, q_bv_s, Int.toNat_natCast, tn_1, tn_m, tn_n, Int.toNat_zero, Int.toNat_one] <;> rfl
  · simp (disch := omega) only [↓reduceIte, lt_TI, lt_FI, le_TI, le_FI, eq_TI, eq_FI, lt_TN, lt_FN, le_TN, le_FN, eq_TN, eq_FN, and_self, and_true, true_and, and_false, false_and, or_true, true_or, or_false, false_or, not_true_eq_false, not_false_eq_true, wr_of, uI_at, uC_at, q_bi_s, q_bl_s, q_br_s, q_bv_s, Int.toNat_natCast, tn_1, tn_m, tn_n, Int.toNat_zero, Int.toNat_one] <;> rfl
  · exact Kp_tr K0 (Kp_tr (Kp_tr a3 b3 (Nat.le_refl _) (by omega) (by omega) (Nat.le_refl _) : Kp (W + 1) (W + 3 + 1) _ _) K3 (lo := W) (hi := W + 4) (by omega) (by omega) (by omega) (by omega)) (by omega) (by omega) (by omega) (by omega)
theorem c_wstep (h1 : law ≤ 3) (hh : 2 ≤ hold) (hh2 : hold ≤ 9) (A : WAt I W law hold x y sm nm) (hx : HOk x) (hs : sm ≤ 100000) (hn : nm ≤ 1000000) : ∃ I', q_E (98, 0, [vr W], []) (qk t u I J) = some (vi (if nt law hold x = y then 1 else 0), qk t u I' J) ∧ (if nt law hold x = y then WAt I' W law hold (nt law hold x) y (sm + 1) nm else if sm + 1 < nm then WAt I' W law hold (nt law hold x) y (sm + 1) nm else WAt I' W law hold (nt law hold x) (nt law hold x) 0 (nm * 2)) ∧ Kp W (W + 4) I I' := by
  obtain ⟨w, A1, A2, A3, A4, A5, A6⟩ := A
  obtain ⟨w1, w2, w3, w4, w5⟩ := id w
  have r1 := (w5 t u).1
  have r2 := (w5 t u).2
  obtain ⟨I1, a1, a2, a3⟩ := c_pass (t := t) (u := u) (J := J) (law := law) (hold := hold) A1 hx h1 hh hh2
  have K1 : Kp W W I1 (uI I1 W 4 ((sm : Int) + 1)) := Kp_uI Kp_rf (by omega) (by omega)
  have B1 : HAt (uI I1 W 4 ((sm : Int) + 1)) (W + 1) (nt law hold x).1 (nt law hold x).2 := HAt_kp a2 K1 (by omega)
  have B2 : HAt (uI I1 W 4 ((sm : Int) + 1)) (W + 3) y.1 y.2 := HAt_kp (HAt_kp A2 a3 (by omega)) K1 (by omega)
  have s1 := c_isSame (t := t) (u := u) (J := J) B1 B2
  rw [e98_0]
  simp (disch := omega) only [↓reduceIte, lt_TI, lt_FI, le_TI, le_FI, eq_TI, eq_FI, lt_TN, lt_FN, le_TN, le_FN, eq_TN, eq_FN, and_self, and_true, true_and, and_false, false_and, or_true, true_or, or_false, false_or, not_true_eq_false, not_false_eq_true, wr_of, uI_at, uC_at, q_bi_s, q_bl_s, q_br_s, q_bv_s, Int.toNat_natCast, tn_1, tn_m, tn_n, Int.toNat_zero, Int.toNat_one, w1, w3.1, w4.1, r1, r2, A3, A4, a1]
  rw [e98_15]
  have m4 : I1 W 4 = (sm : Int) := by rw [a3 W (by omega)]; exact A5
  have m5 : I1 W 5 = (nm : Int) := by rw [a3 W (by omega)]; exact A6
  have m2 : I1 W 2 = (law : Int) := by rw [a3 W (by omega)]; exact A3
  have m3 : I1 W 3 = (hold : Int) := by rw [a3 W (by omega)]; exact A4
  simp (disch := omega) only [↓reduceIte, lt_TI, lt_FI, le_TI, le_FI, eq_TI, eq_FI, lt_TN, lt_FN, le_TN, le_FN, eq_TN, eq_FN, and_self, and_true, true_and, and_false, false_and, or_true, true_or, or_false, false_or, not_true_eq_false, not_false_eq_true, wr_of, uI_at, uC_at, q_bi_s, q_bl_s, q_br_s, q_bv_s, Int.toNat_natCast, tn_1, tn_m, tn_n, Int.toNat_zero, Int.toNat_one, w1, w3.1, w4.1, r1, r2, m4, s1]
  rw [e98_36]
  by_cases q : nt law hold x = y
  · simp only [if_pos (show ((nt law hold x).1, (nt law hold x).2) = (y.1, y.2) from q), if_pos q]
    simp (disch := omega) only [↓reduceIte, lt_TI, lt_FI, le_TI, le_FI, eq_TI, eq_FI, lt_TN, lt_FN, le_TN, le_FN, eq_TN, eq_FN, and_self, and_true, true_and, and_false, false_and, or_true, true_or, or_false, false_or, not_true_eq_false, not_false_eq_true, wr_of, uI_at, uC_at, q_bi_s, q_bl_s, q_br_s, q_bv_s, Int.toNat_natCast, tn_1, tn_m, tn_n, Int.toNat_zero, Int.toNat_one]
    refine ⟨_, rfl, ⟨w, B1, B2, ?_, ?_, ?_, ?_⟩, Kp_tr a3 K1 (by omega) (by omega) (by omega) (by omega)⟩
    · simp (disch := omega) only [↓reduceIte, lt_TI, lt_FI, le_TI, le_FI, eq_TI, eq_FI, lt_TN, lt_FN, le_TN, le_FN, eq_TN, eq_FN, and_self, and_true, true_and, and_false, false_and, or_true, true_or, or_false, false_or, not_true_eq_false, not_false_eq_true, wr_of, uI_at, uC_at, q_bi_s, q_bl_s, q_br_s, q_bv_s, Int.toNat_natCast, tn_1, tn_m, tn_n, Int.toNat_zero, Int.toNat_one, m2]
    · simp (disch := omega) only [↓reduceIte, lt_TI, lt_FI, le_TI, le_FI, eq_TI, eq_FI, lt_TN, lt_FN, le_TN, le_FN, eq_TN, eq_FN, and_self, and_true, true_and, and_false, false_and, or_true, true_or, or_false, false_or, not_true_eq_false, not_false_eq_true, wr_of, uI_at, uC_at, q_bi_s, q_bl_s, q_br_s, q_bv_s, Int.toNat_natCast, tn_1, tn_m, tn_n, Int.toNat_zero, Int.toNat_one, m3]
    · simp (disch := omega) only [↓reduceIte, lt_TI, lt_FI, le_TI, le_FI, eq_TI, eq_FI, lt_TN, lt_FN, le_TN, le_FN, eq_TN, eq_FN, and_self, and_true, true_and, and_false, false_and, or_true, true_or, or_false, false_or, not_true_eq_false, not_false_eq_true, wr_of, uI_at, uC_at, q_bi_s, q_bl_s, q_br_s, q_bv_s, Int.toNat_natCast, tn_1, tn_m, tn_n, Int.toNat_zero, Int.toNat_one] <;> rfl
    · simp (disch := omega) only [↓reduceIte, lt_TI, lt_FI, le_TI, le_FI, eq_TI, eq_FI, lt_TN, lt_FN, le_TN, le_FN, eq_TN, eq_FN, and_self, and_true, true_and, and_false, false_and, or_true, true_or, or_false, false_or, not_true_eq_false, not_false_eq_true, wr_of, uI_at, uC_at, q_bi_s, q_bl_s, q_br_s, q_bv_s, Int.toNat_natCast, tn_1, tn_m, tn_n, Int.toNat_zero, Int.toNat_one, m5]
  · simp only [if_neg (show ¬ ((nt law hold x).1, (nt law hold x).2) = (y.1, y.2) from q), if_neg q]
    by_cases q2 : sm + 1 < nm
    · simp only [if_pos q2]
      simp (disch := omega) only [↓reduceIte, lt_TI, lt_FI, le_TI, le_FI, eq_TI, eq_FI, lt_TN, lt_FN, le_TN, le_FN, eq_TN, eq_FN, and_self, and_true, true_and, and_false, false_and, or_true, true_or, or_false, false_or, not_true_eq_false, not_false_eq_true, wr_of, uI_at, uC_at, q_bi_s, q_bl_s, q_br_s, q_bv_s, Int.toNat_natCast, tn_1, tn_m, tn_n, Int.toNat_zero, Int.toNat_one, w1, m5]
      refine ⟨_, rfl, ⟨w, B1, B2, ?_, ?_, ?_, ?_⟩, Kp_tr a3 K1 (by omega) (by omega) (by omega) (by omega)⟩
      · simp (disch := omega) only [↓reduceIte, lt_TI, lt_FI, le_TI, le_FI, eq_TI, eq_FI, lt_TN, lt_FN, le_TN, le_FN, eq_TN, eq_FN, and_self, and_true, true_and, and_false, false_and, or_true, true_or, or_false, false_or, not_true_eq_false, not_false_eq_true, wr_of, uI_at, uC_at, q_bi_s, q_bl_s, q_br_s, q_bv_s, Int.toNat_natCast, tn_1, tn_m, tn_n, Int.toNat_zero, Int.toNat_one, m2]
      · simp (disch := omega) only [↓reduceIte, lt_TI, lt_FI, le_TI, le_FI, eq_TI, eq_FI, lt_TN, lt_FN, le_TN, le_FN, eq_TN, eq_FN, and_self, and_true, true_and, and_false, false_and, or_true, true_or, or_false, false_or, not_true_eq_false, not_false_eq_true, wr_of, uI_at, uC_at, q_bi_s, q_bl_s, q_br_s, q_bv_s, Int.toNat_natCast, tn_1, tn_m, tn_n, Int.toNat_zero, Int.toNat_one, m3]
      · simp (disch := omega) only [↓reduceIte, lt_TI, lt_FI, le_TI, le_FI, eq_TI, eq_FI, lt_TN, lt_FN, le_TN, le_FN, eq_TN, eq_FN, and_self, and_true, true_and, and_false, false_and, or_true, true_or, or_false, false_or, not_true_eq_false, not_false_eq_true, wr_of, uI_at, uC_at, q_bi_s, q_bl_s, q_br_s, q_bv_s, Int.toNat_natCast, tn_1, tn_m, tn_n, Int.toNat_zero, Int.toNat_one] <;> rfl
      · simp (disch := omega) only [↓reduceIte, lt_TI, lt_FI, le_TI, le_FI, eq_TI, eq_FI, lt_TN, lt_FN, le_TN, le_FN, eq_TN, eq_FN, and_self, and_true, true_and, and_false, false_and, or_true, true_or, or_false, false_or, not_true_eq_false, not_false_eq_true, wr_of, uI_at, uC_at, q_bi_s, q_bl_s, q_br_s, q_bv_s, Int.toNat_natCast, tn_1, tn_m, tn_n, Int.toNat_zero, Int.toNat_one, m5]
    · simp only [if_neg q2]
      obtain ⟨I2, b1, b2, b3⟩ := c_copyFrom (t := t) (u := u) (J := J) w4 B1 (by omega)
      simp (disch := omega) only [↓reduceIte, lt_TI, lt_FI, le_TI, le_FI, eq_TI, eq_FI, lt_TN, lt_FN, le_TN, le_FN, eq_TN, eq_FN, and_self, and_true, true_and, and_false, false_and, or_true, true_or, or_false, false_or, not_true_eq_false, not_false_eq_true, wr_of, uI_at, uC_at, q_bi_s, q_bl_s, q_br_s, q_bv_s, Int.toNat_natCast, tn_1, tn_m, tn_n, Int.toNat_zero, Int.toNat_one, w1, w4.1, r1, r2, m5, b1]
      rw [e98_63]
      have n5 : I2 W 5 = (nm : Int) := by rw [b3 W (by omega)]; simp (disch := omega) only [↓reduceIte, lt_TI, lt_FI, le_TI, le_FI, eq_TI, eq_FI, lt_TN, lt_FN, le_TN, le_FN, eq_TN, eq_FN, and_self, and_true, true_and, and_false, false_and, or_true, true_or, or_false, false_or, not_true_eq_false, not_false_eq_true, wr_of, uI_at, uC_at, q_bi_s, q_bl_s, q_br_s, q_bv_s, Int.toNat_natCast, tn_1, tn_m, tn_n, Int.toNat_zero, Int.toNat_one, m5]
      simp (disch := omega) only [↓reduceIte, lt_TI, lt_FI, le_TI, le_FI, eq_TI, eq_FI, lt_TN, lt_FN, le_TN, le_FN, eq_TN, eq_FN, and_self, and_true, true_and, and_false, false_and, or_true, true_or, or_false, false_or, not_true_eq_false, not_false_eq_true, wr_of, uI_at, uC_at, q_bi_s, q_bl_s, q_br_s, q_bv_s, Int.toNat_natCast, tn_1, tn_m, tn_n, Int.toNat_zero, Int.toNat_one, w1, n5]
      have K3 : Kp W W I2 (uI (uI I2 W 4 0) W 5 ((nm : Int) * 2)) := Kp_uI (Kp_uI Kp_rf (by omega) (by omega)) (by omega) (by omega)
      refine ⟨_, rfl, ⟨w, HAt_kp (HAt_kp B1 b3 (by omega)) K3 (by omega), HAt_kp b2 K3 (by omega), ?_, ?_, ?_, ?_⟩, ?_⟩
      · simp (disch := omega) only [↓reduceIte, lt_TI, lt_FI, le_TI, le_FI, eq_TI, eq_FI, lt_TN, lt_FN, le_TN, le_FN, eq_TN, eq_FN, and_self, and_true, true_and, and_false, false_and, or_true, true_or, or_false, false_or, not_true_eq_false, not_false_eq_true, wr_of, uI_at, uC_at, q_bi_s, q_bl_s, q_br_s, q_bv_s, Int.toNat_natCast, tn_1, tn_m, tn_n, Int.toNat_zero, Int.toNat_one, b3 W (by omega), m2]
      · simp (disch := omega) only [↓reduceIte, lt_TI, lt_FI, le_TI, le_FI, eq_TI, eq_FI, lt_TN, lt_FN, le_TN, le_FN, eq_TN, eq_FN, and_self, and_true, true_and, and_false, false_and, or_true, true_or, or_false, false_or, not_true_eq_false, not_false_eq_true, wr_of, uI_at, uC_at, q_bi_s, q_bl_s, q_br_s, q_bv_s, Int.toNat_natCast, tn_1, tn_m, tn_n, Int.toNat_zero, Int.toNat_one, b3 W (by omega), m3]
      · simp (disch := omega) only [↓reduceIte, lt_TI, lt_FI, le_TI, le_FI, eq_TI, eq_FI, lt_TN, lt_FN, le_TN, le_FN, eq_TN, eq_FN, and_self, and_true, true_and, and_false, false_and, or_true, true_or, or_false, false_or, not_true_eq_false, not_false_eq_true, wr_of, uI_at, uC_at, q_bi_s, q_bl_s, q_br_s, q_bv_s, Int.toNat_natCast, tn_1, tn_m, tn_n, Int.toNat_zero, Int.toNat_one] <;> rfl
      · simp (disch := omega) only [↓reduceIte, lt_TI, lt_FI, le_TI, le_FI, eq_TI, eq_FI, lt_TN, lt_FN, le_TN, le_FN, eq_TN, eq_FN, and_self, and_true, true_and, and_false, false_and, or_true, true_or, or_false, false_or, not_true_eq_false, not_false_eq_true, wr_of, uI_at, uC_at, q_bi_s, q_bl_s, q_br_s, q_bv_s, Int.toNat_natCast, tn_1, tn_m, tn_n, Int.toNat_zero, Int.toNat_one] <;> rfl
      · exact Kp_tr (Kp_tr a3 K1 (lo := W) (hi := W + 4) (by omega) (by omega) (by omega) (by omega)) (Kp_tr b3 K3 (lo := W) (hi := W + 4) (by omega) (by omega) (by omega) (by omega)) (by omega) (by omega) (by omega) (by omega)
theorem c_wstepk {B : Nat} (h1 : law ≤ 3) (hh : 2 ≤ hold) (hh2 : hold ≤ 9) (A : WWk I W law hold x B) (hx : HOk x) (hs : B ≤ 10000) : ∃ z I', q_E (98, 0, [vr W], []) (qk t u I J) = some (vi z, qk t u I' J) ∧ WWk I' W law hold (nt law hold x) (B + 1) ∧ Kp W (W + 4) I I' := by
  obtain ⟨y, sm, nm, A1, A2, A3, A4⟩ := A
  obtain ⟨I', a1, a2, a3⟩ := c_wstep (t := t) (u := u) (J := J) h1 hh hh2 A1 hx (by omega) (by omega)
  refine ⟨_, I', a1, ?_, a3⟩
  split at a2
  · exact ⟨y, sm + 1, nm, a2, by omega, by omega, by omega⟩
  · split at a2
    · exact ⟨y, sm + 1, nm, a2, by omega, by omega, by omega⟩
    · exact ⟨_, 0, nm * 2, a2, by omega, by omega, by omega⟩
theorem c_left_l (h1 : law ≤ 3) (hh : 2 ≤ hold) (hh2 : hold ≤ 9) {B lf : Nat} (hl : lf ≤ 10000) : ∀ (n i : Nat) (x : Hp) (I : Nat → Nat → Int), i + n = lf → WWk I W law hold x B → HOk x → ∃ I', q_E (99, 33, [vr W, vu, vu, vi (lf : Int), vi (i : Int)], []) (qk t u I J) = some (vu, qk t u I' J) ∧ WWk I' W law hold (nti law hold n x) B ∧ Kp W (W + 4) I I' := by
  intro n
  induction n with
  | zero =>
    intro i x I hi A hx
    rw [e99_33]
    simp (disch := omega) only [↓reduceIte, lt_TI, lt_FI, le_TI, le_FI, eq_TI, eq_FI, lt_TN, lt_FN, le_TN, le_FN, eq_TN, eq_FN, and_self, and_true, true_and, and_false, false_and, or_true, true_or, or_false, false_or, not_true_eq_false, not_false_eq_true, wr_of, uI_at, uC_at, q_bi_s, q_bl_s, q_br_s, q_bv_s, Int.toNat_natCast, tn_1, tn_m, tn_n, Int.toNat_zero, Int.toNat_one]
    exact ⟨I, rfl, A, Kp_rf⟩
  | succ n ih =>
    intro i x I hi A hx
    obtain ⟨y, sm, nm, ⟨w, A1, A2, A3, A4, A5, A6⟩, b1, b2, b3⟩ := A
    obtain ⟨w1, w2, w3, w4, w5⟩ := id w
    have r1 := (w5 t u).1
    obtain ⟨I1, a1, a2, a3⟩ := c_pass (t := t) (u := u) (J := J) (law := law) (hold := hold) A1 hx h1 hh hh2
    rw [e99_33]
    simp (disch := omega) only [↓reduceIte, lt_TI, lt_FI, le_TI, le_FI, eq_TI, eq_FI, lt_TN, lt_FN, le_TN, le_FN, eq_TN, eq_FN, and_self, and_true, true_and, and_false, false_and, or_true, true_or, or_false, false_or, not_true_eq_false, not_false_eq_true, wr_of, uI_at, uC_at, q_bi_s, q_bl_s, q_br_s, q_bv_s, Int.toNat_natCast, tn_1, tn_m, tn_n, Int.toNat_zero, Int.toNat_one, w1, w3.1, r1, A3, A4, a1]
    rw [e99_54]
    simp (disch := omega) only [↓reduceIte, lt_TI, lt_FI, le_TI, le_FI, eq_TI, eq_FI, lt_TN, lt_FN, le_TN, le_FN, eq_TN, eq_FN, and_self, and_true, true_and, and_false, false_and, or_true, true_or, or_false, false_or, not_true_eq_false, not_false_eq_true, wr_of, uI_at, uC_at, q_bi_s, q_bl_s, q_br_s, q_bv_s, Int.toNat_natCast, tn_1, tn_m, tn_n, Int.toNat_zero, Int.toNat_one]
    obtain ⟨I2, c1, c2, c3⟩ := ih (i + 1) (nt law hold x) I1 (by omega) ⟨y, sm, nm, ⟨w, a2, HAt_kp A2 a3 (by omega), by rw [a3 W (by omega)]; exact A3, by rw [a3 W (by omega)]; exact A4, by rw [a3 W (by omega)]; exact A5, by rw [a3 W (by omega)]; exact A6⟩, b1, b2, b3⟩ (nt_ok hx hh).1
    refine ⟨I2, c1, ?_, Kp_tr a3 c3 (by omega) (by omega) (by omega) (by omega)⟩
    rw [nti_add n 1]
    exact c2
theorem c_goOn_l (h1 : law ≤ 3) (hh : 2 ≤ hold) (hh2 : hold ≤ 9) {N : Nat} (hN : N ≤ 5000) {x : Hp} (hx : HOk x) : ∀ (n j : Nat) (m nm : Nat) (I : Nat → Nat → Int), j + n = N → m ≤ j → 1 ≤ nm → nm ≤ 2 * j + 1 → WAt I W law hold (nti law hold j x) (nti law hold m x) (j - m) nm → ∃ I', q_E (99, 2, [vr W, vi (N : Int), vi ((j : Int) + 1), vu, vu], []) (qk t u I J) = some (vu, qk t u I' J) ∧ WWk I' W law hold (nti law hold N x) N ∧ Kp W (W + 4) I I' := by
  intro n
  induction n with
  | zero =>
    intro j m nm I hj hm q1 q2 A
    rw [e99_2]
    simp (disch := omega) only [↓reduceIte, lt_TI, lt_FI, le_TI, le_FI, eq_TI, eq_FI, lt_TN, lt_FN, le_TN, le_FN, eq_TN, eq_FN, and_self, and_true, true_and, and_false, false_and, or_true, true_or, or_false, false_or, not_true_eq_false, not_false_eq_true, wr_of, uI_at, uC_at, q_bi_s, q_bl_s, q_br_s, q_bv_s, Int.toNat_natCast, tn_1, tn_m, tn_n, Int.toNat_zero, Int.toNat_one]
    have e : j = N := by omega
    subst e
    exact ⟨I, rfl, ⟨_, _, _, A, by omega, q1, q2⟩, Kp_rf⟩
  | succ n ih =>
    intro j m nm I hj hm q1 q2 A
    obtain ⟨I1, a1, a2, a3⟩ := c_wstep (t := t) (u := u) (J := J) h1 hh hh2 A (nti_ok hh hx j) (by omega) (by omega)
    have w1 := A.1.1
    rw [e99_2]
    simp (disch := omega) only [↓reduceIte, lt_TI, lt_FI, le_TI, le_FI, eq_TI, eq_FI, lt_TN, lt_FN, le_TN, le_FN, eq_TN, eq_FN, and_self, and_true, true_and, and_false, false_and, or_true, true_or, or_false, false_or, not_true_eq_false, not_false_eq_true, wr_of, uI_at, uC_at, q_bi_s, q_bl_s, q_br_s, q_bv_s, Int.toNat_natCast, tn_1, tn_m, tn_n, Int.toNat_zero, Int.toNat_one, w1, a1]
    rw [e99_11]
    by_cases q : nt law hold (nti law hold j x) = nti law hold m x
    · rw [if_pos q] at a2 ⊢
      have m4 := a2.2.2.2.2.2.1
      have e1 : Int.tmod ((N : Int) - ((j : Int) + 1)) ((j - m + 1 : Nat) : Int) = (((N - (j + 1)) % (j + 1 - m) : Nat) : Int) := by
        rw [show ((N : Int) - ((j : Int) + 1)) = ((N - (j + 1) : Nat) : Int) by omega, show j - m + 1 = j + 1 - m by omega]
        exact (Int.ofNat_tmod _ _).symm
      simp (disch := omega) only [↓reduceIte, lt_TI, lt_FI, le_TI, le_FI, eq_TI, eq_FI, lt_TN, lt_FN, le_TN, le_FN, eq_TN, eq_FN, and_self, and_true, true_and, and_false, false_and, or_true, true_or, or_false, false_or, not_true_eq_false, not_false_eq_true, wr_of, uI_at, uC_at, q_bi_s, q_bl_s, q_br_s, q_bv_s, Int.toNat_natCast, tn_1, tn_m, tn_n, Int.toNat_zero, Int.toNat_one, w1, m4, e1]
      have hlt : (N - (j + 1)) % (j + 1 - m) ≤ N - (j + 1) := Nat.mod_le _ _
      obtain ⟨I2, c1, c2, c3⟩ := c_left_l (t := t) (u := u) (J := J) h1 hh hh2 (B := N) (lf := (N - (j + 1)) % (j + 1 - m)) (by omega) ((N - (j + 1)) % (j + 1 - m)) 0 _ I1 (by omega) ⟨_, _, _, a2, by omega, q1, by omega⟩ (nti_ok hh hx (j + 1))
      refine ⟨I2, c1, ?_, Kp_tr a3 c3 (by omega) (by omega) (by omega) (by omega)⟩
      have e2 := nti_mod (law := law) (hold := hold) (x := x) (m := m) (n := j + 1) (by omega) q (N - (j + 1))
      rw [show j + 1 + (N - (j + 1)) = N by omega] at e2
      rw [e2, Nat.add_comm (j + 1), nti_add]
      exact c2
    · rw [if_neg q] at a2 ⊢
      simp (disch := omega) only [↓reduceIte, lt_TI, lt_FI, le_TI, le_FI, eq_TI, eq_FI, lt_TN, lt_FN, le_TN, le_FN, eq_TN, eq_FN, and_self, and_true, true_and, and_false, false_and, or_true, true_or, or_false, false_or, not_true_eq_false, not_false_eq_true, wr_of, uI_at, uC_at, q_bi_s, q_bl_s, q_br_s, q_bv_s, Int.toNat_natCast, tn_1, tn_m, tn_n, Int.toNat_zero, Int.toNat_one]
      by_cases q3 : j - m + 1 < nm
      · rw [if_pos q3] at a2
        obtain ⟨I2, c1, c2, c3⟩ := ih (j + 1) m nm I1 (by omega) (by omega) q1 (by omega) (by rw [show j + 1 - m = j - m + 1 by omega]; exact a2)
        exact ⟨I2, c1, c2, Kp_tr a3 c3 (by omega) (by omega) (by omega) (by omega)⟩
      · rw [if_neg q3] at a2
        obtain ⟨I2, c1, c2, c3⟩ := ih (j + 1) (j + 1) (nm * 2) I1 (by omega) (by omega) (by omega) (by omega) (by rw [Nat.sub_self]; exact a2)
        exact ⟨I2, c1, c2, Kp_tr a3 c3 (by omega) (by omega) (by omega) (by omega)⟩
theorem c_goOn (h1 : law ≤ 3) (hh : 2 ≤ hold) (hh2 : hold ≤ 9) {N : Nat} (hN : N ≤ 5000) (hx : HOk x) (A : WAt I W law hold x x 0 1) : ∃ I', q_E (99, 0, [vr W, vi (N : Int), vu, vu, vu], []) (qk t u I J) = some (vu, qk t u I' J) ∧ WWk I' W law hold (nti law hold N x) N ∧ Kp W (W + 4) I I' := by
  rw [e99_0]
  exact c_goOn_l h1 hh hh2 hN hx N 0 0 1 I (by omega) (by omega) (by omega) (by omega) A
/-- what findRound answers: how long it is till the mark comes again, first; or the mark of night 511 doesn't till night 1000 -/
def FRd (law hold : Nat) (x : Hp) (v : Int) : Prop := (∃ m p, v = ((p : Nat) : Int) ∧ 0 < p ∧ p ≤ 1000 ∧ nti law hold (m + p) x = nti law hold m x ∧ ∀ i, 0 < i → i < p → nti law hold (m + i) x ≠ nti law hold m x) ∨ (v = -2 ∧ ∀ i, 0 < i → 511 + i ≤ 1000 → nti law hold (511 + i) x ≠ nti law hold 511 x)
theorem c_findRound_l (h1 : law ≤ 3) (hh : 2 ≤ hold) (hh2 : hold ≤ 9) (hx : HOk x) : ∀ (n j k : Nat) (I : Nat → Nat → Int), j + n = 1000 → 2 ^ k ≤ j + 1 → j + 1 < 2 ^ (k + 1) → (∀ i, 0 < i → 2 ^ k - 1 + i ≤ j → nti law hold (2 ^ k - 1 + i) x ≠ nti law hold (2 ^ k - 1) x) → WAt I W law hold (nti law hold j x) (nti law hold (2 ^ k - 1) x) (j - (2 ^ k - 1)) (2 ^ k) → ∃ v I', q_E (100, 2, [vr W, vi (j : Int)], []) (qk t u I J) = some (vi v, qk t u I' J) ∧ FRd law hold x v ∧ Kp W (W + 4) I I' := by
  intro n
  induction n with
  | zero =>
    intro j k I hj b1 b2 hne A
    have hj : j = 1000 := by omega
    subst hj
    rw [e100_2]
    simp (disch := omega) only [↓reduceIte, lt_TI, lt_FI, le_TI, le_FI, eq_TI, eq_FI, lt_TN, lt_FN, le_TN, le_FN, eq_TN, eq_FN, and_self, and_true, true_and, and_false, false_and, or_true, true_or, or_false, false_or, not_true_eq_false, not_false_eq_true, wr_of, uI_at, uC_at, q_bi_s, q_bl_s, q_br_s, q_bv_s, Int.toNat_natCast, tn_1, tn_m, tn_n, Int.toNat_zero, Int.toNat_one]
    have hk : k = 9 := by
      rcases Nat.lt_trichotomy k 9 with q | q | q
      · have := Nat.pow_le_pow_right (show 0 < 2 by omega) (show k + 1 ≤ 9 by omega)
        omega
      · exact q
      · have := Nat.pow_le_pow_right (show 0 < 2 by omega) (show 10 ≤ k by omega)
        omega
    subst hk
    exact ⟨_, I, rfl, Or.inr ⟨rfl, fun i q1 q2 => hne i q1 q2⟩, Kp_rf⟩
  | succ n ih =>
    intro j k I hj b1 b2 hne A
    have hp : 0 < 2 ^ k := Nat.pow_pos (by omega)
    obtain ⟨I1, a1, a2, a3⟩ := c_wstep (t := t) (u := u) (J := J) h1 hh hh2 A (nti_ok hh hx j) (by omega) (by omega)
    have w1 := A.1.1
    rw [e100_2]
    simp (disch := omega) only [↓reduceIte, lt_TI, lt_FI, le_TI, le_FI, eq_TI, eq_FI, lt_TN, lt_FN, le_TN, le_FN, eq_TN, eq_FN, and_self, and_true, true_and, and_false, false_and, or_true, true_or, or_false, false_or, not_true_eq_false, not_false_eq_true, wr_of, uI_at, uC_at, q_bi_s, q_bl_s, q_br_s, q_bv_s, Int.toNat_natCast, tn_1, tn_m, tn_n, Int.toNat_zero, Int.toNat_one, w1, a1]
    rw [e100_13]
    by_cases q : nt law hold (nti law hold j x) = nti law hold (2 ^ k - 1) x
    · rw [if_pos q] at a2 ⊢
      have m4 := a2.2.2.2.2.2.1
      simp (disch := omega) only [↓reduceIte, lt_TI, lt_FI, le_TI, le_FI, eq_TI, eq_FI, lt_TN, lt_FN, le_TN, le_FN, eq_TN, eq_FN, and_self, and_true, true_and, and_false, false_and, or_true, true_or, or_false, false_or, not_true_eq_false, not_false_eq_true, wr_of, uI_at, uC_at, q_bi_s, q_bl_s, q_br_s, q_bv_s, Int.toNat_natCast, tn_1, tn_m, tn_n, Int.toNat_zero, Int.toNat_one, w1, m4]
      refine ⟨_, I1, rfl, Or.inl ⟨2 ^ k - 1, j - (2 ^ k - 1) + 1, rfl, by omega, by omega, ?_, fun i q1 q2 => hne i q1 (by omega)⟩, a3⟩
      rw [show 2 ^ k - 1 + (j - (2 ^ k - 1) + 1) = j + 1 by omega]
      exact q
    · rw [if_neg q] at a2 ⊢
      simp (disch := omega) only [↓reduceIte, lt_TI, lt_FI, le_TI, le_FI, eq_TI, eq_FI, lt_TN, lt_FN, le_TN, le_FN, eq_TN, eq_FN, and_self, and_true, true_and, and_false, false_and, or_true, true_or, or_false, false_or, not_true_eq_false, not_false_eq_true, wr_of, uI_at, uC_at, q_bi_s, q_bl_s, q_br_s, q_bv_s, Int.toNat_natCast, tn_1, tn_m, tn_n, Int.toNat_zero, Int.toNat_one]
      rw [Nat.pow_succ] at b2
      by_cases q3 : j - (2 ^ k - 1) + 1 < 2 ^ k
      · rw [if_pos q3] at a2
        obtain ⟨v, I2, c1, c2, c3⟩ := ih (j + 1) k I1 (by omega) (by omega) (by rw [Nat.pow_succ]; omega) (fun i q1 q2 => by
          by_cases e : 2 ^ k - 1 + i = j + 1
          · rw [e]; exact q
          · exact hne i q1 (by omega)) (by rw [show j + 1 - (2 ^ k - 1) = j - (2 ^ k - 1) + 1 by omega]; exact a2)
        exact ⟨v, I2, c1, c2, Kp_tr a3 c3 (by omega) (by omega) (by omega) (by omega)⟩
      · rw [if_neg q3] at a2
        have e : 2 ^ (k + 1) - 1 = j + 1 := by rw [Nat.pow_succ]; omega
        obtain ⟨v, I2, c1, c2, c3⟩ := ih (j + 1) (k + 1) I1 (by omega) (by rw [Nat.pow_succ]; omega) (by rw [Nat.pow_succ, Nat.pow_succ]; omega) (fun i q1 q2 => by omega) (by rw [e, Nat.sub_self, Nat.pow_succ]; exact a2)
        exact ⟨v, I2, c1, c2, Kp_tr a3 c3 (by omega) (by omega) (by omega) (by omega)⟩
theorem c_findRound (h1 : law ≤ 3) (hh : 2 ≤ hold) (hh2 : hold ≤ 9) (hx : HOk x) (A : WAt I W law hold x x 0 1) : ∃ v I', q_E (100, 0, [vr W, vu], []) (qk t u I J) = some (vi v, qk t u I' J) ∧ FRd law hold x v ∧ Kp W (W + 4) I I' := by
  rw [e100_0]
  exact c_findRound_l h1 hh hh2 hx 1000 0 0 I (by omega) (by omega) (by omega) (fun i q1 q2 => by omega) A
end

/-! carried, levelled, sums that make; chance -/
theorem rg_mono (f : Nat → Nat) {m n : Nat} (h : m ≤ n) : (rg m f).sum ≤ (rg n f).sum := by
  induction h with
  | refl => exact Nat.le_refl _
  | step _ ih => rw [rg_sum_s]; omega
theorem rg_sum_f (n : Nat) (g : Nat → Nat) : (rg (n + 1) g).sum = g 0 + (rg n (fun i => g (i + 1))).sum := by
  induction n with
  | zero => rw [rg_sum_s]; show 0 + g 0 = g 0 + 0; omega
  | succ n ih => rw [rg_sum_s, ih, rg_sum_s]; omega
theorem rg_sum_a (n : Nat) (f g : Nat → Nat) : (rg n (fun i => f i + g i)).sum = (rg n f).sum + (rg n g).sum := by
  induction n with
  | zero => rfl
  | succ n ih => rw [rg_sum_s, rg_sum_s, rg_sum_s, ih]; omega
theorem rg_sum_m (n c : Nat) (g : Nat → Nat) : (rg n (fun i => c * g i)).sum = c * (rg n g).sum := by
  induction n with
  | zero => rfl
  | succ n ih => rw [rg_sum_s, rg_sum_s, ih, Nat.mul_add]
theorem rg_sum_c {n : Nat} {f g : Nat → Nat} (h : ∀ i, i < n → f i = g i) : (rg n f).sum = (rg n g).sum := by
  induction n with
  | zero => rfl
  | succ n ih => rw [rg_sum_s, rg_sum_s, ih (fun i hi => h i (by omega)), h n (by omega)]
theorem rg_sum_le {n : Nat} {f g : Nat → Nat} (h : ∀ i, i < n → f i ≤ g i) : (rg n f).sum ≤ (rg n g).sum := by
  induction n with
  | zero => exact Nat.le_refl _
  | succ n ih => rw [rg_sum_s, rg_sum_s]; have := ih (fun i hi => h i (by omega)); have := h n (by omega); omega
def chs : Nat → Nat → Nat
  | _, 0 => 1
  | 0, _ + 1 => 0
  | n + 1, k + 1 => chs n k + chs n (k + 1)
theorem chs_0 (n : Nat) : chs n 0 = 1 := by cases n <;> rfl
theorem chs_big : ∀ n k, n < k → chs n k = 0
  | 0, k + 1, _ => rfl
  | n + 1, k + 1, h => by
    unfold chs
    rw [chs_big n k (by omega), chs_big n (k + 1) (by omega)]
theorem chs_s : ∀ n : Nat, n < 9 → ∀ i : Nat, i < 9 → i < n → chs n i * (n - i) / (i + 1) = chs n (i + 1) ∧ chs n i * (n - i) ≤ 1000 := by decide +kernel
theorem chs_b : ∀ n : Nat, n < 9 → ∀ i : Nat, i < 9 → chs n i ≤ 70 := by decide +kernel
def wt (x y n a : Nat) : Nat := chs n a * x ^ a * y ^ (n - a)
def bn (x y : Nat) : Nat → (Nat → Nat) → Nat
  | 0, f => f 0
  | n + 1, f => x * bn x y n (fun a => f (a + 1)) + y * bn x y n f
theorem bn_T (x y : Nat) : ∀ (n : Nat) (f : Nat → Nat), (rg (n + 1) (fun a => wt x y n a * f a)).sum = bn x y n f
  | 0, f => by rw [rg_sum_s]; show 0 + wt x y 0 0 * f 0 = f 0; unfold wt; rw [chs_0]; simp
  | n + 1, f => by
    unfold bn
    rw [← bn_T x y n f, ← bn_T x y n (fun a => f (a + 1)), rg_sum_f]
    have e1 : (rg (n + 1) (fun i => wt x y (n + 1) (i + 1) * f (i + 1))).sum = (rg (n + 1) (fun b => x * (wt x y n b * f (b + 1)))).sum + (rg (n + 1) (fun b => chs n (b + 1) * x ^ (b + 1) * y ^ (n - b) * f (b + 1))).sum := by
      rw [← rg_sum_a]
      refine rg_sum_c fun b hb => ?_
      show wt x y (n + 1) (b + 1) * f (b + 1) = _
      unfold wt
      have : chs (n + 1) (b + 1) = chs n b + chs n (b + 1) := rfl
      rw [this, Nat.add_sub_add_right, Nat.pow_succ]
      generalize x ^ b = X
      generalize y ^ (n - b) = Y
      generalize chs n b = c
      generalize chs n (b + 1) = d
      generalize f (b + 1) = F
      rw [Nat.add_mul, Nat.add_mul, Nat.add_mul]
      congr 1
      simp only [Nat.mul_assoc, Nat.mul_comm, Nat.mul_left_comm]
    have e2 : (rg (n + 1) (fun b => chs n (b + 1) * x ^ (b + 1) * y ^ (n - b) * f (b + 1))).sum = y * (rg n (fun b => wt x y n (b + 1) * f (b + 1))).sum := by
      rw [rg_sum_s, chs_big n (n + 1) (by omega), ← rg_sum_m]
      simp only [Nat.zero_mul, Nat.add_zero]
      refine rg_sum_c fun b hb => ?_
      unfold wt
      have ey : y ^ (n - b) = y ^ (n - (b + 1)) * y := by rw [← Nat.pow_succ]; congr 1; omega
      rw [ey]
      generalize x ^ (b + 1) = X
      generalize y ^ (n - (b + 1)) = Y
      simp only [Nat.mul_assoc, Nat.mul_comm, Nat.mul_left_comm]
    have e3 : wt x y (n + 1) 0 * f 0 = y * (wt x y n 0 * f 0) := by
      unfold wt
      rw [chs_0, chs_0, Nat.sub_zero, Nat.sub_zero, Nat.pow_succ]
      generalize y ^ n = Y
      simp only [Nat.pow_zero, Nat.one_mul, Nat.mul_assoc, Nat.mul_comm, Nat.mul_left_comm]
    rw [e1, e2, e3, rg_sum_m, rg_sum_f n (fun a => wt x y n a * f a), Nat.mul_add]
    omega
theorem bn_1 (x y : Nat) : ∀ n, bn x y n (fun _ => 1) = (x + y) ^ n
  | 0 => rfl
  | n + 1 => by
    unfold bn
    rw [bn_1 x y n, Nat.pow_succ, Nat.mul_comm _ (x + y), Nat.add_mul]
theorem bn_le (x y : Nat) {M : Nat} : ∀ (n : Nat) (f : Nat → Nat), (∀ a, f a ≤ M) → bn x y n f ≤ M * (x + y) ^ n
  | 0, f, h => by show f 0 ≤ M * 1; have := h 0; omega
  | n + 1, f, h => by
    unfold bn
    have a := Nat.mul_le_mul_left x (bn_le x y n (fun a => f (a + 1)) (fun a => h (a + 1)))
    have b := Nat.mul_le_mul_left y (bn_le x y n f h)
    have e : M * (x + y) ^ (n + 1) = x * (M * (x + y) ^ n) + y * (M * (x + y) ^ n) := by
      rw [Nat.pow_succ, ← Nat.add_mul]
      generalize (x + y) ^ n = Z
      simp only [Nat.mul_assoc, Nat.mul_comm, Nat.mul_left_comm]
    omega
theorem p100 {n : Nat} (h : n ≤ 8) : 100 ^ n ≤ 10000000000000000 := by
  have := Nat.pow_le_pow_right (show 0 < 100 by omega) h
  omega
theorem pb_le {b e : Nat} (hb : b ≤ 100) (he : e ≤ 8) : b ^ e ≤ 10000000000000000 := by
  have := Nat.pow_le_pow_left hb e
  have := p100 he
  omega
def lowN (up down : Nat) (l : Bool) : Nat := (if l then down else up) / Nat.gcd up down
theorem half_step {b c : Nat} (hc : 0 < c) (h : c ≤ b) : 2 * (b % c) < b := by
  have h1 := Nat.mod_lt b hc
  have h2 := Nat.div_add_mod b c
  have h3 : 1 ≤ b / c := Nat.div_pos h hc
  have h4 : c * 1 ≤ c * (b / c) := Nat.mul_le_mul_left c h3
  omega
section
variable {t u : Nat} {I J : Nat → Nat → Int} {h : Nat} {xs : List Nat} {k : Nat}
theorem c_carry (H : HAt I h xs k) (ok : HOk (xs, k)) (hh : h + 1 < 246 ∨ 247 < h) : ∃ I', q_E (78, 0, [vr 244, vr h, vu, vu, vu, vu], []) (qk t u I J) = some (vi (huf (xs.length - 1) xs : Int), qk t u I' J) ∧ Kp 246 247 I I' := by
  have k1 := H.1.1
  have h1 := H.2.1
  have hl := H.2.2.2.1
  obtain ⟨I0, a1, a2, a3⟩ := c_copyFrom (t := t) (u := u) (J := J) HId_246 H (by omega)
  have loop : ∀ (r j s : Nat) (l : List Nat) (I1 : Nat → Nat → Int), j + r = xs.length → 1 ≤ j → l.length = r + 1 → HAt I1 246 l k → SD l → PS l → l.sum = xs.sum → I1 h 1 = (xs.length : Int) → s ≤ 60 * j → ∃ I', q_E (78, 12, [vr 244, vr h, vi (s : Int), vi (j : Int), vu, vu], []) (qk t u I1 J) = some (vi ((s + huf r l : Nat) : Int), qk t u I' J) ∧ Kp 246 247 I1 I' := by
    intro r
    induction r with
    | zero =>
      intro j s l I1 hj hj1 hll A S P hs e hb
      rw [e78_12]
      simp (disch := omega) only [↓reduceIte, lt_TI, lt_FI, le_TI, le_FI, eq_TI, eq_FI, lt_TN, lt_FN, le_TN, le_FN, eq_TN, eq_FN, and_self, and_true, true_and, and_false, false_and, or_true, true_or, or_false, false_or, not_true_eq_false, not_false_eq_true, wr_of, uI_at, uC_at, q_bi_s, q_bl_s, q_br_s, q_bv_s, Int.toNat_natCast, tn_1, tn_m, tn_n, Int.toNat_zero, Int.toNat_one, k1, e]
      exact ⟨I1, rfl, Kp_rf⟩
    | succ r ih =>
      intro j s l I1 hj hj1 hll A S P hs e hb
      have x1 := ok.2.2
      simp only at x1
      obtain ⟨I2, b1, b2, b3⟩ := c_lift (t := t) (u := u) (J := J) A (i := l.length - 1) (by omega)
      have el := er_len (l := l) (i := l.length - 1) (by omega)
      have es := er_sum (l := l) (i := l.length - 1) (by omega)
      have g2 : (l.eraseIdx (l.length - 1)).getD (l.length - 2) 0 = l.getD (l.length - 2) 0 := by rw [gD_er, if_pos (by omega)]
      obtain ⟨I3, c1, c2, c3⟩ := c_lift (t := t) (u := u) (J := J) b2 (i := l.length - 2) (by omega)
      have el2 := er_len (l := l.eraseIdx (l.length - 1)) (i := l.length - 2) (by omega)
      have es2 := er_sum (l := l.eraseIdx (l.length - 1)) (i := l.length - 2) (by omega)
      rw [g2] at es2 c1
      have ps2 := er_ps (er_ps P (l.length - 1)) (l.length - 2)
      have p1 := PS_gD P (show l.length - 1 < l.length by omega)
      obtain ⟨I4, d1, d2, d3⟩ := c_lay (t := t) (u := u) (J := J) c2 (er_sd (er_sd S _) _) (z := l.getD (l.length - 1) 0 + l.getD (l.length - 2) 0) (by omega) (by omega) (by omega)
      have n1 : ((l.length : Int) - 1) = ((l.length - 1 : Nat) : Int) := by omega
      have n2 : (((l.eraseIdx (l.length - 1)).length : Int) - 1) = ((l.length - 2 : Nat) : Int) := by omega
      rw [e78_12]
      simp (disch := omega) only [↓reduceIte, lt_TI, lt_FI, le_TI, le_FI, eq_TI, eq_FI, lt_TN, lt_FN, le_TN, le_FN, eq_TN, eq_FN, and_self, and_true, true_and, and_false, false_and, or_true, true_or, or_false, false_or, not_true_eq_false, not_false_eq_true, wr_of, uI_at, uC_at, q_bi_s, q_bl_s, q_br_s, q_bv_s, Int.toNat_natCast, tn_1, tn_m, tn_n, Int.toNat_zero, Int.toNat_one, k1, e, A.2.1, n1, b1]
      rw [e78_36]
      simp (disch := omega) only [↓reduceIte, lt_TI, lt_FI, le_TI, le_FI, eq_TI, eq_FI, lt_TN, lt_FN, le_TN, le_FN, eq_TN, eq_FN, and_self, and_true, true_and, and_false, false_and, or_true, true_or, or_false, false_or, not_true_eq_false, not_false_eq_true, wr_of, uI_at, uC_at, q_bi_s, q_bl_s, q_br_s, q_bv_s, Int.toNat_natCast, tn_1, tn_m, tn_n, Int.toNat_zero, Int.toNat_one, b2.2.1, n2, c1]
      rw [e78_56]
      rw [show (((l.getD (l.length - 1) 0 + l.getD (l.length - 2) 0 : Nat)) : Int) = (l.getD (l.length - 1) 0 : Int) + (l.getD (l.length - 2) 0 : Int) from rfl] at d1
      simp (disch := omega) only [↓reduceIte, lt_TI, lt_FI, le_TI, le_FI, eq_TI, eq_FI, lt_TN, lt_FN, le_TN, le_FN, eq_TN, eq_FN, and_self, and_true, true_and, and_false, false_and, or_true, true_or, or_false, false_or, not_true_eq_false, not_false_eq_true, wr_of, uI_at, uC_at, q_bi_s, q_bl_s, q_br_s, q_bv_s, Int.toNat_natCast, tn_1, tn_m, tn_n, Int.toNat_zero, Int.toNat_one, d1]
      rw [e78_68]
      have K4 : Kp 246 247 I1 I4 := Kp_tr (Kp_tr b3 c3 (lo := 246) (hi := 247) (by omega) (by omega) (by omega) (by omega)) d3 (by omega) (by omega) (by omega) (by omega)
      simp (disch := omega) only [↓reduceIte, lt_TI, lt_FI, le_TI, le_FI, eq_TI, eq_FI, lt_TN, lt_FN, le_TN, le_FN, eq_TN, eq_FN, and_self, and_true, true_and, and_false, false_and, or_true, true_or, or_false, false_or, not_true_eq_false, not_false_eq_true, wr_of, uI_at, uC_at, q_bi_s, q_bl_s, q_br_s, q_bv_s, Int.toNat_natCast, tn_1, tn_m, tn_n, Int.toNat_zero, Int.toNat_one]
      obtain ⟨I5, f1, f2⟩ := ih (j + 1) (s + (l.getD (l.length - 1) 0 + l.getD (l.length - 2) 0)) _ I4 (by omega) (by omega) (by rw [ins_len]; omega) d2 (ins_sd _ _ (er_sd (er_sd S _) _)) (ins_ps (by omega) ps2) (by rw [ins_sum]; omega) (by rw [K4 h (by omega)]; exact e) (by omega)
      refine ⟨I5, ?_, Kp_tr K4 f2 (by omega) (by omega) (by omega) (by omega)⟩
      rw [show s + huf (r + 1) l = s + (l.getD (l.length - 1) 0 + l.getD (l.length - 2) 0) + huf r (ins (l.getD (l.length - 1) 0 + l.getD (l.length - 2) 0) ((l.eraseIdx (l.length - 1)).eraseIdx (l.length - 2))) by rw [Nat.add_assoc]; rfl]
      exact f1
  rw [e78_0, a1]
  simp (disch := omega) only [↓reduceIte, lt_TI, lt_FI, le_TI, le_FI, eq_TI, eq_FI, lt_TN, lt_FN, le_TN, le_FN, eq_TN, eq_FN, and_self, and_true, true_and, and_false, false_and, or_true, true_or, or_false, false_or, not_true_eq_false, not_false_eq_true, wr_of, uI_at, uC_at, q_bi_s, q_bl_s, q_br_s, q_bv_s, Int.toNat_natCast, tn_1, tn_m, tn_n, Int.toNat_zero, Int.toNat_one]
  rw [e78_8]
  have e0 : I0 h 1 = (xs.length : Int) := by rw [a3 h (by omega)]; exact h1
  by_cases q : xs.length = 0
  · rw [e78_12]
    simp (disch := omega) only [↓reduceIte, lt_TI, lt_FI, le_TI, le_FI, eq_TI, eq_FI, lt_TN, lt_FN, le_TN, le_FN, eq_TN, eq_FN, and_self, and_true, true_and, and_false, false_and, or_true, true_or, or_false, false_or, not_true_eq_false, not_false_eq_true, wr_of, uI_at, uC_at, q_bi_s, q_bl_s, q_br_s, q_bv_s, Int.toNat_natCast, tn_1, tn_m, tn_n, Int.toNat_zero, Int.toNat_one, k1, e0]
    rw [q]
    exact ⟨I0, rfl, a3⟩
  · obtain ⟨I1, b1, b2⟩ := loop (xs.length - 1) 1 0 xs I0 (by omega) (by omega) (by omega) a2 ok.1 ok.2.1 rfl e0 (by omega)
    rw [Nat.zero_add] at b1
    exact ⟨I1, b1, Kp_tr a3 b2 (by omega) (by omega) (by omega) (by omega)⟩
theorem c_level (H : HAt I h xs k) (hs : xs.sum ≤ 60) : q_E (79, 0, [vr h, vu, vu, vu, vu, vu, vu], []) (qk t u I J) = some (vi (lev xs : Int), qk t u I J) := by
  have k1 := H.1.1
  have h1 := H.2.1
  have hl := H.2.2.2.1
  rw [e79_0]
  by_cases q : xs.length = 0
  · have e : xs = [] := List.eq_nil_of_length_eq_zero q
    subst e
    simp (disch := omega) only [↓reduceIte, lt_TI, lt_FI, le_TI, le_FI, eq_TI, eq_FI, lt_TN, lt_FN, le_TN, le_FN, eq_TN, eq_FN, and_self, and_true, true_and, and_false, false_and, or_true, true_or, or_false, false_or, not_true_eq_false, not_false_eq_true, wr_of, uI_at, uC_at, q_bi_s, q_bl_s, q_br_s, q_bv_s, Int.toNat_natCast, tn_1, tn_m, tn_n, Int.toNat_zero, Int.toNat_one, k1, h1, List.length_nil, Int.natCast_zero]
    rfl
  · simp (disch := omega) only [↓reduceIte, lt_TI, lt_FI, le_TI, le_FI, eq_TI, eq_FI, lt_TN, lt_FN, le_TN, le_FN, eq_TN, eq_FN, and_self, and_true, true_and, and_false, false_and, or_true, true_or, or_false, false_or, not_true_eq_false, not_false_eq_true, wr_of, uI_at, uC_at, q_bi_s, q_bl_s, q_br_s, q_bv_s, Int.toNat_natCast, tn_1, tn_m, tn_n, Int.toNat_zero, Int.toNat_one, k1, h1, c_inHeaps H (show xs.sum ≤ 1000 by omega)]
    rw [e79_13]
    have e1 : Int.tdiv (xs.sum : Int) (xs.length : Int) = ((xs.sum / xs.length : Nat) : Int) := (Int.ofNat_tdiv _ _).symm
    have e2 : Int.tmod (xs.sum : Int) (xs.length : Int) = ((xs.sum % xs.length : Nat) : Int) := (Int.ofNat_tmod _ _).symm
    have b1 : xs.sum / xs.length ≤ xs.sum := Nat.div_le_self _ _
    have b2 : xs.sum % xs.length < xs.length := Nat.mod_lt _ (by omega)
    simp (disch := omega) only [↓reduceIte, lt_TI, lt_FI, le_TI, le_FI, eq_TI, eq_FI, lt_TN, lt_FN, le_TN, le_FN, eq_TN, eq_FN, and_self, and_true, true_and, and_false, false_and, or_true, true_or, or_false, false_or, not_true_eq_false, not_false_eq_true, wr_of, uI_at, uC_at, q_bi_s, q_bl_s, q_br_s, q_bv_s, Int.toNat_natCast, tn_1, tn_m, tn_n, Int.toNat_zero, Int.toNat_one, k1, h1, e1, e2]
    have b3 : xs.sum / xs.length ≤ 60 := by omega
    have b4 : xs.sum % xs.length ≤ 60 := by omega
    unfold lev
    generalize xs.sum / xs.length = q at b3 ⊢
    generalize xs.sum % xs.length = m at b4 ⊢
    have bnd : ∀ n, n ≤ xs.length → (rg n (fun i => xs.getD i 0 - (q + if i < m then 1 else 0))).sum ≤ 60 := by
      intro n hn
      have a := rg_sum_le (n := n) (f := fun i => xs.getD i 0 - (q + if i < m then 1 else 0)) (g := fun i => xs.getD i 0) (fun i hi => Nat.sub_le _ _)
      have b := rg_mono (fun i => xs.getD i 0) hn
      rw [rg_id] at b
      omega
    have loop : ∀ r i : Nat, i + r = xs.length → q_E (79, 34, [vr h, vu, vi (q : Int), vi (m : Int), vi ((rg i (fun i => xs.getD i 0 - (q + if i < m then 1 else 0))).sum : Int), vi (i : Int), vu], []) (qk t u I J) = some (vi ((rg xs.length (fun i => xs.getD i 0 - (q + if i < m then 1 else 0))).sum : Int), qk t u I J) := by
      intro r
      induction r with
      | zero =>
        intro i hi
        have e : i = xs.length := by omega
        rw [e79_34]
        simp (disch := omega) only [↓reduceIte, lt_TI, lt_FI, le_TI, le_FI, eq_TI, eq_FI, lt_TN, lt_FN, le_TN, le_FN, eq_TN, eq_FN, and_self, and_true, true_and, and_false, false_and, or_true, true_or, or_false, false_or, not_true_eq_false, not_false_eq_true, wr_of, uI_at, uC_at, q_bi_s, q_bl_s, q_br_s, q_bv_s, Int.toNat_natCast, tn_1, tn_m, tn_n, Int.toNat_zero, Int.toNat_one, k1, h1]
        rw [e]
      | succ r ih =>
        intro i hi
        have bi := bnd i (by omega)
        have gb := gD_sum (l := xs) i
        have en := ih (i + 1) (by omega)
        rw [rg_sum_s, Int.natCast_add, show ((i + 1 : Nat) : Int) = (i : Int) + 1 from rfl] at en
        generalize (rg i (fun i => xs.getD i 0 - (q + if i < m then 1 else 0))).sum = S at bi en ⊢
        rw [e79_34]
        by_cases z : i < m
        · rw [if_pos z] at en
          simp (disch := omega) only [↓reduceIte, lt_TI, lt_FI, le_TI, le_FI, eq_TI, eq_FI, lt_TN, lt_FN, le_TN, le_FN, eq_TN, eq_FN, and_self, and_true, true_and, and_false, false_and, or_true, true_or, or_false, false_or, not_true_eq_false, not_false_eq_true, wr_of, uI_at, uC_at, q_bi_s, q_bl_s, q_br_s, q_bv_s, Int.toNat_natCast, tn_1, tn_m, tn_n, Int.toNat_zero, Int.toNat_one, k1, h1, c_heightAt H i]
          rw [e79_67]
          by_cases y : q + 1 < xs.getD i 0
          · simp (disch := omega) only [↓reduceIte, lt_TI, lt_FI, le_TI, le_FI, eq_TI, eq_FI, lt_TN, lt_FN, le_TN, le_FN, eq_TN, eq_FN, and_self, and_true, true_and, and_false, false_and, or_true, true_or, or_false, false_or, not_true_eq_false, not_false_eq_true, wr_of, uI_at, uC_at, q_bi_s, q_bl_s, q_br_s, q_bv_s, Int.toNat_natCast, tn_1, tn_m, tn_n, Int.toNat_zero, Int.toNat_one]
            rw [show ((xs.getD i 0 - (q + 1) : Nat) : Int) = (xs.getD i 0 : Int) - ((q : Int) + 1) by omega] at en
            exact en
          · simp (disch := omega) only [↓reduceIte, lt_TI, lt_FI, le_TI, le_FI, eq_TI, eq_FI, lt_TN, lt_FN, le_TN, le_FN, eq_TN, eq_FN, and_self, and_true, true_and, and_false, false_and, or_true, true_or, or_false, false_or, not_true_eq_false, not_false_eq_true, wr_of, uI_at, uC_at, q_bi_s, q_bl_s, q_br_s, q_bv_s, Int.toNat_natCast, tn_1, tn_m, tn_n, Int.toNat_zero, Int.toNat_one]
            rw [show ((xs.getD i 0 - (q + 1) : Nat) : Int) = 0 by omega] at en
            exact en
        · rw [if_neg z] at en
          simp (disch := omega) only [↓reduceIte, lt_TI, lt_FI, le_TI, le_FI, eq_TI, eq_FI, lt_TN, lt_FN, le_TN, le_FN, eq_TN, eq_FN, and_self, and_true, true_and, and_false, false_and, or_true, true_or, or_false, false_or, not_true_eq_false, not_false_eq_true, wr_of, uI_at, uC_at, q_bi_s, q_bl_s, q_br_s, q_bv_s, Int.toNat_natCast, tn_1, tn_m, tn_n, Int.toNat_zero, Int.toNat_one, k1, h1, c_heightAt H i]
          rw [e79_67]
          by_cases y : q < xs.getD i 0
          · simp (disch := omega) only [↓reduceIte, lt_TI, lt_FI, le_TI, le_FI, eq_TI, eq_FI, lt_TN, lt_FN, le_TN, le_FN, eq_TN, eq_FN, and_self, and_true, true_and, and_false, false_and, or_true, true_or, or_false, false_or, not_true_eq_false, not_false_eq_true, wr_of, uI_at, uC_at, q_bi_s, q_bl_s, q_br_s, q_bv_s, Int.toNat_natCast, tn_1, tn_m, tn_n, Int.toNat_zero, Int.toNat_one]
            rw [show ((xs.getD i 0 - (q + 0) : Nat) : Int) = (xs.getD i 0 : Int) - (q : Int) by omega] at en
            exact en
          · simp (disch := omega) only [↓reduceIte, lt_TI, lt_FI, le_TI, le_FI, eq_TI, eq_FI, lt_TN, lt_FN, le_TN, le_FN, eq_TN, eq_FN, and_self, and_true, true_and, and_false, false_and, or_true, true_or, or_false, false_or, not_true_eq_false, not_false_eq_true, wr_of, uI_at, uC_at, q_bi_s, q_bl_s, q_br_s, q_bv_s, Int.toNat_natCast, tn_1, tn_m, tn_n, Int.toNat_zero, Int.toNat_one]
            rw [show ((xs.getD i 0 - (q + 0) : Nat) : Int) = 0 by omega] at en
            exact en
    have e0 := loop xs.length 0 (by omega)
    simp only [show ∀ f, (rg 0 f).sum = 0 from fun _ => rfl, Int.natCast_zero] at e0
    rw [wr_of (z := (q : Int)) (by omega) (by omega)]
    exact e0
theorem enc_b (l : List Nat) {i : Nat} (n : Nat) (hi : i ≤ 60) : enc (fwi l i n) = -2 ∧ fwi l i n = 100000000 ∨ enc (fwi l i n) = (fwi l i n : Int) ∧ fwi l i n ≤ 60 := by
  unfold enc
  rcases fwi_b l i n with q | q
  · right; rw [if_neg (by omega)]; exact ⟨rfl, by omega⟩
  · left; rw [q]; exact ⟨if_pos (by omega), rfl⟩
theorem c_fill (H : HAt I h xs k) (P : PS xs) (hs : xs.sum ≤ 60) (hh : h ≠ 245 ∧ h + 1 ≠ 245) : ∃ I', q_E (82, 0, [vr 244, vr h, vu, vu, vu, vu], []) (qk t u I J) = some (vu, qk t u I' J) ∧ (∀ n, n < 61 → I' 245 n = enc (fwi xs xs.length n)) ∧ Kp 245 245 I I' := by
  have k1 := H.1.1
  have hl := H.2.2.2.1
  have frm : ∀ I1, Kp 245 245 I I1 → HAt I1 h xs k := fun I1 K => ⟨H.1, by rw [K h (by omega)]; exact H.2.1, by rw [K h (by omega)]; exact H.2.2.1, hl, fun i hi => by rw [K (h + 1) (by omega)]; exact H.2.2.2.2 i hi⟩
  have inner : ∀ (i : Nat), i < xs.length → ∀ (r n : Nat) (I1 : Nat → Nat → Int), n + 1 = xs.getD i 0 + r → n ≤ 60 → Kp 245 245 I I1 → (∀ q, q < 61 → I1 245 q = if n < q then enc (fwi xs (i + 1) q) else enc (fwi xs i q)) → ∃ I', q_E (82, 33, [vr 244, vr h, vi (i : Int), vi (xs.getD i 0 : Int), vi (n : Int), vu], []) (qk t u I1 J) = q_E (82, 15, [vr 244, vr h, vi ((i : Int) + 1), vu, vu, vu], []) (qk t u I' J) ∧ (∀ q, q < 61 → I' 245 q = enc (fwi xs (i + 1) q)) ∧ Kp 245 245 I I' := by
    intro i hi r
    induction r with
    | zero =>
      intro n I1 hn h60 K e
      rw [e82_33]
      simp (disch := omega) only [↓reduceIte, lt_TI, lt_FI, le_TI, le_FI, eq_TI, eq_FI, lt_TN, lt_FN, le_TN, le_FN, eq_TN, eq_FN, and_self, and_true, true_and, and_false, false_and, or_true, true_or, or_false, false_or, not_true_eq_false, not_false_eq_true, wr_of, uI_at, uC_at, q_bi_s, q_bl_s, q_br_s, q_bv_s, Int.toNat_natCast, tn_1, tn_m, tn_n, Int.toNat_zero, Int.toNat_one]
      refine ⟨I1, rfl, fun q hq => ?_, K⟩
      rw [e q hq]
      split
      · rfl
      · have ef : fwi xs (i + 1) q = if xs.getD i 0 ≤ q ∧ fwi xs i (q - xs.getD i 0) + 1 < fwi xs i q then fwi xs i (q - xs.getD i 0) + 1 else fwi xs i q := rfl
        rw [ef, if_neg (fun z => by omega)]
    | succ r ih =>
      intro n I1 hn h60 K e
      have hp := PS_gD P hi
      have tn : ((n : Int) - (xs.getD i 0 : Int)) = ((n - xs.getD i 0 : Nat) : Int) := by omega
      have v2 := e (n - xs.getD i 0) (by omega)
      rw [if_neg (by omega)] at v2
      have v1 := e n (by omega)
      rw [if_neg (by omega)] at v1
      have ef : fwi xs (i + 1) n = if xs.getD i 0 ≤ n ∧ fwi xs i (n - xs.getD i 0) + 1 < fwi xs i n then fwi xs i (n - xs.getD i 0) + 1 else fwi xs i n := rfl
      have rest : ∀ (v : Int), v = enc (fwi xs (i + 1) n) → ∃ I', q_E (82, 33, [vr 244, vr h, vi (i : Int), vi (xs.getD i 0 : Int), vi ((n : Int) + -1), vu], []) (qk t u (uI I1 245 n v) J) = q_E (82, 15, [vr 244, vr h, vi ((i : Int) + 1), vu, vu, vu], []) (qk t u I' J) ∧ (∀ q, q < 61 → I' 245 q = enc (fwi xs (i + 1) q)) ∧ Kp 245 245 I I' := fun v hv => by
        obtain ⟨I2, a1, a2, a3⟩ := ih (n - 1) (uI I1 245 n v) (by omega) (by omega) (Kp_uI K (by omega) (by omega)) (fun q hq => by
          by_cases z : q = n
          · subst z; rw [if_pos (by omega)]; simp (disch := omega) only [↓reduceIte, lt_TI, lt_FI, le_TI, le_FI, eq_TI, eq_FI, lt_TN, lt_FN, le_TN, le_FN, eq_TN, eq_FN, and_self, and_true, true_and, and_false, false_and, or_true, true_or, or_false, false_or, not_true_eq_false, not_false_eq_true, wr_of, uI_at, uC_at, q_bi_s, q_bl_s, q_br_s, q_bv_s, Int.toNat_natCast, tn_1, tn_m, tn_n, Int.toNat_zero, Int.toNat_one] <;> exact hv
          · rw [uI_ne (Or.inr z), e q hq]
            by_cases y : n < q
            · rw [if_pos y, if_pos (by omega)]
            · rw [if_neg y, if_neg (by omega)])
        exact ⟨I2, by rw [← a1, show ((n : Int) + -1) = ((n - 1 : Nat) : Int) by omega], a2, a3⟩
      have rest0 : enc (fwi xs i n) = enc (fwi xs (i + 1) n) → ∃ I', q_E (82, 33, [vr 244, vr h, vi (i : Int), vi (xs.getD i 0 : Int), vi ((n : Int) + -1), vu], []) (qk t u I1 J) = q_E (82, 15, [vr 244, vr h, vi ((i : Int) + 1), vu, vu, vu], []) (qk t u I' J) ∧ (∀ q, q < 61 → I' 245 q = enc (fwi xs (i + 1) q)) ∧ Kp 245 245 I I' := fun hv => by
        obtain ⟨I2, a1, a2, a3⟩ := ih (n - 1) I1 (by omega) (by omega) K (fun q hq => by
          rw [e q hq]
          by_cases z : q = n
          · subst z; rw [if_neg (by omega), if_pos (by omega)]; exact hv
          · by_cases y : n < q
            · rw [if_pos y, if_pos (by omega)]
            · rw [if_neg y, if_neg (by omega)])
        exact ⟨I2, by rw [← a1, show ((n : Int) + -1) = ((n - 1 : Nat) : Int) by omega], a2, a3⟩
      rw [e82_33]
      simp (disch := omega) only [↓reduceIte, lt_TI, lt_FI, le_TI, le_FI, eq_TI, eq_FI, lt_TN, lt_FN, le_TN, le_FN, eq_TN, eq_FN, and_self, and_true, true_and, and_false, false_and, or_true, true_or, or_false, false_or, not_true_eq_false, not_false_eq_true, wr_of, uI_at, uC_at, q_bi_s, q_bl_s, q_br_s, q_bv_s, Int.toNat_natCast, tn_1, tn_m, tn_n, Int.toNat_zero, Int.toNat_one, tn, c_rowAt (show n - xs.getD i 0 < 61 by omega), v2]
      rw [e82_47]
      rcases enc_b xs (i := i) (n - xs.getD i 0) (by omega) with ⟨q1, q2⟩ | ⟨q1, q2⟩
      · rw [q1]
        simp (disch := omega) only [↓reduceIte, lt_TI, lt_FI, le_TI, le_FI, eq_TI, eq_FI, lt_TN, lt_FN, le_TN, le_FN, eq_TN, eq_FN, and_self, and_true, true_and, and_false, false_and, or_true, true_or, or_false, false_or, not_true_eq_false, not_false_eq_true, wr_of, uI_at, uC_at, q_bi_s, q_bl_s, q_br_s, q_bv_s, Int.toNat_natCast, tn_1, tn_m, tn_n, Int.toNat_zero, Int.toNat_one]
        exact rest0 (by rw [ef, if_neg (fun z => by have := fwi_b xs i n; omega)])
      · rw [q1]
        rcases enc_b xs (i := i) n (by omega) with ⟨p1, p2⟩ | ⟨p1, p2⟩
        · simp (disch := omega) only [↓reduceIte, lt_TI, lt_FI, le_TI, le_FI, eq_TI, eq_FI, lt_TN, lt_FN, le_TN, le_FN, eq_TN, eq_FN, and_self, and_true, true_and, and_false, false_and, or_true, true_or, or_false, false_or, not_true_eq_false, not_false_eq_true, wr_of, uI_at, uC_at, q_bi_s, q_bl_s, q_br_s, q_bv_s, Int.toNat_natCast, tn_1, tn_m, tn_n, Int.toNat_zero, Int.toNat_one, v1, p1]
          exact rest _ (by rw [ef, if_pos ⟨by omega, by omega⟩]; unfold enc; rw [if_neg (by omega)]; rfl)
        · by_cases y : fwi xs i (n - xs.getD i 0) + 1 < fwi xs i n
          · simp (disch := omega) only [↓reduceIte, lt_TI, lt_FI, le_TI, le_FI, eq_TI, eq_FI, lt_TN, lt_FN, le_TN, le_FN, eq_TN, eq_FN, and_self, and_true, true_and, and_false, false_and, or_true, true_or, or_false, false_or, not_true_eq_false, not_false_eq_true, wr_of, uI_at, uC_at, q_bi_s, q_bl_s, q_br_s, q_bv_s, Int.toNat_natCast, tn_1, tn_m, tn_n, Int.toNat_zero, Int.toNat_one, v1, p1]
            exact rest _ (by rw [ef, if_pos ⟨by omega, y⟩]; unfold enc; rw [if_neg (by omega)]; rfl)
          · simp (disch := omega) only [↓reduceIte, lt_TI, lt_FI, le_TI, le_FI, eq_TI, eq_FI, lt_TN, lt_FN, le_TN, le_FN, eq_TN, eq_FN, and_self, and_true, true_and, and_false, false_and, or_true, true_or, or_false, false_or, not_true_eq_false, not_false_eq_true, wr_of, uI_at, uC_at, q_bi_s, q_bl_s, q_br_s, q_bv_s, Int.toNat_natCast, tn_1, tn_m, tn_n, Int.toNat_zero, Int.toNat_one, v1, p1]
            exact rest0 (by rw [ef, if_neg (fun z => y z.2)])
  have outer : ∀ (r i : Nat) (I1 : Nat → Nat → Int), i + r = xs.length → Kp 245 245 I I1 → (∀ q, q < 61 → I1 245 q = enc (fwi xs i q)) → ∃ I', q_E (82, 15, [vr 244, vr h, vi (i : Int), vu, vu, vu], []) (qk t u I1 J) = some (vu, qk t u I' J) ∧ (∀ n, n < 61 → I' 245 n = enc (fwi xs xs.length n)) ∧ Kp 245 245 I I' := by
    intro r
    induction r with
    | zero =>
      intro i I1 hi K e
      rw [e82_15]
      simp (disch := omega) only [↓reduceIte, lt_TI, lt_FI, le_TI, le_FI, eq_TI, eq_FI, lt_TN, lt_FN, le_TN, le_FN, eq_TN, eq_FN, and_self, and_true, true_and, and_false, false_and, or_true, true_or, or_false, false_or, not_true_eq_false, not_false_eq_true, wr_of, uI_at, uC_at, q_bi_s, q_bl_s, q_br_s, q_bv_s, Int.toNat_natCast, tn_1, tn_m, tn_n, Int.toNat_zero, Int.toNat_one, k1, (frm I1 K).2.1]
      exact ⟨I1, rfl, fun q hq => by rw [e q hq, show i = xs.length by omega], K⟩
    | succ r ih =>
      intro i I1 hi K e
      have gb := gD_sum (l := xs) i
      have hp := PS_gD P (show i < xs.length by omega)
      obtain ⟨I2, a1, a2, a3⟩ := inner i (by omega) (61 - xs.getD i 0) 60 I1 (by omega) (Nat.le_refl _) K (fun q hq => by rw [if_neg (by omega)]; exact e q hq)
      rw [e82_15]
      simp (disch := omega) only [↓reduceIte, lt_TI, lt_FI, le_TI, le_FI, eq_TI, eq_FI, lt_TN, lt_FN, le_TN, le_FN, eq_TN, eq_FN, and_self, and_true, true_and, and_false, false_and, or_true, true_or, or_false, false_or, not_true_eq_false, not_false_eq_true, wr_of, uI_at, uC_at, q_bi_s, q_bl_s, q_br_s, q_bv_s, Int.toNat_natCast, tn_1, tn_m, tn_n, Int.toNat_zero, Int.toNat_one, k1, (frm I1 K).2.1, c_heightAt (frm I1 K) i]
      rw [e82_28, show vi (60 : Int) = vi ((60 : Nat) : Int) from rfl, a1]
      exact ih (i + 1) I2 (by omega) a3 a2
  obtain ⟨I1, a1, a2, a3⟩ := c_clearRow (t := t) (u := u) (I := I) (J := J) (v := -2)
  rw [e82_0, a1]
  simp (disch := omega) only [↓reduceIte, lt_TI, lt_FI, le_TI, le_FI, eq_TI, eq_FI, lt_TN, lt_FN, le_TN, le_FN, eq_TN, eq_FN, and_self, and_true, true_and, and_false, false_and, or_true, true_or, or_false, false_or, not_true_eq_false, not_false_eq_true, wr_of, uI_at, uC_at, q_bi_s, q_bl_s, q_br_s, q_bv_s, Int.toNat_natCast, tn_1, tn_m, tn_n, Int.toNat_zero, Int.toNat_one]
  rw [e82_6]
  have K0 : Kp 245 245 I (uI I1 245 0 0) := Kp_uI a3 (by omega) (by omega)
  exact outer xs.length 0 (uI I1 245 0 0) (by omega) K0 (fun q hq => by
    have ef : fwi xs 0 q = if q = 0 then 0 else 100000000 := rfl
    rw [ef]
    by_cases z : q = 0
    · subst z; simp (disch := omega) only [↓reduceIte, lt_TI, lt_FI, le_TI, le_FI, eq_TI, eq_FI, lt_TN, lt_FN, le_TN, le_FN, eq_TN, eq_FN, and_self, and_true, true_and, and_false, false_and, or_true, true_or, or_false, false_or, not_true_eq_false, not_false_eq_true, wr_of, uI_at, uC_at, q_bi_s, q_bl_s, q_br_s, q_bv_s, Int.toNat_natCast, tn_1, tn_m, tn_n, Int.toNat_zero, Int.toNat_one]; rfl
    · rw [uI_ne (Or.inr z), a2 q hq, if_neg z]; rfl)
theorem c_makes (H : HAt I h xs k) (P : PS xs) (hs : xs.sum ≤ 60) (hh : h ≠ 245 ∧ h + 1 ≠ 245) {n : Nat} (hn : n ≤ 60) : ∃ I', q_E (80, 0, [vr 244, vr h, vi (n : Int)], []) (qk t u I J) = some (vi (enc (fwi xs xs.length n)), qk t u I' J) ∧ Kp 245 245 I I' := by
  obtain ⟨I1, a1, a2, a3⟩ := c_fill (t := t) (u := u) (J := J) H P hs hh
  rw [e80_0, a1]
  simp (disch := omega) only [↓reduceIte, lt_TI, lt_FI, le_TI, le_FI, eq_TI, eq_FI, lt_TN, lt_FN, le_TN, le_FN, eq_TN, eq_FN, and_self, and_true, true_and, and_false, false_and, or_true, true_or, or_false, false_or, not_true_eq_false, not_false_eq_true, wr_of, uI_at, uC_at, q_bi_s, q_bl_s, q_br_s, q_bv_s, Int.toNat_natCast, tn_1, tn_m, tn_n, Int.toNat_zero, Int.toNat_one]
  rw [e80_5, c_rowAt (show n < 61 by omega), a2 n (by omega)]
  simp (disch := omega) only [↓reduceIte, lt_TI, lt_FI, le_TI, le_FI, eq_TI, eq_FI, lt_TN, lt_FN, le_TN, le_FN, eq_TN, eq_FN, and_self, and_true, true_and, and_false, false_and, or_true, true_or, or_false, false_or, not_true_eq_false, not_false_eq_true, wr_of, uI_at, uC_at, q_bi_s, q_bl_s, q_br_s, q_bv_s, Int.toNat_natCast, tn_1, tn_m, tn_n, Int.toNat_zero, Int.toNat_one]
  rw [e80_10]
  exact ⟨I1, rfl, a3⟩
theorem c_half (H : HAt I h xs k) (P : PS xs) (hs : xs.sum ≤ 60) (hh : h ≠ 245 ∧ h + 1 ≠ 245) : ∃ I', q_E (81, 0, [vr 244, vr h, vu], []) (qk t u I J) = some (vi (hal (fwi xs xs.length) (xs.sum / 2) : Int), qk t u I' J) ∧ Kp 245 245 I I' := by
  have hl := H.2.2.2.1
  obtain ⟨I1, a1, a2, a3⟩ := c_fill (t := t) (u := u) (J := J) H P hs hh
  have H1 : HAt I1 h xs k := ⟨H.1, by rw [a3 h (by omega)]; exact H.2.1, by rw [a3 h (by omega)]; exact H.2.2.1, hl, fun i hi => by rw [a3 (h + 1) (by omega)]; exact H.2.2.2.2 i hi⟩
  have loop : ∀ p : Nat, p ≤ 60 → q_E (81, 12, [vr 244, vu, vi (p : Int)], []) (qk t u I1 J) = some (vi (hal (fwi xs xs.length) p : Int), qk t u I1 J) := by
    intro p
    induction p with
    | zero =>
      intro _
      rw [e81_12]
      simp (disch := omega) only [↓reduceIte, lt_TI, lt_FI, le_TI, le_FI, eq_TI, eq_FI, lt_TN, lt_FN, le_TN, le_FN, eq_TN, eq_FN, and_self, and_true, true_and, and_false, false_and, or_true, true_or, or_false, false_or, not_true_eq_false, not_false_eq_true, wr_of, uI_at, uC_at, q_bi_s, q_bl_s, q_br_s, q_bv_s, Int.toNat_natCast, tn_1, tn_m, tn_n, Int.toNat_zero, Int.toNat_one, Int.natCast_zero]
      rfl
    | succ p ih =>
      intro hp
      rw [e81_12]
      simp (disch := omega) only [↓reduceIte, lt_TI, lt_FI, le_TI, le_FI, eq_TI, eq_FI, lt_TN, lt_FN, le_TN, le_FN, eq_TN, eq_FN, and_self, and_true, true_and, and_false, false_and, or_true, true_or, or_false, false_or, not_true_eq_false, not_false_eq_true, wr_of, uI_at, uC_at, q_bi_s, q_bl_s, q_br_s, q_bv_s, Int.toNat_natCast, tn_1, tn_m, tn_n, Int.toNat_zero, Int.toNat_one, c_rowAt (show p + 1 < 61 by omega), a2 (p + 1) (by omega)]
      rw [e81_21]
      have eh : hal (fwi xs xs.length) (p + 1) = if 100000000 ≤ fwi xs xs.length (p + 1) then hal (fwi xs xs.length) p else p + 1 := rfl
      rw [eh]
      rcases enc_b xs (i := xs.length) (p + 1) hl with ⟨q1, q2⟩ | ⟨q1, q2⟩
      · rw [q1, if_pos (show 100000000 ≤ fwi xs xs.length (p + 1) by omega)]
        simp (disch := omega) only [↓reduceIte, lt_TI, lt_FI, le_TI, le_FI, eq_TI, eq_FI, lt_TN, lt_FN, le_TN, le_FN, eq_TN, eq_FN, and_self, and_true, true_and, and_false, false_and, or_true, true_or, or_false, false_or, not_true_eq_false, not_false_eq_true, wr_of, uI_at, uC_at, q_bi_s, q_bl_s, q_br_s, q_bv_s, Int.toNat_natCast, tn_1, tn_m, tn_n, Int.toNat_zero, Int.toNat_one]
        rw [← ih (by omega), show (((p + 1 : Nat) : Int) + -1) = (p : Int) by omega]
      · rw [q1, if_neg (show ¬ 100000000 ≤ fwi xs xs.length (p + 1) by omega)]
        simp (disch := omega) only [↓reduceIte, lt_TI, lt_FI, le_TI, le_FI, eq_TI, eq_FI, lt_TN, lt_FN, le_TN, le_FN, eq_TN, eq_FN, and_self, and_true, true_and, and_false, false_and, or_true, true_or, or_false, false_or, not_true_eq_false, not_false_eq_true, wr_of, uI_at, uC_at, q_bi_s, q_bl_s, q_br_s, q_bv_s, Int.toNat_natCast, tn_1, tn_m, tn_n, Int.toNat_zero, Int.toNat_one]
  rw [e81_0, a1]
  simp (disch := omega) only [↓reduceIte, lt_TI, lt_FI, le_TI, le_FI, eq_TI, eq_FI, lt_TN, lt_FN, le_TN, le_FN, eq_TN, eq_FN, and_self, and_true, true_and, and_false, false_and, or_true, true_or, or_false, false_or, not_true_eq_false, not_false_eq_true, wr_of, uI_at, uC_at, q_bi_s, q_bl_s, q_br_s, q_bv_s, Int.toNat_natCast, tn_1, tn_m, tn_n, Int.toNat_zero, Int.toNat_one]
  rw [e81_5]
  simp (disch := omega) only [↓reduceIte, lt_TI, lt_FI, le_TI, le_FI, eq_TI, eq_FI, lt_TN, lt_FN, le_TN, le_FN, eq_TN, eq_FN, and_self, and_true, true_and, and_false, false_and, or_true, true_or, or_false, false_or, not_true_eq_false, not_false_eq_true, wr_of, uI_at, uC_at, q_bi_s, q_bl_s, q_br_s, q_bv_s, Int.toNat_natCast, tn_1, tn_m, tn_n, Int.toNat_zero, Int.toNat_one, H.1.1, c_inHeaps H1 (show xs.sum ≤ 1000 by omega)]
  rw [e81_9]
  have e1 : Int.tdiv (xs.sum : Int) 2 = ((xs.sum / 2 : Nat) : Int) := (Int.ofNat_tdiv _ 2).symm
  simp (disch := omega) only [↓reduceIte, lt_TI, lt_FI, le_TI, le_FI, eq_TI, eq_FI, lt_TN, lt_FN, le_TN, le_FN, eq_TN, eq_FN, and_self, and_true, true_and, and_false, false_and, or_true, true_or, or_false, false_or, not_true_eq_false, not_false_eq_true, wr_of, uI_at, uC_at, q_bi_s, q_bl_s, q_br_s, q_bv_s, Int.toNat_natCast, tn_1, tn_m, tn_n, Int.toNat_zero, Int.toNat_one, e1]
  exact ⟨I1, loop (xs.sum / 2) (by omega), a3⟩
end

/-! the model's nights slept by chance -/
section
variable {t u : Nat} {I J : Nat → Nat → Int} {S : St}

theorem m_gcd {up down : Nat} {l : Bool} (h1 : up < 2 ^ 62) (h2 : down < 2 ^ 62) (h3 : 0 < down) : ∀ n b a : Nat, b ≤ n → a < 2 ^ 62 → b < 2 ^ 62 → Nat.gcd a b = Nat.gcd up down → q_E (183, 6, [vl (up : Int), vu, vl (down : Int), vu, vi (if l = true then 1 else 0), vl (a : Int), vu, vl (b : Int), vu, vu, vu], []) (qk t u I J) = some (vl (lowN up down l : Int), qk t u I J) := by
  have hg : 0 < Nat.gcd up down := Nat.gcd_pos_of_pos_right _ h3
  have d1 : Int.tdiv (up : Int) (Nat.gcd up down : Int) = ((up / Nat.gcd up down : Nat) : Int) := (Int.ofNat_tdiv _ _).symm
  have d2 : Int.tdiv (down : Int) (Nat.gcd up down : Int) = ((down / Nat.gcd up down : Nat) : Int) := (Int.ofNat_tdiv _ _).symm
  have l1 : up / Nat.gcd up down ≤ up := Nat.div_le_self _ _
  have l2 : down / Nat.gcd up down ≤ down := Nat.div_le_self _ _
  have f1 : lowN up down false = up / Nat.gcd up down := rfl
  have f2 : lowN up down true = down / Nat.gcd up down := rfl
  intro n
  induction n with
  | zero =>
    intro b a hb ha hb2 hgc
    have : b = 0 := by omega
    subst this
    rw [Nat.gcd_zero_right] at hgc
    rw [e183_6, hgc]
    cases l with
    | false =>
      rw [f1]
      generalize up / Nat.gcd up down = A at d1 l1 ⊢
      clear d2 l2 f1 f2 hgc
      generalize Nat.gcd up down = G at *
      simp (disch := omega) only [↓reduceIte, lt_TI, lt_FI, le_TI, le_FI, eq_TI, eq_FI, lt_TN, lt_FN, le_TN, le_FN, eq_TN, eq_FN, and_self, and_true, true_and, and_false, false_and, or_true, true_or, or_false, false_or, not_true_eq_false, not_false_eq_true, wr_of, uI_at, uC_at, q_bi_s, q_bl_s, q_br_s, q_bv_s, Int.toNat_natCast, tn_1, tn_m, tn_n, Int.toNat_zero, Int.toNat_one, Int.natCast_zero, d1, wl_of, Bool.false_eq_true]
    | true =>
      rw [f2]
      generalize down / Nat.gcd up down = B at d2 l2 ⊢
      clear d1 l1 f1 f2 hgc
      generalize Nat.gcd up down = G at *
      simp (disch := omega) only [↓reduceIte, lt_TI, lt_FI, le_TI, le_FI, eq_TI, eq_FI, lt_TN, lt_FN, le_TN, le_FN, eq_TN, eq_FN, and_self, and_true, true_and, and_false, false_and, or_true, true_or, or_false, false_or, not_true_eq_false, not_false_eq_true, wr_of, uI_at, uC_at, q_bi_s, q_bl_s, q_br_s, q_bv_s, Int.toNat_natCast, tn_1, tn_m, tn_n, Int.toNat_zero, Int.toNat_one, Int.natCast_zero, d2, wl_of]
  | succ n ih =>
    intro b a hb ha hb2 hgc
    by_cases q : b = 0
    · exact ih b a (by omega) ha hb2 hgc
    · have e1 : Nat.gcd b (a % b) = Nat.gcd up down := by rw [← hgc, Nat.gcd_comm a b, Nat.gcd_rec b a, Nat.gcd_comm]
      have hl := Nat.mod_lt a (show 0 < b by omega)
      have tm : Int.tmod (a : Int) (b : Int) = ((a % b : Nat) : Int) := (Int.ofNat_tmod _ _).symm
      have en := ih (a % b) b (by omega) (by omega) (by omega) e1
      rw [e183_6]
      clear d1 d2 l1 l2 f1 f2 hg
      simp (disch := omega) only [↓reduceIte, lt_TI, lt_FI, le_TI, le_FI, eq_TI, eq_FI, lt_TN, lt_FN, le_TN, le_FN, eq_TN, eq_FN, and_self, and_true, true_and, and_false, false_and, or_true, true_or, or_false, false_or, not_true_eq_false, not_false_eq_true, wr_of, uI_at, uC_at, q_bi_s, q_bl_s, q_br_s, q_bv_s, Int.toNat_natCast, tn_1, tn_m, tn_n, Int.toNat_zero, Int.toNat_one, tm]
      exact en
theorem m_lowest {up down : Nat} (h1 : up < 2 ^ 62) (h2 : down < 2 ^ 62) (h3 : 0 < down) {l : Bool} : q_E (183, 0, [vl (up : Int), vu, vl (down : Int), vu, vi (if l = true then 1 else 0), vu, vu, vu, vu, vu, vu], []) (qk t u I J) = some (vl (lowN up down l : Int), qk t u I J) := by
  rw [e183_0]
  exact m_gcd h1 h2 h3 up up down (Nat.le_refl _) h2 h1 (Nat.gcd_comm _ _)
theorem b_bit8 : ∀ s : Nat, s < 256 → ∀ u : Nat, u < 8 → q_and (q_shr (s : Int) (u : Int)) 1 = (bt s u : Int) := by decide +kernel
theorem b_shl8 : ∀ u : Nat, u < 9 → q_shl 1 (u : Int) = ((2 ^ u : Nat) : Int) := by decide +kernel
theorem b_sb0 : (List.range 8).all (fun n => (List.range 128).all fun s => decide (s < 2 ^ n → bt s n = 0 ∧ bt (2 ^ n + s) n = 1) && (List.range 8).all fun k => decide (k < n → bt (2 ^ n + s) k = bt s k)) = true := by decide +kernel
theorem b_sb (n : Nat) (hn : n < 8) (s : Nat) (hs : s < 128) (h : s < 2 ^ n) : bt s n = 0 ∧ bt (2 ^ n + s) n = 1 ∧ ∀ k : Nat, k < 8 → k < n → bt (2 ^ n + s) k = bt s k := by
  have a := List.all_eq_true.mp (List.all_eq_true.mp b_sb0 n (List.mem_range.mpr hn)) s (List.mem_range.mpr hs)
  obtain ⟨a1, a2⟩ := Bool.and_eq_true_iff.mp a
  exact ⟨(of_decide_eq_true a1 h).1, (of_decide_eq_true a1 h).2, fun k h1 h2 => of_decide_eq_true (List.all_eq_true.mp a2 k (List.mem_range.mpr h1)) h2⟩
theorem m_has8 {s v : Nat} (hs : s < 256) (hv : v < 8) : q_E (181, 0, [vi (s : Int), vi (v : Int)], []) (qk t u I J) = some (vi (bt s v : Int), qk t u I J) := by
  rcases bt_01 s v with q | q
  · simp (disch := omega) only [↓reduceIte, lt_TI, lt_FI, le_TI, le_FI, eq_TI, eq_FI, lt_TN, lt_FN, le_TN, le_FN, eq_TN, eq_FN, and_self, and_true, true_and, and_false, false_and, or_true, true_or, or_false, false_or, not_true_eq_false, not_false_eq_true, wr_of, uI_at, uC_at, q_bi_s, q_bl_s, q_br_s, q_bv_s, Int.toNat_natCast, tn_1, tn_m, tn_n, Int.toNat_zero, Int.toNat_one, e181_0, b_bit8 s hs v hv, q, Int.natCast_zero]
  · simp (disch := omega) only [↓reduceIte, lt_TI, lt_FI, le_TI, le_FI, eq_TI, eq_FI, lt_TN, lt_FN, le_TN, le_FN, eq_TN, eq_FN, and_self, and_true, true_and, and_false, false_and, or_true, true_or, or_false, false_or, not_true_eq_false, not_false_eq_true, wr_of, uI_at, uC_at, q_bi_s, q_bl_s, q_br_s, q_bv_s, Int.toNat_natCast, tn_1, tn_m, tn_n, Int.toNat_zero, Int.toNat_one, e181_0, b_bit8 s hs v hv, q, Int.natCast_one]
def wS (x y : Nat) : Nat → Nat → Nat
  | 0, _ => 1
  | n + 1, s => wS x y n s * if bt s n = 1 then y else x
def zS : Nat → Nat → Nat
  | 0, _ => 0
  | n + 1, s => zS n s + if bt s n = 1 then 0 else 1
theorem wS_c {x y : Nat} : ∀ {n s s' : Nat}, (∀ k, k < n → bt s k = bt s' k) → wS x y n s = wS x y n s' ∧ zS n s = zS n s'
  | 0, _, _, _ => ⟨rfl, rfl⟩
  | n + 1, s, s', h => by
    obtain ⟨a, b⟩ := wS_c (x := x) (y := y) (n := n) (fun k hk => h k (by omega))
    unfold wS zS
    rw [a, b, h n (by omega)]
    exact ⟨rfl, rfl⟩
theorem rg_sum_ab (f : Nat → Nat) (a : Nat) : ∀ b, (rg (a + b) f).sum = (rg a f).sum + (rg b (fun i => f (a + i))).sum
  | 0 => rfl
  | b + 1 => by
    show (rg (a + b + 1) f).sum = _
    rw [rg_sum_s, rg_sum_ab f a b, rg_sum_s, Nat.add_assoc]
theorem wz_sum (x y : Nat) : ∀ (n : Nat) (f : Nat → Nat), n ≤ 8 → (rg (2 ^ n) (fun s => wS x y n s * f (zS n s))).sum = bn x y n f
  | 0, f, _ => by
    show (rg (0 + 1) (fun s => wS x y 0 s * f (zS 0 s))).sum = f 0
    rw [rg_sum_s]
    show 0 + 1 * f 0 = f 0
    omega
  | n + 1, f, h => by
    have p := Nat.pow_le_pow_right (show 0 < 2 by omega) (show n ≤ 7 by omega)
    rw [show (2 : Nat) ^ 7 = 128 from rfl] at p
    unfold bn
    rw [← wz_sum x y n (fun a => f (a + 1)) (by omega), ← wz_sum x y n f (by omega), ← rg_sum_m, ← rg_sum_m, Nat.pow_succ, Nat.mul_two, rg_sum_ab]
    congr 1
    · refine rg_sum_c fun s hs => ?_
      obtain ⟨b1, b2, b3⟩ := b_sb n (by omega) s (by omega) hs
      show wS x y n s * (if bt s n = 1 then y else x) * f (zS n s + if bt s n = 1 then 0 else 1) = x * (wS x y n s * f (zS n s + 1))
      rw [b1, if_neg (by omega), if_neg (by omega)]
      generalize wS x y n s = W
      generalize f (zS n s + 1) = F
      simp only [Nat.mul_assoc, Nat.mul_comm, Nat.mul_left_comm]
    · refine rg_sum_c fun s hs => ?_
      obtain ⟨b1, b2, b3⟩ := b_sb n (by omega) s (by omega) hs
      obtain ⟨c1, c2⟩ := wS_c (x := x) (y := y) (n := n) (s := 2 ^ n + s) (s' := s) (fun k hk => b3 k (by omega) hk)
      show wS x y n (2 ^ n + s) * (if bt (2 ^ n + s) n = 1 then y else x) * f (zS n (2 ^ n + s) + if bt (2 ^ n + s) n = 1 then 0 else 1) = y * (wS x y n s * f (zS n s))
      rw [b2, if_pos rfl, if_pos rfl, c1, c2, Nat.add_zero]
      generalize wS x y n s = W
      generalize f (zS n s) = F
      simp only [Nat.mul_assoc, Nat.mul_comm, Nat.mul_left_comm]
theorem wS_le {x y : Nat} (hx : x ≤ 100) (hy : y ≤ 100) (s : Nat) : ∀ n, wS x y n s ≤ 100 ^ n
  | 0 => Nat.le_refl _
  | n + 1 => by
    rw [Nat.pow_succ]
    show wS x y n s * (if bt s n = 1 then y else x) ≤ _
    exact Nat.mul_le_mul (wS_le hx hy s n) (by split <;> omega)
theorem m_tryIn {c n : Nat} {many : Int} {I0 : Nat → Nat → Int} (V : MQs S I0) (hc : c < tC (sTo S)) (hn : n ≤ 8) {set : Nat} (hs : set < 256) : ∀ (r k : Nat) (I1 : Nat → Nat → Int), k + r = n → QF I0 I1 → mRw I1 275 0 (ahd S c (zS k set)) → ∃ I', q_E (285, 37, [vr 265, vi (c : Int), vi (n : Int), vi many, vi (set : Int), vl (wS (100 - tS (sTo S)) (tS (sTo S)) k set : Int), vu, vi (k : Int)], []) (qk t u I1 J) = q_E (285, 37, [vr 265, vi (c : Int), vi (n : Int), vi many, vi (set : Int), vl (wS (100 - tS (sTo S)) (tS (sTo S)) n set : Int), vu, vi (n : Int)], []) (qk t u I' J) ∧ QF I0 I' ∧ mRw I' 275 0 (ahd S c (zS n set)) := by
  have T := SOk_T V.1 hc
  have h4 := tC_4 V.1
  have hS := T.2.2.1
  intro r
  induction r with
  | zero =>
    intro k I1 hk F H
    have : k = n := by omega
    subst this
    exact ⟨I1, rfl, F, H⟩
  | succ r ih =>
    intro k I1 hk F H
    have V1 := MQs_qf V F
    have l := MQs_law V1 hc
    have k8 := V1.2.2.1.2.1
    have wl1 := wS_le (x := 100 - tS (sTo S)) (y := tS (sTo S)) (by omega) hS set (k + 1)
    have p := p100 (show k + 1 ≤ 8 by omega)
    have hb := m_has8 (t := t) (u := u) (I := I1) (J := J) hs (show k < 8 by omega)
    have ew : wS (100 - tS (sTo S)) (tS (sTo S)) (k + 1) set = wS (100 - tS (sTo S)) (tS (sTo S)) k set * if bt set k = 1 then tS (sTo S) else 100 - tS (sTo S) := rfl
    have ez : zS (k + 1) set = zS k set + if bt set k = 1 then 0 else 1 := rfl
    have ihk := ih (k + 1)
    rw [ew] at wl1
    rw [ew, ez] at ihk
    rw [e285_37]
    rcases bt_01 set k with q | q
    · rw [if_neg (by omega)] at wl1
      rw [if_neg (by omega), if_neg (by omega)] at ihk
      have em : ((wS (100 - tS (sTo S)) (tS (sTo S)) k set : Nat) : Int) * (100 - (tS (sTo S) : Int)) = ((wS (100 - tS (sTo S)) (tS (sTo S)) k set * (100 - tS (sTo S)) : Nat) : Int) := by
        rw [Int.natCast_mul, show (100 : Int) - (tS (sTo S) : Int) = ((100 - tS (sTo S) : Nat) : Int) by omega]
      obtain ⟨I2, b1, b2, b3⟩ := m_nt (t := t) (u := u) (J := J) V1 hc (Or.inl rfl) H (ahd_ok V.1 hc _)
      obtain ⟨I3, c1, c2, c3⟩ := ihk I2 (by omega) (QF_fr F b3 (by omega) (by omega)) b2
      refine ⟨I3, ?_, c2, c3⟩
      rw [← c1]
      rw [q, Int.natCast_zero] at hb
      simp (disch := omega) only [↓reduceIte, lt_TI, lt_FI, le_TI, le_FI, eq_TI, eq_FI, lt_TN, lt_FN, le_TN, le_FN, eq_TN, eq_FN, and_self, and_true, true_and, and_false, false_and, or_true, true_or, or_false, false_or, not_true_eq_false, not_false_eq_true, wr_of, uI_at, uC_at, q_bi_s, q_bl_s, q_br_s, q_bv_s, Int.toNat_natCast, tn_1, tn_m, tn_n, Int.toNat_zero, Int.toNat_one, hb]
      rw [e285_52]
      simp (disch := omega) only [↓reduceIte, lt_TI, lt_FI, le_TI, le_FI, eq_TI, eq_FI, lt_TN, lt_FN, le_TN, le_FN, eq_TN, eq_FN, and_self, and_true, true_and, and_false, false_and, or_true, true_or, or_false, false_or, not_true_eq_false, not_false_eq_true, wr_of, uI_at, uC_at, q_bi_s, q_bl_s, q_br_s, q_bv_s, Int.toNat_natCast, tn_1, tn_m, tn_n, Int.toNat_zero, Int.toNat_one, k8, em, wl_of, hb]
      rw [e285_85]
      simp (disch := omega) only [↓reduceIte, lt_TI, lt_FI, le_TI, le_FI, eq_TI, eq_FI, lt_TN, lt_FN, le_TN, le_FN, eq_TN, eq_FN, and_self, and_true, true_and, and_false, false_and, or_true, true_or, or_false, false_or, not_true_eq_false, not_false_eq_true, wr_of, uI_at, uC_at, q_bi_s, q_bl_s, q_br_s, q_bv_s, Int.toNat_natCast, tn_1, tn_m, tn_n, Int.toNat_zero, Int.toNat_one, tn_5, l, b1]
      rw [e285_105]
      simp (disch := omega) only [↓reduceIte, lt_TI, lt_FI, le_TI, le_FI, eq_TI, eq_FI, lt_TN, lt_FN, le_TN, le_FN, eq_TN, eq_FN, and_self, and_true, true_and, and_false, false_and, or_true, true_or, or_false, false_or, not_true_eq_false, not_false_eq_true, wr_of, uI_at, uC_at, q_bi_s, q_bl_s, q_br_s, q_bv_s, Int.toNat_natCast, tn_1, tn_m, tn_n, Int.toNat_zero, Int.toNat_one]
      rfl
    · rw [if_pos q] at wl1
      rw [if_pos q, if_pos q, Nat.add_zero] at ihk
      have em : ((wS (100 - tS (sTo S)) (tS (sTo S)) k set : Nat) : Int) * (tS (sTo S) : Int) = ((wS (100 - tS (sTo S)) (tS (sTo S)) k set * tS (sTo S) : Nat) : Int) := (Int.natCast_mul _ _).symm
      obtain ⟨I3, c1, c2, c3⟩ := ihk I1 (by omega) F H
      refine ⟨I3, ?_, c2, c3⟩
      rw [← c1]
      rw [q, Int.natCast_one] at hb
      simp (disch := omega) only [↓reduceIte, lt_TI, lt_FI, le_TI, le_FI, eq_TI, eq_FI, lt_TN, lt_FN, le_TN, le_FN, eq_TN, eq_FN, and_self, and_true, true_and, and_false, false_and, or_true, true_or, or_false, false_or, not_true_eq_false, not_false_eq_true, wr_of, uI_at, uC_at, q_bi_s, q_bl_s, q_br_s, q_bv_s, Int.toNat_natCast, tn_1, tn_m, tn_n, Int.toNat_zero, Int.toNat_one, hb]
      rw [e285_52]
      simp (disch := omega) only [↓reduceIte, lt_TI, lt_FI, le_TI, le_FI, eq_TI, eq_FI, lt_TN, lt_FN, le_TN, le_FN, eq_TN, eq_FN, and_self, and_true, true_and, and_false, false_and, or_true, true_or, or_false, false_or, not_true_eq_false, not_false_eq_true, wr_of, uI_at, uC_at, q_bi_s, q_bl_s, q_br_s, q_bv_s, Int.toNat_natCast, tn_1, tn_m, tn_n, Int.toNat_zero, Int.toNat_one, k8, em, wl_of, hb]
      rw [e285_85]
      simp (disch := omega) only [↓reduceIte, lt_TI, lt_FI, le_TI, le_FI, eq_TI, eq_FI, lt_TN, lt_FN, le_TN, le_FN, eq_TN, eq_FN, and_self, and_true, true_and, and_false, false_and, or_true, true_or, or_false, false_or, not_true_eq_false, not_false_eq_true, wr_of, uI_at, uC_at, q_bi_s, q_bl_s, q_br_s, q_bv_s, Int.toNat_natCast, tn_1, tn_m, tn_n, Int.toNat_zero, Int.toNat_one]
      rw [e285_105]
      simp (disch := omega) only [↓reduceIte, lt_TI, lt_FI, le_TI, le_FI, eq_TI, eq_FI, lt_TN, lt_FN, le_TN, le_FN, eq_TN, eq_FN, and_self, and_true, true_and, and_false, false_and, or_true, true_or, or_false, false_or, not_true_eq_false, not_false_eq_true, wr_of, uI_at, uC_at, q_bi_s, q_bl_s, q_br_s, q_bv_s, Int.toNat_natCast, tn_1, tn_m, tn_n, Int.toNat_zero, Int.toNat_one]
      rfl
theorem m_tryS (V : MQs S I) {c n many : Nat} (hc : c < tC (sTo S)) (hn : n ≤ 8) (hm : many ≤ 60) : ∃ I' J', q_E (285, 0, [vr 265, vi (c : Int), vi (n : Int), vi (many : Int), vu, vu, vu, vu], []) (qk t u I J) = some (vu, qk t u I' J') ∧ QF I I' ∧ J' 265 39 = ((100 ^ n : Nat) : Int) ∧ J' 265 40 = (bn (100 - tS (sTo S)) (tS (sTo S)) n (fun a => if many ≤ (ahd S c a).1.length then 1 else 0) : Int) ∧ J' 265 41 = (bn (100 - tS (sTo S)) (tS (sTo S)) n (fun a => (ahd S c a).1.length) : Int) := by
  have T := SOk_T V.1 hc
  have h4 := tC_4 V.1
  have hS := T.2.2.1
  have lens : ∀ a, (ahd S c a).1.length ≤ 60 := fun a => HOk_len (ahd_ok V.1 hc a)
  have p256 := Nat.pow_le_pow_right (show 0 < 2 by omega) hn
  rw [show (2 : Nat) ^ 8 = 256 from rfl] at p256
  have pn := p100 hn
  have s1 := wz_sum (100 - tS (sTo S)) (tS (sTo S)) n (fun _ => 1) hn
  have s2 := wz_sum (100 - tS (sTo S)) (tS (sTo S)) n (fun a => if many ≤ (ahd S c a).1.length then 1 else 0) hn
  have s3 := wz_sum (100 - tS (sTo S)) (tS (sTo S)) n (fun a => (ahd S c a).1.length) hn
  rw [bn_1, show 100 - tS (sTo S) + tS (sTo S) = 100 by omega] at s1
  have b2 := bn_le (100 - tS (sTo S)) (tS (sTo S)) (M := 1) n (fun a => if many ≤ (ahd S c a).1.length then 1 else 0) (fun a => by split <;> omega)
  have b3 := bn_le (100 - tS (sTo S)) (tS (sTo S)) (M := 60) n (fun a => (ahd S c a).1.length) lens
  rw [show 100 - tS (sTo S) + tS (sTo S) = 100 by omega] at b2 b3
  have shl := b_shl8 n (by omega)
  have loop : ∀ (r set : Nat) (I1 J1 : Nat → Nat → Int), set + r = 2 ^ n → QF I I1 → J1 265 39 = ((rg set (fun s => wS (100 - tS (sTo S)) (tS (sTo S)) n s * (fun _ => 1) (zS n s))).sum : Int) → J1 265 40 = ((rg set (fun s => wS (100 - tS (sTo S)) (tS (sTo S)) n s * (fun a => if many ≤ (ahd S c a).1.length then 1 else 0) (zS n s))).sum : Int) → J1 265 41 = ((rg set (fun s => wS (100 - tS (sTo S)) (tS (sTo S)) n s * (fun a => (ahd S c a).1.length) (zS n s))).sum : Int) → ∃ I' J', q_E (285, 18, [vr 265, vi (c : Int), vi (n : Int), vi (many : Int), vi (set : Int), vu, vu, vu], []) (qk t u I1 J1) = some (vu, qk t u I' J') ∧ QF I I' ∧ J' 265 39 = ((100 ^ n : Nat) : Int) ∧ J' 265 40 = (bn (100 - tS (sTo S)) (tS (sTo S)) n (fun a => if many ≤ (ahd S c a).1.length then 1 else 0) : Int) ∧ J' 265 41 = (bn (100 - tS (sTo S)) (tS (sTo S)) n (fun a => (ahd S c a).1.length) : Int) := by
    intro r
    induction r with
    | zero =>
      intro set I1 J1 hr F j1 j2 j3
      have : set = 2 ^ n := by omega
      subst this
      rw [s1] at j1
      rw [s2] at j2
      rw [s3] at j3
      rw [e285_18]
      simp (disch := omega) only [↓reduceIte, lt_TI, lt_FI, le_TI, le_FI, eq_TI, eq_FI, lt_TN, lt_FN, le_TN, le_FN, eq_TN, eq_FN, and_self, and_true, true_and, and_false, false_and, or_true, true_or, or_false, false_or, not_true_eq_false, not_false_eq_true, wr_of, uI_at, uC_at, q_bi_s, q_bl_s, q_br_s, q_bv_s, Int.toNat_natCast, tn_1, tn_m, tn_n, Int.toNat_zero, Int.toNat_one, shl]
      exact ⟨I1, J1, rfl, F, j1, j2, j3⟩
    | succ r ih =>
      intro set I1 J1 hr F j1 j2 j3
      have m1 := rg_mono (fun s => wS (100 - tS (sTo S)) (tS (sTo S)) n s * (fun _ => 1) (zS n s)) (show set + 1 ≤ 2 ^ n by omega)
      have m2 := rg_mono (fun s => wS (100 - tS (sTo S)) (tS (sTo S)) n s * (fun a => if many ≤ (ahd S c a).1.length then 1 else 0) (zS n s)) (show set + 1 ≤ 2 ^ n by omega)
      have m3 := rg_mono (fun s => wS (100 - tS (sTo S)) (tS (sTo S)) n s * (fun a => (ahd S c a).1.length) (zS n s)) (show set + 1 ≤ 2 ^ n by omega)
      rw [s1, rg_sum_s] at m1
      rw [s2, rg_sum_s] at m2
      rw [s3, rg_sum_s] at m3
      have ihs := ih (set + 1)
      rw [rg_sum_s, rg_sum_s, rg_sum_s] at ihs
      simp only [Nat.mul_one] at m1 ihs j1
      obtain ⟨I2, x1, x2, x3⟩ := m_begin (t := t) (u := u) (J := J1) (MQs_qf V F) (show c < 4 by omega)
      have F2 := QF_fr F x3 (by omega) (by omega)
      obtain ⟨I3, y1, y2, y3⟩ := m_tryIn (t := t) (u := u) (J := J1) (many := (many : Int)) V hc hn (set := set) (by omega) n 0 I2 (by omega) F2 x2
      have oa := ahd_ok V.1 hc (zS n set)
      have k1 : ∀ J, q_E (214, 0, [vr 275, vi 0, vu], []) (qk t u I3 J) = some (vi ((ahd S c (zS n set)).1.length : Int), qk t u I3 J) := fun J => by
        have := c_manyOf (t := t) (u := u) (J := J) A275 (p := 0) (by omega) y3.1 oa.2.1 (HOk_len oa)
        rw [Int.natCast_zero] at this
        exact this
      have ln := lens (zS n set)
      have w0 : ((wS (100 - tS (sTo S)) (tS (sTo S)) 0 set : Nat) : Int) = 1 := rfl
      rw [w0, Int.natCast_zero] at y1
      have em : ((wS (100 - tS (sTo S)) (tS (sTo S)) n set : Nat) : Int) * ((ahd S c (zS n set)).1.length : Int) = ((wS (100 - tS (sTo S)) (tS (sTo S)) n set * (ahd S c (zS n set)).1.length : Nat) : Int) := (Int.natCast_mul _ _).symm
      clear s1 s2 s3
      generalize (rg set (fun s => wS (100 - tS (sTo S)) (tS (sTo S)) n s)).sum = A1 at *
      generalize (rg set (fun s => wS (100 - tS (sTo S)) (tS (sTo S)) n s * if many ≤ (ahd S c (zS n s)).1.length then 1 else 0)).sum = A2 at *
      generalize (rg set (fun s => wS (100 - tS (sTo S)) (tS (sTo S)) n s * (ahd S c (zS n s)).1.length)).sum = A3 at *
      generalize wS (100 - tS (sTo S)) (tS (sTo S)) n set * (ahd S c (zS n set)).1.length = W3 at *
      generalize wS (100 - tS (sTo S)) (tS (sTo S)) n set = W at *
      generalize bn (100 - tS (sTo S)) (tS (sTo S)) n (fun a => if many ≤ (ahd S c a).1.length then 1 else 0) = B2 at *
      generalize bn (100 - tS (sTo S)) (tS (sTo S)) n (fun a => (ahd S c a).1.length) = B3 at *
      generalize 100 ^ n = p at *
      rw [e285_18]
      simp (disch := omega) only [↓reduceIte, lt_TI, lt_FI, le_TI, le_FI, eq_TI, eq_FI, lt_TN, lt_FN, le_TN, le_FN, eq_TN, eq_FN, and_self, and_true, true_and, and_false, false_and, or_true, true_or, or_false, false_or, not_true_eq_false, not_false_eq_true, wr_of, uI_at, uC_at, q_bi_s, q_bl_s, q_br_s, q_bv_s, Int.toNat_natCast, tn_1, tn_m, tn_n, Int.toNat_zero, Int.toNat_one, shl, x1, e285_34, y1]
      rw [e285_37]
      simp (disch := omega) only [↓reduceIte, lt_TI, lt_FI, le_TI, le_FI, eq_TI, eq_FI, lt_TN, lt_FN, le_TN, le_FN, eq_TN, eq_FN, and_self, and_true, true_and, and_false, false_and, or_true, true_or, or_false, false_or, not_true_eq_false, not_false_eq_true, wr_of, uI_at, uC_at, q_bi_s, q_bl_s, q_br_s, q_bv_s, Int.toNat_natCast, tn_1, tn_m, tn_n, Int.toNat_zero, Int.toNat_one, k1, j1, wl_of]
      have m2 : A2 + W * (if many ≤ (ahd S c (zS n set)).1.length then 1 else 0) ≤ B2 := m2
      by_cases z : many ≤ (ahd S c (zS n set)).1.length
      · rw [if_pos z, Nat.mul_one] at m2 ihs
        obtain ⟨I4, J4, z1, z2⟩ := ihs I3 (uI (uI (uI J1 265 39 ((A1 : Int) + (W : Int))) 265 40 ((A2 : Int) + (W : Int))) 265 41 ((A3 : Int) + (W3 : Int))) (by omega) y2 (by rw [uI_ne (by omega), uI_ne (by omega), uI_at, if_pos ⟨rfl, rfl⟩]; rfl) (by rw [uI_ne (by omega), uI_at, if_pos ⟨rfl, rfl⟩]; rfl) (by rw [uI_at, if_pos ⟨rfl, rfl⟩]; rfl)
        refine ⟨I4, J4, ?_, z2⟩
        rw [← z1, e285_135]
        simp (disch := omega) only [↓reduceIte, lt_TI, lt_FI, le_TI, le_FI, eq_TI, eq_FI, lt_TN, lt_FN, le_TN, le_FN, eq_TN, eq_FN, and_self, and_true, true_and, and_false, false_and, or_true, true_or, or_false, false_or, not_true_eq_false, not_false_eq_true, wr_of, uI_at, uC_at, q_bi_s, q_bl_s, q_br_s, q_bv_s, Int.toNat_natCast, tn_1, tn_m, tn_n, Int.toNat_zero, Int.toNat_one, k21, k1, j2, wl_of]
        rw [e285_164]
        simp (disch := omega) only [↓reduceIte, lt_TI, lt_FI, le_TI, le_FI, eq_TI, eq_FI, lt_TN, lt_FN, le_TN, le_FN, eq_TN, eq_FN, and_self, and_true, true_and, and_false, false_and, or_true, true_or, or_false, false_or, not_true_eq_false, not_false_eq_true, wr_of, uI_at, uC_at, q_bi_s, q_bl_s, q_br_s, q_bv_s, Int.toNat_natCast, tn_1, tn_m, tn_n, Int.toNat_zero, Int.toNat_one, k21, em, j3, wl_of]
        rfl
      · rw [if_neg z, Nat.mul_zero] at m2 ihs
        obtain ⟨I4, J4, z1, z2⟩ := ihs I3 (uI (uI (uI J1 265 39 ((A1 : Int) + (W : Int))) 265 40 ((A2 : Int) + 0)) 265 41 ((A3 : Int) + (W3 : Int))) (by omega) y2 (by rw [uI_ne (by omega), uI_ne (by omega), uI_at, if_pos ⟨rfl, rfl⟩]; rfl) (by rw [uI_ne (by omega), uI_at, if_pos ⟨rfl, rfl⟩]; rfl) (by rw [uI_at, if_pos ⟨rfl, rfl⟩]; rfl)
        refine ⟨I4, J4, ?_, z2⟩
        rw [← z1, e285_135]
        simp (disch := omega) only [↓reduceIte, lt_TI, lt_FI, le_TI, le_FI, eq_TI, eq_FI, lt_TN, lt_FN, le_TN, le_FN, eq_TN, eq_FN, and_self, and_true, true_and, and_false, false_and, or_true, true_or, or_false, false_or, not_true_eq_false, not_false_eq_true, wr_of, uI_at, uC_at, q_bi_s, q_bl_s, q_br_s, q_bv_s, Int.toNat_natCast, tn_1, tn_m, tn_n, Int.toNat_zero, Int.toNat_one, k21, k1, j2, wl_of]
        rw [e285_164]
        simp (disch := omega) only [↓reduceIte, lt_TI, lt_FI, le_TI, le_FI, eq_TI, eq_FI, lt_TN, lt_FN, le_TN, le_FN, eq_TN, eq_FN, and_self, and_true, true_and, and_false, false_and, or_true, true_or, or_false, false_or, not_true_eq_false, not_false_eq_true, wr_of, uI_at, uC_at, q_bi_s, q_bl_s, q_br_s, q_bv_s, Int.toNat_natCast, tn_1, tn_m, tn_n, Int.toNat_zero, Int.toNat_one, k21, em, j3, wl_of]
        rfl
  obtain ⟨I2, J2, x1, x2⟩ := loop (2 ^ n) 0 I (uI (uI (uI J 265 39 0) 265 40 0) 265 41 0) (by omega) QF_rf (by simp (disch := omega) only [↓reduceIte, lt_TI, lt_FI, le_TI, le_FI, eq_TI, eq_FI, lt_TN, lt_FN, le_TN, le_FN, eq_TN, eq_FN, and_self, and_true, true_and, and_false, false_and, or_true, true_or, or_false, false_or, not_true_eq_false, not_false_eq_true, wr_of, uI_at, uC_at, q_bi_s, q_bl_s, q_br_s, q_bv_s, Int.toNat_natCast, tn_1, tn_m, tn_n, Int.toNat_zero, Int.toNat_one]; rfl) (by simp (disch := omega) only [↓reduceIte, lt_TI, lt_FI, le_TI, le_FI, eq_TI, eq_FI, lt_TN, lt_FN, le_TN, le_FN, eq_TN, eq_FN, and_self, and_true, true_and, and_false, false_and, or_true, true_or, or_false, false_or, not_true_eq_false, not_false_eq_true, wr_of, uI_at, uC_at, q_bi_s, q_bl_s, q_br_s, q_bv_s, Int.toNat_natCast, tn_1, tn_m, tn_n, Int.toNat_zero, Int.toNat_one]; rfl) (by simp (disch := omega) only [↓reduceIte, lt_TI, lt_FI, le_TI, le_FI, eq_TI, eq_FI, lt_TN, lt_FN, le_TN, le_FN, eq_TN, eq_FN, and_self, and_true, true_and, and_false, false_and, or_true, true_or, or_false, false_or, not_true_eq_false, not_false_eq_true, wr_of, uI_at, uC_at, q_bi_s, q_bl_s, q_br_s, q_bv_s, Int.toNat_natCast, tn_1, tn_m, tn_n, Int.toNat_zero, Int.toNat_one]; rfl)
  rw [Int.natCast_zero] at x1
  rw [e285_0]
  exact ⟨I2, J2, x1, x2⟩
theorem m_odds (V : MInv S I) (c n m : Int) (l : Bool) : ∃ I' J', q_E (286, 0, [vr 265, vi c, vi n, vi m, vi (if l = true then 1 else 0), vu], []) (qk t u I J) = some (vl (sp_odds S c n m l).1, qk t u I' J') ∧ QM (sp_odds S c n m l).2 I I' := by
  have A := MInv_A V
  have h4 := tC_4 V.1.1
  unfold sp_odds
  by_cases hc : isCl S c
  · simp only [if_pos hc]
    have r1 := m_cell_ok (t := t) (u := u) (J := J) A hc
    obtain ⟨hc1, hc2⟩ := id hc
    obtain ⟨c, rfl⟩ : ∃ m : Nat, c = (m : Int) := ⟨c.toNat, by omega⟩
    have hm : c < tC (sTo S) := by omega
    have T := SOk_T V.1.1 hm
    have hS := T.2.2.1
    have lens : ∀ a, (ahd S c a).1.length ≤ 60 := fun a => HOk_len (ahd_ok V.1.1 hm a)
    by_cases hn : 0 ≤ n ∧ n ≤ 8
    · by_cases hk : 0 ≤ m ∧ m ≤ 60
      · simp only [if_pos (show 0 ≤ n ∧ n ≤ 8 ∧ 0 ≤ m ∧ m ≤ 60 from ⟨hn.1, hn.2, hk⟩)]
        obtain ⟨hk1, hk2⟩ := hk
        obtain ⟨m, rfl⟩ : ∃ o : Nat, m = (o : Int) := ⟨m.toNat, by omega⟩
        obtain ⟨hn1, hn2⟩ := hn
        obtain ⟨n, rfl⟩ : ∃ o : Nat, n = (o : Int) := ⟨n.toNat, by omega⟩
        simp only [Int.toNat_natCast]
        obtain ⟨I1, J1, x1, F, j1, j2, j3⟩ := m_tryS (t := t) (u := u) (J := J) (n := n) (many := m) A hm (by omega) (by omega)
        have pn := p100 (show n ≤ 8 by omega)
        have pp : 0 < 100 ^ n := Nat.pow_pos (by omega)
        have bb := bn_le (100 - tS (sTo S)) (tS (sTo S)) (M := 1) n (fun a => if m ≤ (ahd S c a).1.length then 1 else 0) (fun a => by split <;> omega)
        rw [show 100 - tS (sTo S) + tS (sTo S) = 100 by omega] at bb
        have lw : ∀ I, q_E (183, 0, [vl (bn (100 - tS (sTo S)) (tS (sTo S)) n (fun a => if m ≤ (ahd S c a).1.length then 1 else 0) : Int), vu, vl ((100 ^ n : Nat) : Int), vu, vi (if l = true then 1 else 0), vu, vu, vu, vu, vu, vu], []) (qk t u I J1) = some (vl (lowN (bn (100 - tS (sTo S)) (tS (sTo S)) n (fun a => if m ≤ (ahd S c a).1.length then 1 else 0)) (100 ^ n) l : Int), qk t u I J1) := fun I => m_lowest (show _ < 4611686018427387904 by omega) (show _ < 4611686018427387904 by omega) pp
        simp (disch := omega) only [↓reduceIte, lt_TI, lt_FI, le_TI, le_FI, eq_TI, eq_FI, lt_TN, lt_FN, le_TN, le_FN, eq_TN, eq_FN, and_self, and_true, true_and, and_false, false_and, or_true, true_or, or_false, false_or, not_true_eq_false, not_false_eq_true, wr_of, uI_at, uC_at, q_bi_s, q_bl_s, q_br_s, q_bv_s, Int.toNat_natCast, tn_1, tn_m, tn_n, Int.toNat_zero, Int.toNat_one, e177_0, e178_0, e212_0, k21, n_ok, n_no, r1, e286_0, e286_4, e286_10, e286_17, e286_38, e286_27, e286_60, e286_51, e286_73, x1, j1, j2, lw]
        exact ⟨_, _, rfl, QM_ok F⟩
      · simp only [if_neg (show ¬ (0 ≤ n ∧ n ≤ 8 ∧ 0 ≤ m ∧ m ≤ 60) from fun z => hk z.2.2)]
        obtain ⟨hn1, hn2⟩ := hn
        simp (disch := omega) only [↓reduceIte, lt_TI, lt_FI, le_TI, le_FI, eq_TI, eq_FI, lt_TN, lt_FN, le_TN, le_FN, eq_TN, eq_FN, and_self, and_true, true_and, and_false, false_and, or_true, true_or, or_false, false_or, not_true_eq_false, not_false_eq_true, wr_of, uI_at, uC_at, q_bi_s, q_bl_s, q_br_s, q_bv_s, Int.toNat_natCast, tn_1, tn_m, tn_n, Int.toNat_zero, Int.toNat_one, e177_0, e178_0, e212_0, k21, n_ok, n_no, r1, e286_0, e286_4, e286_10, e286_17, e286_38, e286_27, e286_60, e286_51, e286_73]
        exact ⟨_, _, rfl, QM_no QF_rf⟩
    · simp only [if_neg (show ¬ (0 ≤ n ∧ n ≤ 8 ∧ 0 ≤ m ∧ m ≤ 60) from fun z => hn ⟨z.1, z.2.1⟩)]
      simp (disch := omega) only [↓reduceIte, lt_TI, lt_FI, le_TI, le_FI, eq_TI, eq_FI, lt_TN, lt_FN, le_TN, le_FN, eq_TN, eq_FN, and_self, and_true, true_and, and_false, false_and, or_true, true_or, or_false, false_or, not_true_eq_false, not_false_eq_true, wr_of, uI_at, uC_at, q_bi_s, q_bl_s, q_br_s, q_bv_s, Int.toNat_natCast, tn_1, tn_m, tn_n, Int.toNat_zero, Int.toNat_one, e177_0, e178_0, e212_0, k21, n_ok, n_no, r1, e286_0, e286_4, e286_10, e286_17, e286_38, e286_27, e286_60, e286_51, e286_73]
      exact ⟨_, _, rfl, QM_no QF_rf⟩
  · simp only [if_neg hc]
    have r1 := m_cell_no (t := t) (u := u) (J := J) A hc
    by_cases hn : 0 ≤ n ∧ n ≤ 8
    · obtain ⟨hn1, hn2⟩ := hn
      by_cases hk : 0 ≤ m ∧ m ≤ 60
      · obtain ⟨hk1, hk2⟩ := hk
        simp (disch := omega) only [↓reduceIte, lt_TI, lt_FI, le_TI, le_FI, eq_TI, eq_FI, lt_TN, lt_FN, le_TN, le_FN, eq_TN, eq_FN, and_self, and_true, true_and, and_false, false_and, or_true, true_or, or_false, false_or, not_true_eq_false, not_false_eq_true, wr_of, uI_at, uC_at, q_bi_s, q_bl_s, q_br_s, q_bv_s, Int.toNat_natCast, tn_1, tn_m, tn_n, Int.toNat_zero, Int.toNat_one, e177_0, e178_0, e212_0, k21, n_ok, n_no, r1, e286_0, e286_4, e286_10, e286_17, e286_38, e286_27, e286_60, e286_51, e286_73]
        exact ⟨_, _, rfl, QM_no QF_rf⟩
      · simp (disch := omega) only [↓reduceIte, lt_TI, lt_FI, le_TI, le_FI, eq_TI, eq_FI, lt_TN, lt_FN, le_TN, le_FN, eq_TN, eq_FN, and_self, and_true, true_and, and_false, false_and, or_true, true_or, or_false, false_or, not_true_eq_false, not_false_eq_true, wr_of, uI_at, uC_at, q_bi_s, q_bl_s, q_br_s, q_bv_s, Int.toNat_natCast, tn_1, tn_m, tn_n, Int.toNat_zero, Int.toNat_one, e177_0, e178_0, e212_0, k21, n_ok, n_no, r1, e286_0, e286_4, e286_10, e286_17, e286_38, e286_27, e286_60, e286_51, e286_73]
        exact ⟨_, _, rfl, QM_no QF_rf⟩
    · simp (disch := omega) only [↓reduceIte, lt_TI, lt_FI, le_TI, le_FI, eq_TI, eq_FI, lt_TN, lt_FN, le_TN, le_FN, eq_TN, eq_FN, and_self, and_true, true_and, and_false, false_and, or_true, true_or, or_false, false_or, not_true_eq_false, not_false_eq_true, wr_of, uI_at, uC_at, q_bi_s, q_bl_s, q_br_s, q_bv_s, Int.toNat_natCast, tn_1, tn_m, tn_n, Int.toNat_zero, Int.toNat_one, e177_0, e178_0, e212_0, k21, n_ok, n_no, r1, e286_0, e286_4, e286_10, e286_17, e286_38, e286_27, e286_60, e286_51, e286_73]
      exact ⟨_, _, rfl, QM_no QF_rf⟩
theorem m_mean (V : MInv S I) (c n : Int) (l : Bool) : ∃ I' J', q_E (287, 0, [vr 265, vi c, vi n, vi (if l = true then 1 else 0), vu], []) (qk t u I J) = some (vl (sp_mean S c n l).1, qk t u I' J') ∧ QM (sp_mean S c n l).2 I I' := by
  have A := MInv_A V
  have h4 := tC_4 V.1.1
  unfold sp_mean
  by_cases hc : isCl S c
  · simp only [if_pos hc]
    have r1 := m_cell_ok (t := t) (u := u) (J := J) A hc
    obtain ⟨hc1, hc2⟩ := id hc
    obtain ⟨c, rfl⟩ : ∃ m : Nat, c = (m : Int) := ⟨c.toNat, by omega⟩
    have hm : c < tC (sTo S) := by omega
    have T := SOk_T V.1.1 hm
    have hS := T.2.2.1
    have lens : ∀ a, (ahd S c a).1.length ≤ 60 := fun a => HOk_len (ahd_ok V.1.1 hm a)
    by_cases hn : 0 ≤ n ∧ n ≤ 8
    · simp only [if_pos hn]
      obtain ⟨hn1, hn2⟩ := hn
      obtain ⟨n, rfl⟩ : ∃ o : Nat, n = (o : Int) := ⟨n.toNat, by omega⟩
      simp only [Int.toNat_natCast]
      obtain ⟨I1, J1, x1, F, j1, j2, j3⟩ := m_tryS (t := t) (u := u) (J := J) (n := n) (many := 0) A hm (by omega) (by omega)
      have pn := p100 (show n ≤ 8 by omega)
      have pp : 0 < 100 ^ n := Nat.pow_pos (by omega)
      have bb := bn_le (100 - tS (sTo S)) (tS (sTo S)) (M := 60) n (fun a => (ahd S c a).1.length) (lens)
      rw [show 100 - tS (sTo S) + tS (sTo S) = 100 by omega] at bb
      have lw : ∀ I, q_E (183, 0, [vl (bn (100 - tS (sTo S)) (tS (sTo S)) n (fun a => (ahd S c a).1.length) : Int), vu, vl ((100 ^ n : Nat) : Int), vu, vi (if l = true then 1 else 0), vu, vu, vu, vu, vu, vu], []) (qk t u I J1) = some (vl (lowN (bn (100 - tS (sTo S)) (tS (sTo S)) n (fun a => (ahd S c a).1.length)) (100 ^ n) l : Int), qk t u I J1) := fun I => m_lowest (show _ < 4611686018427387904 by omega) (show _ < 4611686018427387904 by omega) pp
      rw [Int.natCast_zero] at x1
      simp (disch := omega) only [↓reduceIte, lt_TI, lt_FI, le_TI, le_FI, eq_TI, eq_FI, lt_TN, lt_FN, le_TN, le_FN, eq_TN, eq_FN, and_self, and_true, true_and, and_false, false_and, or_true, true_or, or_false, false_or, not_true_eq_false, not_false_eq_true, wr_of, uI_at, uC_at, q_bi_s, q_bl_s, q_br_s, q_bv_s, Int.toNat_natCast, tn_1, tn_m, tn_n, Int.toNat_zero, Int.toNat_one, e177_0, e178_0, e212_0, k21, n_ok, n_no, r1, e287_0, e287_4, e287_10, e287_17, e287_20, e287_42, e287_33, e287_54, x1, j1, j3, lw]
      exact ⟨_, _, rfl, QM_ok F⟩
    · simp only [if_neg hn]
      simp (disch := omega) only [↓reduceIte, lt_TI, lt_FI, le_TI, le_FI, eq_TI, eq_FI, lt_TN, lt_FN, le_TN, le_FN, eq_TN, eq_FN, and_self, and_true, true_and, and_false, false_and, or_true, true_or, or_false, false_or, not_true_eq_false, not_false_eq_true, wr_of, uI_at, uC_at, q_bi_s, q_bl_s, q_br_s, q_bv_s, Int.toNat_natCast, tn_1, tn_m, tn_n, Int.toNat_zero, Int.toNat_one, e177_0, e178_0, e212_0, k21, n_ok, n_no, r1, e287_0, e287_4, e287_10, e287_17, e287_20, e287_42, e287_33, e287_54]
      exact ⟨_, _, rfl, QM_no QF_rf⟩
  · simp only [if_neg hc]
    have r1 := m_cell_no (t := t) (u := u) (J := J) A hc
    by_cases hn : 0 ≤ n ∧ n ≤ 8
    · obtain ⟨hn1, hn2⟩ := hn
      simp (disch := omega) only [↓reduceIte, lt_TI, lt_FI, le_TI, le_FI, eq_TI, eq_FI, lt_TN, lt_FN, le_TN, le_FN, eq_TN, eq_FN, and_self, and_true, true_and, and_false, false_and, or_true, true_or, or_false, false_or, not_true_eq_false, not_false_eq_true, wr_of, uI_at, uC_at, q_bi_s, q_bl_s, q_br_s, q_bv_s, Int.toNat_natCast, tn_1, tn_m, tn_n, Int.toNat_zero, Int.toNat_one, e177_0, e178_0, e212_0, k21, n_ok, n_no, r1, e287_0, e287_4, e287_10, e287_17, e287_20, e287_42, e287_33, e287_54]
      exact ⟨_, _, rfl, QM_no QF_rf⟩
    · simp (disch := omega) only [↓reduceIte, lt_TI, lt_FI, le_TI, le_FI, eq_TI, eq_FI, lt_TN, lt_FN, le_TN, le_FN, eq_TN, eq_FN, and_self, and_true, true_and, and_false, false_and, or_true, true_or, or_false, false_or, not_true_eq_false, not_false_eq_true, wr_of, uI_at, uC_at, q_bi_s, q_bl_s, q_br_s, q_bv_s, Int.toNat_natCast, tn_1, tn_m, tn_n, Int.toNat_zero, Int.toNat_one, e177_0, e178_0, e212_0, k21, n_ok, n_no, r1, e287_0, e287_4, e287_10, e287_17, e287_20, e287_42, e287_33, e287_54]
      exact ⟨_, _, rfl, QM_no QF_rf⟩
end

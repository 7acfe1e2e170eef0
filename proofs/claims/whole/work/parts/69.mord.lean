/-! the model's orders -/
section
variable {t u : Nat} {I J : Nat → Nat → Int} {S : St}
theorem m_fac1 {n : Int} {b : Int} (hb : b = 1 ∨ b = -1) {p : Nat} (hp : 2 ≤ p) (hp2 : p < 31) : ∀ (f l : Nat) (I1 : Nat → Nat → Int), l ≤ f → 1 ≤ l → -100000 ≤ I1 278 p - (l : Int) → I1 278 p + (l : Int) ≤ 100000 → ∃ I', q_E (244, 11, [vr 265, vi n, vi b, vi (l : Int), vi (p : Int)], []) (qk t u I1 J) = q_E (244, 5, [vr 265, vi n, vi b, vi (rq p f l : Int), vi ((p : Int) + 1)], []) (qk t u I' J) ∧ I' 278 p = I1 278 p + b * (vq p f l : Int) ∧ (∀ q, q ≠ p → I' 278 q = I1 278 q) ∧ FrA 278 0 31 I1 I' := by
  intro f
  induction f with
  | zero => intro l I1 hl h1; omega
  | succ f ih =>
    intro l I1 hl h1 r1 r2
    rw [e244_11]
    unfold rq vq
    by_cases q : l % p = 0 ∧ 1 < l
    · have e1 : Int.tmod (l : Int) (p : Int) = 0 := by
        have := Int.ofNat_tmod l p
        rw [q.1] at this; exact this.symm
      have e2 : Int.tdiv (l : Int) (p : Int) = ((l / p : Nat) : Int) := (Int.ofNat_tdiv l p).symm
      have h2 : l / p < l := Nat.div_lt_self (by omega) (by omega)
      have h3 : 1 ≤ l / p := Nat.div_pos (Nat.le_of_dvd (by omega) (Nat.dvd_of_mod_eq_zero q.1)) (by omega)
      rw [if_pos q, if_pos q]
      have q2 := q.2
      simp (disch := omega) only [↓reduceIte, lt_TI, lt_FI, le_TI, le_FI, eq_TI, eq_FI, lt_TN, lt_FN, le_TN, le_FN, eq_TN, eq_FN, and_self, and_true, true_and, and_false, false_and, or_true, true_or, or_false, false_or, not_true_eq_false, not_false_eq_true, wr_of, uI_at, uC_at, q_bi_s, q_bl_s, q_br_s, q_bv_s, Int.toNat_natCast, tn_1, tn_m, tn_n, Int.toNat_zero, Int.toNat_one, e1, e2]
      obtain ⟨I', a1, a2, a3, a4⟩ := ih (l / p) (uI I1 278 p (I1 278 p + b)) (by omega) h3 (by simp (disch := omega) only [↓reduceIte, lt_TI, lt_FI, le_TI, le_FI, eq_TI, eq_FI, lt_TN, lt_FN, le_TN, le_FN, eq_TN, eq_FN, and_self, and_true, true_and, and_false, false_and, or_true, true_or, or_false, false_or, not_true_eq_false, not_false_eq_true, wr_of, uI_at, uC_at, q_bi_s, q_bl_s, q_br_s, q_bv_s, Int.toNat_natCast, tn_1, tn_m, tn_n, Int.toNat_zero, Int.toNat_one] <;> omega) (by simp (disch := omega) only [↓reduceIte, lt_TI, lt_FI, le_TI, le_FI, eq_TI, eq_FI, lt_TN, lt_FN, le_TN, le_FN, eq_TN, eq_FN, and_self, and_true, true_and, and_false, false_and, or_true, true_or, or_false, false_or, not_true_eq_false, not_false_eq_true, wr_of, uI_at, uC_at, q_bi_s, q_bl_s, q_br_s, q_bv_s, Int.toNat_natCast, tn_1, tn_m, tn_n, Int.toNat_zero, Int.toNat_one] <;> omega)
      refine ⟨I', a1, ?_, fun q hq => by rw [a3 q hq, uI_ne (Or.inr hq)], FrA_tr (FrA_uI FrA_rf (by omega) hp2 : FrA 278 0 31 I1 _) a4 (by omega) (by omega) (by omega) (by omega)⟩
      rw [a2]
      rw [show uI I1 278 p (I1 278 p + b) 278 p = I1 278 p + b from if_pos ⟨rfl, rfl⟩]
      rcases hb with z | z <;> subst z <;> omega
    · rw [if_neg q, if_neg q]
      refine ⟨I1, ?_, by omega, fun _ _ => rfl, FrA_rf⟩
      have e1 : Int.tmod (l : Int) (p : Int) = ((l % p : Nat) : Int) := (Int.ofNat_tmod l p).symm
      have ne : l % p ≠ 0 := fun z => by
        by_cases y : 1 < l
        · exact q ⟨z, y⟩
        · have : l = 1 := by omega
          subst this
          rw [Nat.mod_eq_of_lt (by omega)] at z
          omega
      simp (disch := omega) only [↓reduceIte, lt_TI, lt_FI, le_TI, le_FI, eq_TI, eq_FI, lt_TN, lt_FN, le_TN, le_FN, eq_TN, eq_FN, and_self, and_true, true_and, and_false, false_and, or_true, true_or, or_false, false_or, not_true_eq_false, not_false_eq_true, wr_of, uI_at, uC_at, q_bi_s, q_bl_s, q_br_s, q_bv_s, Int.toNat_natCast, tn_1, tn_m, tn_n, Int.toNat_zero, Int.toNat_one, e1]
theorem m_factor {n : Nat} (hn : 1 ≤ n) (hn2 : n ≤ 30) {b : Int} (hb : b = 1 ∨ b = -1) {P : Nat → Int} (hP : bdd 50000 P) (h1 : ∀ q, q < 31 → I 278 q = P q) : ∃ I', q_E (244, 0, [vr 265, vi (n : Int), vi b, vu, vu], []) (qk t u I J) = some (vu, qk t u I' J) ∧ (∀ q, q < 31 → I' 278 q = facP n b P q) ∧ FrA 278 0 31 I I' := by
  have loop : ∀ (r i : Nat) (I1 : Nat → Nat → Int), i + r = n - 1 → (∀ q, q < 31 → I1 278 q = if q < i + 2 then facP n b P q else P q) → ∃ I', q_E (244, 5, [vr 265, vi (n : Int), vi b, vi (lfs n i : Int), vi ((i : Int) + 2)], []) (qk t u I1 J) = some (vu, qk t u I' J) ∧ (∀ q, q < 31 → I' 278 q = facP n b P q) ∧ FrA 278 0 31 I1 I' := by
    intro r
    induction r with
    | zero =>
      intro i I1 hi e
      rw [e244_5]
      simp (disch := omega) only [↓reduceIte, lt_TI, lt_FI, le_TI, le_FI, eq_TI, eq_FI, lt_TN, lt_FN, le_TN, le_FN, eq_TN, eq_FN, and_self, and_true, true_and, and_false, false_and, or_true, true_or, or_false, false_or, not_true_eq_false, not_false_eq_true, wr_of, uI_at, uC_at, q_bi_s, q_bl_s, q_br_s, q_bv_s, Int.toNat_natCast, tn_1, tn_m, tn_n, Int.toNat_zero, Int.toNat_one]
      refine ⟨I1, rfl, fun q hq => ?_, FrA_rf⟩
      rw [e q hq]
      by_cases z : q < i + 2
      · rw [if_pos z]
      · rw [if_neg z]
        unfold facP
        rw [if_pos (by omega), ex_big hn (by omega) (by omega), Int.natCast_zero, Int.mul_zero, Int.add_zero]
    | succ r ih =>
      intro i I1 hi e
      have lb := lfs_b hn i
      rw [e244_5]
      have v := e (i + 2) (by omega)
      rw [if_neg (by omega)] at v
      have pb := hP (i + 2)
      obtain ⟨I2, a1, a2, a3, a4⟩ := m_fac1 (t := t) (u := u) (J := J) (n := (n : Int)) hb (p := i + 2) (by omega) (by omega) 64 (lfs n i) I1 (by omega) lb.1 (by omega) (by omega)
      simp (disch := omega) only [↓reduceIte, lt_TI, lt_FI, le_TI, le_FI, eq_TI, eq_FI, lt_TN, lt_FN, le_TN, le_FN, eq_TN, eq_FN, and_self, and_true, true_and, and_false, false_and, or_true, true_or, or_false, false_or, not_true_eq_false, not_false_eq_true, wr_of, uI_at, uC_at, q_bi_s, q_bl_s, q_br_s, q_bv_s, Int.toNat_natCast, tn_1, tn_m, tn_n, Int.toNat_zero, Int.toNat_one]
      rw [show ((i : Int) + 2) = ((i + 2 : Nat) : Int) from rfl, a1]
      obtain ⟨I3, b1, b2, b3⟩ := ih (i + 1) I2 (by omega) (fun q hq => by
        by_cases z : q = i + 2
        · subst z
          rw [a2, v, if_pos (by omega)]
          unfold facP ex
          rw [if_pos (by omega), Nat.add_sub_cancel]
        · rw [a3 q z, e q hq]
          by_cases y : q < i + 2
          · rw [if_pos y, if_pos (by omega)]
          · rw [if_neg y, if_neg (by omega)])
      refine ⟨I3, ?_, b2, FrA_tr a4 b3 (by omega) (by omega) (by omega) (by omega)⟩
      rw [← b1]
      congr 1
  rw [e244_0]
  exact loop (n - 1) 0 I (by omega) (fun q hq => by
    rw [h1 q hq]
    split
    · unfold facP; rw [if_neg (by omega)]
    · rfl)
theorem m_ord {c : Nat} (hc : c < 4) {xs : List Nat} (H : LA I 272 (61 * c) xs) (S : SD xs) (P : PS xs) (hs : xs.sum ≤ 30) : ∃ I', q_E (245, 46, [vr 265, vi (c : Int), vi (xs.sum : Int), vi 0, vu, vu, vu], []) (qk t u I J) = some (vl (ordI xs), qk t u I' J) ∧ FrA 278 0 31 I I' := by
  have hl := len_sum P
  have frm : ∀ I1, FrA 278 0 31 I I1 → LA I1 272 (61 * c) xs := fun I1 F => LA_fr H F (by omega)
  -- all powers are 0
  have z0 : ∀ (r i : Nat) (I1 : Nat → Nat → Int), i + r = 31 → FrA 278 0 31 I I1 → (∀ q, q < i → I1 278 q = 0) → ∃ I', q_E (245, 46, [vr 265, vi (c : Int), vi (xs.sum : Int), vi (i : Int), vu, vu, vu], []) (qk t u I1 J) = q_E (245, 67, [vr 265, vi (c : Int), vi (xs.sum : Int), vi 2, vu, vu, vu], []) (qk t u I' J) ∧ FrA 278 0 31 I I' ∧ (∀ q, q < 31 → I' 278 q = 0) := by
    intro r
    induction r with
    | zero =>
      intro i I1 hi K e
      rw [e245_46]
      simp (disch := omega) only [↓reduceIte, lt_TI, lt_FI, le_TI, le_FI, eq_TI, eq_FI, lt_TN, lt_FN, le_TN, le_FN, eq_TN, eq_FN, and_self, and_true, true_and, and_false, false_and, or_true, true_or, or_false, false_or, not_true_eq_false, not_false_eq_true, wr_of, uI_at, uC_at, q_bi_s, q_bl_s, q_br_s, q_bv_s, Int.toNat_natCast, tn_1, tn_m, tn_n, Int.toNat_zero, Int.toNat_one]
      exact ⟨I1, rfl, K, fun q hq => e q (by omega)⟩
    | succ r ih =>
      intro i I1 hi K e
      rw [e245_46]
      simp (disch := omega) only [↓reduceIte, lt_TI, lt_FI, le_TI, le_FI, eq_TI, eq_FI, lt_TN, lt_FN, le_TN, le_FN, eq_TN, eq_FN, and_self, and_true, true_and, and_false, false_and, or_true, true_or, or_false, false_or, not_true_eq_false, not_false_eq_true, wr_of, uI_at, uC_at, q_bi_s, q_bl_s, q_br_s, q_bv_s, Int.toNat_natCast, tn_1, tn_m, tn_n, Int.toNat_zero, Int.toNat_one]
      exact ih (i + 1) (uI I1 278 i 0) (by omega) (FrA_uI K (by omega) (by omega)) (fun q hq => by
        by_cases z : q = i
        · subst z; exact if_pos ⟨rfl, rfl⟩
        · rw [uI_ne (Or.inr z)]; exact e q (by omega))
  -- the numbers up to all stones
  have z1 : ∀ (r n : Nat) (I1 : Nat → Nat → Int), n + r = xs.sum - 1 → FrA 278 0 31 I I1 → (∀ q, q < 31 → I1 278 q = pS n q) → ∃ I', q_E (245, 67, [vr 265, vi (c : Int), vi (xs.sum : Int), vi ((n : Int) + 2), vu, vu, vu], []) (qk t u I1 J) = q_E (245, 86, [vr 265, vi (c : Int), vu, vi 0, vu, vu, vu], []) (qk t u I' J) ∧ FrA 278 0 31 I I' ∧ (∀ q, q < 31 → I' 278 q = pS (xs.sum - 1) q) := by
    intro r
    induction r with
    | zero =>
      intro n I1 hn K e
      rw [e245_67]
      simp (disch := omega) only [↓reduceIte, lt_TI, lt_FI, le_TI, le_FI, eq_TI, eq_FI, lt_TN, lt_FN, le_TN, le_FN, eq_TN, eq_FN, and_self, and_true, true_and, and_false, false_and, or_true, true_or, or_false, false_or, not_true_eq_false, not_false_eq_true, wr_of, uI_at, uC_at, q_bi_s, q_bl_s, q_br_s, q_bv_s, Int.toNat_natCast, tn_1, tn_m, tn_n, Int.toNat_zero, Int.toNat_one]
      exact ⟨I1, rfl, K, fun q hq => by rw [e q hq, show n = xs.sum - 1 by omega]⟩
    | succ r ih =>
      intro n I1 hn K e
      have pb := pS_b n (by omega)
      obtain ⟨I2, a1, a2, a3⟩ := m_factor (t := t) (u := u) (I := I1) (J := J) (n := n + 2) (by omega) (by omega) (b := 1) (Or.inl rfl) (P := pS n) (fun p => by have := pb p; omega) e
      rw [e245_67]
      rw [show ((n + 2 : Nat) : Int) = (n : Int) + 2 from rfl] at a1
      simp (disch := omega) only [↓reduceIte, lt_TI, lt_FI, le_TI, le_FI, eq_TI, eq_FI, lt_TN, lt_FN, le_TN, le_FN, eq_TN, eq_FN, and_self, and_true, true_and, and_false, false_and, or_true, true_or, or_false, false_or, not_true_eq_false, not_false_eq_true, wr_of, uI_at, uC_at, q_bi_s, q_bl_s, q_br_s, q_bv_s, Int.toNat_natCast, tn_1, tn_m, tn_n, Int.toNat_zero, Int.toNat_one, a1]
      rw [e245_78]
      simp (disch := omega) only [↓reduceIte, lt_TI, lt_FI, le_TI, le_FI, eq_TI, eq_FI, lt_TN, lt_FN, le_TN, le_FN, eq_TN, eq_FN, and_self, and_true, true_and, and_false, false_and, or_true, true_or, or_false, false_or, not_true_eq_false, not_false_eq_true, wr_of, uI_at, uC_at, q_bi_s, q_bl_s, q_br_s, q_bv_s, Int.toNat_natCast, tn_1, tn_m, tn_n, Int.toNat_zero, Int.toNat_one]
      obtain ⟨I3, b1, b2, b3⟩ := ih (n + 1) I2 (by omega) (FrA_tr K a3 (by omega) (by omega) (by omega) (by omega)) a2
      refine ⟨I3, ?_, b2, b3⟩
      rw [← b1]
      congr 1
  -- the hooks
  have z3 : ∀ (r j i : Nat) (B : Nat → Int) (I1 : Nat → Nat → Int), i < xs.length → j + r = xs.getD i 0 → bdd 5000 B → FrA 278 0 31 I I1 → (∀ q, q < 31 → I1 278 q = pC B xs i j q) → ∃ I', q_E (245, 95, [vr 265, vi (c : Int), vu, vi (i : Int), vi (j : Int), vu, vu], []) (qk t u I1 J) = q_E (245, 86, [vr 265, vi (c : Int), vu, vi ((i : Int) + 1), vu, vu, vu], []) (qk t u I' J) ∧ FrA 278 0 31 I I' ∧ (∀ q, q < 31 → I' 278 q = pC B xs i (xs.getD i 0) q) := by
    intro r
    induction r with
    | zero =>
      intro j i B I1 hi hj hB K e
      have v := frm I1 K i (by omega)
      rw [e245_95]
      simp (disch := omega) only [↓reduceIte, lt_TI, lt_FI, le_TI, le_FI, eq_TI, eq_FI, lt_TN, lt_FN, le_TN, le_FN, eq_TN, eq_FN, and_self, and_true, true_and, and_false, false_and, or_true, true_or, or_false, false_or, not_true_eq_false, not_false_eq_true, wr_of, uI_at, uC_at, q_bi_s, q_bl_s, q_br_s, q_bv_s, Int.toNat_natCast, tn_1, tn_m, tn_n, Int.toNat_zero, Int.toNat_one, tn_61a, v]
      exact ⟨I1, rfl, K, fun q hq => by rw [e q hq, show j = xs.getD i 0 by omega]⟩
    | succ r ih =>
      intro j i B I1 hi hj hB K e
      have v := frm I1 K i (by omega)
      have gi := gD_sum (l := xs) i
      obtain ⟨n, en, n1, n2⟩ := hk_rng S P hi (show j < xs.getD i 0 by omega)
      have pb := pC_b S P hs hi hB j (by omega)
      obtain ⟨I2, a1, a2, a3⟩ := m_factor (t := t) (u := u) (I := I1) (J := J) (n := n) n1 (by omega) (b := -1) (Or.inr rfl) (P := pC B xs i j) (fun p => by have := pb p; omega) e
      have ch := m_hookOf (t := t) (u := u) (J := J) hc (frm I1 K) S (by omega) (by omega) (i := i) (j := j) (by omega) (by omega)
      rw [en] at ch
      rw [e245_95]
      simp (disch := omega) only [↓reduceIte, lt_TI, lt_FI, le_TI, le_FI, eq_TI, eq_FI, lt_TN, lt_FN, le_TN, le_FN, eq_TN, eq_FN, and_self, and_true, true_and, and_false, false_and, or_true, true_or, or_false, false_or, not_true_eq_false, not_false_eq_true, wr_of, uI_at, uC_at, q_bi_s, q_bl_s, q_br_s, q_bv_s, Int.toNat_natCast, tn_1, tn_m, tn_n, Int.toNat_zero, Int.toNat_one, tn_61a, v, ch]
      rw [e245_120]
      simp (disch := omega) only [↓reduceIte, lt_TI, lt_FI, le_TI, le_FI, eq_TI, eq_FI, lt_TN, lt_FN, le_TN, le_FN, eq_TN, eq_FN, and_self, and_true, true_and, and_false, false_and, or_true, true_or, or_false, false_or, not_true_eq_false, not_false_eq_true, wr_of, uI_at, uC_at, q_bi_s, q_bl_s, q_br_s, q_bv_s, Int.toNat_natCast, tn_1, tn_m, tn_n, Int.toNat_zero, Int.toNat_one, k21, a1]
      rw [e245_124]
      simp (disch := omega) only [↓reduceIte, lt_TI, lt_FI, le_TI, le_FI, eq_TI, eq_FI, lt_TN, lt_FN, le_TN, le_FN, eq_TN, eq_FN, and_self, and_true, true_and, and_false, false_and, or_true, true_or, or_false, false_or, not_true_eq_false, not_false_eq_true, wr_of, uI_at, uC_at, q_bi_s, q_bl_s, q_br_s, q_bv_s, Int.toNat_natCast, tn_1, tn_m, tn_n, Int.toNat_zero, Int.toNat_one]
      exact ih (j + 1) i B I2 hi (by omega) hB (FrA_tr K a3 (by omega) (by omega) (by omega) (by omega)) (fun q hq => by
        rw [a2 q hq]
        have ee : pC B xs i (j + 1) q = facP (hkI xs i j).toNat (-1) (pC B xs i j) q := rfl
        rw [ee, en, Int.toNat_natCast])
  have z5 : ∀ (r i : Nat) (I1 : Nat → Nat → Int), i + r = 60 → xs.length ≤ i → FrA 278 0 31 I I1 → q_E (245, 86, [vr 265, vi (c : Int), vu, vi (i : Int), vu, vu, vu], []) (qk t u I1 J) = q_E (245, 141, [vr 265, vu, vu, vl 1, vu, vi 2, vu], []) (qk t u I1 J) := by
    intro r
    induction r with
    | zero =>
      intro i I1 hi hx K
      rw [e245_86]
      simp (disch := omega) only [↓reduceIte, lt_TI, lt_FI, le_TI, le_FI, eq_TI, eq_FI, lt_TN, lt_FN, le_TN, le_FN, eq_TN, eq_FN, and_self, and_true, true_and, and_false, false_and, or_true, true_or, or_false, false_or, not_true_eq_false, not_false_eq_true, wr_of, uI_at, uC_at, q_bi_s, q_bl_s, q_br_s, q_bv_s, Int.toNat_natCast, tn_1, tn_m, tn_n, Int.toNat_zero, Int.toNat_one]
    | succ r ih =>
      intro i I1 hi hx K
      have v := frm I1 K i (by omega)
      rw [gD_ge hx, Int.natCast_zero] at v
      rw [e245_86]
      simp (disch := omega) only [↓reduceIte, lt_TI, lt_FI, le_TI, le_FI, eq_TI, eq_FI, lt_TN, lt_FN, le_TN, le_FN, eq_TN, eq_FN, and_self, and_true, true_and, and_false, false_and, or_true, true_or, or_false, false_or, not_true_eq_false, not_false_eq_true, wr_of, uI_at, uC_at, q_bi_s, q_bl_s, q_br_s, q_bv_s, Int.toNat_natCast, tn_1, tn_m, tn_n, Int.toNat_zero, Int.toNat_one]
      rw [e245_95]
      simp (disch := omega) only [↓reduceIte, lt_TI, lt_FI, le_TI, le_FI, eq_TI, eq_FI, lt_TN, lt_FN, le_TN, le_FN, eq_TN, eq_FN, and_self, and_true, true_and, and_false, false_and, or_true, true_or, or_false, false_or, not_true_eq_false, not_false_eq_true, wr_of, uI_at, uC_at, q_bi_s, q_bl_s, q_br_s, q_bv_s, Int.toNat_natCast, tn_1, tn_m, tn_n, Int.toNat_zero, Int.toNat_one, tn_61a, v]
      exact ih (i + 1) I1 (by omega) (by omega) K
  have z2 : ∀ (r i : Nat) (I1 : Nat → Nat → Int), i + r = xs.length → FrA 278 0 31 I I1 → (∀ q, q < 31 → I1 278 q = pR (pS (xs.sum - 1)) xs i q) → ∃ I', q_E (245, 86, [vr 265, vi (c : Int), vu, vi (i : Int), vu, vu, vu], []) (qk t u I1 J) = q_E (245, 141, [vr 265, vu, vu, vl 1, vu, vi 2, vu], []) (qk t u I' J) ∧ FrA 278 0 31 I I' ∧ (∀ q, q < 31 → I' 278 q = pR (pS (xs.sum - 1)) xs xs.length q) := by
    intro r
    induction r with
    | zero =>
      intro i I1 hi K e
      exact ⟨I1, z5 (60 - i) i I1 (by omega) (by omega) K, K, fun q hq => by rw [e q hq, show i = xs.length by omega]⟩
    | succ r ih =>
      intro i I1 hi K e
      have sb := pS_b (xs.sum - 1) (by omega)
      have pb := pR_b S P hs sb i (by omega)
      have tl := take_sum_le (l := xs) i
      obtain ⟨I2, a1, a2, a3⟩ := z3 (xs.getD i 0) 0 i (pR (pS (xs.sum - 1)) xs i) I1 (by omega) (by omega) (fun p => by have := pb p; omega) K e
      rw [e245_86]
      simp (disch := omega) only [↓reduceIte, lt_TI, lt_FI, le_TI, le_FI, eq_TI, eq_FI, lt_TN, lt_FN, le_TN, le_FN, eq_TN, eq_FN, and_self, and_true, true_and, and_false, false_and, or_true, true_or, or_false, false_or, not_true_eq_false, not_false_eq_true, wr_of, uI_at, uC_at, q_bi_s, q_bl_s, q_br_s, q_bv_s, Int.toNat_natCast, tn_1, tn_m, tn_n, Int.toNat_zero, Int.toNat_one]
      rw [Int.natCast_zero] at a1
      rw [a1]
      exact ih (i + 1) I2 (by omega) a2 a3
  -- the product
  have z4 : ∀ (I1 : Nat → Nat → Int) (Q : Nat → Int), (∀ q, q < 31 → I1 278 q = Q q) → bdd 5000 Q → ∀ (r i : Nat), i + r = 29 → q_E (245, 141, [vr 265, vu, vu, vl (prd Q i), vu, vi ((i : Int) + 2), vu], []) (qk t u I1 J) = some (vl (prd Q 29), qk t u I1 J) := by
    intro I1 Q e hQ r
    induction r with
    | zero =>
      intro i hi
      rw [e245_141]
      simp (disch := omega) only [↓reduceIte, lt_TI, lt_FI, le_TI, le_FI, eq_TI, eq_FI, lt_TN, lt_FN, le_TN, le_FN, eq_TN, eq_FN, and_self, and_true, true_and, and_false, false_and, or_true, true_or, or_false, false_or, not_true_eq_false, not_false_eq_true, wr_of, uI_at, uC_at, q_bi_s, q_bl_s, q_br_s, q_bv_s, Int.toNat_natCast, tn_1, tn_m, tn_n, Int.toNat_zero, Int.toNat_one]
      rw [show i = 29 by omega]
    | succ r ih =>
      intro i hi
      have qb := hQ (i + 2)
      have inner : ∀ (n m : Nat), m + n = (Q (i + 2)).toNat → q_E (245, 151, [vr 265, vu, vu, vl (pw (prd Q i) (i + 2) m), vu, vi ((i : Int) + 2), vi (m : Int)], []) (qk t u I1 J) = some (vl (prd Q 29), qk t u I1 J) := by
        intro n
        induction n with
        | zero =>
          intro m hm
          rw [e245_151]
          simp (disch := omega) only [↓reduceIte, lt_TI, lt_FI, le_TI, le_FI, eq_TI, eq_FI, lt_TN, lt_FN, le_TN, le_FN, eq_TN, eq_FN, and_self, and_true, true_and, and_false, false_and, or_true, true_or, or_false, false_or, not_true_eq_false, not_false_eq_true, wr_of, uI_at, uC_at, q_bi_s, q_bl_s, q_br_s, q_bv_s, Int.toNat_natCast, tn_1, tn_m, tn_n, Int.toNat_zero, Int.toNat_one, tn_2, e (i + 2) (by omega)]
          have := ih (i + 1) (by omega)
          rw [← this]
          rw [show m = (Q (i + 2)).toNat by omega]
          show q_E (245, 141, [vr 265, vu, vu, vl (pw (prd Q i) (i + 2) (Q (i + 2)).toNat), vu, vi ((i : Int) + 2 + 1), vu], []) (qk t u I1 J) = q_E (245, 141, [vr 265, vu, vu, vl (pw (prd Q i) (i + 2) (Q (i + 2)).toNat), vu, vi (((i + 1 : Nat) : Int) + 2), vu], []) (qk t u I1 J)
          rw [show ((i : Int) + 2 + 1) = (((i + 1 : Nat) : Int) + 2) by omega]
        | succ n ih2 =>
          intro m hm
          rw [e245_151]
          simp (disch := omega) only [↓reduceIte, lt_TI, lt_FI, le_TI, le_FI, eq_TI, eq_FI, lt_TN, lt_FN, le_TN, le_FN, eq_TN, eq_FN, and_self, and_true, true_and, and_false, false_and, or_true, true_or, or_false, false_or, not_true_eq_false, not_false_eq_true, wr_of, uI_at, uC_at, q_bi_s, q_bl_s, q_br_s, q_bv_s, Int.toNat_natCast, tn_1, tn_m, tn_n, Int.toNat_zero, Int.toNat_one, tn_2, e (i + 2) (by omega)]
          exact ih2 (m + 1) (by omega)
      rw [e245_141]
      simp (disch := omega) only [↓reduceIte, lt_TI, lt_FI, le_TI, le_FI, eq_TI, eq_FI, lt_TN, lt_FN, le_TN, le_FN, eq_TN, eq_FN, and_self, and_true, true_and, and_false, false_and, or_true, true_or, or_false, false_or, not_true_eq_false, not_false_eq_true, wr_of, uI_at, uC_at, q_bi_s, q_bl_s, q_br_s, q_bv_s, Int.toNat_natCast, tn_1, tn_m, tn_n, Int.toNat_zero, Int.toNat_one]
      exact inner (Q (i + 2)).toNat 0 (by omega)
  obtain ⟨I1, a1, a2, a3⟩ := z0 31 0 I (by omega) FrA_rf (fun q hq => by omega)
  obtain ⟨I2, b1, b2, b3⟩ := z1 (xs.sum - 1) 0 I1 (by omega) a2 a3
  obtain ⟨I3, c1, c2, c3⟩ := z2 xs.length 0 I2 (by omega) b2 b3
  rw [Int.natCast_zero] at a1 b1 c1
  have sb := pS_b (xs.sum - 1) (by omega)
  have pb := pR_b S P hs sb xs.length (Nat.le_refl _)
  have tl := take_sum_le (l := xs) xs.length
  have d := z4 I3 _ c3 (fun p => by have := pb p; omega) 29 0 (by omega)
  rw [a1, show (2 : Int) = (0 : Int) + 2 by omega, b1, c1]
  exact ⟨I3, d, c2⟩
theorem m_orders (V : MInv S I) (c : Int) : ∃ I', q_E (245, 0, [vr 265, vi c, vu, vu, vu, vu, vu], []) (qk t u I J) = some (vl (sp_orders S c).1, qk t u I' J) ∧ QM (sp_orders S c).2 I I' := by
  have A := MInv_A V
  have h4 := tC_4 V.1.1
  unfold sp_orders
  by_cases hc : isCl S c
  · simp only [if_pos hc]
    obtain ⟨m, rfl⟩ : ∃ m : Nat, c = (m : Int) := ⟨c.toNat, by omega⟩
    have r1 := m_cell_ok (t := t) (u := u) (J := J) A hc
    have hm : m < tC (sTo S) := by omega
    obtain ⟨H, ok⟩ := MQs_row A (show m < 4 by omega)
    obtain ⟨G, -⟩ := MQs_row V.1 (show m < 4 by omega)
    obtain ⟨o1, o2, o3⟩ := id ok
    have hl := HOk_len ok
    simp only [Int.toNat_natCast]
    have s1 := c_stonesOf (t := t) (u := u) (J := J) A272 (p := 61 * m) (by omega) H.1 hl (by omega)
    rw [c_61] at s1
    by_cases q : 30 < ((sNw S).1 m).1.sum
    · simp only [if_pos q]
      simp (disch := omega) only [↓reduceIte, lt_TI, lt_FI, le_TI, le_FI, eq_TI, eq_FI, lt_TN, lt_FN, le_TN, le_FN, eq_TN, eq_FN, and_self, and_true, true_and, and_false, false_and, or_true, true_or, or_false, false_or, not_true_eq_false, not_false_eq_true, wr_of, uI_at, uC_at, q_bi_s, q_bl_s, q_br_s, q_bv_s, Int.toNat_natCast, tn_1, tn_m, tn_n, Int.toNat_zero, Int.toNat_one, r1, s1, e177_0, e178_0, e245_0, e245_4, e245_78, e245_120, e245_9, e245_124, e245_17, e245_30, e245_42]
      exact ⟨_, rfl, QM_no QF_rf⟩
    · simp only [if_neg q]
      obtain ⟨I', b1, b2⟩ := m_ord (t := t) (u := u) (J := J) (show m < 4 by omega) H.1 o1 o2 (by omega)
      simp (disch := omega) only [↓reduceIte, lt_TI, lt_FI, le_TI, le_FI, eq_TI, eq_FI, lt_TN, lt_FN, le_TN, le_FN, eq_TN, eq_FN, and_self, and_true, true_and, and_false, false_and, or_true, true_or, or_false, false_or, not_true_eq_false, not_false_eq_true, wr_of, uI_at, uC_at, q_bi_s, q_bl_s, q_br_s, q_bv_s, Int.toNat_natCast, tn_1, tn_m, tn_n, Int.toNat_zero, Int.toNat_one, r1, s1, e177_0, e178_0, b1, e245_0, e245_4, e245_78, e245_120, e245_9, e245_124, e245_17, e245_30, e245_42]
      exact ⟨_, rfl, QM_ok (QF_fr QF_rf b2 (by omega) (by omega))⟩
  · simp only [if_neg hc]
    have r1 := m_cell_no (t := t) (u := u) (J := J) A hc
    simp (disch := omega) only [↓reduceIte, lt_TI, lt_FI, le_TI, le_FI, eq_TI, eq_FI, lt_TN, lt_FN, le_TN, le_FN, eq_TN, eq_FN, and_self, and_true, true_and, and_false, false_and, or_true, true_or, or_false, false_or, not_true_eq_false, not_false_eq_true, wr_of, uI_at, uC_at, q_bi_s, q_bl_s, q_br_s, q_bv_s, Int.toNat_natCast, tn_1, tn_m, tn_n, Int.toNat_zero, Int.toNat_one, r1, e177_0, e178_0, e245_0, e245_4, e245_78, e245_120, e245_9, e245_124, e245_17, e245_30, e245_42]
    exact ⟨_, rfl, QM_no QF_rf⟩
end

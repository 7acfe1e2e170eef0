/-! ORDERS: parts of numbers, their powers -/
def vq (p : Nat) : Nat → Nat → Nat
  | 0, _ => 0
  | f + 1, n => if n % p = 0 ∧ 1 < n then vq p f (n / p) + 1 else 0
def rq (p : Nat) : Nat → Nat → Nat
  | 0, n => n
  | f + 1, n => if n % p = 0 ∧ 1 < n then rq p f (n / p) else n
theorem rq_b (p : Nat) : ∀ f n, 1 ≤ n → 1 ≤ rq p f n ∧ rq p f n ≤ n
  | 0, n, h => ⟨h, Nat.le_refl _⟩
  | f + 1, n, h => by
    unfold rq
    split
    · rename_i q
      by_cases p0 : p = 0
      · subst p0; omega
      · have h1 : 1 ≤ n / p := Nat.div_pos (Nat.le_of_dvd (by omega) (Nat.dvd_of_mod_eq_zero q.1)) (by omega)
        have h2 := Nat.div_le_self n p
        have h3 := rq_b p f (n / p) h1
        exact ⟨h3.1, by omega⟩
    · exact ⟨h, Nat.le_refl _⟩
theorem vq_le (p : Nat) (hp : 2 ≤ p) : ∀ f n, vq p f n ≤ n
  | 0, _ => Nat.zero_le _
  | f + 1, n => by
    unfold vq
    split
    · rename_i q
      have h1 := vq_le p hp f (n / p)
      have h2 : n / p < n := Nat.div_lt_self (by omega) (by omega)
      omega
    · omega
def lfs (n : Nat) : Nat → Nat
  | 0 => n
  | i + 1 => rq (i + 2) 64 (lfs n i)
def ex (n p : Nat) : Nat := vq p 64 (lfs n (p - 2))
theorem lfs_b {n : Nat} (h : 1 ≤ n) : ∀ i, 1 ≤ lfs n i ∧ lfs n i ≤ n
  | 0 => ⟨h, Nat.le_refl _⟩
  | i + 1 => by
    have a := lfs_b h i
    have b := rq_b (i + 2) 64 (lfs n i) a.1
    unfold lfs
    exact ⟨b.1, by omega⟩
theorem ex_le {n p : Nat} (h : 1 ≤ n) (hp : 2 ≤ p) : ex n p ≤ n := by
  have a := vq_le p hp 64 (lfs n (p - 2))
  have b := lfs_b h (p - 2)
  unfold ex
  omega
theorem lfs_1 {n i : Nat} (h : lfs n i = 1) : ∀ k, lfs n (i + k) = 1
  | 0 => h
  | k + 1 => by
    show rq (i + k + 2) 64 (lfs n (i + k)) = 1
    rw [lfs_1 h k]
    unfold rq
    rw [if_neg (by omega)]
theorem ex_1 {n p : Nat} (h : lfs n (p - 2) = 1) : ex n p = 0 := by
  unfold ex vq
  rw [h, if_neg (by omega)]
/-- for parts beyond the number there is nothing left -/
theorem lfs_big {n : Nat} (h : 1 ≤ n) : ∀ i, n ≤ i + 1 → lfs n i = 1 ∨ n < i + 2 := fun i hi => Or.inr (by omega)
theorem ex_big {n p : Nat} (h : 1 ≤ n) (hp : 2 ≤ p) (q : n < p) : ex n p = 0 := by
  have b := lfs_b h (p - 2)
  unfold ex vq
  rw [if_neg (fun z => by
    have := Nat.mod_eq_of_lt (show lfs n (p - 2) < p by omega)
    omega)]
def facP (n : Nat) (by' : Int) (P : Nat → Int) (p : Nat) : Int := if 2 ≤ p then P p + by' * (ex n p : Int) else P p
def pS : Nat → Nat → Int
  | 0 => fun _ => 0
  | n + 1 => facP (n + 2) 1 (pS n)
def pC (B : Nat → Int) (l : List Nat) (i : Nat) : Nat → Nat → Int
  | 0 => B
  | j + 1 => facP (hkI l i j).toNat (-1) (pC B l i j)
def pR (B : Nat → Int) (l : List Nat) : Nat → Nat → Int
  | 0 => B
  | i + 1 => pC (pR B l i) l i (l.getD i 0)
def pw (x : Int) (p : Nat) : Nat → Int
  | 0 => x
  | k + 1 => wl (pw x p k * (p : Int))
def prd (P : Nat → Int) : Nat → Int
  | 0 => 1
  | i + 1 => pw (prd P i) (i + 2) (P (i + 2)).toNat
def ordI (l : List Nat) : Int := prd (pR (pS (l.sum - 1)) l l.length) 29
def bdd (B : Int) (P : Nat → Int) : Prop := ∀ p, -B ≤ P p ∧ P p ≤ B
theorem facP_b {n : Nat} {b B : Int} {P : Nat → Int} (hn : 1 ≤ n) (hn2 : n ≤ 30) (hb : b = 1 ∨ b = -1) (h : bdd B P) : bdd (B + 30) (facP n b P) := fun p => by
  have := h p
  unfold facP
  split
  · rename_i q
    have e := ex_le hn q
    rcases hb with z | z <;> subst z <;> omega
  · omega
section
variable {t u : Nat} {I J : Nat → Nat → Int} {h : Nat} {xs : List Nat} {k : Nat}
theorem c_prim1 {b : Int} (hb : b = 1 ∨ b = -1) {p : Nat} (hp : 2 ≤ p) (hp2 : p < 31) : ∀ (f l : Nat) (I1 : Nat → Nat → Int), l ≤ f → 1 ≤ l → -100000 ≤ I1 243 p - (l : Int) → I1 243 p + (l : Int) ≤ 100000 → ∃ I', q_E (64, 20, [vr 242, vu, vi b, vi (l : Int), vi (p : Int)], []) (qk t u I1 J) = q_E (64, 5, [vr 242, vu, vi b, vi (rq p f l : Int), vi ((p : Int) + 1)], []) (qk t u I' J) ∧ I' 243 p = I1 243 p + b * (vq p f l : Int) ∧ (∀ q, q ≠ p → I' 243 q = I1 243 q) ∧ Kp 243 243 I1 I' := by
  intro f
  induction f with
  | zero => intro l I1 hl h1; omega
  | succ f ih =>
    intro l I1 hl h1 r1 r2
    rw [e64_20]
    unfold rq vq
    by_cases q : l % p = 0 ∧ 1 < l
    · have e1 : Int.tmod (l : Int) (p : Int) = 0 := by
        have := Int.ofNat_tmod l p
        rw [q.1] at this; exact this.symm
      have e2 : Int.tdiv (l : Int) (p : Int) = ((l / p : Nat) : Int) := (Int.ofNat_tdiv l p).symm
      have h2 : l / p < l := Nat.div_lt_self (by omega) (by omega)
      have h3 : 1 ≤ l / p := Nat.div_pos (Nat.le_of_dvd (by omega) (Nat.dvd_of_mod_eq_zero q.1)) (by omega)
      rw [if_pos q, if_pos q]
      have q2 := q.2
      simp (disch := omega) only [↓reduceIte, lt_TI, lt_FI, le_TI, le_FI, eq_TI, eq_FI, lt_TN, lt_FN, le_TN, le_FN, eq_TN, eq_FN, and_self, and_true, true_and, and_false, false_and, or_true, true_or, or_false, false_or, not_true_eq_false, not_false_eq_true, wr_of, uI_at, uC_at, q_bi_s, q_bl_s, q_br_s, q_bv_s, Int.toNat_natCast, tn_1, tn_m, tn_n, Int.toNat_zero, Int.toNat_one, e1, e2]
      obtain ⟨I', a1, a2, a3, a4⟩ := ih (l / p) (uI I1 243 p (I1 243 p + b)) (by omega) h3 (by simp (disch := omega) only [↓reduceIte, lt_TI, lt_FI, le_TI, le_FI, eq_TI, eq_FI, lt_TN, lt_FN, le_TN, le_FN, eq_TN, eq_FN, and_self, and_true, true_and, and_false, false_and, or_true, true_or, or_false, false_or, not_true_eq_false, not_false_eq_true, wr_of, uI_at, uC_at, q_bi_s, q_bl_s, q_br_s, q_bv_s, Int.toNat_natCast, tn_1, tn_m, tn_n, Int.toNat_zero, Int.toNat_one] <;> omega) (by simp (disch := omega) only [↓reduceIte, lt_TI, lt_FI, le_TI, le_FI, eq_TI, eq_FI, lt_TN, lt_FN, le_TN, le_FN, eq_TN, eq_FN, and_self, and_true, true_and, and_false, false_and, or_true, true_or, or_false, false_or, not_true_eq_false, not_false_eq_true, wr_of, uI_at, uC_at, q_bi_s, q_bl_s, q_br_s, q_bv_s, Int.toNat_natCast, tn_1, tn_m, tn_n, Int.toNat_zero, Int.toNat_one] <;> omega)
      refine ⟨I', a1, ?_, fun q hq => by rw [a3 q hq, uI_ne (Or.inr hq)], Kp_tr (Kp_uI Kp_rf (by omega) (by omega) : Kp 243 243 I1 _) a4 (by omega) (by omega) (by omega) (by omega)⟩
      rw [a2]
      rw [show uI I1 243 p (I1 243 p + b) 243 p = I1 243 p + b from if_pos ⟨rfl, rfl⟩]
      rcases hb with z | z <;> subst z <;> omega
    · rw [if_neg q, if_neg q]
      refine ⟨I1, ?_, by omega, fun _ _ => rfl, Kp_rf⟩
      by_cases q2 : 1 < l
      · have e1 : Int.tmod (l : Int) (p : Int) = ((l % p : Nat) : Int) := (Int.ofNat_tmod l p).symm
        have : l % p ≠ 0 := fun z => q ⟨z, q2⟩
        simp (disch := omega) only [↓reduceIte, lt_TI, lt_FI, le_TI, le_FI, eq_TI, eq_FI, lt_TN, lt_FN, le_TN, le_FN, eq_TN, eq_FN, and_self, and_true, true_and, and_false, false_and, or_true, true_or, or_false, false_or, not_true_eq_false, not_false_eq_true, wr_of, uI_at, uC_at, q_bi_s, q_bl_s, q_br_s, q_bv_s, Int.toNat_natCast, tn_1, tn_m, tn_n, Int.toNat_zero, Int.toNat_one, e1]
      · simp (disch := omega) only [↓reduceIte, lt_TI, lt_FI, le_TI, le_FI, eq_TI, eq_FI, lt_TN, lt_FN, le_TN, le_FN, eq_TN, eq_FN, and_self, and_true, true_and, and_false, false_and, or_true, true_or, or_false, false_or, not_true_eq_false, not_false_eq_true, wr_of, uI_at, uC_at, q_bi_s, q_bl_s, q_br_s, q_bv_s, Int.toNat_natCast, tn_1, tn_m, tn_n, Int.toNat_zero, Int.toNat_one]
theorem c_primes {n : Nat} (hn : 1 ≤ n) (hn2 : n ≤ 30) {b : Int} (hb : b = 1 ∨ b = -1) {P : Nat → Int} (hP : bdd 50000 P) (h1 : ∀ q, q < 31 → I 243 q = P q) : ∃ I', q_E (64, 0, [vr 242, vi (n : Int), vi b, vu, vu], []) (qk t u I J) = some (vu, qk t u I' J) ∧ (∀ q, q < 31 → I' 243 q = facP n b P q) ∧ Kp 243 243 I I' := by
  have loop : ∀ (r i : Nat) (I1 : Nat → Nat → Int), i + r = 29 → (∀ q, q < 31 → I1 243 q = if q < i + 2 then facP n b P q else P q) → ∃ I', q_E (64, 5, [vr 242, vu, vi b, vi (lfs n i : Int), vi ((i : Int) + 2)], []) (qk t u I1 J) = some (vu, qk t u I' J) ∧ (∀ q, q < 31 → I' 243 q = facP n b P q) ∧ Kp 243 243 I1 I' := by
    intro r
    induction r with
    | zero =>
      intro i I1 hi e
      rw [e64_5]
      simp (disch := omega) only [↓reduceIte, lt_TI, lt_FI, le_TI, le_FI, eq_TI, eq_FI, lt_TN, lt_FN, le_TN, le_FN, eq_TN, eq_FN, and_self, and_true, true_and, and_false, false_and, or_true, true_or, or_false, false_or, not_true_eq_false, not_false_eq_true, wr_of, uI_at, uC_at, q_bi_s, q_bl_s, q_br_s, q_bv_s, Int.toNat_natCast, tn_1, tn_m, tn_n, Int.toNat_zero, Int.toNat_one]
      exact ⟨I1, rfl, fun q hq => by rw [e q hq, if_pos (by omega)], Kp_rf⟩
    | succ r ih =>
      intro i I1 hi e
      have lb := lfs_b hn i
      rw [e64_5]
      by_cases q1 : 1 < lfs n i
      · have v := e (i + 2) (by omega)
        rw [if_neg (by omega)] at v
        have pb := hP (i + 2)
        obtain ⟨I2, a1, a2, a3, a4⟩ := c_prim1 (t := t) (u := u) (J := J) hb (p := i + 2) (by omega) (by omega) 64 (lfs n i) I1 (by omega) lb.1 (by omega) (by omega)
        simp (disch := omega) only [↓reduceIte, lt_TI, lt_FI, le_TI, le_FI, eq_TI, eq_FI, lt_TN, lt_FN, le_TN, le_FN, eq_TN, eq_FN, and_self, and_true, true_and, and_false, false_and, or_true, true_or, or_false, false_or, not_true_eq_false, not_false_eq_true, wr_of, uI_at, uC_at, q_bi_s, q_bl_s, q_br_s, q_bv_s, Int.toNat_natCast, tn_1, tn_m, tn_n, Int.toNat_zero, Int.toNat_one]
        rw [show ((i : Int) + 2) = ((i + 2 : Nat) : Int) from rfl, a1]
        obtain ⟨I3, b1, b2, b3⟩ := ih (i + 1) I2 (by omega) (fun q hq => by
          by_cases z : q = i + 2
          · subst z
            rw [a2, v, if_pos (by omega)]
            unfold facP ex
            rw [if_pos (by omega), Nat.add_sub_cancel]
          · rw [a3 q z, e q hq]
            by_cases y : q < i + 2
            · rw [if_pos y, if_pos (by omega)]
            · rw [if_neg y, if_neg (by omega)])
        refine ⟨I3, ?_, b2, Kp_tr a4 b3 (by omega) (by omega) (by omega) (by omega)⟩
        rw [← b1]
        congr 1
      · have l1 : lfs n i = 1 := by omega
        simp (disch := omega) only [↓reduceIte, lt_TI, lt_FI, le_TI, le_FI, eq_TI, eq_FI, lt_TN, lt_FN, le_TN, le_FN, eq_TN, eq_FN, and_self, and_true, true_and, and_false, false_and, or_true, true_or, or_false, false_or, not_true_eq_false, not_false_eq_true, wr_of, uI_at, uC_at, q_bi_s, q_bl_s, q_br_s, q_bv_s, Int.toNat_natCast, tn_1, tn_m, tn_n, Int.toNat_zero, Int.toNat_one]
        refine ⟨I1, rfl, fun q hq => ?_, Kp_rf⟩
        rw [e q hq]
        by_cases y : q < i + 2
        · rw [if_pos y]
        · rw [if_neg y]
          unfold facP
          rw [if_pos (by omega)]
          have := lfs_1 l1 (q - 2 - i)
          rw [show i + (q - 2 - i) = q - 2 by omega] at this
          rw [ex_1 this]
          rcases hb with z | z <;> subst z <;> omega
  rw [e64_0]
  exact loop 29 0 I (by omega) (fun q hq => by
    rw [h1 q hq]
    split
    · unfold facP; rw [if_neg (by omega)]
    · rfl)
theorem pS_b : ∀ n : Nat, n ≤ 29 → bdd (30 * (n : Int)) (pS n)
  | 0, _ => fun p => ⟨by show -(30 * 0 : Int) ≤ 0; omega, by show (0 : Int) ≤ 30 * 0; omega⟩
  | n + 1, h => by
    have := facP_b (n := n + 2) (b := 1) (by omega) (by omega) (Or.inl rfl) (pS_b n (by omega))
    intro p
    have := this p
    have e : pS (n + 1) p = facP (n + 2) 1 (pS n) p := rfl
    rw [e]
    omega
theorem pC_b {B : Nat → Int} {l : List Nat} {b : Int} (S : SD l) (P : PS l) (hs : l.sum ≤ 30) {i : Nat} (hi : i < l.length) (hB : bdd b B) : ∀ j : Nat, j ≤ l.getD i 0 → bdd (b + 30 * (j : Int)) (pC B l i j)
  | 0, _ => fun p => by have := hB p; show -(b + 30 * 0) ≤ B p ∧ B p ≤ b + 30 * 0; omega
  | j + 1, h => by
    obtain ⟨n, e, n1, n2⟩ := hk_rng S P hi (show j < l.getD i 0 by omega)
    have := facP_b (n := n) (b := -1) n1 (by omega) (Or.inr rfl) (pC_b S P hs hi hB j (by omega))
    intro p
    have := this p
    have ee : pC B l i (j + 1) p = facP (hkI l i j).toNat (-1) (pC B l i j) p := rfl
    rw [ee, e, Int.toNat_natCast]
    omega
theorem take_sum_s {l : List Nat} {i : Nat} (h : i < l.length) : (l.take (i + 1)).sum = (l.take i).sum + l.getD i 0 := by
  rw [gD_take h, List.sum_append_nat]; simp
theorem take_sum_le {l : List Nat} (i : Nat) : (l.take i).sum ≤ l.sum := by
  have := List.sum_append_nat (l₁ := l.take i) (l₂ := l.drop i)
  rw [List.take_append_drop] at this; omega
theorem pR_b {B : Nat → Int} {l : List Nat} {b : Int} (S : SD l) (P : PS l) (hs : l.sum ≤ 30) (hB : bdd b B) : ∀ i : Nat, i ≤ l.length → bdd (b + 30 * ((l.take i).sum : Int)) (pR B l i)
  | 0, _ => fun p => by have := hB p; show -(b + 30 * 0) ≤ B p ∧ B p ≤ b + 30 * 0; omega
  | i + 1, h => by
    have a := pC_b S P hs (show i < l.length by omega) (pR_b S P hs hB i (by omega)) (l.getD i 0) (Nat.le_refl _)
    intro p
    have := a p
    have e : pR B l (i + 1) p = pC (pR B l i) l i (l.getD i 0) p := rfl
    rw [e, take_sum_s (by omega)]
    omega
theorem c_orders (H : HAt I h xs k) (S : SD xs) (P : PS xs) (hs : xs.sum ≤ 30) (hh : h ≠ 243 ∧ h + 1 ≠ 243) : ∃ I', q_E (63, 0, [vr 242, vr h, vu, vu, vu, vu, vu], []) (qk t u I J) = some (vl (ordI xs), qk t u I' J) ∧ Kp 243 243 I I' := by
  have k1 := H.1.1
  have hl := H.2.2.2.1
  have frm : ∀ I1, Kp 243 243 I I1 → HAt I1 h xs k := fun I1 K => ⟨H.1, by rw [K h (by omega)]; exact H.2.1, by rw [K h (by omega)]; exact H.2.2.1, hl, fun i hi => by rw [K (h + 1) (by omega)]; exact H.2.2.2.2 i hi⟩
  -- all powers are 0
  have z0 : ∀ (r i : Nat) (I1 : Nat → Nat → Int), i + r = 31 → Kp 243 243 I I1 → (∀ q, q < i → I1 243 q = 0) → ∃ I', q_E (63, 2, [vr 242, vr h, vi (i : Int), vu, vu, vu, vu], []) (qk t u I1 J) = q_E (63, 31, [vr 242, vr h, vi (xs.sum : Int), vi 2, vu, vu, vu], []) (qk t u I' J) ∧ Kp 243 243 I I' ∧ (∀ q, q < 31 → I' 243 q = 0) := by
    intro r
    induction r with
    | zero =>
      intro i I1 hi K e
      rw [e63_2]
      simp (disch := omega) only [↓reduceIte, lt_TI, lt_FI, le_TI, le_FI, eq_TI, eq_FI, lt_TN, lt_FN, le_TN, le_FN, eq_TN, eq_FN, and_self, and_true, true_and, and_false, false_and, or_true, true_or, or_false, false_or, not_true_eq_false, not_false_eq_true, wr_of, uI_at, uC_at, q_bi_s, q_bl_s, q_br_s, q_bv_s, Int.toNat_natCast, tn_1, tn_m, tn_n, Int.toNat_zero, Int.toNat_one, k1, c_inHeaps (frm I1 K) (show xs.sum ≤ 1000 by omega)]
      rw [e63_28]
      exact ⟨I1, rfl, K, fun q hq => e q (by omega)⟩
    | succ r ih =>
      intro i I1 hi K e
      rw [e63_2]
      simp (disch := omega) only [↓reduceIte, lt_TI, lt_FI, le_TI, le_FI, eq_TI, eq_FI, lt_TN, lt_FN, le_TN, le_FN, eq_TN, eq_FN, and_self, and_true, true_and, and_false, false_and, or_true, true_or, or_false, false_or, not_true_eq_false, not_false_eq_true, wr_of, uI_at, uC_at, q_bi_s, q_bl_s, q_br_s, q_bv_s, Int.toNat_natCast, tn_1, tn_m, tn_n, Int.toNat_zero, Int.toNat_one]
      exact ih (i + 1) (uI I1 243 i 0) (by omega) (Kp_uI K (by omega) (by omega)) (fun q hq => by
        by_cases z : q = i
        · subst z; simp (disch := omega) only [↓reduceIte, lt_TI, lt_FI, le_TI, le_FI, eq_TI, eq_FI, lt_TN, lt_FN, le_TN, le_FN, eq_TN, eq_FN, and_self, and_true, true_and, and_false, false_and, or_true, true_or, or_false, false_or, not_true_eq_false, not_false_eq_true, wr_of, uI_at, uC_at, q_bi_s, q_bl_s, q_br_s, q_bv_s, Int.toNat_natCast, tn_1, tn_m, tn_n, Int.toNat_zero, Int.toNat_one]
        · rw [uI_ne (Or.inr z)]; exact e q (by omega))
  -- the numbers up to all stones
  have z1 : ∀ (r n : Nat) (I1 : Nat → Nat → Int), n + r = xs.sum - 1 → Kp 243 243 I I1 → (∀ q, q < 31 → I1 243 q = pS n q) → ∃ I', q_E (63, 31, [vr 242, vr h, vi (xs.sum : Int), vi ((n : Int) + 2), vu, vu, vu], []) (qk t u I1 J) = q_E (63, 50, [vr 242, vr h, vu, vi 0, vu, vu, vu], []) (qk t u I' J) ∧ Kp 243 243 I I' ∧ (∀ q, q < 31 → I' 243 q = pS (xs.sum - 1) q) := by
    intro r
    induction r with
    | zero =>
      intro n I1 hn K e
      rw [e63_31]
      simp (disch := omega) only [↓reduceIte, lt_TI, lt_FI, le_TI, le_FI, eq_TI, eq_FI, lt_TN, lt_FN, le_TN, le_FN, eq_TN, eq_FN, and_self, and_true, true_and, and_false, false_and, or_true, true_or, or_false, false_or, not_true_eq_false, not_false_eq_true, wr_of, uI_at, uC_at, q_bi_s, q_bl_s, q_br_s, q_bv_s, Int.toNat_natCast, tn_1, tn_m, tn_n, Int.toNat_zero, Int.toNat_one]
      exact ⟨I1, rfl, K, fun q hq => by rw [e q hq, show n = xs.sum - 1 by omega]⟩
    | succ r ih =>
      intro n I1 hn K e
      have pb := pS_b n (by omega)
      obtain ⟨I2, a1, a2, a3⟩ := c_primes (t := t) (u := u) (I := I1) (J := J) (n := n + 2) (by omega) (by omega) (b := 1) (Or.inl rfl) (P := pS n) (fun p => by have := pb p; omega) e
      rw [e63_31]
      rw [show ((n + 2 : Nat) : Int) = (n : Int) + 2 from rfl] at a1
      simp (disch := omega) only [↓reduceIte, lt_TI, lt_FI, le_TI, le_FI, eq_TI, eq_FI, lt_TN, lt_FN, le_TN, le_FN, eq_TN, eq_FN, and_self, and_true, true_and, and_false, false_and, or_true, true_or, or_false, false_or, not_true_eq_false, not_false_eq_true, wr_of, uI_at, uC_at, q_bi_s, q_bl_s, q_br_s, q_bv_s, Int.toNat_natCast, tn_1, tn_m, tn_n, Int.toNat_zero, Int.toNat_one, a1]
      rw [e63_42]
      simp (disch := omega) only [↓reduceIte, lt_TI, lt_FI, le_TI, le_FI, eq_TI, eq_FI, lt_TN, lt_FN, le_TN, le_FN, eq_TN, eq_FN, and_self, and_true, true_and, and_false, false_and, or_true, true_or, or_false, false_or, not_true_eq_false, not_false_eq_true, wr_of, uI_at, uC_at, q_bi_s, q_bl_s, q_br_s, q_bv_s, Int.toNat_natCast, tn_1, tn_m, tn_n, Int.toNat_zero, Int.toNat_one]
      obtain ⟨I3, b1, b2, b3⟩ := ih (n + 1) I2 (by omega) (Kp_tr K a3 (by omega) (by omega) (by omega) (by omega)) a2
      refine ⟨I3, ?_, b2, b3⟩
      rw [← b1]
      congr 1
  -- the hooks
  have z3 : ∀ (r j i : Nat) (B : Nat → Int) (I1 : Nat → Nat → Int), i < xs.length → j + r = xs.getD i 0 → bdd 5000 B → Kp 243 243 I I1 → (∀ q, q < 31 → I1 243 q = pC B xs i j q) → ∃ I', q_E (63, 61, [vr 242, vr h, vu, vi (i : Int), vi (j : Int), vu, vu], []) (qk t u I1 J) = q_E (63, 50, [vr 242, vr h, vu, vi ((i : Int) + 1), vu, vu, vu], []) (qk t u I' J) ∧ Kp 243 243 I I' ∧ (∀ q, q < 31 → I' 243 q = pC B xs i (xs.getD i 0) q) := by
    intro r
    induction r with
    | zero =>
      intro j i B I1 hi hj hB K e
      rw [e63_61]
      simp (disch := omega) only [↓reduceIte, lt_TI, lt_FI, le_TI, le_FI, eq_TI, eq_FI, lt_TN, lt_FN, le_TN, le_FN, eq_TN, eq_FN, and_self, and_true, true_and, and_false, false_and, or_true, true_or, or_false, false_or, not_true_eq_false, not_false_eq_true, wr_of, uI_at, uC_at, q_bi_s, q_bl_s, q_br_s, q_bv_s, Int.toNat_natCast, tn_1, tn_m, tn_n, Int.toNat_zero, Int.toNat_one, k1, c_heightAt (frm I1 K) i]
      rw [e63_68]
      simp (disch := omega) only [↓reduceIte, lt_TI, lt_FI, le_TI, le_FI, eq_TI, eq_FI, lt_TN, lt_FN, le_TN, le_FN, eq_TN, eq_FN, and_self, and_true, true_and, and_false, false_and, or_true, true_or, or_false, false_or, not_true_eq_false, not_false_eq_true, wr_of, uI_at, uC_at, q_bi_s, q_bl_s, q_br_s, q_bv_s, Int.toNat_natCast, tn_1, tn_m, tn_n, Int.toNat_zero, Int.toNat_one]
      exact ⟨I1, rfl, K, fun q hq => by rw [e q hq, show j = xs.getD i 0 by omega]⟩
    | succ r ih =>
      intro j i B I1 hi hj hB K e
      have gi := gD_sum (l := xs) i
      obtain ⟨n, en, n1, n2⟩ := hk_rng S P hi (show j < xs.getD i 0 by omega)
      have pb := pC_b S P hs hi hB j (by omega)
      obtain ⟨I2, a1, a2, a3⟩ := c_primes (t := t) (u := u) (I := I1) (J := J) (n := n) n1 (by omega) (b := -1) (Or.inr rfl) (P := pC B xs i j) (fun p => by have := pb p; omega) e
      have ch := c_hookOf (t := t) (u := u) (J := J) (frm I1 K) S (by omega) (i := i) (j := j) (by omega) (by omega)
      rw [e63_61]
      simp (disch := omega) only [↓reduceIte, lt_TI, lt_FI, le_TI, le_FI, eq_TI, eq_FI, lt_TN, lt_FN, le_TN, le_FN, eq_TN, eq_FN, and_self, and_true, true_and, and_false, false_and, or_true, true_or, or_false, false_or, not_true_eq_false, not_false_eq_true, wr_of, uI_at, uC_at, q_bi_s, q_bl_s, q_br_s, q_bv_s, Int.toNat_natCast, tn_1, tn_m, tn_n, Int.toNat_zero, Int.toNat_one, k1, c_heightAt (frm I1 K) i]
      rw [e63_68]
      rw [en] at ch
      simp (disch := omega) only [↓reduceIte, lt_TI, lt_FI, le_TI, le_FI, eq_TI, eq_FI, lt_TN, lt_FN, le_TN, le_FN, eq_TN, eq_FN, and_self, and_true, true_and, and_false, false_and, or_true, true_or, or_false, false_or, not_true_eq_false, not_false_eq_true, wr_of, uI_at, uC_at, q_bi_s, q_bl_s, q_br_s, q_bv_s, Int.toNat_natCast, tn_1, tn_m, tn_n, Int.toNat_zero, Int.toNat_one, ch]
      rw [e63_79]
      have k242 : kd 242 = 15 := rfl
      simp (disch := omega) only [↓reduceIte, lt_TI, lt_FI, le_TI, le_FI, eq_TI, eq_FI, lt_TN, lt_FN, le_TN, le_FN, eq_TN, eq_FN, and_self, and_true, true_and, and_false, false_and, or_true, true_or, or_false, false_or, not_true_eq_false, not_false_eq_true, wr_of, uI_at, uC_at, q_bi_s, q_bl_s, q_br_s, q_bv_s, Int.toNat_natCast, tn_1, tn_m, tn_n, Int.toNat_zero, Int.toNat_one, k242, a1]
      rw [e63_83]
      simp (disch := omega) only [↓reduceIte, lt_TI, lt_FI, le_TI, le_FI, eq_TI, eq_FI, lt_TN, lt_FN, le_TN, le_FN, eq_TN, eq_FN, and_self, and_true, true_and, and_false, false_and, or_true, true_or, or_false, false_or, not_true_eq_false, not_false_eq_true, wr_of, uI_at, uC_at, q_bi_s, q_bl_s, q_br_s, q_bv_s, Int.toNat_natCast, tn_1, tn_m, tn_n, Int.toNat_zero, Int.toNat_one]
      exact ih (j + 1) i B I2 hi (by omega) hB (Kp_tr K a3 (by omega) (by omega) (by omega) (by omega)) (fun q hq => by
        rw [a2 q hq]
        have ee : pC B xs i (j + 1) q = facP (hkI xs i j).toNat (-1) (pC B xs i j) q := rfl
        rw [ee, en, Int.toNat_natCast])
  have z2 : ∀ (r i : Nat) (I1 : Nat → Nat → Int), i + r = xs.length → Kp 243 243 I I1 → (∀ q, q < 31 → I1 243 q = pR (pS (xs.sum - 1)) xs i q) → ∃ I', q_E (63, 50, [vr 242, vr h, vu, vi (i : Int), vu, vu, vu], []) (qk t u I1 J) = q_E (63, 100, [vr 242, vu, vu, vl 1, vu, vi 2, vu], []) (qk t u I' J) ∧ Kp 243 243 I I' ∧ (∀ q, q < 31 → I' 243 q = pR (pS (xs.sum - 1)) xs xs.length q) := by
    intro r
    induction r with
    | zero =>
      intro i I1 hi K e
      rw [e63_50]
      simp (disch := omega) only [↓reduceIte, lt_TI, lt_FI, le_TI, le_FI, eq_TI, eq_FI, lt_TN, lt_FN, le_TN, le_FN, eq_TN, eq_FN, and_self, and_true, true_and, and_false, false_and, or_true, true_or, or_false, false_or, not_true_eq_false, not_false_eq_true, wr_of, uI_at, uC_at, q_bi_s, q_bl_s, q_br_s, q_bv_s, Int.toNat_natCast, tn_1, tn_m, tn_n, Int.toNat_zero, Int.toNat_one, k1, (frm I1 K).2.1]
      exact ⟨I1, rfl, K, fun q hq => by rw [e q hq, show i = xs.length by omega]⟩
    | succ r ih =>
      intro i I1 hi K e
      have sb := pS_b (xs.sum - 1) (by omega)
      have pb := pR_b S P hs sb i (by omega)
      have tl := take_sum_le (l := xs) i
      obtain ⟨I2, a1, a2, a3⟩ := z3 (xs.getD i 0) 0 i (pR (pS (xs.sum - 1)) xs i) I1 (by omega) (by omega) (fun p => by have := pb p; omega) K e
      rw [e63_50]
      simp (disch := omega) only [↓reduceIte, lt_TI, lt_FI, le_TI, le_FI, eq_TI, eq_FI, lt_TN, lt_FN, le_TN, le_FN, eq_TN, eq_FN, and_self, and_true, true_and, and_false, false_and, or_true, true_or, or_false, false_or, not_true_eq_false, not_false_eq_true, wr_of, uI_at, uC_at, q_bi_s, q_bl_s, q_br_s, q_bv_s, Int.toNat_natCast, tn_1, tn_m, tn_n, Int.toNat_zero, Int.toNat_one, k1, (frm I1 K).2.1]
      rw [Int.natCast_zero] at a1
      rw [a1]
      exact ih (i + 1) I2 (by omega) a2 a3
  -- the product
  have z4 : ∀ (I1 : Nat → Nat → Int) (Q : Nat → Int), (∀ q, q < 31 → I1 243 q = Q q) → bdd 5000 Q → ∀ (r i : Nat), i + r = 29 → q_E (63, 100, [vr 242, vu, vu, vl (prd Q i), vu, vi ((i : Int) + 2), vu], []) (qk t u I1 J) = some (vl (prd Q 29), qk t u I1 J) := by
    intro I1 Q e hQ r
    induction r with
    | zero =>
      intro i hi
      rw [e63_100]
      simp (disch := omega) only [↓reduceIte, lt_TI, lt_FI, le_TI, le_FI, eq_TI, eq_FI, lt_TN, lt_FN, le_TN, le_FN, eq_TN, eq_FN, and_self, and_true, true_and, and_false, false_and, or_true, true_or, or_false, false_or, not_true_eq_false, not_false_eq_true, wr_of, uI_at, uC_at, q_bi_s, q_bl_s, q_br_s, q_bv_s, Int.toNat_natCast, tn_1, tn_m, tn_n, Int.toNat_zero, Int.toNat_one]
      rw [show i = 29 by omega]
    | succ r ih =>
      intro i hi
      have qb := hQ (i + 2)
      have inner : ∀ (n m : Nat), m + n = (Q (i + 2)).toNat → q_E (63, 113, [vr 242, vu, vu, vl (pw (prd Q i) (i + 2) m), vu, vi ((i : Int) + 2), vi (m : Int)], []) (qk t u I1 J) = some (vl (prd Q 29), qk t u I1 J) := by
        intro n
        induction n with
        | zero =>
          intro m hm
          rw [e63_113]
          simp (disch := omega) only [↓reduceIte, lt_TI, lt_FI, le_TI, le_FI, eq_TI, eq_FI, lt_TN, lt_FN, le_TN, le_FN, eq_TN, eq_FN, and_self, and_true, true_and, and_false, false_and, or_true, true_or, or_false, false_or, not_true_eq_false, not_false_eq_true, wr_of, uI_at, uC_at, q_bi_s, q_bl_s, q_br_s, q_bv_s, Int.toNat_natCast, tn_1, tn_m, tn_n, Int.toNat_zero, Int.toNat_one, tn_2, e (i + 2) (by omega)]
          have := ih (i + 1) (by omega)
          rw [← this]
          rw [show m = (Q (i + 2)).toNat by omega]
          show q_E (63, 100, [vr 242, vu, vu, vl (pw (prd Q i) (i + 2) (Q (i + 2)).toNat), vu, vi ((i : Int) + 2 + 1), vu], []) (qk t u I1 J) = q_E (63, 100, [vr 242, vu, vu, vl (pw (prd Q i) (i + 2) (Q (i + 2)).toNat), vu, vi (((i + 1 : Nat) : Int) + 2), vu], []) (qk t u I1 J)
          rw [show ((i : Int) + 2 + 1) = (((i + 1 : Nat) : Int) + 2) by omega]
        | succ n ih2 =>
          intro m hm
          rw [e63_113]
          simp (disch := omega) only [↓reduceIte, lt_TI, lt_FI, le_TI, le_FI, eq_TI, eq_FI, lt_TN, lt_FN, le_TN, le_FN, eq_TN, eq_FN, and_self, and_true, true_and, and_false, false_and, or_true, true_or, or_false, false_or, not_true_eq_false, not_false_eq_true, wr_of, uI_at, uC_at, q_bi_s, q_bl_s, q_br_s, q_bv_s, Int.toNat_natCast, tn_1, tn_m, tn_n, Int.toNat_zero, Int.toNat_one, tn_2, e (i + 2) (by omega)]
          exact ih2 (m + 1) (by omega)
      rw [e63_100]
      simp (disch := omega) only [↓reduceIte, lt_TI, lt_FI, le_TI, le_FI, eq_TI, eq_FI, lt_TN, lt_FN, le_TN, le_FN, eq_TN, eq_FN, and_self, and_true, true_and, and_false, false_and, or_true, true_or, or_false, false_or, not_true_eq_false, not_false_eq_true, wr_of, uI_at, uC_at, q_bi_s, q_bl_s, q_br_s, q_bv_s, Int.toNat_natCast, tn_1, tn_m, tn_n, Int.toNat_zero, Int.toNat_one]
      exact inner (Q (i + 2)).toNat 0 (by omega)
  rw [e63_0]
  obtain ⟨I1, a1, a2, a3⟩ := z0 31 0 I (by omega) Kp_rf (fun q hq => by omega)
  obtain ⟨I2, b1, b2, b3⟩ := z1 (xs.sum - 1) 0 I1 (by omega) a2 a3
  obtain ⟨I3, c1, c2, c3⟩ := z2 xs.length 0 I2 (by omega) b2 b3
  rw [Int.natCast_zero] at a1 b1 c1
  have sb := pS_b (xs.sum - 1) (by omega)
  have pb := pR_b S P hs sb xs.length (Nat.le_refl _)
  have tl := take_sum_le (l := xs) xs.length
  have d := z4 I3 _ c3 (fun p => by have := pb p; omega) 29 0 (by omega)
  rw [a1, show (2 : Int) = (0 : Int) + 2 by omega, b1, c1]
  exact ⟨I3, d, c2⟩
end

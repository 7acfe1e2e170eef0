/-! the first of some; bits; what a text tells; guesses -/
def fsti (p : Nat → Bool) : Nat → Nat
  | 0 => 0
  | n + 1 => if p 0 then 0 else fsti (fun i => p (i + 1)) n + 1
theorem fsti_le : ∀ (n : Nat) (p : Nat → Bool), fsti p n ≤ n
  | 0, _ => Nat.le_refl _
  | n + 1, p => by
    unfold fsti
    have := fsti_le n (fun i => p (i + 1))
    split <;> omega
theorem fsti_f : ∀ (n : Nat) (p : Nat → Bool) (i : Nat), i < fsti p n → p i = false
  | 0, _, i, h => absurd h (Nat.not_lt_zero i)
  | n + 1, p, i, h => by
    unfold fsti at h
    split at h
    · omega
    · rename_i q
      cases i with
      | zero => simpa using q
      | succ i => exact fsti_f n (fun i => p (i + 1)) i (by omega)
theorem fsti_t : ∀ (n : Nat) (p : Nat → Bool), fsti p n < n → p (fsti p n) = true
  | 0, _, h => absurd h (Nat.not_lt_zero _)
  | n + 1, p, h => by
    unfold fsti at h ⊢
    split at h
    · rename_i q; rw [if_pos q]; exact q
    · rename_i q; rw [if_neg q]; exact fsti_t n (fun i => p (i + 1)) (by omega)
theorem fsti_eq {p : Nat → Bool} {n k : Nat} (hk : k ≤ n) (h1 : ∀ i, i < k → p i = false) (h2 : k < n → p k = true) : fsti p n = k := by
  rcases Nat.lt_trichotomy (fsti p n) k with q | q | q
  · have := fsti_t n p (by omega)
    rw [h1 _ q] at this; cases this
  · exact q
  · have := fsti_f n p k q
    rw [h2 (by have := fsti_le n p; omega)] at this; cases this
theorem fsti_congr {p q : Nat → Bool} {n : Nat} (h : ∀ i, i < n → p i = q i) : fsti p n = fsti q n :=
  fsti_eq (fsti_le _ _) (fun i hi => by have := fsti_le n q; rw [h i (by omega)]; exact fsti_f n q i hi) (fun hk => by rw [h _ hk]; exact fsti_t n q hk)
def bt (s u : Nat) : Nat := s / 2 ^ u % 2
theorem b_bit : ∀ s : Nat, s < 16 → ∀ u : Nat, u < 4 → q_and (q_shr (s : Int) (u : Int)) 1 = (bt s u : Int) := by decide +kernel
theorem b_or : ∀ s : Nat, s < 16 → ∀ u : Nat, u < 16 → q_or (s : Int) (u : Int) = ((s ||| u : Nat) : Int) := by decide +kernel
theorem b_and : ∀ s : Nat, s < 16 → ∀ u : Nat, u < 16 → q_and (s : Int) (u : Int) = ((s &&& u : Nat) : Int) := by decide +kernel
theorem b_shl : ∀ u : Nat, u < 5 → q_shl 1 (u : Int) = ((2 ^ u : Nat) : Int) := by decide +kernel
theorem bt_01 (s u : Nat) : bt s u = 0 ∨ bt s u = 1 := by unfold bt; omega
/-- hold, sleeps, cellars; laws; heaps; unsure ones: cellars, stones; seen: cellars, nights, heaps -/
abbrev Tt : Type := (Nat × Nat × Nat) × (Nat → Nat) × (Nat → Hp) × (Nat × (Nat → Nat) × (Nat → Nat)) × (Nat × (Nat → Nat) × (Nat → Nat) × (Nat → Nat))
abbrev tH (T : Tt) : Nat := T.1.1
abbrev tS (T : Tt) : Nat := T.1.2.1
abbrev tC (T : Tt) : Nat := T.1.2.2
abbrev tL (T : Tt) : Nat → Nat := T.2.1
abbrev tB (T : Tt) : Nat → Hp := T.2.2.1
abbrev tU (T : Tt) : Nat := T.2.2.2.1.1
abbrev tUc (T : Tt) : Nat → Nat := T.2.2.2.1.2.1
abbrev tUs (T : Tt) : Nat → Nat := T.2.2.2.1.2.2
abbrev tE (T : Tt) : Nat := T.2.2.2.2.1
abbrev tEc (T : Tt) : Nat → Nat := T.2.2.2.2.2.1
abbrev tEn (T : Tt) : Nat → Nat := T.2.2.2.2.2.2.1
abbrev tEh (T : Tt) : Nat → Nat := T.2.2.2.2.2.2.2
def TAt (I : Nat → Nat → Int) (X : Nat) (T : Tt) : Prop := TId X ∧ CAt I (X + 1) (tB T, 0) ∧ I X 7 = (tH T : Int) ∧ I X 8 = (tS T : Int) ∧ I X 9 = (tC T : Int) ∧ I X 10 = (tU T : Int) ∧ I X 11 = (tE T : Int) ∧ (∀ i, i < tC T → I (X + 11) i = (tL T i : Int)) ∧ (∀ i, i < tU T → I (X + 12) i = (tUc T i : Int) ∧ I (X + 13) i = (tUs T i : Int)) ∧ ∀ i, i < tE T → I (X + 14) i = (tEc T i : Int) ∧ I (X + 15) i = (tEn T i : Int) ∧ I (X + 16) i = (tEh T i : Int)
def TOk (T : Tt) : Prop := 2 ≤ tH T ∧ tH T ≤ 9 ∧ tS T ≤ 100 ∧ tC T ≤ 4 ∧ (∀ c, c < tC T → tL T c ≤ 3) ∧ (∀ c, SD (tB T c).1 ∧ PS (tB T c).1 ∧ (tB T c).1.sum ≤ 40 ∧ (tB T c).2 = 0) ∧ (∀ c, tC T ≤ c → tB T c = ([], 0)) ∧ tU T ≤ 4 ∧ (∀ i, i < tU T → tUc T i < tC T ∧ 1 ≤ tUs T i ∧ tUs T i ≤ 9) ∧ (∀ i j, i < j → j < tU T → tUc T i ≠ tUc T j) ∧ tE T ≤ 6 ∧ ∀ i, i < tE T → tEc T i < tC T ∧ tEn T i ≤ 99 ∧ tEh T i ≤ 60
def T0 : Tt := ((0, 0, 0), fun _ => 0, fun _ => ([], 0), (0, fun _ => 0, fun _ => 0), (0, fun _ => 0, fun _ => 0, fun _ => 0))
theorem TAt_kp {I I' : Nat → Nat → Int} {X lo hi : Nat} {T : Tt} (H : TAt I X T) (K : Kp lo hi I I') (q : X + 16 < lo ∨ hi < X) : TAt I' X T := by
  obtain ⟨h1, h2, h3, h4, h5, h6, h7, h8, h9, h10⟩ := H
  refine ⟨h1, CAt_kp h2 K (by omega), by rw [K X (by omega)]; exact h3, by rw [K X (by omega)]; exact h4, by rw [K X (by omega)]; exact h5, by rw [K X (by omega)]; exact h6, by rw [K X (by omega)]; exact h7, fun i hi => by rw [K (X + 11) (by omega)]; exact h8 i hi, fun i hi => ?_, fun i hi => ?_⟩
  · rw [K (X + 12) (by omega), K (X + 13) (by omega)]; exact h9 i hi
  · rw [K (X + 14) (by omega), K (X + 15) (by omega), K (X + 16) (by omega)]; exact h10 i hi
/-- the place among the unsure ones -/
def upl (T : Tt) (c : Nat) : Nat := fsti (fun u => decide (tUc T u = c)) (tU T)
/-- whether it is so that on the night seen there were so many heaps, if there had been one more -/
def so (T : Tt) (s more : Nat) : Bool := decide ((nti (tL T (tEc T s)) (tH T) (tEn T s) (if more = 0 then tB T (tEc T s) else (ins more (tB T (tEc T s)).1, 0))).1.length = tEh T s)
def mor (T : Tt) (set c : Nat) : Nat := if upl T c < tU T ∧ bt set (upl T c) = 1 then tUs T (upl T c) else 0
def fitL (T : Tt) : List Nat := (List.range (2 ^ tU T)).filter (fun set => (List.range (tE T)).all (fun s => so T s (mor T set (tEc T s))))
def wth (F : List Nat) (u : Nat) : Nat := F.countP (fun s => decide (bt s u = 1))
def lvs (F : List Nat) (u : Nat) : Nat := max (wth F u) (F.length - wth F u)
def bstI (F : List Nat) : Nat → Int
  | 0 => -2
  | n + 1 => if bstI F n = -2 ∨ lvs F n < lvs F (bstI F n).toNat then (n : Int) else bstI F n
def someL (F : List Nat) : Nat := F.foldl (fun a b => a ||| b) 0
def allL (F : List Nat) : Nat := F.tail.foldl (fun a b => a &&& b) (F.getD 0 0)
/-- first so many by which it isn't so, as told -/
def fnso (T : Tt) : Int := if fsti (fun s => !so T s 0) (tE T) < tE T then (fsti (fun s => !so T s 0) (tE T) : Int) else -2
theorem bx_ok {T : Tt} (h : TOk T) (c more : Nat) (hm : more ≤ 9) : HOk (if more = 0 then tB T c else (ins more (tB T c).1, 0)) := by
  obtain ⟨-, -, -, -, -, h6, -⟩ := h
  obtain ⟨h1, h2, h3, h4⟩ := h6 c
  split
  · exact ⟨h1, h2, by omega⟩
  · exact ⟨ins_sd _ _ h1, ins_ps (by omega) h2, by show (ins more (tB T c).1).sum + 0 ≤ 60; rw [ins_sum]; omega⟩
theorem fit_lt {T : Tt} {s : Nat} (h : s ∈ fitL T) : s < 2 ^ tU T := List.mem_range.mp (List.mem_filter.mp h).1
theorem pow_le_16 {n : Nat} (h : n ≤ 4) : 2 ^ n ≤ 16 := Nat.pow_le_pow_right (by omega : 0 < 2) h
section
variable {t u : Nat} {I J : Nat → Nat → Int} {X : Nat} {T : Tt}
theorem c_unsurePlace (A : TAt I X T) (hU : tU T ≤ 4) (c : Nat) : q_E (94, 0, [vr X, vi (c : Int), vu], []) (qk t u I J) = some (vi (if upl T c < tU T then (upl T c : Int) else -1), qk t u I J) := by
  obtain ⟨⟨k1, k2, k3, k4, ⟨l1, l2, l3, l4, l5, l6⟩, k6⟩, h2, h3, h4, h5, h6, h7, h8, h9, h10⟩ := A
  obtain ⟨m1, m2⟩ := k4 1 (by omega)
  have loop : ∀ n i : Nat, i + n = tU T → (∀ j, j < i → tUc T j ≠ c) → q_E (94, 2, [vr X, vi (c : Int), vi (i : Int)], []) (qk t u I J) = some (vi (if upl T c < tU T then (upl T c : Int) else -1), qk t u I J) := by
    intro n
    induction n with
    | zero =>
      intro i hi hne
      have e : upl T c = tU T := fsti_eq (Nat.le_refl _) (fun j hj => decide_eq_false (hne j (by omega))) (fun q => by omega)
      rw [e94_2, e]
      simp (disch := omega) only [↓reduceIte, lt_TI, lt_FI, le_TI, le_FI, eq_TI, eq_FI, lt_TN, lt_FN, le_TN, le_FN, eq_TN, eq_FN, and_self, and_true, true_and, and_false, false_and, or_true, true_or, or_false, false_or, not_true_eq_false, not_false_eq_true, wr_of, uI_at, uC_at, q_bi_s, q_bl_s, q_br_s, q_bv_s, Int.toNat_natCast, tn_1, tn_m, tn_n, Int.toNat_zero, Int.toNat_one, k1, h6]
    | succ n ih =>
      intro i hi hne
      rw [e94_2]
      have hv := (h9 i (by omega)).1
      by_cases q : tUc T i = c
      · have e : upl T c = i := fsti_eq (by omega) (fun j hj => decide_eq_false (hne j hj)) (fun _ => decide_eq_true q)
        rw [e]
        simp (disch := omega) only [↓reduceIte, lt_TI, lt_FI, le_TI, le_FI, eq_TI, eq_FI, lt_TN, lt_FN, le_TN, le_FN, eq_TN, eq_FN, and_self, and_true, true_and, and_false, false_and, or_true, true_or, or_false, false_or, not_true_eq_false, not_false_eq_true, wr_of, uI_at, uC_at, q_bi_s, q_bl_s, q_br_s, q_bv_s, Int.toNat_natCast, tn_1, tn_m, tn_n, Int.toNat_zero, Int.toNat_one, k1, h6, m1, m2, l2, hv, q]
      · simp (disch := omega) only [↓reduceIte, lt_TI, lt_FI, le_TI, le_FI, eq_TI, eq_FI, lt_TN, lt_FN, le_TN, le_FN, eq_TN, eq_FN, and_self, and_true, true_and, and_false, false_and, or_true, true_or, or_false, false_or, not_true_eq_false, not_false_eq_true, wr_of, uI_at, uC_at, q_bi_s, q_bl_s, q_br_s, q_bv_s, Int.toNat_natCast, tn_1, tn_m, tn_n, Int.toNat_zero, Int.toNat_one, k1, h6, m1, m2, l2, hv]
        exact ih (i + 1) (by omega) (fun j hj => by
          by_cases z : j = i
          · rw [z]; exact q
          · exact hne j (by omega))
  rw [e94_0]
  exact loop (tU T) 0 (by omega) (fun j hj => by omega)
theorem c_isSo {W : Nat} (A : TAt I X T) (ok : TOk T) {s : Nat} (hs : s < tE T) {more : Nat} (hm : more ≤ 9) (w : WId W) (hw : W = 232 ∨ W = 237) : ∃ I', q_E (14, 0, [vr 227, vr X, vi (s : Int), vi (more : Int), vr W, vu], []) (qk t u I J) = some (vi (if so T s more = true then 1 else 0), qk t u I' J) ∧ (∀ a, a ≠ 230 → a ≠ 231 → (a < W ∨ W + 4 < a) → I' a = I a) := by
  have hok := bx_ok ok (tEc T s) more hm
  obtain ⟨⟨k1, k2, k3, k4, ⟨l1, l2, l3, l4, l5, l6⟩, k6⟩, h2, h3, h4, h5, h6, h7, h8, h9, h10⟩ := A
  obtain ⟨o1, o2, o3, o4, o5, o6, o7, o8, o9, o10, o11, o12⟩ := ok
  obtain ⟨m1, m2⟩ := k4 3 (by omega)
  obtain ⟨n1, n2⟩ := k4 0 (by omega)
  obtain ⟨p1, p2⟩ := k4 4 (by omega)
  obtain ⟨q1, q2⟩ := k4 5 (by omega)
  obtain ⟨v1, v2, v3⟩ := h10 s hs
  obtain ⟨c1, c2, c3⟩ := o12 s hs
  obtain ⟨b1, b2, b3, b4, b5, b6, b7⟩ := h2.1
  obtain ⟨d1, d2⟩ := b7 (tEc T s) (by omega)
  obtain ⟨I1, a1, a2, a3⟩ := c_copyFrom (t := t) (u := u) (J := J) HId_230 (h2.2.2 (tEc T s) (by omega)) (by omega)
  have hlay : ∃ I2, q_E (29, 0, [vr 230, vi (more : Int), vu], []) (qk t u I1 J) = some (vu, qk t u I2 J) ∧ HAt I2 230 (if more = 0 then tB T (tEc T s) else (ins more (tB T (tEc T s)).1, 0)).1 (if more = 0 then tB T (tEc T s) else (ins more (tB T (tEc T s)).1, 0)).2 ∧ Kp 230 231 I1 I2 := by
    obtain ⟨r1, r2, r3, r4⟩ := o6 (tEc T s)
    have rl := len_sum r2
    by_cases z : more = 0
    · subst z
      rw [if_pos rfl, c_lay0 (by omega)]
      exact ⟨I1, rfl, a2, Kp_rf⟩
    · rw [if_neg z]
      obtain ⟨I2, e1, e2, e3⟩ := c_lay (t := t) (u := u) (J := J) a2 r1 (z := more) (by omega) (by omega) (show (tB T (tEc T s)).1.length < 60 by omega)
      exact ⟨I2, e1, by show HAt I2 230 _ 0; rw [← r4]; exact e2, e3⟩
  obtain ⟨I2, e1, e2, e3⟩ := hlay
  obtain ⟨I3, f1, f2, f3⟩ := c_wbegin (t := t) (u := u) (J := J) (law := tL T (tEc T s)) (hold := tH T) w e2 (by omega)
  obtain ⟨I4, g1, g2, g3⟩ := c_goOn (t := t) (u := u) (J := J) (o5 _ (by omega)) o1 o2 (N := tEn T s) (by omega) hok f2
  have fr : ∀ a, a ≠ 230 → a ≠ 231 → (a < W ∨ W + 4 < a) → I4 a = I a := fun a x1 x2 x3 => by
    rw [g3 a x3, f3 a x3, e3 a (by omega), a3 a (by omega)]
  have fr2 : ∀ a, a ≠ 230 → a ≠ 231 → I2 a = I a := fun a x1 x2 => by
    rw [e3 a (by omega), a3 a (by omega)]
  have fr3 : ∀ a, a ≠ 230 → a ≠ 231 → (a < W ∨ W + 4 < a) → I3 a = I a := fun a x1 x2 x3 => by
    rw [f3 a x3, fr2 a x1 x2]
  have hX : X + 16 < W ∨ W + 4 < X := by omega
  have hX2 : X + 16 < 227 ∨ 231 < X := by omega
  rw [e14_0]
  simp (disch := omega) only [↓reduceIte, lt_TI, lt_FI, le_TI, le_FI, eq_TI, eq_FI, lt_TN, lt_FN, le_TN, le_FN, eq_TN, eq_FN, and_self, and_true, true_and, and_false, false_and, or_true, true_or, or_false, false_or, not_true_eq_false, not_false_eq_true, wr_of, uI_at, uC_at, q_bi_s, q_bl_s, q_br_s, q_bv_s, Int.toNat_natCast, tn_1, tn_m, tn_n, Int.toNat_zero, Int.toNat_one, k1, m1, m2, l4, v1, k3, b1, b4, b5, b6, d2, a1]
  rw [e14_25]
  simp (disch := omega) only [↓reduceIte, lt_TI, lt_FI, le_TI, le_FI, eq_TI, eq_FI, lt_TN, lt_FN, le_TN, le_FN, eq_TN, eq_FN, and_self, and_true, true_and, and_false, false_and, or_true, true_or, or_false, false_or, not_true_eq_false, not_false_eq_true, wr_of, uI_at, uC_at, q_bi_s, q_bl_s, q_br_s, q_bv_s, Int.toNat_natCast, tn_1, tn_m, tn_n, Int.toNat_zero, Int.toNat_one, e1]
  rw [e14_33]
  simp (disch := omega) only [↓reduceIte, lt_TI, lt_FI, le_TI, le_FI, eq_TI, eq_FI, lt_TN, lt_FN, le_TN, le_FN, eq_TN, eq_FN, and_self, and_true, true_and, and_false, false_and, or_true, true_or, or_false, false_or, not_true_eq_false, not_false_eq_true, wr_of, uI_at, uC_at, q_bi_s, q_bl_s, q_br_s, q_bv_s, Int.toNat_natCast, tn_1, tn_m, tn_n, Int.toNat_zero, Int.toNat_one, k1, n1, n2, l1, fr2 (X + 11 + 0) (by omega) (by omega), fr2 (X + 11) (by omega) (by omega), fr2 X (by omega) (by omega), Nat.add_zero, h8 (tEc T s) (by omega), h3, w.1, f1]
  rw [e14_53]
  simp (disch := omega) only [↓reduceIte, lt_TI, lt_FI, le_TI, le_FI, eq_TI, eq_FI, lt_TN, lt_FN, le_TN, le_FN, eq_TN, eq_FN, and_self, and_true, true_and, and_false, false_and, or_true, true_or, or_false, false_or, not_true_eq_false, not_false_eq_true, wr_of, uI_at, uC_at, q_bi_s, q_bl_s, q_br_s, q_bv_s, Int.toNat_natCast, tn_1, tn_m, tn_n, Int.toNat_zero, Int.toNat_one, k1, p1, p2, l5, w.1, fr3 (X + 11 + 4) (by omega) (by omega) (by omega), v2, g1]
  rw [e14_64]
  obtain ⟨y, sm, nm, ⟨w', hh, -⟩, -⟩ := g2
  have rr := (w.2.2.2.2 t u).1
  simp (disch := omega) only [↓reduceIte, lt_TI, lt_FI, le_TI, le_FI, eq_TI, eq_FI, lt_TN, lt_FN, le_TN, le_FN, eq_TN, eq_FN, and_self, and_true, true_and, and_false, false_and, or_true, true_or, or_false, false_or, not_true_eq_false, not_false_eq_true, wr_of, uI_at, uC_at, q_bi_s, q_bl_s, q_br_s, q_bv_s, Int.toNat_natCast, tn_1, tn_m, tn_n, Int.toNat_zero, Int.toNat_one, w.1, w.2.2.1.1, rr, k1, q1, q2, l6, fr (X + 11 + 5) (by omega) (by omega) (by omega), v3, hh.2.1]
  refine ⟨I4, ?_, fr⟩
  by_cases z : (nti (tL T (tEc T s)) (tH T) (tEn T s) (if more = 0 then tB T (tEc T s) else (ins more (tB T (tEc T s)).1, 0))).1.length = tEh T s
  · rw [if_pos (show so T s more = true from decide_eq_true z)]
    simp (disch := omega) only [↓reduceIte, lt_TI, lt_FI, le_TI, le_FI, eq_TI, eq_FI, lt_TN, lt_FN, le_TN, le_FN, eq_TN, eq_FN, and_self, and_true, true_and, and_false, false_and, or_true, true_or, or_false, false_or, not_true_eq_false, not_false_eq_true, wr_of, uI_at, uC_at, q_bi_s, q_bl_s, q_br_s, q_bv_s, Int.toNat_natCast, tn_1, tn_m, tn_n, Int.toNat_zero, Int.toNat_one, z]
  · rw [if_neg (show ¬ so T s more = true from fun q => z (of_decide_eq_true q))]
    simp (disch := omega) only [↓reduceIte, lt_TI, lt_FI, le_TI, le_FI, eq_TI, eq_FI, lt_TN, lt_FN, le_TN, le_FN, eq_TN, eq_FN, and_self, and_true, true_and, and_false, false_and, or_true, true_or, or_false, false_or, not_true_eq_false, not_false_eq_true, wr_of, uI_at, uC_at, q_bi_s, q_bl_s, q_br_s, q_bv_s, Int.toNat_natCast, tn_1, tn_m, tn_n, Int.toNat_zero, Int.toNat_one]
end

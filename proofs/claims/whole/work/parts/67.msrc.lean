/-! the model's sources -/
section
variable {t u : Nat} {I J : Nat → Nat → Int} {S : St}
/-- the last of its height, high enough -/
def nwL (l : List Nat) (i : Nat) : Bool := lst l i && decide (l.length ≤ l.getD i 0 + 1)
theorem fl_step {l : List Nat} (S : SD l) (p : Nat → Bool) : ∀ n, n < l.length → (List.range (n + 1)).countP (fun i => isF l i && p (l.getD i 0)) = (List.range n).countP (fun i => lst l i && p (l.getD i 0)) + if p (l.getD n 0) = true then 1 else 0
  | 0, _ => by
    rw [cr_s]
    have f : isF l 0 = true := decide_eq_true (Or.inl rfl)
    rw [f, Bool.true_and]
    rfl
  | n + 1, h => by
    rw [cr_s, fl_step S p n (by omega), cr_s (fun i => lst l i && p (l.getD i 0)) n]
    have s := SD_gD S (show n ≤ n + 1 by omega)
    by_cases q : l.getD (n + 1) 0 = l.getD n 0
    · have f : isF l (n + 1) = false := decide_eq_false (fun z => z.elim (by omega) (fun z => z (by rw [Nat.add_sub_cancel]; exact q)))
      have g : lst l n = false := decide_eq_false (by omega)
      rw [f, g, q]
      simp
    · have f : isF l (n + 1) = true := decide_eq_true (Or.inr (by rw [Nat.add_sub_cancel]; exact q))
      have g : lst l n = true := decide_eq_true (by omega)
      rw [f, g]
      simp
theorem cnw_step {l : List Nat} (S : SD l) {n : Nat} (h : n < l.length) : (List.range (n + 1)).countP (cnw l) = (List.range n).countP (nwL l) + if l.length ≤ l.getD n 0 + 1 then 1 else 0 := by
  have := fl_step S (fun a => decide (l.length ≤ a + 1)) n h
  simp only [decide_eq_true_eq] at this
  exact this
theorem nwL_all {l : List Nat} (S : SD l) (P : PS l) (h : l ≠ []) : (List.range l.length).countP (nwL l) = srcN l := by
  have hl : 0 < l.length := by cases q : l with | nil => exact absurd q h | cons a l => simp
  unfold srcN
  rw [if_neg h]
  obtain ⟨n, hn⟩ : ∃ n, l.length = n + 1 := ⟨l.length - 1, by omega⟩
  have e := cnw_step S (show n < l.length by omega)
  have g : lst l n = true := decide_eq_true (by
    rw [gD_ge (show l.length ≤ n + 1 by omega)]
    exact PS_gD P (by omega))
  rw [← hn] at e
  have e2 := cr_s (nwL l) n
  rw [← hn] at e2
  rw [e, e2]
  unfold nwL
  rw [g, Bool.true_and]
  simp
theorem nwL_0 {l : List Nat} {i : Nat} (h : l.length ≤ i) : nwL l i = false := by
  unfold nwL lst
  rw [gD_ge (l := l) (i := i) h, gD_ge (l := l) (i := i + 1) (by omega)]
  rfl
theorem nwL_60 {l : List Nat} : ∀ n, l.length ≤ n → (List.range n).countP (nwL l) = (List.range l.length).countP (nwL l) := by
  intro n h
  induction h with
  | refl => rfl
  | step h ih => rw [Nat.succ_eq_add_one, cr_s, ih, nwL_0 h]; rfl
theorem cr_mono (p : Nat → Bool) {a b : Nat} (h : a ≤ b) : (List.range a).countP p ≤ (List.range b).countP p := by
  induction h with
  | refl => exact Nat.le_refl _
  | step h ih => rw [Nat.succ_eq_add_one, cr_s]; omega
/-- the k-th one: there is one, if k are fewer than all -/
theorem cr_ivt (p : Nat → Bool) (k : Nat) : ∀ n, k < (List.range n).countP p → ∃ i, i < n ∧ p i = true ∧ (List.range i).countP p = k
  | 0, h => absurd h (Nat.not_lt_zero _)
  | n + 1, h => by
    rw [cr_s] at h
    by_cases q : k < (List.range n).countP p
    · obtain ⟨i, h1, h2, h3⟩ := cr_ivt p k n q
      exact ⟨i, by omega, h2, h3⟩
    · cases e : p n with
      | false => rw [e] at h; simp at h; omega
      | true => rw [e] at h; simp at h; exact ⟨n, by omega, e, by omega⟩
/-- the first and the last of the k-th height that can be new -/
theorem kf_h {l : List Nat} (S : SD l) (P : PS l) {k h : Nat} (w : nwL l h = true) (e : (List.range h).countP (nwL l) = k) : kfst l k ≤ h ∧ kfst l k < l.length ∧ ∀ n, kfst l k ≤ n → n < h → l.getD n 0 = l.getD (n + 1) 0 := by
  have hh : h < l.length := by
    rcases Nat.lt_or_ge h l.length with z | z
    · exact z
    · rw [nwL_0 z] at w; exact absurd w (by decide)
  have w2 := w
  unfold nwL at w2
  rw [Bool.and_eq_true] at w2
  have w3 := of_decide_eq_true w2.2
  have s1 := cnw_step S hh
  rw [if_pos w3, e] at s1
  obtain ⟨i, i1, i2, i3⟩ := cr_ivt (cnw l) k (h + 1) (by omega)
  have kf : kfst l k ≤ i := by
    rcases Nat.lt_or_ge i (kfst l k) with z | z
    · have := fsti_f l.length (fun i => cnw l i && decide ((List.range i).countP (cnw l) = k)) i z
      rw [i2, i3] at this
      simp at this
    · exact z
  have kl : kfst l k < l.length := by omega
  have kt := fsti_t l.length (fun i => cnw l i && decide ((List.range i).countP (cnw l) = k)) kl
  rw [Bool.and_eq_true] at kt
  have c1 := of_decide_eq_true kt.2
  have c2 : cnw l (kfst l k) = true := kt.1
  change (List.range (kfst l k)).countP (cnw l) = k at c1
  generalize kfst l k = f at *
  refine ⟨by omega, kl, fun n h1 h2 => ?_⟩
  have s2 := cnw_step S (n := f) kl
  have c3 := c2
  unfold cnw at c3
  rw [Bool.and_eq_true] at c3
  have c4 := of_decide_eq_true c3.2
  rw [if_pos c4, cr_s, c2, c1] at s2
  simp at s2
  have m1 := cr_mono (nwL l) h1
  have m2 := cr_mono (nwL l) (show n + 1 ≤ h by omega)
  rw [cr_s] at m2
  have sd := SD_gD S (show n ≤ n + 1 by omega)
  have sd2 := SD_gD S (show n + 1 ≤ h by omega)
  rcases Nat.lt_or_ge (l.getD (n + 1) 0) (l.getD n 0) with z | z
  · exfalso
    have y : nwL l n = true := by
      unfold nwL lst
      rw [Bool.and_eq_true]
      exact ⟨decide_eq_true z, decide_eq_true (by omega)⟩
    rw [y] at m2
    simp at m2
    omega
  · omega
theorem kf_eq {l : List Nat} {f h : Nat} (H : ∀ n, f ≤ n → n < h → l.getD n 0 = l.getD (n + 1) 0) : ∀ r n, n + r = h → f ≤ n → l.getD n 0 = l.getD h 0 := by
  intro r
  induction r with
  | zero => intro n hn _; rw [show n = h by omega]
  | succ r ih => intro n hn hf; rw [H n hf (by omega)]; exact ih (n + 1) (by omega) (by omega)
theorem m_isNew {c : Nat} (hc : c < 4) {L : List Nat} (H : LA I 272 (61 * c) L) (S : SD L) (P : PS L) (hl : L.length ≤ 60) (hs : L.sum ≤ 60) {i : Nat} (hi : i < 60) : q_E (248, 0, [vr 265, vi (c : Int), vi (i : Int), vu, vu], []) (qk t u I J) = some (vi (if nwL L i = true then 1 else 0), qk t u I J) := by
  have v := H i hi
  have gb := gD_sum (l := L) i
  have k1 := c_manyOf (t := t) (u := u) (J := J) A272 (p := 61 * c) (by omega) H P hl
  rw [c_61] at k1
  by_cases q0 : L.length ≤ i
  · rw [nwL_0 q0]
    rw [gD_ge q0, Int.natCast_zero] at v
    by_cases z : i + 1 = 60
    · simp (disch := omega) only [↓reduceIte, lt_TI, lt_FI, le_TI, le_FI, eq_TI, eq_FI, lt_TN, lt_FN, le_TN, le_FN, eq_TN, eq_FN, and_self, and_true, true_and, and_false, false_and, or_true, true_or, or_false, false_or, not_true_eq_false, not_false_eq_true, wr_of, uI_at, uC_at, q_bi_s, q_bl_s, q_br_s, q_bv_s, Int.toNat_natCast, tn_1, tn_m, tn_n, Int.toNat_zero, Int.toNat_one, e248_0, tn_61a, v, Bool.false_eq_true]
    · have v2 := H (i + 1) (by omega)
      rw [gD_ge (by omega), Int.natCast_zero] at v2
      simp (disch := omega) only [↓reduceIte, lt_TI, lt_FI, le_TI, le_FI, eq_TI, eq_FI, lt_TN, lt_FN, le_TN, le_FN, eq_TN, eq_FN, and_self, and_true, true_and, and_false, false_and, or_true, true_or, or_false, false_or, not_true_eq_false, not_false_eq_true, wr_of, uI_at, uC_at, q_bi_s, q_bl_s, q_br_s, q_bv_s, Int.toNat_natCast, tn_1, tn_m, tn_n, Int.toNat_zero, Int.toNat_one, e248_0, tn_61a, tn_61s, v, v2, Bool.false_eq_true]
  · have p := PS_gD P (show i < L.length by omega)
    have sd := SD_gD S (show i ≤ i + 1 by omega)
    by_cases q : L.getD (i + 1) 0 < L.getD i 0
    · have g : lst L i = true := decide_eq_true q
      unfold nwL
      rw [g, Bool.true_and]
      by_cases z : i + 1 = 60
      · by_cases y : L.length ≤ L.getD i 0 + 1
        · simp only [decide_eq_true y]
          simp (disch := omega) only [↓reduceIte, lt_TI, lt_FI, le_TI, le_FI, eq_TI, eq_FI, lt_TN, lt_FN, le_TN, le_FN, eq_TN, eq_FN, and_self, and_true, true_and, and_false, false_and, or_true, true_or, or_false, false_or, not_true_eq_false, not_false_eq_true, wr_of, uI_at, uC_at, q_bi_s, q_bl_s, q_br_s, q_bv_s, Int.toNat_natCast, tn_1, tn_m, tn_n, Int.toNat_zero, Int.toNat_one, e248_0, tn_61a, v, k1, e248_73]
        · simp only [decide_eq_false y]
          simp (disch := omega) only [↓reduceIte, lt_TI, lt_FI, le_TI, le_FI, eq_TI, eq_FI, lt_TN, lt_FN, le_TN, le_FN, eq_TN, eq_FN, and_self, and_true, true_and, and_false, false_and, or_true, true_or, or_false, false_or, not_true_eq_false, not_false_eq_true, wr_of, uI_at, uC_at, q_bi_s, q_bl_s, q_br_s, q_bv_s, Int.toNat_natCast, tn_1, tn_m, tn_n, Int.toNat_zero, Int.toNat_one, e248_0, tn_61a, v, k1, e248_73, Bool.false_eq_true]
      · have v2 := H (i + 1) (by omega)
        by_cases y : L.length ≤ L.getD i 0 + 1
        · simp only [decide_eq_true y]
          simp (disch := omega) only [↓reduceIte, lt_TI, lt_FI, le_TI, le_FI, eq_TI, eq_FI, lt_TN, lt_FN, le_TN, le_FN, eq_TN, eq_FN, and_self, and_true, true_and, and_false, false_and, or_true, true_or, or_false, false_or, not_true_eq_false, not_false_eq_true, wr_of, uI_at, uC_at, q_bi_s, q_bl_s, q_br_s, q_bv_s, Int.toNat_natCast, tn_1, tn_m, tn_n, Int.toNat_zero, Int.toNat_one, e248_0, tn_61a, tn_61s, v, v2, k1, e248_73]
        · simp only [decide_eq_false y]
          simp (disch := omega) only [↓reduceIte, lt_TI, lt_FI, le_TI, le_FI, eq_TI, eq_FI, lt_TN, lt_FN, le_TN, le_FN, eq_TN, eq_FN, and_self, and_true, true_and, and_false, false_and, or_true, true_or, or_false, false_or, not_true_eq_false, not_false_eq_true, wr_of, uI_at, uC_at, q_bi_s, q_bl_s, q_br_s, q_bv_s, Int.toNat_natCast, tn_1, tn_m, tn_n, Int.toNat_zero, Int.toNat_one, e248_0, tn_61a, tn_61s, v, v2, k1, e248_73, Bool.false_eq_true]
    · have g : lst L i = false := decide_eq_false q
      have z : i + 1 < L.length := by
        rcases Nat.lt_or_ge (i + 1) L.length with z | z
        · exact z
        · rw [gD_ge z] at q; omega
      have v2 := H (i + 1) (by omega)
      unfold nwL
      rw [g, Bool.false_and]
      simp (disch := omega) only [↓reduceIte, lt_TI, lt_FI, le_TI, le_FI, eq_TI, eq_FI, lt_TN, lt_FN, le_TN, le_FN, eq_TN, eq_FN, and_self, and_true, true_and, and_false, false_and, or_true, true_or, or_false, false_or, not_true_eq_false, not_false_eq_true, wr_of, uI_at, uC_at, q_bi_s, q_bl_s, q_br_s, q_bv_s, Int.toNat_natCast, tn_1, tn_m, tn_n, Int.toNat_zero, Int.toNat_one, e248_0, tn_61a, tn_61s, v, v2, Bool.false_eq_true]
theorem m_sources (V : MInv S I) (c : Int) : ∃ I', q_E (249, 0, [vr 265, vi c, vu, vu], []) (qk t u I J) = some (vi (sp_sources S c).1, qk t u I' J) ∧ QM (sp_sources S c).2 I I' := by
  have A := MInv_A V
  have h4 := tC_4 V.1.1
  unfold sp_sources spC
  by_cases hc : isCl S c
  · simp only [if_pos hc]
    obtain ⟨m, rfl⟩ : ∃ m : Nat, c = (m : Int) := ⟨c.toNat, by omega⟩
    have r1 := m_cell_ok (t := t) (u := u) (J := J) A hc
    have hm : m < tC (sTo S) := by omega
    obtain ⟨H, ok⟩ := MQs_row A (show m < 4 by omega)
    obtain ⟨G, -⟩ := MQs_row V.1 (show m < 4 by omega)
    obtain ⟨o1, o2, o3⟩ := id ok
    have hl := HOk_len ok
    simp only [Int.toNat_natCast]
    have v0 := G.1 0 (by omega)
    rw [Nat.add_zero] at v0
    by_cases q : ((sNw S).1 m).1 = []
    · rw [q, List.getD_nil, Int.natCast_zero] at v0
      have e : srcN ((sNw S).1 m).1 = 1 := if_pos q
      rw [e]
      simp (disch := omega) only [↓reduceIte, lt_TI, lt_FI, le_TI, le_FI, eq_TI, eq_FI, lt_TN, lt_FN, le_TN, le_FN, eq_TN, eq_FN, and_self, and_true, true_and, and_false, false_and, or_true, true_or, or_false, false_or, not_true_eq_false, not_false_eq_true, wr_of, uI_at, uC_at, q_bi_s, q_bl_s, q_br_s, q_bv_s, Int.toNat_natCast, tn_1, tn_m, tn_n, Int.toNat_zero, Int.toNat_one, r1, e177_0, tn_61, v0, e249_0, e249_4, e249_49, e249_9, e249_17, Int.natCast_one]
      exact ⟨_, rfl, QM_ok QF_rf⟩
    have hl0 : 0 < ((sNw S).1 m).1.length := by cases e : ((sNw S).1 m).1 with | nil => exact absurd e q | cons a l => simp
    have g0 := PS_gD o2 hl0
    have loop : ∀ r i : Nat, i + r = 60 → q_E (249, 36, [vr 265, vi (m : Int), vi ((List.range i).countP (nwL ((sNw S).1 m).1) : Int), vi (i : Int)], []) (qk t u (uI (uI I 265 0 0) 265 11 0) J) = some (vi (srcN ((sNw S).1 m).1 : Int), qk t u (uI (uI I 265 0 0) 265 11 0) J) := by
      intro r
      induction r with
      | zero =>
        intro i hi
        rw [e249_36]
        simp (disch := omega) only [↓reduceIte, lt_TI, lt_FI, le_TI, le_FI, eq_TI, eq_FI, lt_TN, lt_FN, le_TN, le_FN, eq_TN, eq_FN, and_self, and_true, true_and, and_false, false_and, or_true, true_or, or_false, false_or, not_true_eq_false, not_false_eq_true, wr_of, uI_at, uC_at, q_bi_s, q_bl_s, q_br_s, q_bv_s, Int.toNat_natCast, tn_1, tn_m, tn_n, Int.toNat_zero, Int.toNat_one]
        rw [nwL_60 i (by omega), nwL_all o1 o2 q]
      | succ r ih =>
        intro i hi
        have cb := cr_le (nwL ((sNw S).1 m).1) i
        have b1 := m_isNew (t := t) (u := u) (J := J) (show m < 4 by omega) H.1 o1 o2 hl (by omega) (i := i) (by omega)
        have e := ih (i + 1) (by omega)
        rw [cr_s] at e
        rw [e249_36]
        by_cases y : nwL ((sNw S).1 m).1 i = true
        · rw [if_pos y] at b1 e
          simp (disch := omega) only [↓reduceIte, lt_TI, lt_FI, le_TI, le_FI, eq_TI, eq_FI, lt_TN, lt_FN, le_TN, le_FN, eq_TN, eq_FN, and_self, and_true, true_and, and_false, false_and, or_true, true_or, or_false, false_or, not_true_eq_false, not_false_eq_true, wr_of, uI_at, uC_at, q_bi_s, q_bl_s, q_br_s, q_bv_s, Int.toNat_natCast, tn_1, tn_m, tn_n, Int.toNat_zero, Int.toNat_one, b1, e249_49]
          exact e
        · rw [if_neg y] at b1 e
          simp (disch := omega) only [↓reduceIte, lt_TI, lt_FI, le_TI, le_FI, eq_TI, eq_FI, lt_TN, lt_FN, le_TN, le_FN, eq_TN, eq_FN, and_self, and_true, true_and, and_false, false_and, or_true, true_or, or_false, false_or, not_true_eq_false, not_false_eq_true, wr_of, uI_at, uC_at, q_bi_s, q_bl_s, q_br_s, q_bv_s, Int.toNat_natCast, tn_1, tn_m, tn_n, Int.toNat_zero, Int.toNat_one, b1, e249_49, Int.add_zero]
          exact e
    have b1 := loop 60 0 (by omega)
    rw [Int.natCast_zero] at b1
    rw [show (List.range 0).countP (nwL ((sNw S).1 m).1) = 0 from rfl, Int.natCast_zero] at b1
    simp (disch := omega) only [↓reduceIte, lt_TI, lt_FI, le_TI, le_FI, eq_TI, eq_FI, lt_TN, lt_FN, le_TN, le_FN, eq_TN, eq_FN, and_self, and_true, true_and, and_false, false_and, or_true, true_or, or_false, false_or, not_true_eq_false, not_false_eq_true, wr_of, uI_at, uC_at, q_bi_s, q_bl_s, q_br_s, q_bv_s, Int.toNat_natCast, tn_1, tn_m, tn_n, Int.toNat_zero, Int.toNat_one, r1, e177_0, e178_0, e249_0, e249_4, e249_49, e249_9, e249_17, b1, tn_61, v0]
    exact ⟨_, rfl, QM_ok QF_rf⟩
  · simp only [if_neg hc]
    have r1 := m_cell_no (t := t) (u := u) (J := J) A hc
    simp (disch := omega) only [↓reduceIte, lt_TI, lt_FI, le_TI, le_FI, eq_TI, eq_FI, lt_TN, lt_FN, le_TN, le_FN, eq_TN, eq_FN, and_self, and_true, true_and, and_false, false_and, or_true, true_or, or_false, false_or, not_true_eq_false, not_false_eq_true, wr_of, uI_at, uC_at, q_bi_s, q_bl_s, q_br_s, q_bv_s, Int.toNat_natCast, tn_1, tn_m, tn_n, Int.toNat_zero, Int.toNat_one, r1, e177_0, e178_0, e249_0, e249_4, e249_49, e249_9, e249_17]
    exact ⟨_, rfl, QM_no QF_rf⟩
/-- what the model lays: all others higher by one, then ones -/
def lsr (l : List Nat) (h i : Nat) : Nat := if i + 1 < l.length then (if i < h then l.getD i 0 else l.getD (i + 1) 0) + 1 else if i < l.getD h 0 then 1 else 0
theorem lsr_eq {l : List Nat} (S : SD l) (P : PS l) {k h : Nat} (w : nwL l h = true) (e : (List.range h).countP (nwL l) = k) (i : Nat) : lsr l h i = srcH l k i := by
  obtain ⟨h1, h2, h3⟩ := kf_h S P w e
  unfold srcH
  rw [if_pos h2]
  generalize kfst l k = f at *
  have e1 := kf_eq h3 (h - f) f (by omega) (Nat.le_refl _)
  unfold lsr hbf
  rw [e1]
  by_cases q : i + 1 < l.length
  · rw [if_pos q, if_pos q]
    by_cases z : i < f
    · rw [if_pos z, if_pos (by omega)]
    · rw [if_neg z]
      by_cases y : i < h
      · rw [if_pos y, h3 i (by omega) y]
      · rw [if_neg y]
  · rw [if_neg q, if_neg q]
theorem m_laySource {c : Nat} (hc : c < 4) {L : List Nat} (H : LA I 272 (61 * c) L) (S : SD L) (P : PS L) (hl : L.length ≤ 60) (hs : L.sum ≤ 60) {h : Nat} (w : nwL L h = true) : ∃ I', q_E (250, 0, [vr 265, vi (c : Int), vi (h : Int), vu, vu, vu, vu], []) (qk t u I J) = some (vu, qk t u I' J) ∧ (∀ i, i < 60 → I' 275 i = (lsr L h i : Int)) ∧ FrA 275 0 61 I I' := by
  have hh : h < L.length := by
    rcases Nat.lt_or_ge h L.length with z | z
    · exact z
    · rw [nwL_0 z] at w; exact absurd w (by decide)
  have w2 := w
  unfold nwL at w2
  rw [Bool.and_eq_true] at w2
  have w3 := of_decide_eq_true w2.2
  have vh := H h (by omega)
  have gh := gD_sum (l := L) h
  have k1 := c_manyOf (t := t) (u := u) (J := J) A272 (p := 61 * c) (by omega) H P hl
  rw [c_61] at k1
  have l1 : ∀ (r n : Nat) (I1 : Nat → Nat → Int), n + r = L.getD h 0 → L.length ≤ n + 1 → FrA 275 0 61 I I1 → (∀ i, i < 60 → I1 275 i = if i < n then (lsr L h i : Int) else 0) → ∃ I', q_E (250, 100, [vr 265, vu, vu, vu, vi (L.getD h 0 : Int), vi (n : Int), vu], []) (qk t u I1 J) = some (vu, qk t u I' J) ∧ (∀ i, i < 60 → I' 275 i = (lsr L h i : Int)) ∧ FrA 275 0 61 I I' := by
    intro r
    induction r with
    | zero =>
      intro n I1 hn hn2 F e
      rw [e250_100]
      simp (disch := omega) only [↓reduceIte, lt_TI, lt_FI, le_TI, le_FI, eq_TI, eq_FI, lt_TN, lt_FN, le_TN, le_FN, eq_TN, eq_FN, and_self, and_true, true_and, and_false, false_and, or_true, true_or, or_false, false_or, not_true_eq_false, not_false_eq_true, wr_of, uI_at, uC_at, q_bi_s, q_bl_s, q_br_s, q_bv_s, Int.toNat_natCast, tn_1, tn_m, tn_n, Int.toNat_zero, Int.toNat_one]
      refine ⟨I1, rfl, fun i hi => ?_, F⟩
      rw [e i hi]
      by_cases q : i < n
      · rw [if_pos q]
      · rw [if_neg q]
        unfold lsr
        rw [if_neg (by omega), if_neg (by omega)]; rfl
    | succ r ih =>
      intro n I1 hn hn2 F e
      rw [e250_100]
      simp (disch := omega) only [↓reduceIte, lt_TI, lt_FI, le_TI, le_FI, eq_TI, eq_FI, lt_TN, lt_FN, le_TN, le_FN, eq_TN, eq_FN, and_self, and_true, true_and, and_false, false_and, or_true, true_or, or_false, false_or, not_true_eq_false, not_false_eq_true, wr_of, uI_at, uC_at, q_bi_s, q_bl_s, q_br_s, q_bv_s, Int.toNat_natCast, tn_1, tn_m, tn_n, Int.toNat_zero, Int.toNat_one]
      exact ih (n + 1) _ (by omega) (by omega) (FrA_uI F (by omega) (by omega)) (fun i hi => by
        by_cases q : i = n
        · subst q
          rw [uI_at, if_pos ⟨rfl, rfl⟩, if_pos (by omega)]
          unfold lsr
          rw [if_neg (by omega), if_pos (by omega)]; rfl
        · rw [uI_ne (Or.inr q), e i hi]
          by_cases z : i < n
          · rw [if_pos z, if_pos (by omega)]
          · rw [if_neg z, if_neg (by omega)])
  have l2 : ∀ (r k : Nat) (I1 : Nat → Nat → Int), k + r = L.length → FrA 275 0 61 I I1 → (∀ i, i < 60 → I1 275 i = if i < (if k ≤ h then k else k - 1) then (lsr L h i : Int) else 0) → ∃ I', q_E (250, 55, [vr 265, vi (c : Int), vi (h : Int), vi (L.length : Int), vi (L.getD h 0 : Int), vi ((if k ≤ h then k else k - 1 : Nat) : Int), vi (k : Int)], []) (qk t u I1 J) = some (vu, qk t u I' J) ∧ (∀ i, i < 60 → I' 275 i = (lsr L h i : Int)) ∧ FrA 275 0 61 I I' := by
    intro r
    induction r with
    | zero =>
      intro k I1 hk F e
      rw [if_neg (show ¬ k ≤ h by omega)] at e ⊢
      rw [e250_55]
      simp (disch := omega) only [↓reduceIte, lt_TI, lt_FI, le_TI, le_FI, eq_TI, eq_FI, lt_TN, lt_FN, le_TN, le_FN, eq_TN, eq_FN, and_self, and_true, true_and, and_false, false_and, or_true, true_or, or_false, false_or, not_true_eq_false, not_false_eq_true, wr_of, uI_at, uC_at, q_bi_s, q_bl_s, q_br_s, q_bv_s, Int.toNat_natCast, tn_1, tn_m, tn_n, Int.toNat_zero, Int.toNat_one]
      exact l1 (L.getD h 0 - (k - 1)) (k - 1) I1 (by omega) (by omega) F e
    | succ r ih =>
      intro k I1 hk F e
      have v : I1 272 (61 * c + k) = (L.getD k 0 : Int) := by rw [F 272 _ (by omega)]; exact H k (by omega)
      have gk := gD_sum (l := L) k
      rw [e250_55]
      by_cases q : k = h
      · have en := ih (k + 1) I1 (by omega) F (fun i hi => by
          rw [e i hi, if_pos (show k ≤ h by omega), if_neg (show ¬ k + 1 ≤ h by omega), Nat.add_sub_cancel])
        rw [if_neg (show ¬ k + 1 ≤ h by omega), Nat.add_sub_cancel] at en
        rw [if_pos (show k ≤ h by omega)]
        simp (disch := omega) only [↓reduceIte, lt_TI, lt_FI, le_TI, le_FI, eq_TI, eq_FI, lt_TN, lt_FN, le_TN, le_FN, eq_TN, eq_FN, and_self, and_true, true_and, and_false, false_and, or_true, true_or, or_false, false_or, not_true_eq_false, not_false_eq_true, wr_of, uI_at, uC_at, q_bi_s, q_bl_s, q_br_s, q_bv_s, Int.toNat_natCast, tn_1, tn_m, tn_n, Int.toNat_zero, Int.toNat_one]
        exact en
      · have put : ∀ j, j = (if k ≤ h then k else k - 1) → lsr L h j = L.getD k 0 + 1 := fun j hj => by
          unfold lsr
          by_cases z : k ≤ h
          · rw [if_pos z] at hj; subst hj; rw [if_pos (by omega), if_pos (by omega)]
          · rw [if_neg z] at hj; subst hj; rw [if_pos (by omega), if_neg (by omega), show k - 1 + 1 = k by omega]
        generalize hj : (if k ≤ h then k else k - 1) = j at e ⊢
        have pj := put j hj.symm
        have jn : (if k + 1 ≤ h then k + 1 else k + 1 - 1) = j + 1 := by
          rw [← hj]
          by_cases z : k ≤ h
          · rw [if_pos z, if_pos (by omega)]
          · rw [if_neg z, if_neg (by omega)]; omega
        have jb : j ≤ k := by
          rw [← hj]; split <;> omega
        have en := ih (k + 1) (uI I1 275 j ((L.getD k 0 : Int) + 1)) (by omega) (FrA_uI F (by omega) (by omega)) (fun i hi => by
          rw [jn]
          by_cases z : i = j
          · subst z
            rw [uI_at, if_pos ⟨rfl, rfl⟩, if_pos (by omega), pj]; rfl
          · rw [uI_ne (Or.inr z), e i hi]
            by_cases y : i < j
            · rw [if_pos y, if_pos (by omega)]
            · rw [if_neg y, if_neg (by omega)])
        rw [jn] at en
        simp (disch := omega) only [↓reduceIte, lt_TI, lt_FI, le_TI, le_FI, eq_TI, eq_FI, lt_TN, lt_FN, le_TN, le_FN, eq_TN, eq_FN, and_self, and_true, true_and, and_false, false_and, or_true, true_or, or_false, false_or, not_true_eq_false, not_false_eq_true, wr_of, uI_at, uC_at, q_bi_s, q_bl_s, q_br_s, q_bv_s, Int.toNat_natCast, tn_1, tn_m, tn_n, Int.toNat_zero, Int.toNat_one, tn_61a, v]
        exact en
  have l3 : ∀ (r k : Nat) (I1 : Nat → Nat → Int), k + r = 60 → FrA 275 0 61 I I1 → (∀ i, i < k → I1 275 i = 0) → ∃ I', q_E (250, 28, [vr 265, vi (c : Int), vi (h : Int), vi (L.length : Int), vi (L.getD h 0 : Int), vi (k : Int), vu], []) (qk t u I1 J) = some (vu, qk t u I' J) ∧ (∀ i, i < 60 → I' 275 i = (lsr L h i : Int)) ∧ FrA 275 0 61 I I' := by
    intro r
    induction r with
    | zero =>
      intro k I1 hk F e
      have en := l2 L.length 0 I1 (by omega) F (fun i hi => by
        rw [if_pos (Nat.zero_le _), if_neg (Nat.not_lt_zero _)]; exact e i (by omega))
      rw [if_pos (Nat.zero_le _), Int.natCast_zero] at en
      rw [e250_28]
      simp (disch := omega) only [↓reduceIte, lt_TI, lt_FI, le_TI, le_FI, eq_TI, eq_FI, lt_TN, lt_FN, le_TN, le_FN, eq_TN, eq_FN, and_self, and_true, true_and, and_false, false_and, or_true, true_or, or_false, false_or, not_true_eq_false, not_false_eq_true, wr_of, uI_at, uC_at, q_bi_s, q_bl_s, q_br_s, q_bv_s, Int.toNat_natCast, tn_1, tn_m, tn_n, Int.toNat_zero, Int.toNat_one]
      exact en
    | succ r ih =>
      intro k I1 hk F e
      rw [e250_28]
      simp (disch := omega) only [↓reduceIte, lt_TI, lt_FI, le_TI, le_FI, eq_TI, eq_FI, lt_TN, lt_FN, le_TN, le_FN, eq_TN, eq_FN, and_self, and_true, true_and, and_false, false_and, or_true, true_or, or_false, false_or, not_true_eq_false, not_false_eq_true, wr_of, uI_at, uC_at, q_bi_s, q_bl_s, q_br_s, q_bv_s, Int.toNat_natCast, tn_1, tn_m, tn_n, Int.toNat_zero, Int.toNat_one]
      exact ih (k + 1) _ (by omega) (FrA_uI F (by omega) (by omega)) (fun i hi => by
        by_cases q : i = k
        · subst q; exact if_pos ⟨rfl, rfl⟩
        · rw [uI_ne (Or.inr q)]; exact e i (by omega))
  obtain ⟨I', x1, x2, x3⟩ := l3 60 0 I (by omega) FrA_rf (fun i hi => by omega)
  rw [Int.natCast_zero] at x1
  simp (disch := omega) only [↓reduceIte, lt_TI, lt_FI, le_TI, le_FI, eq_TI, eq_FI, lt_TN, lt_FN, le_TN, le_FN, eq_TN, eq_FN, and_self, and_true, true_and, and_false, false_and, or_true, true_or, or_false, false_or, not_true_eq_false, not_false_eq_true, wr_of, uI_at, uC_at, q_bi_s, q_bl_s, q_br_s, q_bv_s, Int.toNat_natCast, tn_1, tn_m, tn_n, Int.toNat_zero, Int.toNat_one, e250_0, k1, e250_11, tn_61a, vh]
  exact ⟨I', x1, x2, x3⟩
end

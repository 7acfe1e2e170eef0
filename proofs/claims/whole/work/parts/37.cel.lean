/-! all cellars at one time; what is kept -/
abbrev Sn : Type := (Nat → Hp) × Nat
def CAt (I : Nat → Nat → Int) (C : Nat) (s : Sn) : Prop := CId C ∧ I C 1 = (s.2 : Int) ∧ ∀ c, c < 4 → HAt I (C + 2 + 2 * c) (s.1 c).1 (s.1 c).2
theorem CAt_kp {I I' : Nat → Nat → Int} {C lo hi : Nat} {s : Sn} (H : CAt I C s) (K : Kp lo hi I I') (q : C + 9 < lo ∨ hi < C) : CAt I' C s :=
  ⟨H.1, by rw [K C (by omega)]; exact H.2.1, fun c hc => HAt_kp (H.2.2 c hc) K (by omega)⟩
def S0 : Sn := (fun _ => ([], 0), 0)
section
variable {t u : Nat} {I J : Nat → Nat → Int} {C : Nat} {s : Sn}
theorem c_hclear {h : Nat} (k0 : HId h) : ∃ I', q_E (21, 0, [vr h], []) (qk t u I J) = some (vu, qk t u I' J) ∧ HAt I' h [] 0 ∧ Kp h (h + 1) I I' := by
  obtain ⟨k1, k2, k3, k4, k6, k5⟩ := id k0
  rw [e21_0]
  simp (disch := omega) only [↓reduceIte, lt_TI, lt_FI, le_TI, le_FI, eq_TI, eq_FI, lt_TN, lt_FN, le_TN, le_FN, eq_TN, eq_FN, and_self, and_true, true_and, and_false, false_and, or_true, true_or, or_false, false_or, not_true_eq_false, not_false_eq_true, wr_of, uI_at, uC_at, q_bi_s, q_bl_s, q_br_s, q_bv_s, Int.toNat_natCast, tn_1, tn_m, tn_n, Int.toNat_zero, Int.toNat_one, k1]
  refine ⟨_, rfl, ⟨k0, ?_, ?_, Nat.zero_le _, fun i hi => (by cases hi)⟩, Kp_uI (Kp_uI Kp_rf (by omega) (by omega)) (by omega) (by omega)⟩
  · simp (disch := omega) only [↓reduceIte, lt_TI, lt_FI, le_TI, le_FI, eq_TI, eq_FI, lt_TN, lt_FN, le_TN, le_FN, eq_TN, eq_FN, and_self, and_true, true_and, and_false, false_and, or_true, true_or, or_false, false_or, not_true_eq_false, not_false_eq_true, wr_of, uI_at, uC_at, q_bi_s, q_bl_s, q_br_s, q_bv_s, Int.toNat_natCast, tn_1, tn_m, tn_n, Int.toNat_zero, Int.toNat_one] <;> rfl
  · simp (disch := omega) only [↓reduceIte, lt_TI, lt_FI, le_TI, le_FI, eq_TI, eq_FI, lt_TN, lt_FN, le_TN, le_FN, eq_TN, eq_FN, and_self, and_true, true_and, and_false, false_and, or_true, true_or, or_false, false_or, not_true_eq_false, not_false_eq_true, wr_of, uI_at, uC_at, q_bi_s, q_bl_s, q_br_s, q_bv_s, Int.toNat_natCast, tn_1, tn_m, tn_n, Int.toNat_zero, Int.toNat_one] <;> rfl
theorem c_cclear (k0 : CId C) : ∃ I', q_E (1, 0, [vr C, vu], []) (qk t u I J) = some (vu, qk t u I' J) ∧ CAt I' C S0 ∧ Kp C (C + 9) I I' := by
  obtain ⟨k1, k2, k3, k4, k5, k6, k7⟩ := id k0
  have loop : ∀ (n i : Nat) (I1 : Nat → Nat → Int), i + n = 4 → I1 C 1 = 0 → (∀ c, c < i → HAt I1 (C + 2 + 2 * c) [] 0) → ∃ I', q_E (1, 7, [vr C, vi (i : Int)], []) (qk t u I1 J) = some (vu, qk t u I' J) ∧ CAt I' C S0 ∧ Kp C (C + 9) I1 I' := by
    intro n
    induction n with
    | zero =>
      intro i I1 hi h1 h2
      rw [e1_7]
      simp (disch := omega) only [↓reduceIte, lt_TI, lt_FI, le_TI, le_FI, eq_TI, eq_FI, lt_TN, lt_FN, le_TN, le_FN, eq_TN, eq_FN, and_self, and_true, true_and, and_false, false_and, or_true, true_or, or_false, false_or, not_true_eq_false, not_false_eq_true, wr_of, uI_at, uC_at, q_bi_s, q_bl_s, q_br_s, q_bv_s, Int.toNat_natCast, tn_1, tn_m, tn_n, Int.toNat_zero, Int.toNat_one]
      exact ⟨I1, rfl, ⟨k0, h1, fun c hc => h2 c (by omega)⟩, Kp_rf⟩
    | succ n ih =>
      intro i I1 hi h1 h2
      obtain ⟨q1, q2⟩ := k7 i (by omega)
      obtain ⟨I2, a1, a2, a3⟩ := c_hclear (t := t) (u := u) (I := I1) (J := J) q1
      rw [e1_7]
      simp (disch := omega) only [↓reduceIte, lt_TI, lt_FI, le_TI, le_FI, eq_TI, eq_FI, lt_TN, lt_FN, le_TN, le_FN, eq_TN, eq_FN, and_self, and_true, true_and, and_false, false_and, or_true, true_or, or_false, false_or, not_true_eq_false, not_false_eq_true, wr_of, uI_at, uC_at, q_bi_s, q_bl_s, q_br_s, q_bv_s, Int.toNat_natCast, tn_1, tn_m, tn_n, Int.toNat_zero, Int.toNat_one, k1, k4, k5, k6, q2, q1.1, a1]
      rw [e1_21]
      simp (disch := omega) only [↓reduceIte, lt_TI, lt_FI, le_TI, le_FI, eq_TI, eq_FI, lt_TN, lt_FN, le_TN, le_FN, eq_TN, eq_FN, and_self, and_true, true_and, and_false, false_and, or_true, true_or, or_false, false_or, not_true_eq_false, not_false_eq_true, wr_of, uI_at, uC_at, q_bi_s, q_bl_s, q_br_s, q_bv_s, Int.toNat_natCast, tn_1, tn_m, tn_n, Int.toNat_zero, Int.toNat_one]
      obtain ⟨I3, b1, b2, b3⟩ := ih (i + 1) I2 (by omega) (by rw [a3 C (by omega)]; exact h1) (fun c hc => by
        by_cases e : c = i
        · rw [e]; exact a2
        · exact HAt_kp (h2 c (by omega)) a3 (by omega))
      exact ⟨I3, b1, b2, Kp_tr a3 b3 (by omega) (by omega) (by omega) (by omega)⟩
  rw [e1_0]
  simp (disch := omega) only [↓reduceIte, lt_TI, lt_FI, le_TI, le_FI, eq_TI, eq_FI, lt_TN, lt_FN, le_TN, le_FN, eq_TN, eq_FN, and_self, and_true, true_and, and_false, false_and, or_true, true_or, or_false, false_or, not_true_eq_false, not_false_eq_true, wr_of, uI_at, uC_at, q_bi_s, q_bl_s, q_br_s, q_bv_s, Int.toNat_natCast, tn_1, tn_m, tn_n, Int.toNat_zero, Int.toNat_one, k1]
  obtain ⟨I', a1, a2, a3⟩ := loop 4 0 (uI I C 1 0) (by omega) (by simp (disch := omega) only [↓reduceIte, lt_TI, lt_FI, le_TI, le_FI, eq_TI, eq_FI, lt_TN, lt_FN, le_TN, le_FN, eq_TN, eq_FN, and_self, and_true, true_and, and_false, false_and, or_true, true_or, or_false, false_or, not_true_eq_false, not_false_eq_true, wr_of, uI_at, uC_at, q_bi_s, q_bl_s, q_br_s, q_bv_s, Int.toNat_natCast, tn_1, tn_m, tn_n, Int.toNat_zero, Int.toNat_one]) (fun c hc => by omega)
  exact ⟨I', a1, a2, Kp_tr (Kp_uI Kp_rf (by omega) (by omega) : Kp C (C + 9) I _) a3 (by omega) (by omega) (by omega) (by omega)⟩
theorem c_ccopy {D : Nat} (k0 : CId C) (G : CAt I D s) (d : C + 9 < D ∨ D + 9 < C) : ∃ I', q_E (2, 0, [vr C, vr D, vu], []) (qk t u I J) = some (vu, qk t u I' J) ∧ CAt I' C s ∧ Kp C (C + 9) I I' := by
  obtain ⟨k1, k2, k3, k4, k5, k6, k7⟩ := id k0
  obtain ⟨j1, j2, j3, j4, j5, j6, j7⟩ := id G.1
  have loop : ∀ (n i : Nat) (I1 : Nat → Nat → Int), i + n = 4 → I1 C 1 = (s.2 : Int) → CAt I1 D s → (∀ c, c < i → HAt I1 (C + 2 + 2 * c) (s.1 c).1 (s.1 c).2) → ∃ I', q_E (2, 10, [vr C, vr D, vi (i : Int)], []) (qk t u I1 J) = some (vu, qk t u I' J) ∧ CAt I' C s ∧ Kp C (C + 9) I1 I' := by
    intro n
    induction n with
    | zero =>
      intro i I1 hi h1 h3 h2
      rw [e2_10]
      simp (disch := omega) only [↓reduceIte, lt_TI, lt_FI, le_TI, le_FI, eq_TI, eq_FI, lt_TN, lt_FN, le_TN, le_FN, eq_TN, eq_FN, and_self, and_true, true_and, and_false, false_and, or_true, true_or, or_false, false_or, not_true_eq_false, not_false_eq_true, wr_of, uI_at, uC_at, q_bi_s, q_bl_s, q_br_s, q_bv_s, Int.toNat_natCast, tn_1, tn_m, tn_n, Int.toNat_zero, Int.toNat_one]
      exact ⟨I1, rfl, ⟨k0, h1, fun c hc => h2 c (by omega)⟩, Kp_rf⟩
    | succ n ih =>
      intro i I1 hi h1 h3 h2
      obtain ⟨q1, q2⟩ := k7 i (by omega)
      obtain ⟨p1, p2⟩ := j7 i (by omega)
      obtain ⟨I2, a1, a2, a3⟩ := c_copyFrom (t := t) (u := u) (J := J) q1 (h3.2.2 i (by omega)) (by omega)
      rw [e2_10]
      simp (disch := omega) only [↓reduceIte, lt_TI, lt_FI, le_TI, le_FI, eq_TI, eq_FI, lt_TN, lt_FN, le_TN, le_FN, eq_TN, eq_FN, and_self, and_true, true_and, and_false, false_and, or_true, true_or, or_false, false_or, not_true_eq_false, not_false_eq_true, wr_of, uI_at, uC_at, q_bi_s, q_bl_s, q_br_s, q_bv_s, Int.toNat_natCast, tn_1, tn_m, tn_n, Int.toNat_zero, Int.toNat_one, k1, k4, k5, k6, q2, q1.1, j1, j4, j5, j6, p2, a1]
      rw [e2_30]
      simp (disch := omega) only [↓reduceIte, lt_TI, lt_FI, le_TI, le_FI, eq_TI, eq_FI, lt_TN, lt_FN, le_TN, le_FN, eq_TN, eq_FN, and_self, and_true, true_and, and_false, false_and, or_true, true_or, or_false, false_or, not_true_eq_false, not_false_eq_true, wr_of, uI_at, uC_at, q_bi_s, q_bl_s, q_br_s, q_bv_s, Int.toNat_natCast, tn_1, tn_m, tn_n, Int.toNat_zero, Int.toNat_one]
      obtain ⟨I3, b1, b2, b3⟩ := ih (i + 1) I2 (by omega) (by rw [a3 C (by omega)]; exact h1) (CAt_kp h3 a3 (by omega)) (fun c hc => by
        by_cases e : c = i
        · rw [e]; exact a2
        · exact HAt_kp (h2 c (by omega)) a3 (by omega))
      exact ⟨I3, b1, b2, Kp_tr a3 b3 (by omega) (by omega) (by omega) (by omega)⟩
  have K0 : Kp C (C + 9) I (uI I C 1 (I D 1)) := Kp_uI Kp_rf (by omega) (by omega)
  rw [e2_0]
  simp (disch := omega) only [↓reduceIte, lt_TI, lt_FI, le_TI, le_FI, eq_TI, eq_FI, lt_TN, lt_FN, le_TN, le_FN, eq_TN, eq_FN, and_self, and_true, true_and, and_false, false_and, or_true, true_or, or_false, false_or, not_true_eq_false, not_false_eq_true, wr_of, uI_at, uC_at, q_bi_s, q_bl_s, q_br_s, q_bv_s, Int.toNat_natCast, tn_1, tn_m, tn_n, Int.toNat_zero, Int.toNat_one, k1, j1]
  obtain ⟨I', a1, a2, a3⟩ := loop 4 0 (uI I C 1 (I D 1)) (by omega) (by simp (disch := omega) only [↓reduceIte, lt_TI, lt_FI, le_TI, le_FI, eq_TI, eq_FI, lt_TN, lt_FN, le_TN, le_FN, eq_TN, eq_FN, and_self, and_true, true_and, and_false, false_and, or_true, true_or, or_false, false_or, not_true_eq_false, not_false_eq_true, wr_of, uI_at, uC_at, q_bi_s, q_bl_s, q_br_s, q_bv_s, Int.toNat_natCast, tn_1, tn_m, tn_n, Int.toNat_zero, Int.toNat_one, G.2.1]) (CAt_kp G K0 (by omega)) (fun c hc => by omega)
  exact ⟨I', a1, a2, Kp_tr K0 a3 (by omega) (by omega) (by omega) (by omega)⟩
def sto (x : Hp) : Nat := x.1.sum + x.2
theorem c_allStones (G : CAt I C s) (h : ∀ c, c < 4 → sto (s.1 c) ≤ 60) : q_E (3, 0, [vr C, vu, vu], []) (qk t u I J) = some (vi ((sto (s.1 0) + sto (s.1 1) + sto (s.1 2) + sto (s.1 3) : Nat) : Int), qk t u I J) := by
  obtain ⟨⟨k1, k2, k3, k4, k5, k6, k7⟩, g1, g2⟩ := G
  have st : ∀ i : Nat, i < 4 → ∀ z : Nat, z ≤ 1000 → q_E (3, 4, [vr C, vi (z : Int), vi (i : Int)], []) (qk t u I J) = q_E (3, 4, [vr C, vi ((z + sto (s.1 i) : Nat) : Int), vi ((i + 1 : Nat) : Int)], []) (qk t u I J) := by
    intro i hi z hz
    obtain ⟨q1, q2⟩ := k7 i hi
    have hs := h i hi
    have a := c_stones (t := t) (u := u) (J := J) (g2 i hi) (show (s.1 i).1.sum + (s.1 i).2 ≤ 1000 by unfold sto at hs; omega)
    have e : (s.1 i).1.sum + (s.1 i).2 = sto (s.1 i) := rfl
    rw [e] at a
    rw [e3_4]
    simp (disch := omega) only [↓reduceIte, lt_TI, lt_FI, le_TI, le_FI, eq_TI, eq_FI, lt_TN, lt_FN, le_TN, le_FN, eq_TN, eq_FN, and_self, and_true, true_and, and_false, false_and, or_true, true_or, or_false, false_or, not_true_eq_false, not_false_eq_true, wr_of, uI_at, uC_at, q_bi_s, q_bl_s, q_br_s, q_bv_s, Int.toNat_natCast, tn_1, tn_m, tn_n, Int.toNat_zero, Int.toNat_one, k1, k4, k5, k6, q2, q1.1, a]
    rw [e3_19]
    simp (disch := omega) only [↓reduceIte, lt_TI, lt_FI, le_TI, le_FI, eq_TI, eq_FI, lt_TN, lt_FN, le_TN, le_FN, eq_TN, eq_FN, and_self, and_true, true_and, and_false, false_and, or_true, true_or, or_false, false_or, not_true_eq_false, not_false_eq_true, wr_of, uI_at, uC_at, q_bi_s, q_bl_s, q_br_s, q_bv_s, Int.toNat_natCast, tn_1, tn_m, tn_n, Int.toNat_zero, Int.toNat_one]
    rfl
  have h0 := h 0 (by omega)
  have h1 := h 1 (by omega)
  have h2 := h 2 (by omega)
  rw [e3_0]
  have a0 := st 0 (by omega) 0 (by omega)
  rw [Int.natCast_zero] at a0
  rw [a0, st 1 (by omega) _ (by omega), st 2 (by omega) _ (by omega), st 3 (by omega) _ (by omega), e3_4, Nat.zero_add]
  simp (disch := omega) only [↓reduceIte, lt_TI, lt_FI, le_TI, le_FI, eq_TI, eq_FI, lt_TN, lt_FN, le_TN, le_FN, eq_TN, eq_FN, and_self, and_true, true_and, and_false, false_and, or_true, true_or, or_false, false_or, not_true_eq_false, not_false_eq_true, wr_of, uI_at, uC_at, q_bi_s, q_bl_s, q_br_s, q_bv_s, Int.toNat_natCast, tn_1, tn_m, tn_n, Int.toNat_zero, Int.toNat_one]
end
/-- what can be undone (the oldest ahead), images -/
def PAt (I : Nat → Nat → Int) (und img : List Sn) : Prop := ∃ o : Nat, o < 16 ∧ I 34 4 = (o : Int) ∧ I 34 2 = (und.length : Int) ∧ I 34 3 = (img.length : Int) ∧ und.length ≤ 16 ∧ img.length ≤ 3 ∧ (∀ i, i < und.length → CAt I (37 + 10 * ((o + i) % 16)) (und.getD i S0)) ∧ ∀ i, i < img.length → CAt I (197 + 10 * i) (img.getD i S0)
theorem PAt_kp {I I' : Nat → Nat → Int} {und img : List Sn} {lo hi : Nat} (H : PAt I und img) (K : Kp lo hi I I') (q : hi < 34 ∨ 226 < lo) : PAt I' und img := by
  obtain ⟨o, h1, h2, h3, h4, h5, h6, h7, h8⟩ := H
  have e : I' 34 = I 34 := K 34 (by omega)
  refine ⟨o, h1, by rw [e]; exact h2, by rw [e]; exact h3, by rw [e]; exact h4, h5, h6, fun i hi => ?_, fun i hi => CAt_kp (h8 i hi) K (by omega)⟩
  have : (o + i) % 16 < 16 := Nat.mod_lt _ (by omega)
  exact CAt_kp (h7 i hi) K (by omega)
def keepS (und : List Sn) (s : Sn) : List Sn := (if und.length = 16 then und.tail else und) ++ [s]
theorem keepS_len (und : List Sn) (s : Sn) (h : und.length ≤ 16) : (keepS und s).length ≤ 16 := by
  unfold keepS
  split
  · rw [List.length_append, List.length_tail]; simp; omega
  · rw [List.length_append]; simp; omega
theorem gS_app {l : List Sn} {s : Sn} (i : Nat) : (l ++ [s]).getD i S0 = if i < l.length then l.getD i S0 else if i = l.length then s else S0 := by
  simp only [List.getD_eq_getElem?_getD]
  split
  · rename_i h; rw [List.getElem?_append_left h]
  · rename_i h
    rw [List.getElem?_append_right (by omega)]
    split
    · rename_i h2; rw [h2, Nat.sub_self]; rfl
    · rename_i h2; rw [List.getElem?_eq_none (by simp; omega)]; rfl
theorem gS_tail {l : List Sn} (i : Nat) : l.tail.getD i S0 = l.getD (i + 1) S0 := by cases l <;> simp
theorem gS_dl {l : List Sn} {i : Nat} (h : i + 1 < l.length) : l.dropLast.getD i S0 = l.getD i S0 := by
  simp only [List.getD_eq_getElem?_getD]
  rw [List.getElem?_dropLast, if_pos (by omega)]
section
variable {t u : Nat} {I J : Nat → Nat → Int} {s : Sn} {und img : List Sn}
theorem c_keep1 {o : Nat} (ho : o < 16) {D : Nat} (G : CAt I D s) (hD : D + 9 < 34 ∨ 226 < D) (h2 : I 34 4 = (o : Int)) (h3 : I 34 2 = (und.length : Int)) (h4 : I 34 3 = (img.length : Int)) (h5 : und.length < 16) (h6 : img.length ≤ 3) (h7 : ∀ i, i < und.length → CAt I (37 + 10 * ((o + i) % 16)) (und.getD i S0)) (h8 : ∀ i, i < img.length → CAt I (197 + 10 * i) (img.getD i S0)) : ∃ B I', q_E (37, 32, [vr 34, vr D, vu], []) (qk t u I J) = some (vr B, qk t u I' J) ∧ PAt I' (und ++ [s]) img ∧ CAt I' B s ∧ (34 < B ∧ B + 9 ≤ 226) ∧ Kp 34 226 I I' := by
  have m : (o + und.length) % 16 < 16 := Nat.mod_lt _ (by omega)
  have e : Int.tmod ((o : Int) + (und.length : Int)) 16 = (((o + und.length) % 16 : Nat) : Int) := by
    rw [← Int.natCast_add]; exact (Int.ofNat_tmod _ _).symm
  have k0 := CId_K _ m
  obtain ⟨I1, a1, a2, a3⟩ := c_ccopy (t := t) (u := u) (J := J) k0 G (by omega)
  rw [e37_32]
  simp (disch := omega) only [↓reduceIte, lt_TI, lt_FI, le_TI, le_FI, eq_TI, eq_FI, lt_TN, lt_FN, le_TN, le_FN, eq_TN, eq_FN, and_self, and_true, true_and, and_false, false_and, or_true, true_or, or_false, false_or, not_true_eq_false, not_false_eq_true, wr_of, uI_at, uC_at, q_bi_s, q_bl_s, q_br_s, q_bv_s, Int.toNat_natCast, tn_1, tn_m, tn_n, Int.toNat_zero, Int.toNat_one, h2, h3, e, R_K t u _ m, k0.1, a1]
  rw [e37_55]
  have e34 : I1 34 = I 34 := a3 34 (by omega)
  simp (disch := omega) only [↓reduceIte, lt_TI, lt_FI, le_TI, le_FI, eq_TI, eq_FI, lt_TN, lt_FN, le_TN, le_FN, eq_TN, eq_FN, and_self, and_true, true_and, and_false, false_and, or_true, true_or, or_false, false_or, not_true_eq_false, not_false_eq_true, wr_of, uI_at, uC_at, q_bi_s, q_bl_s, q_br_s, q_bv_s, Int.toNat_natCast, tn_1, tn_m, tn_n, Int.toNat_zero, Int.toNat_one, e34, h3]
  have K1 : Kp 34 34 I1 (uI I1 34 2 ((und.length : Int) + 1)) := Kp_uI Kp_rf (by omega) (by omega)
  refine ⟨_, _, rfl, ⟨o, ho, ?_, ?_, ?_, ?_, h6, fun i hi => ?_, fun i hi => ?_⟩, CAt_kp a2 K1 (by omega), by omega, Kp_tr a3 K1 (by omega) (by omega) (by omega) (by omega)⟩
  · simp (disch := omega) only [↓reduceIte, lt_TI, lt_FI, le_TI, le_FI, eq_TI, eq_FI, lt_TN, lt_FN, le_TN, le_FN, eq_TN, eq_FN, and_self, and_true, true_and, and_false, false_and, or_true, true_or, or_false, false_or, not_true_eq_false, not_false_eq_true, wr_of, uI_at, uC_at, q_bi_s, q_bl_s, q_br_s, q_bv_s, Int.toNat_natCast, tn_1, tn_m, tn_n, Int.toNat_zero, Int.toNat_one, e34, h2]
  · rw [List.length_append]; simp (disch := omega) only [↓reduceIte, lt_TI, lt_FI, le_TI, le_FI, eq_TI, eq_FI, lt_TN, lt_FN, le_TN, le_FN, eq_TN, eq_FN, and_self, and_true, true_and, and_false, false_and, or_true, true_or, or_false, false_or, not_true_eq_false, not_false_eq_true, wr_of, uI_at, uC_at, q_bi_s, q_bl_s, q_br_s, q_bv_s, Int.toNat_natCast, tn_1, tn_m, tn_n, Int.toNat_zero, Int.toNat_one] <;> rfl
  · simp (disch := omega) only [↓reduceIte, lt_TI, lt_FI, le_TI, le_FI, eq_TI, eq_FI, lt_TN, lt_FN, le_TN, le_FN, eq_TN, eq_FN, and_self, and_true, true_and, and_false, false_and, or_true, true_or, or_false, false_or, not_true_eq_false, not_false_eq_true, wr_of, uI_at, uC_at, q_bi_s, q_bl_s, q_br_s, q_bv_s, Int.toNat_natCast, tn_1, tn_m, tn_n, Int.toNat_zero, Int.toNat_one, e34, h4]
  · rw [List.length_append]; simp; omega
  · rw [List.length_append] at hi
    have hi : i < und.length + 1 := hi
    rw [gS_app]
    by_cases q : i < und.length
    · rw [if_pos q]
      have m2 : (o + i) % 16 < 16 := Nat.mod_lt _ (by omega)
      have ne : (o + i) % 16 ≠ (o + und.length) % 16 := by omega
      exact CAt_kp (CAt_kp (h7 i q) a3 (by omega)) K1 (by omega)
    · have : i = und.length := by omega
      subst this
      rw [if_neg q, if_pos rfl]
      exact CAt_kp a2 K1 (by omega)
  · exact CAt_kp (CAt_kp (h8 i hi) a3 (by omega)) K1 (by omega)
theorem c_keep (P : PAt I und img) {D : Nat} (G : CAt I D s) (hD : D + 9 < 34 ∨ 226 < D) : ∃ B I', q_E (37, 0, [vr 34, vr D, vu], []) (qk t u I J) = some (vr B, qk t u I' J) ∧ PAt I' (keepS und s) img ∧ CAt I' B s ∧ (34 < B ∧ B + 9 ≤ 226) ∧ Kp 34 226 I I' := by
  obtain ⟨o, h1, h2, h3, h4, h5, h6, h7, h8⟩ := P
  rw [e37_0]
  unfold keepS
  by_cases q : und.length = 16
  · rw [if_pos q]
    have e : Int.tmod ((o : Int) + 1) 16 = (((o + 1) % 16 : Nat) : Int) := (Int.ofNat_tmod (o + 1) 16).symm
    simp (disch := omega) only [↓reduceIte, lt_TI, lt_FI, le_TI, le_FI, eq_TI, eq_FI, lt_TN, lt_FN, le_TN, le_FN, eq_TN, eq_FN, and_self, and_true, true_and, and_false, false_and, or_true, true_or, or_false, false_or, not_true_eq_false, not_false_eq_true, wr_of, uI_at, uC_at, q_bi_s, q_bl_s, q_br_s, q_bv_s, Int.toNat_natCast, tn_1, tn_m, tn_n, Int.toNat_zero, Int.toNat_one, h2, h3, e]
    have K1 : Kp 34 34 I (uI (uI I 34 4 (((o + 1) % 16 : Nat) : Int)) 34 2 ((und.length : Int) - 1)) := Kp_uI (Kp_uI Kp_rf (by omega) (by omega)) (by omega) (by omega)
    obtain ⟨B, I', a1, a2, a3, a4, a5⟩ := c_keep1 (t := t) (u := u) (J := J) (und := und.tail) (img := img) (o := (o + 1) % 16) (Nat.mod_lt _ (by omega)) (CAt_kp G K1 (by omega)) hD (by simp (disch := omega) only [↓reduceIte, lt_TI, lt_FI, le_TI, le_FI, eq_TI, eq_FI, lt_TN, lt_FN, le_TN, le_FN, eq_TN, eq_FN, and_self, and_true, true_and, and_false, false_and, or_true, true_or, or_false, false_or, not_true_eq_false, not_false_eq_true, wr_of, uI_at, uC_at, q_bi_s, q_bl_s, q_br_s, q_bv_s, Int.toNat_natCast, tn_1, tn_m, tn_n, Int.toNat_zero, Int.toNat_one]) (by rw [List.length_tail]; simp (disch := omega) only [↓reduceIte, lt_TI, lt_FI, le_TI, le_FI, eq_TI, eq_FI, lt_TN, lt_FN, le_TN, le_FN, eq_TN, eq_FN, and_self, and_true, true_and, and_false, false_and, or_true, true_or, or_false, false_or, not_true_eq_false, not_false_eq_true, wr_of, uI_at, uC_at, q_bi_s, q_bl_s, q_br_s, q_bv_s, Int.toNat_natCast, tn_1, tn_m, tn_n, Int.toNat_zero, Int.toNat_one] <;> omega) (by simp (disch := omega) only [↓reduceIte, lt_TI, lt_FI, le_TI, le_FI, eq_TI, eq_FI, lt_TN, lt_FN, le_TN, le_FN, eq_TN, eq_FN, and_self, and_true, true_and, and_false, false_and, or_true, true_or, or_false, false_or, not_true_eq_false, not_false_eq_true, wr_of, uI_at, uC_at, q_bi_s, q_bl_s, q_br_s, q_bv_s, Int.toNat_natCast, tn_1, tn_m, tn_n, Int.toNat_zero, Int.toNat_one, h4]) (by rw [List.length_tail]; omega) h6 (fun i hi => by
      rw [List.length_tail] at hi
      have m2 : ((o + 1) % 16 + i) % 16 < 16 := Nat.mod_lt _ (by omega)
      have := h7 (i + 1) (by omega)
      rw [gS_tail, show ((o + 1) % 16 + i) % 16 = (o + (i + 1)) % 16 by omega]
      have m3 : (o + (i + 1)) % 16 < 16 := Nat.mod_lt _ (by omega)
      exact CAt_kp this K1 (by omega)) (fun i hi => CAt_kp (h8 i hi) K1 (by omega))
    exact ⟨B, I', a1, a2, a3, a4, Kp_tr K1 a5 (by omega) (by omega) (by omega) (by omega)⟩
  · rw [if_neg q]
    simp (disch := omega) only [↓reduceIte, lt_TI, lt_FI, le_TI, le_FI, eq_TI, eq_FI, lt_TN, lt_FN, le_TN, le_FN, eq_TN, eq_FN, and_self, and_true, true_and, and_false, false_and, or_true, true_or, or_false, false_or, not_true_eq_false, not_false_eq_true, wr_of, uI_at, uC_at, q_bi_s, q_bl_s, q_br_s, q_bv_s, Int.toNat_natCast, tn_1, tn_m, tn_n, Int.toNat_zero, Int.toNat_one, h2, h3]
    exact c_keep1 h1 G hD h2 h3 h4 (by omega) h6 h7 h8
theorem c_returnTo (P : PAt I und img) (hu : 0 < und.length) {D : Nat} (k0 : CId D) (hD : D + 9 < 34 ∨ 226 < D) : ∃ I', q_E (38, 0, [vr 34, vr D], []) (qk t u I J) = some (vu, qk t u I' J) ∧ PAt I' und.dropLast img ∧ CAt I' D (und.getD (und.length - 1) S0) ∧ (∀ a, a ≠ 34 → (a < D ∨ D + 9 < a) → I' a = I a) := by
  obtain ⟨o, h1, h2, h3, h4, h5, h6, h7, h8⟩ := P
  have m : (o + (und.length - 1)) % 16 < 16 := Nat.mod_lt _ (by omega)
  have e : Int.tmod ((o : Int) + ((und.length : Int) - 1)) 16 = (((o + (und.length - 1)) % 16 : Nat) : Int) := by
    rw [show (o : Int) + ((und.length : Int) - 1) = ((o + (und.length - 1) : Nat) : Int) by omega]; exact (Int.ofNat_tmod _ _).symm
  have K1 : Kp 34 34 I (uI I 34 2 ((und.length : Int) - 1)) := Kp_uI Kp_rf (by omega) (by omega)
  obtain ⟨I1, a1, a2, a3⟩ := c_ccopy (t := t) (u := u) (J := J) k0 (CAt_kp (h7 (und.length - 1) (by omega)) K1 (by omega)) (by omega)
  rw [e38_0]
  simp (disch := omega) only [↓reduceIte, lt_TI, lt_FI, le_TI, le_FI, eq_TI, eq_FI, lt_TN, lt_FN, le_TN, le_FN, eq_TN, eq_FN, and_self, and_true, true_and, and_false, false_and, or_true, true_or, or_false, false_or, not_true_eq_false, not_false_eq_true, wr_of, uI_at, uC_at, q_bi_s, q_bl_s, q_br_s, q_bv_s, Int.toNat_natCast, tn_1, tn_m, tn_n, Int.toNat_zero, Int.toNat_one, h2, h3, e, R_K t u _ m, k0.1, a1]
  rw [e38_38_9]
  refine ⟨I1, rfl, ?_, a2, fun a q1 q2 => by rw [a3 a (by omega), K1 a (by omega)]⟩
  have e34 := a3 34 (by omega)
  refine ⟨o, h1, ?_, ?_, ?_, ?_, h6, fun i hi => ?_, fun i hi => ?_⟩
  · rw [e34]; simp (disch := omega) only [↓reduceIte, lt_TI, lt_FI, le_TI, le_FI, eq_TI, eq_FI, lt_TN, lt_FN, le_TN, le_FN, eq_TN, eq_FN, and_self, and_true, true_and, and_false, false_and, or_true, true_or, or_false, false_or, not_true_eq_false, not_false_eq_true, wr_of, uI_at, uC_at, q_bi_s, q_bl_s, q_br_s, q_bv_s, Int.toNat_natCast, tn_1, tn_m, tn_n, Int.toNat_zero, Int.toNat_one, h2]
  · rw [e34, List.length_dropLast]; simp (disch := omega) only [↓reduceIte, lt_TI, lt_FI, le_TI, le_FI, eq_TI, eq_FI, lt_TN, lt_FN, le_TN, le_FN, eq_TN, eq_FN, and_self, and_true, true_and, and_false, false_and, or_true, true_or, or_false, false_or, not_true_eq_false, not_false_eq_true, wr_of, uI_at, uC_at, q_bi_s, q_bl_s, q_br_s, q_bv_s, Int.toNat_natCast, tn_1, tn_m, tn_n, Int.toNat_zero, Int.toNat_one] <;> omega
  · rw [e34]; simp (disch := omega) only [↓reduceIte, lt_TI, lt_FI, le_TI, le_FI, eq_TI, eq_FI, lt_TN, lt_FN, le_TN, le_FN, eq_TN, eq_FN, and_self, and_true, true_and, and_false, false_and, or_true, true_or, or_false, false_or, not_true_eq_false, not_false_eq_true, wr_of, uI_at, uC_at, q_bi_s, q_bl_s, q_br_s, q_bv_s, Int.toNat_natCast, tn_1, tn_m, tn_n, Int.toNat_zero, Int.toNat_one, h4]
  · rw [List.length_dropLast]; omega
  · rw [List.length_dropLast] at hi
    rw [gS_dl (by omega)]
    have m2 : (o + i) % 16 < 16 := Nat.mod_lt _ (by omega)
    exact CAt_kp (CAt_kp (h7 i (by omega)) K1 (by omega)) a3 (by omega)
  · exact CAt_kp (CAt_kp (h8 i hi) K1 (by omega)) a3 (by omega)
theorem c_keepImage (P : PAt I und img) (hi : img.length < 3) {D : Nat} (G : CAt I D s) (hD : D + 9 < 34 ∨ 226 < D) : ∃ I', q_E (39, 0, [vr 34, vr D], []) (qk t u I J) = some (vi (img.length : Int), qk t u I' J) ∧ PAt I' und (img ++ [s]) ∧ Kp 34 226 I I' := by
  obtain ⟨o, h1, h2, h3, h4, h5, h6, h7, h8⟩ := P
  have k0 := CId_P img.length hi
  obtain ⟨I1, a1, a2, a3⟩ := c_ccopy (t := t) (u := u) (J := J) k0 G (by omega)
  rw [e39_0]
  simp (disch := omega) only [↓reduceIte, lt_TI, lt_FI, le_TI, le_FI, eq_TI, eq_FI, lt_TN, lt_FN, le_TN, le_FN, eq_TN, eq_FN, and_self, and_true, true_and, and_false, false_and, or_true, true_or, or_false, false_or, not_true_eq_false, not_false_eq_true, wr_of, uI_at, uC_at, q_bi_s, q_bl_s, q_br_s, q_bv_s, Int.toNat_natCast, tn_1, tn_m, tn_n, Int.toNat_zero, Int.toNat_one, h4, R_P t u _ hi, k0.1, a1]
  rw [e39_23]
  have e34 : I1 34 = I 34 := a3 34 (by omega)
  simp (disch := omega) only [↓reduceIte, lt_TI, lt_FI, le_TI, le_FI, eq_TI, eq_FI, lt_TN, lt_FN, le_TN, le_FN, eq_TN, eq_FN, and_self, and_true, true_and, and_false, false_and, or_true, true_or, or_false, false_or, not_true_eq_false, not_false_eq_true, wr_of, uI_at, uC_at, q_bi_s, q_bl_s, q_br_s, q_bv_s, Int.toNat_natCast, tn_1, tn_m, tn_n, Int.toNat_zero, Int.toNat_one, e34, h4, Int.add_sub_cancel]
  have K1 : Kp 34 34 I1 (uI I1 34 3 ((img.length : Int) + 1)) := Kp_uI Kp_rf (by omega) (by omega)
  refine ⟨_, rfl, ⟨o, h1, ?_, ?_, ?_, h5, ?_, fun i hi => ?_, fun i hi => ?_⟩, Kp_tr a3 K1 (by omega) (by omega) (by omega) (by omega)⟩
  · simp (disch := omega) only [↓reduceIte, lt_TI, lt_FI, le_TI, le_FI, eq_TI, eq_FI, lt_TN, lt_FN, le_TN, le_FN, eq_TN, eq_FN, and_self, and_true, true_and, and_false, false_and, or_true, true_or, or_false, false_or, not_true_eq_false, not_false_eq_true, wr_of, uI_at, uC_at, q_bi_s, q_bl_s, q_br_s, q_bv_s, Int.toNat_natCast, tn_1, tn_m, tn_n, Int.toNat_zero, Int.toNat_one, e34, h2]
  · simp (disch := omega) only [↓reduceIte, lt_TI, lt_FI, le_TI, le_FI, eq_TI, eq_FI, lt_TN, lt_FN, le_TN, le_FN, eq_TN, eq_FN, and_self, and_true, true_and, and_false, false_and, or_true, true_or, or_false, false_or, not_true_eq_false, not_false_eq_true, wr_of, uI_at, uC_at, q_bi_s, q_bl_s, q_br_s, q_bv_s, Int.toNat_natCast, tn_1, tn_m, tn_n, Int.toNat_zero, Int.toNat_one, e34, h3]
  · rw [List.length_append]; simp (disch := omega) only [↓reduceIte, lt_TI, lt_FI, le_TI, le_FI, eq_TI, eq_FI, lt_TN, lt_FN, le_TN, le_FN, eq_TN, eq_FN, and_self, and_true, true_and, and_false, false_and, or_true, true_or, or_false, false_or, not_true_eq_false, not_false_eq_true, wr_of, uI_at, uC_at, q_bi_s, q_bl_s, q_br_s, q_bv_s, Int.toNat_natCast, tn_1, tn_m, tn_n, Int.toNat_zero, Int.toNat_one] <;> rfl
  · rw [List.length_append]; simp; omega
  · have m2 : (o + i) % 16 < 16 := Nat.mod_lt _ (by omega)
    exact CAt_kp (CAt_kp (h7 i (by omega)) a3 (by omega)) K1 (by omega)
  · rw [List.length_append] at hi
    have hi : i < img.length + 1 := hi
    rw [gS_app]
    by_cases q : i < img.length
    · rw [if_pos q]
      exact CAt_kp (CAt_kp (h8 i q) a3 (by omega)) K1 (by omega)
    · have : i = img.length := by omega
      subst this
      rw [if_neg q, if_pos rfl]
      exact CAt_kp a2 K1 (by omega)
theorem c_returnToImage (P : PAt I und img) {n : Nat} (hn : n < img.length) {D : Nat} (k0 : CId D) (hD : D + 9 < 34 ∨ 226 < D) : ∃ I', q_E (40, 0, [vr 34, vi (n : Int), vr D], []) (qk t u I J) = some (vu, qk t u I' J) ∧ PAt I' [] img ∧ CAt I' D (img.getD n S0) ∧ (∀ a, a ≠ 34 → (a < D ∨ D + 9 < a) → I' a = I a) := by
  obtain ⟨o, h1, h2, h3, h4, h5, h6, h7, h8⟩ := P
  obtain ⟨I1, a1, a2, a3⟩ := c_ccopy (t := t) (u := u) (J := J) k0 (h8 n hn) (by omega)
  rw [e40_0]
  simp (disch := omega) only [↓reduceIte, lt_TI, lt_FI, le_TI, le_FI, eq_TI, eq_FI, lt_TN, lt_FN, le_TN, le_FN, eq_TN, eq_FN, and_self, and_true, true_and, and_false, false_and, or_true, true_or, or_false, false_or, not_true_eq_false, not_false_eq_true, wr_of, uI_at, uC_at, q_bi_s, q_bl_s, q_br_s, q_bv_s, Int.toNat_natCast, tn_1, tn_m, tn_n, Int.toNat_zero, Int.toNat_one, h4, R_P t u n (by omega), k0.1, a1]
  rw [e40_22]
  have e34 : I1 34 = I 34 := a3 34 (by omega)
  have K1 : Kp 34 34 I1 (uI I1 34 2 0) := Kp_uI Kp_rf (by omega) (by omega)
  refine ⟨_, rfl, ⟨o, h1, ?_, ?_, ?_, Nat.zero_le _, h6, fun i hi => (by cases hi), fun i hi => CAt_kp (CAt_kp (h8 i hi) a3 (by omega)) K1 (by omega)⟩, CAt_kp a2 K1 (by omega), fun a q1 q2 => by rw [K1 a (by omega), a3 a (by omega)]⟩
  · simp (disch := omega) only [↓reduceIte, lt_TI, lt_FI, le_TI, le_FI, eq_TI, eq_FI, lt_TN, lt_FN, le_TN, le_FN, eq_TN, eq_FN, and_self, and_true, true_and, and_false, false_and, or_true, true_or, or_false, false_or, not_true_eq_false, not_false_eq_true, wr_of, uI_at, uC_at, q_bi_s, q_bl_s, q_br_s, q_bv_s, Int.toNat_natCast, tn_1, tn_m, tn_n, Int.toNat_zero, Int.toNat_one, e34, h2]
  · simp (disch := omega) only [↓reduceIte, lt_TI, lt_FI, le_TI, le_FI, eq_TI, eq_FI, lt_TN, lt_FN, le_TN, le_FN, eq_TN, eq_FN, and_self, and_true, true_and, and_false, false_and, or_true, true_or, or_false, false_or, not_true_eq_false, not_false_eq_true, wr_of, uI_at, uC_at, q_bi_s, q_bl_s, q_br_s, q_bv_s, Int.toNat_natCast, tn_1, tn_m, tn_n, Int.toNat_zero, Int.toNat_one] <;> rfl
  · simp (disch := omega) only [↓reduceIte, lt_TI, lt_FI, le_TI, le_FI, eq_TI, eq_FI, lt_TN, lt_FN, le_TN, le_FN, eq_TN, eq_FN, and_self, and_true, true_and, and_false, false_and, or_true, true_or, or_false, false_or, not_true_eq_false, not_false_eq_true, wr_of, uI_at, uC_at, q_bi_s, q_bl_s, q_br_s, q_bv_s, Int.toNat_natCast, tn_1, tn_m, tn_n, Int.toNat_zero, Int.toNat_one, e34, h4]
theorem c_forget (P : PAt I und img) : ∃ I', q_E (36, 0, [vr 34], []) (qk t u I J) = some (vu, qk t u I' J) ∧ PAt I' [] [] ∧ Kp 34 34 I I' := by
  obtain ⟨o, h1, h2, h3, h4, h5, h6, h7, h8⟩ := P
  rw [e36_0]
  refine ⟨_, rfl, ⟨o, h1, ?_, ?_, ?_, Nat.zero_le _, Nat.zero_le _, fun i hi => (by cases hi), fun i hi => (by cases hi)⟩, Kp_uI (Kp_uI Kp_rf (by omega) (by omega)) (by omega) (by omega)⟩
  · simp (disch := omega) only [↓reduceIte, lt_TI, lt_FI, le_TI, le_FI, eq_TI, eq_FI, lt_TN, lt_FN, le_TN, le_FN, eq_TN, eq_FN, and_self, and_true, true_and, and_false, false_and, or_true, true_or, or_false, false_or, not_true_eq_false, not_false_eq_true, wr_of, uI_at, uC_at, q_bi_s, q_bl_s, q_br_s, q_bv_s, Int.toNat_natCast, tn_1, tn_m, tn_n, Int.toNat_zero, Int.toNat_one, h2]
  · simp (disch := omega) only [↓reduceIte, lt_TI, lt_FI, le_TI, le_FI, eq_TI, eq_FI, lt_TN, lt_FN, le_TN, le_FN, eq_TN, eq_FN, and_self, and_true, true_and, and_false, false_and, or_true, true_or, or_false, false_or, not_true_eq_false, not_false_eq_true, wr_of, uI_at, uC_at, q_bi_s, q_bl_s, q_br_s, q_bv_s, Int.toNat_natCast, tn_1, tn_m, tn_n, Int.toNat_zero, Int.toNat_one] <;> rfl
  · simp (disch := omega) only [↓reduceIte, lt_TI, lt_FI, le_TI, le_FI, eq_TI, eq_FI, lt_TN, lt_FN, le_TN, le_FN, eq_TN, eq_FN, and_self, and_true, true_and, and_false, false_and, or_true, true_or, or_false, false_or, not_true_eq_false, not_false_eq_true, wr_of, uI_at, uC_at, q_bi_s, q_bl_s, q_br_s, q_bv_s, Int.toNat_natCast, tn_1, tn_m, tn_n, Int.toNat_zero, Int.toNat_one] <;> rfl
end

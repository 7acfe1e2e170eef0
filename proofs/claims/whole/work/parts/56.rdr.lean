/-! Reader -/
/-- words and wholes: nothing but the tape's token, the reader's number, its fault changes -/
def RW (I I' : Nat → Nat → Int) : Prop := (∀ a, a ≠ 3 → a ≠ 2 → I' a = I a) ∧ I' 3 1 = I 3 1 ∧ I' 3 4 = I 3 4
def RF (u : Nat) (I I' : Nat → Nat → Int) : Prop := (∀ a, a ≠ 3 → (a < 2 ∨ a = 4 ∨ 6 < a) → (a < u ∨ u + 16 < a) → I' a = I a) ∧ I' 3 1 = I 3 1 ∧ I' 3 4 = I 3 4
theorem RW_ks {I I' : Nat → Nat → Int} (h : KS I I') : RW I I' := ⟨fun a h1 _ => h.1 a (by omega), h.2⟩
theorem RW_4 {I : Nat → Nat → Int} {k : Nat} {v : Int} : RW I (uI I 2 k v) := ⟨fun a _ h2 => uI_o1 h2, uI_ne (Or.inl (by omega)), uI_ne (Or.inl (by omega))⟩
theorem RW_rf {I : Nat → Nat → Int} : RW I I := ⟨fun _ _ _ => rfl, rfl, rfl⟩
theorem RW_tr {I I1 I2 : Nat → Nat → Int} (a : RW I I1) (b : RW I1 I2) : RW I I2 := ⟨fun c h1 h2 => (b.1 c h1 h2).trans (a.1 c h1 h2), b.2.1.trans a.2.1, b.2.2.trans a.2.2⟩
theorem RF_rw {u : Nat} {I I' : Nat → Nat → Int} (h : RW I I') : RF u I I' := ⟨fun a h1 h2 _ => h.1 a h1 (by omega), h.2⟩
theorem RF_tr {u : Nat} {I I1 I2 : Nat → Nat → Int} (a : RF u I I1) (b : RF u I1 I2) : RF u I I2 := ⟨fun c h1 h2 h3 => (b.1 c h1 h2 h3).trans (a.1 c h1 h2 h3), b.2.1.trans a.2.1, b.2.2.trans a.2.2⟩
theorem RF_rf {u : Nat} {I : Nat → Nat → Int} : RF u I I := ⟨fun _ _ _ _ => rfl, rfl, rfl⟩
theorem KT_w {I I' : Nat → Nat → Int} {b : Nat → Nat} {n : Nat} {k : Tk} (H : KT I b n k) (h2 : I' 3 = I 3) (h3 : I' 4 = I 4) : KT I' b n k := by
  obtain ⟨a1, a2, a3, a4, a5, a6, a7⟩ := H
  exact ⟨by rw [h2]; exact a1, a2, fun i hi => by rw [h3]; exact a3 i hi, by rw [h2]; exact a4, by rw [h2]; exact a5, by rw [h2]; exact a6, a7⟩
theorem KT_4 {I : Nat → Nat → Int} {b : Nat → Nat} {n : Nat} {k : Tk} (H : KT I b n k) {j : Nat} {v : Int} : KT (uI I 2 j v) b n k := KT_w H (uI_o1 (by omega)) (uI_o1 (by omega))
theorem CAt_w {I I' : Nat → Nat → Int} {C : Nat} {s : Sn} (H : CAt I C s) (h : ∀ a, C ≤ a → a ≤ C + 9 → I' a = I a) : CAt I' C s := by
  refine ⟨H.1, by rw [h _ (by omega) (by omega)]; exact H.2.1, fun c hc => ?_⟩
  obtain ⟨a1, a2, a3, a4, a5⟩ := H.2.2 c hc
  exact ⟨a1, by rw [h _ (by omega) (by omega)]; exact a2, by rw [h _ (by omega) (by omega)]; exact a3, a4, fun i hi => by rw [h _ (by omega) (by omega)]; exact a5 i hi⟩
theorem TAt_rw {I I' : Nat → Nat → Int} {X : Nat} {T : Tt} (H : TAt I X T) (h : ∀ a, X ≤ a → a ≤ X + 16 → I' a = I a) : TAt I' X T := by
  obtain ⟨h1, h2, h3, h4, h5, h6, h7, h8, h9, h10⟩ := H
  have hc : ∀ c : Nat, c < 4 → HAt I' (X + 1 + 2 + 2 * c) (tB T c).1 (tB T c).2 := fun c hc => by
    obtain ⟨a1, a2, a3, a4, a5⟩ := h2.2.2 c hc
    exact ⟨a1, by rw [h _ (by omega) (by omega)]; exact a2, by rw [h _ (by omega) (by omega)]; exact a3, a4, fun i hi => by rw [h _ (by omega) (by omega)]; exact a5 i hi⟩
  refine ⟨h1, ⟨h2.1, by rw [h _ (by omega) (by omega)]; exact h2.2.1, hc⟩, by rw [h _ (by omega) (by omega)]; exact h3, by rw [h _ (by omega) (by omega)]; exact h4, by rw [h _ (by omega) (by omega)]; exact h5, by rw [h _ (by omega) (by omega)]; exact h6, by rw [h _ (by omega) (by omega)]; exact h7, fun i hi => by rw [h _ (by omega) (by omega)]; exact h8 i hi, fun i hi => ?_, fun i hi => ?_⟩
  · rw [h _ (by omega) (by omega), h _ (by omega) (by omega)]; exact h9 i hi
  · rw [h _ (by omega) (by omega), h _ (by omega) (by omega), h _ (by omega) (by omega)]; exact h10 i hi
def NAt (I : Nat → Nat → Int) (b : Nat → Nat) (n m : Nat) (nm : Nat → List Nat) : Prop := ∀ c, c < m → ∃ f l : Nat, I 5 c = (f : Int) ∧ I 6 c = (l : Int) ∧ f + l ≤ n ∧ wrd b f (f + l) = nm c
theorem NAt_w {I I' : Nat → Nat → Int} {b : Nat → Nat} {n m : Nat} {nm : Nat → List Nat} (H : NAt I b n m nm) (h5 : I' 5 = I 5) (h6 : I' 6 = I 6) : NAt I' b n m nm := fun c hc => by
  obtain ⟨f, l, x⟩ := H c hc
  exact ⟨f, l, by rw [h5, h6]; exact x⟩
def RA (I : Nat → Nat → Int) (u : Nat) (b : Nat → Nat) (n : Nat) (s : PSt) : Prop := TAt I u s.1 ∧ KT I b n s.2.2 ∧ NAt I b n (tC s.1) s.2.1
def RE (I I' : Nat → Nat → Int) (u : Nat) (b : Nat → Nat) (n : Nat) (v : Int) (R : Sum PSt Flt) : Prop := match R with
  | Sum.inl s => v = 1 ∧ RA I' u b n s ∧ I' 2 6 = I 2 6
  | Sum.inr f => v = 0 ∧ I' 2 6 = (f.1 : Int) ∧ I' 3 2 = (f.2 : Int)
section
variable {t u : Nat} {I J : Nat → Nat → Int} {b : Nat → Nat} {n : Nat} {k : Tk} {T : Tt} {nm : Nat → List Nat}
theorem c_readWord (H : KT I b n k) {s : Nat} (hs : s < 12) : (isWd b k (1000 + s) = true → ∃ I', q_E (56, 0, [vr 2, vr (1000 + s)], []) (qk t u I J) = some (vi 1, qk t u I' J) ∧ KT I' b n (tok b n k.2.2) ∧ KS I I') ∧ (¬ isWd b k (1000 + s) = true → ∃ I', q_E (56, 0, [vr 2, vr (1000 + s)], []) (qk t u I J) = some (vi 0, qk t u I' J) ∧ I' 2 6 = 1 ∧ I' 3 2 = (k.2.1 : Int) ∧ RW I I') := by
  have e := c_isWord (t := t) (u := u) (J := J) H hs
  constructor
  · intro h
    rw [if_pos h] at e
    obtain ⟨I1, a1, a2, a3⟩ := c_next (t := t) (u := u) (J := J) H
    simp (disch := omega) only [↓reduceIte, lt_TI, lt_FI, le_TI, le_FI, eq_TI, eq_FI, lt_TN, lt_FN, le_TN, le_FN, eq_TN, eq_FN, and_self, and_true, true_and, and_false, false_and, or_true, true_or, or_false, false_or, not_true_eq_false, not_false_eq_true, wr_of, uI_at, uC_at, q_bi_s, q_bl_s, q_br_s, q_bv_s, Int.toNat_natCast, tn_1, tn_m, tn_n, Int.toNat_zero, Int.toNat_one, e56_0, e, e56_8, a1, e56_24]
    exact ⟨I1, rfl, a2, a3⟩
  · intro h
    rw [if_neg h] at e
    have h2 := H.2.2.2.2.1
    simp (disch := omega) only [↓reduceIte, lt_TI, lt_FI, le_TI, le_FI, eq_TI, eq_FI, lt_TN, lt_FN, le_TN, le_FN, eq_TN, eq_FN, and_self, and_true, true_and, and_false, false_and, or_true, true_or, or_false, false_or, not_true_eq_false, not_false_eq_true, wr_of, uI_at, uC_at, q_bi_s, q_bl_s, q_br_s, q_bv_s, Int.toNat_natCast, tn_1, tn_m, tn_n, Int.toNat_zero, Int.toNat_one, e56_0, e, e56_8, e44_0, e56_16]
    exact ⟨_, rfl, by simp (disch := omega) only [↓reduceIte, lt_TI, lt_FI, le_TI, le_FI, eq_TI, eq_FI, lt_TN, lt_FN, le_TN, le_FN, eq_TN, eq_FN, and_self, and_true, true_and, and_false, false_and, or_true, true_or, or_false, false_or, not_true_eq_false, not_false_eq_true, wr_of, uI_at, uC_at, q_bi_s, q_bl_s, q_br_s, q_bv_s, Int.toNat_natCast, tn_1, tn_m, tn_n, Int.toNat_zero, Int.toNat_one], by simp (disch := omega) only [↓reduceIte, lt_TI, lt_FI, le_TI, le_FI, eq_TI, eq_FI, lt_TN, lt_FN, le_TN, le_FN, eq_TN, eq_FN, and_self, and_true, true_and, and_false, false_and, or_true, true_or, or_false, false_or, not_true_eq_false, not_false_eq_true, wr_of, uI_at, uC_at, q_bi_s, q_bl_s, q_br_s, q_bv_s, Int.toNat_natCast, tn_1, tn_m, tn_n, Int.toNat_zero, Int.toNat_one, h2], RW_4⟩
theorem k14 : kd 2 = 14 := rfl
theorem c_readWhole (H : KT I b n k) {lo hi : Nat} (h1 : lo ≤ 1000) (h2 : hi ≤ 1000) : (k.1 = 2 → ¬ (tvl b k < lo ∨ hi < tvl b k) → ∃ I', q_E (57, 0, [vr 2, vi (lo : Int), vi (hi : Int)], []) (qk t u I J) = some (vi 1, qk t u I' J) ∧ KT I' b n (tok b n k.2.2) ∧ I' 2 4 = (tvl b k : Int) ∧ (∀ j, j ≠ 4 → I' 2 j = I 2 j) ∧ RW I I') ∧ (k.1 = 2 → (tvl b k < lo ∨ hi < tvl b k) → ∃ I', q_E (57, 0, [vr 2, vi (lo : Int), vi (hi : Int)], []) (qk t u I J) = some (vi 0, qk t u I' J) ∧ I' 2 6 = 4 ∧ I' 3 2 = (k.2.1 : Int) ∧ RW I I') ∧ (k.1 ≠ 2 → ∃ I', q_E (57, 0, [vr 2, vi (lo : Int), vi (hi : Int)], []) (qk t u I J) = some (vi 0, qk t u I' J) ∧ I' 2 6 = 1 ∧ I' 3 2 = (k.2.1 : Int) ∧ RW I I') := by
  have h3 := H.2.2.2.1
  have hp := H.2.2.2.2.1
  refine ⟨fun q g => ?_, fun q g => ?_, fun q => ?_⟩
  · have e := c_whole (t := t) (u := u) (J := J) H q
    have lv := (KT_2 H q).2.2
    rw [q] at h3
    obtain ⟨I1, a1, a2, a3⟩ := c_next (t := t) (u := u) (J := J) (KT_4 (j := 4) (v := (tvl b k : Int)) H)
    simp (disch := omega) only [↓reduceIte, lt_TI, lt_FI, le_TI, le_FI, eq_TI, eq_FI, lt_TN, lt_FN, le_TN, le_FN, eq_TN, eq_FN, and_self, and_true, true_and, and_false, false_and, or_true, true_or, or_false, false_or, not_true_eq_false, not_false_eq_true, wr_of, uI_at, uC_at, q_bi_s, q_bl_s, q_br_s, q_bv_s, Int.toNat_natCast, tn_1, tn_m, tn_n, Int.toNat_zero, Int.toNat_one, e57_0, h3, e, e57_25, k14, a1, e57_57]
    exact ⟨I1, rfl, a2, by rw [a3.1 2 (by omega)]; simp (disch := omega) only [↓reduceIte, lt_TI, lt_FI, le_TI, le_FI, eq_TI, eq_FI, lt_TN, lt_FN, le_TN, le_FN, eq_TN, eq_FN, and_self, and_true, true_and, and_false, false_and, or_true, true_or, or_false, false_or, not_true_eq_false, not_false_eq_true, wr_of, uI_at, uC_at, q_bi_s, q_bl_s, q_br_s, q_bv_s, Int.toNat_natCast, tn_1, tn_m, tn_n, Int.toNat_zero, Int.toNat_one], fun j hj => by rw [a3.1 2 (by omega), uI_ne (Or.inr hj)], RW_tr RW_4 (RW_ks a3)⟩
  · have e := c_whole (t := t) (u := u) (J := J) H q
    have lv := (KT_2 H q).2.2
    rw [q] at h3
    refine ⟨uI (uI I 2 4 (tvl b k : Int)) 2 6 4, ?_, by simp (disch := omega) only [↓reduceIte, lt_TI, lt_FI, le_TI, le_FI, eq_TI, eq_FI, lt_TN, lt_FN, le_TN, le_FN, eq_TN, eq_FN, and_self, and_true, true_and, and_false, false_and, or_true, true_or, or_false, false_or, not_true_eq_false, not_false_eq_true, wr_of, uI_at, uC_at, q_bi_s, q_bl_s, q_br_s, q_bv_s, Int.toNat_natCast, tn_1, tn_m, tn_n, Int.toNat_zero, Int.toNat_one], by simp (disch := omega) only [↓reduceIte, lt_TI, lt_FI, le_TI, le_FI, eq_TI, eq_FI, lt_TN, lt_FN, le_TN, le_FN, eq_TN, eq_FN, and_self, and_true, true_and, and_false, false_and, or_true, true_or, or_false, false_or, not_true_eq_false, not_false_eq_true, wr_of, uI_at, uC_at, q_bi_s, q_bl_s, q_br_s, q_bv_s, Int.toNat_natCast, tn_1, tn_m, tn_n, Int.toNat_zero, Int.toNat_one, hp], RW_tr RW_4 RW_4⟩
    rcases Classical.em (tvl b k < lo) with z | z
    · simp (disch := omega) only [↓reduceIte, lt_TI, lt_FI, le_TI, le_FI, eq_TI, eq_FI, lt_TN, lt_FN, le_TN, le_FN, eq_TN, eq_FN, and_self, and_true, true_and, and_false, false_and, or_true, true_or, or_false, false_or, not_true_eq_false, not_false_eq_true, wr_of, uI_at, uC_at, q_bi_s, q_bl_s, q_br_s, q_bv_s, Int.toNat_natCast, tn_1, tn_m, tn_n, Int.toNat_zero, Int.toNat_one, e57_0, h3, e, e57_25, k14, e44_0, e57_49]
    · simp (disch := omega) only [↓reduceIte, lt_TI, lt_FI, le_TI, le_FI, eq_TI, eq_FI, lt_TN, lt_FN, le_TN, le_FN, eq_TN, eq_FN, and_self, and_true, true_and, and_false, false_and, or_true, true_or, or_false, false_or, not_true_eq_false, not_false_eq_true, wr_of, uI_at, uC_at, q_bi_s, q_bl_s, q_br_s, q_bv_s, Int.toNat_natCast, tn_1, tn_m, tn_n, Int.toNat_zero, Int.toNat_one, e57_0, h3, e, e57_25, k14, e44_0, e57_49]
  · simp (disch := omega) only [↓reduceIte, lt_TI, lt_FI, le_TI, le_FI, eq_TI, eq_FI, lt_TN, lt_FN, le_TN, le_FN, eq_TN, eq_FN, and_self, and_true, true_and, and_false, false_and, or_true, true_or, or_false, false_or, not_true_eq_false, not_false_eq_true, wr_of, uI_at, uC_at, q_bi_s, q_bl_s, q_br_s, q_bv_s, Int.toNat_natCast, tn_1, tn_m, tn_n, Int.toNat_zero, Int.toNat_one, e57_0, h3, e44_0, e57_16]
    exact ⟨_, rfl, by simp (disch := omega) only [↓reduceIte, lt_TI, lt_FI, le_TI, le_FI, eq_TI, eq_FI, lt_TN, lt_FN, le_TN, le_FN, eq_TN, eq_FN, and_self, and_true, true_and, and_false, false_and, or_true, true_or, or_false, false_or, not_true_eq_false, not_false_eq_true, wr_of, uI_at, uC_at, q_bi_s, q_bl_s, q_br_s, q_bv_s, Int.toNat_natCast, tn_1, tn_m, tn_n, Int.toNat_zero, Int.toNat_one], by simp (disch := omega) only [↓reduceIte, lt_TI, lt_FI, le_TI, le_FI, eq_TI, eq_FI, lt_TN, lt_FN, le_TN, le_FN, eq_TN, eq_FN, and_self, and_true, true_and, and_false, false_and, or_true, true_or, or_false, false_or, not_true_eq_false, not_false_eq_true, wr_of, uI_at, uC_at, q_bi_s, q_bl_s, q_br_s, q_bv_s, Int.toNat_natCast, tn_1, tn_m, tn_n, Int.toNat_zero, Int.toNat_one, hp], RW_4⟩
theorem c_isName (H : KT I b n k) : q_E (52, 0, [vr 2], []) (qk t u I J) = some (vi (if isNm b k = true then 1 else 0), qk t u I J) := by
  have h3 := H.2.2.2.1
  have e0 := c_isWord (t := t) (u := u) (J := J) H (i := 0) (by omega)
  have e3 := c_isWord (t := t) (u := u) (J := J) H (i := 3) (by omega)
  have e4 := c_isWord (t := t) (u := u) (J := J) H (i := 4) (by omega)
  have e5 := c_isWord (t := t) (u := u) (J := J) H (i := 5) (by omega)
  simp only [Nat.reduceAdd] at e0 e3 e4 e5
  unfold isNm
  by_cases q : k.1 = 1
  · rw [decide_eq_true q]
    cases w0 : isWd b k 1000
    · rw [w0] at e0
      cases w3 : isWd b k 1003
      · rw [w3] at e3
        cases w4 : isWd b k 1004
        · rw [w4] at e4
          cases w5 : isWd b k 1005
          · rw [w5] at e5
            simp (disch := omega) only [↓reduceIte, lt_TI, lt_FI, le_TI, le_FI, eq_TI, eq_FI, lt_TN, lt_FN, le_TN, le_FN, eq_TN, eq_FN, and_self, and_true, true_and, and_false, false_and, or_true, true_or, or_false, false_or, not_true_eq_false, not_false_eq_true, wr_of, uI_at, uC_at, q_bi_s, q_bl_s, q_br_s, q_bv_s, Int.toNat_natCast, tn_1, tn_m, tn_n, Int.toNat_zero, Int.toNat_one, e52_0, h3, q, e0, e52_20, e3, e52_32, e4, e52_44, e5, e52_56, Bool.false_eq_true, Bool.not_false, Bool.and_self]
          · rw [w5] at e5
            simp (disch := omega) only [↓reduceIte, lt_TI, lt_FI, le_TI, le_FI, eq_TI, eq_FI, lt_TN, lt_FN, le_TN, le_FN, eq_TN, eq_FN, and_self, and_true, true_and, and_false, false_and, or_true, true_or, or_false, false_or, not_true_eq_false, not_false_eq_true, wr_of, uI_at, uC_at, q_bi_s, q_bl_s, q_br_s, q_bv_s, Int.toNat_natCast, tn_1, tn_m, tn_n, Int.toNat_zero, Int.toNat_one, e52_0, h3, q, e0, e52_20, e3, e52_32, e4, e52_44, e5, e52_56, Bool.false_eq_true, Bool.not_false, Bool.not_true, Bool.and_self, Bool.and_false]
        · rw [w4] at e4
          simp (disch := omega) only [↓reduceIte, lt_TI, lt_FI, le_TI, le_FI, eq_TI, eq_FI, lt_TN, lt_FN, le_TN, le_FN, eq_TN, eq_FN, and_self, and_true, true_and, and_false, false_and, or_true, true_or, or_false, false_or, not_true_eq_false, not_false_eq_true, wr_of, uI_at, uC_at, q_bi_s, q_bl_s, q_br_s, q_bv_s, Int.toNat_natCast, tn_1, tn_m, tn_n, Int.toNat_zero, Int.toNat_one, e52_0, h3, q, e0, e52_20, e3, e52_32, e4, e52_44, Bool.false_eq_true, Bool.not_true, Bool.and_false, Bool.false_and]
      · rw [w3] at e3
        simp (disch := omega) only [↓reduceIte, lt_TI, lt_FI, le_TI, le_FI, eq_TI, eq_FI, lt_TN, lt_FN, le_TN, le_FN, eq_TN, eq_FN, and_self, and_true, true_and, and_false, false_and, or_true, true_or, or_false, false_or, not_true_eq_false, not_false_eq_true, wr_of, uI_at, uC_at, q_bi_s, q_bl_s, q_br_s, q_bv_s, Int.toNat_natCast, tn_1, tn_m, tn_n, Int.toNat_zero, Int.toNat_one, e52_0, h3, q, e0, e52_20, e3, e52_32, Bool.false_eq_true, Bool.not_true, Bool.and_false, Bool.false_and]
    · rw [w0] at e0
      simp (disch := omega) only [↓reduceIte, lt_TI, lt_FI, le_TI, le_FI, eq_TI, eq_FI, lt_TN, lt_FN, le_TN, le_FN, eq_TN, eq_FN, and_self, and_true, true_and, and_false, false_and, or_true, true_or, or_false, false_or, not_true_eq_false, not_false_eq_true, wr_of, uI_at, uC_at, q_bi_s, q_bl_s, q_br_s, q_bv_s, Int.toNat_natCast, tn_1, tn_m, tn_n, Int.toNat_zero, Int.toNat_one, e52_0, h3, q, e0, e52_20, Bool.false_eq_true, Bool.not_true, Bool.and_false, Bool.false_and]
  · rw [decide_eq_false q]
    simp (disch := omega) only [↓reduceIte, lt_TI, lt_FI, le_TI, le_FI, eq_TI, eq_FI, lt_TN, lt_FN, le_TN, le_FN, eq_TN, eq_FN, and_self, and_true, true_and, and_false, false_and, or_true, true_or, or_false, false_or, not_true_eq_false, not_false_eq_true, wr_of, uI_at, uC_at, q_bi_s, q_bl_s, q_br_s, q_bv_s, Int.toNat_natCast, tn_1, tn_m, tn_n, Int.toNat_zero, Int.toNat_one, e52_0, h3, Bool.false_and, Bool.false_eq_true]
theorem c_isWordAt (H : KT I b n k) (q : k.1 = 1) {f l : Nat} (hf : f + l ≤ n) : q_E (91, 0, [vr 3, vi (f : Int), vi (l : Int), vu], []) (qk t u I J) = some (vi (if wrd b f (f + l) = wrd b k.2.1 k.2.2 then 1 else 0), qk t u I J) := by
  obtain ⟨h1, h2, h3, h4, h5, h6, h7, h8, -⟩ := H
  rw [q] at h4
  rw [e91_0, h4, h5, h6]
  by_cases q2 : k.2.2 - k.2.1 = l
  · simp (disch := omega) only [↓reduceIte, lt_TI, lt_FI, le_TI, le_FI, eq_TI, eq_FI, lt_TN, lt_FN, le_TN, le_FN, eq_TN, eq_FN, and_self, and_true, true_and, and_false, false_and, or_true, true_or, or_false, false_or, not_true_eq_false, not_false_eq_true, wr_of, uI_at, uC_at, q_bi_s, q_bl_s, q_br_s, q_bv_s, Int.toNat_natCast, tn_1, tn_m, tn_n, Int.toNat_zero, Int.toNat_one]
    have loop : ∀ r j : Nat, j + r = l → (∀ a, a < j → b (k.2.1 + a) = b (f + a)) → q_E (91, 40, [vr 3, vi (f : Int), vi (l : Int), vi (j : Int)], []) (qk t u I J) = some (vi (if wrd b f (f + l) = wrd b k.2.1 k.2.2 then 1 else 0), qk t u I J) := by
      intro r
      induction r with
      | zero =>
        intro j hj he
        have e : wrd b f (f + l) = wrd b k.2.1 k.2.2 := gD_ext (by rw [wrd_len, wrd_len]; omega) (fun a ha => by rw [wrd_len] at ha; rw [wrd_at b (by omega), wrd_at b (by omega)]; exact (he a (by omega)).symm)
        rw [if_pos e, e91_40]
        simp (disch := omega) only [↓reduceIte, lt_TI, lt_FI, le_TI, le_FI, eq_TI, eq_FI, lt_TN, lt_FN, le_TN, le_FN, eq_TN, eq_FN, and_self, and_true, true_and, and_false, false_and, or_true, true_or, or_false, false_or, not_true_eq_false, not_false_eq_true, wr_of, uI_at, uC_at, q_bi_s, q_bl_s, q_br_s, q_bv_s, Int.toNat_natCast, tn_1, tn_m, tn_n, Int.toNat_zero, Int.toNat_one]
      | succ r ih =>
        intro j hj he
        have v3 := h3 (k.2.1 + j) (by omega)
        have w3 := h3 (f + j) (by omega)
        rw [e91_40, h5]
        simp (disch := omega) only [↓reduceIte, lt_TI, lt_FI, le_TI, le_FI, eq_TI, eq_FI, lt_TN, lt_FN, le_TN, le_FN, eq_TN, eq_FN, and_self, and_true, true_and, and_false, false_and, or_true, true_or, or_false, false_or, not_true_eq_false, not_false_eq_true, wr_of, uI_at, uC_at, q_bi_s, q_bl_s, q_br_s, q_bv_s, Int.toNat_natCast, tn_1, tn_m, tn_n, Int.toNat_zero, Int.toNat_one]
        rw [tn_a, tn_a, v3.2, w3.2]
        by_cases q3 : b (k.2.1 + j) = b (f + j)
        · rw [if_pos ((bm_eqv v3.1 w3.1).mpr q3)]
          exact ih (j + 1) (by omega) (fun a ha => by
            by_cases z : a = j
            · rw [z]; exact q3
            · exact he a (by omega))
        · rw [if_neg (fun z => q3 ((bm_eqv v3.1 w3.1).mp z)), if_neg (fun z => q3 (by
            have x1 := wrd_at b (p := f) (a := f + l) (i := j) (by omega)
            have x2 := wrd_at b (p := k.2.1) (a := k.2.2) (i := j) (by omega)
            rw [z, x2] at x1
            exact x1))]
    exact loop l 0 (by omega) (fun a ha => by omega)
  · have ne : ¬ wrd b f (f + l) = wrd b k.2.1 k.2.2 := fun z => q2 (by
      have := congrArg List.length z
      rw [wrd_len, wrd_len] at this
      omega)
    rw [if_neg ne]
    simp (disch := omega) only [↓reduceIte, lt_TI, lt_FI, le_TI, le_FI, eq_TI, eq_FI, lt_TN, lt_FN, le_TN, le_FN, eq_TN, eq_FN, and_self, and_true, true_and, and_false, false_and, or_true, true_or, or_false, false_or, not_true_eq_false, not_false_eq_true, wr_of, uI_at, uC_at, q_bi_s, q_bl_s, q_br_s, q_bv_s, Int.toNat_natCast, tn_1, tn_m, tn_n, Int.toNat_zero, Int.toNat_one]
theorem c_findNamed (A : TAt I u T) (H : KT I b n k) (N : NAt I b n (tC T) nm) (q : k.1 = 1) (h4 : tC T ≤ 4) : q_E (53, 0, [vr 2, vu], []) (qk t u I J) = some (vi (if fnd b T nm k < tC T then (fnd b T nm k : Int) else -1), qk t u I J) := by
  have k18 := A.1.1
  have k9 := A.2.2.2.2.1
  have loop : ∀ r c : Nat, c + r = tC T → (∀ a, a < c → nm a ≠ wrd b k.2.1 k.2.2) → q_E (53, 2, [vr 2, vi (c : Int)], []) (qk t u I J) = some (vi (if fnd b T nm k < tC T then (fnd b T nm k : Int) else -1), qk t u I J) := by
    intro r
    induction r with
    | zero =>
      intro c hc hne
      have e : fnd b T nm k = tC T := fsti_eq (Nat.le_refl _) (fun a ha => decide_eq_false (hne a (by omega))) (fun z => by omega)
      rw [e, if_neg (show ¬ tC T < tC T by omega), e53_2]
      simp (disch := omega) only [↓reduceIte, lt_TI, lt_FI, le_TI, le_FI, eq_TI, eq_FI, lt_TN, lt_FN, le_TN, le_FN, eq_TN, eq_FN, and_self, and_true, true_and, and_false, false_and, or_true, true_or, or_false, false_or, not_true_eq_false, not_false_eq_true, wr_of, uI_at, uC_at, q_bi_s, q_bl_s, q_br_s, q_bv_s, Int.toNat_natCast, tn_1, tn_m, tn_n, Int.toNat_zero, Int.toNat_one, k18, k9]
    | succ r ih =>
      intro c hc hne
      obtain ⟨f, l, n5, n6, nl, nw⟩ := N c (by omega)
      have w := c_isWordAt (t := t) (u := u) (J := J) H q (f := f) (l := l) nl
      rw [e53_2]
      simp (disch := omega) only [↓reduceIte, lt_TI, lt_FI, le_TI, le_FI, eq_TI, eq_FI, lt_TN, lt_FN, le_TN, le_FN, eq_TN, eq_FN, and_self, and_true, true_and, and_false, false_and, or_true, true_or, or_false, false_or, not_true_eq_false, not_false_eq_true, wr_of, uI_at, uC_at, q_bi_s, q_bl_s, q_br_s, q_bv_s, Int.toNat_natCast, tn_1, tn_m, tn_n, Int.toNat_zero, Int.toNat_one, k18, k9, n5, n6, w]
      rw [e53_32, nw]
      by_cases y : nm c = wrd b k.2.1 k.2.2
      · have e : fnd b T nm k = c := fsti_eq (by omega) (fun a ha => decide_eq_false (hne a ha)) (fun _ => decide_eq_true y)
        rw [e, if_pos (show c < tC T by omega), if_pos y]
        simp (disch := omega) only [↓reduceIte, lt_TI, lt_FI, le_TI, le_FI, eq_TI, eq_FI, lt_TN, lt_FN, le_TN, le_FN, eq_TN, eq_FN, and_self, and_true, true_and, and_false, false_and, or_true, true_or, or_false, false_or, not_true_eq_false, not_false_eq_true, wr_of, uI_at, uC_at, q_bi_s, q_bl_s, q_br_s, q_bv_s, Int.toNat_natCast, tn_1, tn_m, tn_n, Int.toNat_zero, Int.toNat_one]
      · rw [if_neg y]
        simp (disch := omega) only [↓reduceIte, lt_TI, lt_FI, le_TI, le_FI, eq_TI, eq_FI, lt_TN, lt_FN, le_TN, le_FN, eq_TN, eq_FN, and_self, and_true, true_and, and_false, false_and, or_true, true_or, or_false, false_or, not_true_eq_false, not_false_eq_true, wr_of, uI_at, uC_at, q_bi_s, q_bl_s, q_br_s, q_bv_s, Int.toNat_natCast, tn_1, tn_m, tn_n, Int.toNat_zero, Int.toNat_one]
        exact ih (c + 1) (by omega) (fun a ha => by
          by_cases z : a = c
          · rw [z]; exact y
          · exact hne a (by omega))
  rw [e53_0]
  exact loop (tC T) 0 (by omega) (fun a ha => by omega)
theorem c_readNamed (A : TAt I u T) (H : KT I b n k) (N : NAt I b n (tC T) nm) (h4 : tC T ≤ 4) : (∀ c, rNamed b T nm k = Sum.inl c → ∃ I', q_E (54, 0, [vr 2], []) (qk t u I J) = some (vi 1, qk t u I' J) ∧ I' 2 5 = (c : Int) ∧ KT I' b n k ∧ RW I I' ∧ ∀ j, j ≠ 5 → I' 2 j = I 2 j) ∧ (∀ f, rNamed b T nm k = Sum.inr f → ∃ I', q_E (54, 0, [vr 2], []) (qk t u I J) = some (vi 0, qk t u I' J) ∧ I' 2 6 = (f.1 : Int) ∧ I' 3 2 = (f.2 : Int) ∧ RW I I') := by
  have hp := H.2.2.2.2.1
  have e := c_isName (t := t) (u := u) (J := J) H
  unfold rNamed
  by_cases q : isNm b k = true
  · rw [if_pos q] at e
    have g := c_findNamed (t := t) (J := J) A H N (isNm_1 q) h4
    simp only [if_pos q]
    by_cases y : fnd b T nm k < tC T
    · rw [if_pos y] at g
      simp only [if_pos y]
      refine ⟨fun c hc => ?_, fun f hf => (by cases hf)⟩
      rw [← Sum.inl.inj hc]
      simp (disch := omega) only [↓reduceIte, lt_TI, lt_FI, le_TI, le_FI, eq_TI, eq_FI, lt_TN, lt_FN, le_TN, le_FN, eq_TN, eq_FN, and_self, and_true, true_and, and_false, false_and, or_true, true_or, or_false, false_or, not_true_eq_false, not_false_eq_true, wr_of, uI_at, uC_at, q_bi_s, q_bl_s, q_br_s, q_bv_s, Int.toNat_natCast, tn_1, tn_m, tn_n, Int.toNat_zero, Int.toNat_one, e54_0, e, e54_4, g, e54_18, k14]
      exact ⟨_, rfl, by simp (disch := omega) only [↓reduceIte, lt_TI, lt_FI, le_TI, le_FI, eq_TI, eq_FI, lt_TN, lt_FN, le_TN, le_FN, eq_TN, eq_FN, and_self, and_true, true_and, and_false, false_and, or_true, true_or, or_false, false_or, not_true_eq_false, not_false_eq_true, wr_of, uI_at, uC_at, q_bi_s, q_bl_s, q_br_s, q_bv_s, Int.toNat_natCast, tn_1, tn_m, tn_n, Int.toNat_zero, Int.toNat_one], KT_4 H, RW_4, fun j hj => uI_ne (Or.inr hj)⟩
    · rw [if_neg y] at g
      simp only [if_neg y]
      refine ⟨fun c hc => (by cases hc), fun f hf => ?_⟩
      rw [← Sum.inr.inj hf]
      simp (disch := omega) only [↓reduceIte, lt_TI, lt_FI, le_TI, le_FI, eq_TI, eq_FI, lt_TN, lt_FN, le_TN, le_FN, eq_TN, eq_FN, and_self, and_true, true_and, and_false, false_and, or_true, true_or, or_false, false_or, not_true_eq_false, not_false_eq_true, wr_of, uI_at, uC_at, q_bi_s, q_bl_s, q_br_s, q_bv_s, Int.toNat_natCast, tn_1, tn_m, tn_n, Int.toNat_zero, Int.toNat_one, e54_0, e, e54_4, g, e54_18, k14, e44_0, e54_34]
      exact ⟨_, rfl, by simp (disch := omega) only [↓reduceIte, lt_TI, lt_FI, le_TI, le_FI, eq_TI, eq_FI, lt_TN, lt_FN, le_TN, le_FN, eq_TN, eq_FN, and_self, and_true, true_and, and_false, false_and, or_true, true_or, or_false, false_or, not_true_eq_false, not_false_eq_true, wr_of, uI_at, uC_at, q_bi_s, q_bl_s, q_br_s, q_bv_s, Int.toNat_natCast, tn_1, tn_m, tn_n, Int.toNat_zero, Int.toNat_one] <;> rfl, by simp (disch := omega) only [↓reduceIte, lt_TI, lt_FI, le_TI, le_FI, eq_TI, eq_FI, lt_TN, lt_FN, le_TN, le_FN, eq_TN, eq_FN, and_self, and_true, true_and, and_false, false_and, or_true, true_or, or_false, false_or, not_true_eq_false, not_false_eq_true, wr_of, uI_at, uC_at, q_bi_s, q_bl_s, q_br_s, q_bv_s, Int.toNat_natCast, tn_1, tn_m, tn_n, Int.toNat_zero, Int.toNat_one, hp], RW_tr RW_4 RW_4⟩
  · rw [if_neg q] at e
    simp only [if_neg q]
    refine ⟨fun c hc => (by cases hc), fun f hf => ?_⟩
    rw [← Sum.inr.inj hf]
    simp (disch := omega) only [↓reduceIte, lt_TI, lt_FI, le_TI, le_FI, eq_TI, eq_FI, lt_TN, lt_FN, le_TN, le_FN, eq_TN, eq_FN, and_self, and_true, true_and, and_false, false_and, or_true, true_or, or_false, false_or, not_true_eq_false, not_false_eq_true, wr_of, uI_at, uC_at, q_bi_s, q_bl_s, q_br_s, q_bv_s, Int.toNat_natCast, tn_1, tn_m, tn_n, Int.toNat_zero, Int.toNat_one, e54_0, e, e54_4, e44_0, e54_12]
    exact ⟨_, rfl, by simp (disch := omega) only [↓reduceIte, lt_TI, lt_FI, le_TI, le_FI, eq_TI, eq_FI, lt_TN, lt_FN, le_TN, le_FN, eq_TN, eq_FN, and_self, and_true, true_and, and_false, false_and, or_true, true_or, or_false, false_or, not_true_eq_false, not_false_eq_true, wr_of, uI_at, uC_at, q_bi_s, q_bl_s, q_br_s, q_bv_s, Int.toNat_natCast, tn_1, tn_m, tn_n, Int.toNat_zero, Int.toNat_one] <;> rfl, by simp (disch := omega) only [↓reduceIte, lt_TI, lt_FI, le_TI, le_FI, eq_TI, eq_FI, lt_TN, lt_FN, le_TN, le_FN, eq_TN, eq_FN, and_self, and_true, true_and, and_false, false_and, or_true, true_or, or_false, false_or, not_true_eq_false, not_false_eq_true, wr_of, uI_at, uC_at, q_bi_s, q_bl_s, q_br_s, q_bv_s, Int.toNat_natCast, tn_1, tn_m, tn_n, Int.toNat_zero, Int.toNat_one, hp], RW_4⟩
theorem c_lawHere (H : KT I b n k) : q_E (55, 0, [vr 2], []) (qk t u I J) = some (vi (if lawN b k = 4 then -1 else (lawN b k : Int)), qk t u I J) := by
  have e6 := c_isWord (t := t) (u := u) (J := J) H (i := 6) (by omega)
  have e7 := c_isWord (t := t) (u := u) (J := J) H (i := 7) (by omega)
  have e8 := c_isWord (t := t) (u := u) (J := J) H (i := 8) (by omega)
  have e9 := c_isWord (t := t) (u := u) (J := J) H (i := 9) (by omega)
  simp only [Nat.reduceAdd] at e6 e7 e8 e9
  unfold lawN
  cases w6 : isWd b k 1006
  · rw [w6] at e6
    cases w7 : isWd b k 1007
    · rw [w7] at e7
      cases w8 : isWd b k 1008
      · rw [w8] at e8
        cases w9 : isWd b k 1009
        · rw [w9] at e9
          simp (disch := omega) only [↓reduceIte, lt_TI, lt_FI, le_TI, le_FI, eq_TI, eq_FI, lt_TN, lt_FN, le_TN, le_FN, eq_TN, eq_FN, and_self, and_true, true_and, and_false, false_and, or_true, true_or, or_false, false_or, not_true_eq_false, not_false_eq_true, wr_of, uI_at, uC_at, q_bi_s, q_bl_s, q_br_s, q_bv_s, Int.toNat_natCast, tn_1, tn_m, tn_n, Int.toNat_zero, Int.toNat_one, e55_0, e55_9, e55_23, e55_37, e55_51, e6, e7, e8, e9, Bool.false_eq_true]
        · rw [w9] at e9
          simp (disch := omega) only [↓reduceIte, lt_TI, lt_FI, le_TI, le_FI, eq_TI, eq_FI, lt_TN, lt_FN, le_TN, le_FN, eq_TN, eq_FN, and_self, and_true, true_and, and_false, false_and, or_true, true_or, or_false, false_or, not_true_eq_false, not_false_eq_true, wr_of, uI_at, uC_at, q_bi_s, q_bl_s, q_br_s, q_bv_s, Int.toNat_natCast, tn_1, tn_m, tn_n, Int.toNat_zero, Int.toNat_one, e55_0, e55_9, e55_23, e55_37, e55_51, e6, e7, e8, e9, Bool.false_eq_true]; rfl
      · rw [w8] at e8
        simp (disch := omega) only [↓reduceIte, lt_TI, lt_FI, le_TI, le_FI, eq_TI, eq_FI, lt_TN, lt_FN, le_TN, le_FN, eq_TN, eq_FN, and_self, and_true, true_and, and_false, false_and, or_true, true_or, or_false, false_or, not_true_eq_false, not_false_eq_true, wr_of, uI_at, uC_at, q_bi_s, q_bl_s, q_br_s, q_bv_s, Int.toNat_natCast, tn_1, tn_m, tn_n, Int.toNat_zero, Int.toNat_one, e55_0, e55_9, e55_23, e55_37, e55_51, e6, e7, e8, Bool.false_eq_true]; rfl
    · rw [w7] at e7
      simp (disch := omega) only [↓reduceIte, lt_TI, lt_FI, le_TI, le_FI, eq_TI, eq_FI, lt_TN, lt_FN, le_TN, le_FN, eq_TN, eq_FN, and_self, and_true, true_and, and_false, false_and, or_true, true_or, or_false, false_or, not_true_eq_false, not_false_eq_true, wr_of, uI_at, uC_at, q_bi_s, q_bl_s, q_br_s, q_bv_s, Int.toNat_natCast, tn_1, tn_m, tn_n, Int.toNat_zero, Int.toNat_one, e55_0, e55_9, e55_23, e55_37, e55_51, e6, e7, Bool.false_eq_true]; rfl
  · rw [w6] at e6
    simp (disch := omega) only [↓reduceIte, lt_TI, lt_FI, le_TI, le_FI, eq_TI, eq_FI, lt_TN, lt_FN, le_TN, le_FN, eq_TN, eq_FN, and_self, and_true, true_and, and_false, false_and, or_true, true_or, or_false, false_or, not_true_eq_false, not_false_eq_true, wr_of, uI_at, uC_at, q_bi_s, q_bl_s, q_br_s, q_bv_s, Int.toNat_natCast, tn_1, tn_m, tn_n, Int.toNat_zero, Int.toNat_one, e55_0, e55_9, e55_23, e55_37, e55_51, e6, Bool.false_eq_true]; rfl
theorem lawN_le (b : Nat → Nat) (k : Tk) : lawN b k ≤ 4 := by
  unfold lawN
  split
  · omega
  · split
    · omega
    · split
      · omega
      · split <;> omega
/-- the line of the store -/
theorem c_readStore (A : TAt I u T) (H : KT I b n k) (N : NAt I b n (tC T) nm) : ∃ v I', q_E (47, 0, [vr 2], []) (qk t u I J) = some (vi v, qk t u I' J) ∧ RE I I' u b n v (sb (rStore b n T k) (fun x => Sum.inl (x.1, nm, x.2))) ∧ RF u I I' := by
  have hu : u = 7 ∨ u = 248 := A.1.2.2.2.2.2
  have k18 := A.1.1
  unfold rStore
  obtain ⟨I1, a1, a2, a3⟩ := c_next (t := t) (u := u) (J := J) H
  obtain ⟨w1, w2⟩ := c_readWord (t := t) (u := u) (J := J) a2 (s := 1) (by omega)
  unfold rWord
  simp only [Nat.reduceAdd] at w1 w2
  by_cases q1 : isWd b (tok b n k.2.2) 1001 = true
  · obtain ⟨I2, b1, b2, b3⟩ := w1 q1
    clear w1 w2
    simp only [if_pos q1, sb_l]
    obtain ⟨v1, v2, v3⟩ := c_readWhole (t := t) (u := u) (J := J) b2 (lo := 2) (hi := 9) (by omega) (by omega)
    generalize tok b n (tok b n k.2.2).2.2 = k2 at b2 v1 v2 v3 ⊢
    unfold rWhole
    rw [show ((2 : Nat) : Int) = 2 from rfl, show ((9 : Nat) : Int) = 9 from rfl] at v1 v2 v3
    by_cases q2 : k2.1 = 2
    · by_cases q3 : tvl b k2 < 2 ∨ 9 < tvl b k2
      · obtain ⟨I3, c1, c2, c3, c4⟩ := v2 q2 q3
        clear v1 v2 v3
        simp only [if_pos q2, if_pos q3, sb_r]
        simp (disch := omega) only [↓reduceIte, lt_TI, lt_FI, le_TI, le_FI, eq_TI, eq_FI, lt_TN, lt_FN, le_TN, le_FN, eq_TN, eq_FN, and_self, and_true, true_and, and_false, false_and, or_true, true_or, or_false, false_or, not_true_eq_false, not_false_eq_true, wr_of, uI_at, uC_at, q_bi_s, q_bl_s, q_br_s, q_bv_s, Int.toNat_natCast, tn_1, tn_m, tn_n, Int.toNat_zero, Int.toNat_one, e47_0, a1, e47_7, b1, e47_13, c1, e47_23]
        exact ⟨_, I3, rfl, ⟨rfl, c2, c3⟩, RF_rw (RW_tr (RW_ks a3) (RW_tr (RW_ks b3) c4))⟩
      · obtain ⟨I3, c1, c2, c3, c4, c5⟩ := v1 q2 q3
        clear v1 v2 v3
        simp only [if_pos q2, if_neg q3, sb_l]
        have R3 : RW I I3 := RW_tr (RW_ks a3) (RW_tr (RW_ks b3) c5)
        -- hold is told
        have K4 : KT (uI I3 u 7 (tvl b k2 : Int)) b n (tok b n k2.2.2) := KT_w c2 (uI_o1 (by omega)) (uI_o1 (by omega))
        obtain ⟨x1, x2⟩ := c_readWord (t := t) (u := u) (J := J) K4 (s := 2) (by omega)
        simp only [Nat.reduceAdd] at x1 x2
        generalize tok b n k2.2.2 = k3 at K4 x1 x2 c2 ⊢
        have RU : RF u I3 (uI I3 u 7 (tvl b k2 : Int)) := ⟨fun a _ _ h => uI_o1 (by omega), uI_ne (Or.inl (by omega)), uI_ne (Or.inl (by omega))⟩
        by_cases q4 : isWd b k3 1002 = true
        · obtain ⟨I4, d1, d2, d3⟩ := x1 q4
          clear x1 x2
          simp only [if_pos q4, sb_l]
          obtain ⟨y1, y2, y3⟩ := c_readWhole (t := t) (u := u) (J := J) d2 (lo := 0) (hi := 100) (by omega) (by omega)
          generalize tok b n k3.2.2 = k4 at d2 y1 y2 y3 ⊢
          rw [show ((0 : Nat) : Int) = 0 from rfl, show ((100 : Nat) : Int) = 100 from rfl] at y1 y2 y3
          by_cases q5 : k4.1 = 2
          · by_cases q6 : tvl b k4 < 0 ∨ 100 < tvl b k4
            · obtain ⟨I5, f1, f2, f3, f4⟩ := y2 q5 q6
              clear y1 y2 y3
              simp only [if_pos q5, if_pos q6, sb_r]
              simp (disch := omega) only [↓reduceIte, lt_TI, lt_FI, le_TI, le_FI, eq_TI, eq_FI, lt_TN, lt_FN, le_TN, le_FN, eq_TN, eq_FN, and_self, and_true, true_and, and_false, false_and, or_true, true_or, or_false, false_or, not_true_eq_false, not_false_eq_true, wr_of, uI_at, uC_at, q_bi_s, q_bl_s, q_br_s, q_bv_s, Int.toNat_natCast, tn_1, tn_m, tn_n, Int.toNat_zero, Int.toNat_one, e47_0, a1, e47_7, b1, e47_13, c1, e47_23, k18, c3, d1, e47_45, f1, e47_55]
              exact ⟨_, I5, rfl, ⟨rfl, f2, f3⟩, RF_tr (RF_rw R3) (RF_tr RU (RF_rw (RW_tr (RW_ks d3) f4)))⟩
            · obtain ⟨I5, f1, f2, f3, f4, f5⟩ := y1 q5 q6
              clear y1 y2 y3
              simp only [if_pos q5, if_neg q6, sb_l]
              simp (disch := omega) only [↓reduceIte, lt_TI, lt_FI, le_TI, le_FI, eq_TI, eq_FI, lt_TN, lt_FN, le_TN, le_FN, eq_TN, eq_FN, and_self, and_true, true_and, and_false, false_and, or_true, true_or, or_false, false_or, not_true_eq_false, not_false_eq_true, wr_of, uI_at, uC_at, q_bi_s, q_bl_s, q_br_s, q_bv_s, Int.toNat_natCast, tn_1, tn_m, tn_n, Int.toNat_zero, Int.toNat_one, e47_0, a1, e47_7, b1, e47_13, c1, e47_23, k18, c3, d1, e47_45, f1, e47_55, f3]
              have RU2 : RF u I5 (uI I5 u 8 (tvl b k4 : Int)) := ⟨fun a _ _ h => uI_o1 (by omega), uI_ne (Or.inl (by omega)), uI_ne (Or.inl (by omega))⟩
              have R5 : RW (uI I3 u 7 (tvl b k2 : Int)) I5 := RW_tr (RW_ks d3) f5
              refine ⟨_, _, rfl, ⟨rfl, ⟨?_, KT_w f2 (uI_o1 (by omega)) (uI_o1 (by omega)), ?_⟩, by rw [uI_ne (Or.inl (by omega)), f4 6 (by omega), d3.1 2 (by omega), uI_ne (Or.inl (by omega)), c4 6 (by omega), b3.1 2 (by omega), a3.1 2 (by omega)]⟩, RF_tr (RF_rw R3) (RF_tr RU (RF_tr (RF_rw R5) RU2))⟩
              · have A5 : ∀ a, a ≠ u → a ≠ 3 → a ≠ 2 → uI I5 u 8 (tvl b k4 : Int) a = I a := fun a h0 h1 h2 => by
                  rw [uI_o1 h0, R5.1 a h1 h2, uI_o1 h0, R3.1 a h1 h2]
                have Au : ∀ j, j ≠ 7 → j ≠ 8 → uI I5 u 8 (tvl b k4 : Int) u j = I u j := fun j h0 h1 => by
                  rw [uI_ne (Or.inr h1), R5.1 u (by omega) (by omega), uI_ne (Or.inr h0), R3.1 u (by omega) (by omega)]
                obtain ⟨g1, g2, g3, g4, g5, g6, g7, g8, g9, g10⟩ := A
                refine ⟨g1, CAt_w g2 (fun a ha hb => A5 a (by omega) (by omega) (by omega)), ?_, ?_, by rw [Au 9 (by omega) (by omega)]; exact g5, by rw [Au 10 (by omega) (by omega)]; exact g6, by rw [Au 11 (by omega) (by omega)]; exact g7, fun i hi => by rw [A5 _ (by omega) (by omega) (by omega)]; exact g8 i hi, fun i hi => ?_, fun i hi => ?_⟩
                · show uI I5 u 8 (tvl b k4 : Int) u 7 = _
                  rw [uI_ne (Or.inr (by omega)), R5.1 u (by omega) (by omega)]; exact if_pos ⟨rfl, rfl⟩
                · exact if_pos ⟨rfl, rfl⟩
                · rw [A5 _ (by omega) (by omega) (by omega), A5 _ (by omega) (by omega) (by omega)]; exact g9 i hi
                · rw [A5 _ (by omega) (by omega) (by omega), A5 _ (by omega) (by omega) (by omega), A5 _ (by omega) (by omega) (by omega)]; exact g10 i hi
              · exact NAt_w N (by rw [uI_o1 (by omega), R5.1 5 (by omega) (by omega), uI_o1 (by omega), R3.1 5 (by omega) (by omega)]) (by rw [uI_o1 (by omega), R5.1 6 (by omega) (by omega), uI_o1 (by omega), R3.1 6 (by omega) (by omega)])
          · obtain ⟨I5, f1, f2, f3, f4⟩ := y3 q5
            clear y1 y2 y3
            simp only [if_neg q5, sb_r]
            simp (disch := omega) only [↓reduceIte, lt_TI, lt_FI, le_TI, le_FI, eq_TI, eq_FI, lt_TN, lt_FN, le_TN, le_FN, eq_TN, eq_FN, and_self, and_true, true_and, and_false, false_and, or_true, true_or, or_false, false_or, not_true_eq_false, not_false_eq_true, wr_of, uI_at, uC_at, q_bi_s, q_bl_s, q_br_s, q_bv_s, Int.toNat_natCast, tn_1, tn_m, tn_n, Int.toNat_zero, Int.toNat_one, e47_0, a1, e47_7, b1, e47_13, c1, e47_23, k18, c3, d1, e47_45, f1, e47_55]
            exact ⟨_, I5, rfl, ⟨rfl, f2, f3⟩, RF_tr (RF_rw R3) (RF_tr RU (RF_rw (RW_tr (RW_ks d3) f4)))⟩
        · obtain ⟨I4, d1, d2, d3, d4⟩ := x2 q4
          clear x1 x2
          simp only [if_neg q4, sb_r]
          simp (disch := omega) only [↓reduceIte, lt_TI, lt_FI, le_TI, le_FI, eq_TI, eq_FI, lt_TN, lt_FN, le_TN, le_FN, eq_TN, eq_FN, and_self, and_true, true_and, and_false, false_and, or_true, true_or, or_false, false_or, not_true_eq_false, not_false_eq_true, wr_of, uI_at, uC_at, q_bi_s, q_bl_s, q_br_s, q_bv_s, Int.toNat_natCast, tn_1, tn_m, tn_n, Int.toNat_zero, Int.toNat_one, e47_0, a1, e47_7, b1, e47_13, c1, e47_23, k18, c3, d1, e47_45]
          exact ⟨_, I4, rfl, ⟨rfl, d2, d3⟩, RF_tr (RF_rw R3) (RF_tr RU (RF_rw d4))⟩
    · obtain ⟨I3, c1, c2, c3, c4⟩ := v3 q2
      clear v1 v2 v3
      simp only [if_neg q2, sb_r]
      simp (disch := omega) only [↓reduceIte, lt_TI, lt_FI, le_TI, le_FI, eq_TI, eq_FI, lt_TN, lt_FN, le_TN, le_FN, eq_TN, eq_FN, and_self, and_true, true_and, and_false, false_and, or_true, true_or, or_false, false_or, not_true_eq_false, not_false_eq_true, wr_of, uI_at, uC_at, q_bi_s, q_bl_s, q_br_s, q_bv_s, Int.toNat_natCast, tn_1, tn_m, tn_n, Int.toNat_zero, Int.toNat_one, e47_0, a1, e47_7, b1, e47_13, c1, e47_23]
      exact ⟨_, I3, rfl, ⟨rfl, c2, c3⟩, RF_rw (RW_tr (RW_ks a3) (RW_tr (RW_ks b3) c4))⟩
  · obtain ⟨I2, b1, b2, b3, b4⟩ := w2 q1
    clear w1 w2
    simp only [if_neg q1, sb_r]
    simp (disch := omega) only [↓reduceIte, lt_TI, lt_FI, le_TI, le_FI, eq_TI, eq_FI, lt_TN, lt_FN, le_TN, le_FN, eq_TN, eq_FN, and_self, and_true, true_and, and_false, false_and, or_true, true_or, or_false, false_or, not_true_eq_false, not_false_eq_true, wr_of, uI_at, uC_at, q_bi_s, q_bl_s, q_br_s, q_bv_s, Int.toNat_natCast, tn_1, tn_m, tn_n, Int.toNat_zero, Int.toNat_one, e47_0, a1, e47_7, b1, e47_13]
    exact ⟨_, I2, rfl, ⟨rfl, b2, b3⟩, RF_rw (RW_tr (RW_ks a3) b4)⟩
end

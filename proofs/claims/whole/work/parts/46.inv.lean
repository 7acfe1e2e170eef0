/-! the state, what the class's cells are in it; refusals; nights from now on -/
abbrev St : Type := List Nat × (Int × Int × Int) × Tt × Sn × List Sn × List Sn
abbrev sT (S : St) : List Nat := S.1
abbrev sTr (S : St) : Int := S.2.1.1
abbrev sF (S : St) : Int := S.2.1.2.1
abbrev sP (S : St) : Int := S.2.1.2.2
abbrev sTo (S : St) : Tt := S.2.2.1
abbrev sNw (S : St) : Sn := S.2.2.2.1
abbrev sUn (S : St) : List Sn := S.2.2.2.2.1
abbrev sIm (S : St) : List Sn := S.2.2.2.2.2
def SnOk (T : Tt) (s : Sn) : Prop := (∀ c, HOk (s.1 c)) ∧ (∀ c, tC T ≤ c → s.1 c = ([], 0)) ∧ s.2 ≤ 999
def SOk (S : St) : Prop := ((TOk (sTo S) ∧ 0 < tC (sTo S)) ∨ (sTo S = T0 ∧ sNw S = S0 ∧ sUn S = [] ∧ sIm S = [])) ∧ SnOk (sTo S) (sNw S) ∧ (∀ s ∈ sUn S, SnOk (sTo S) s) ∧ (∀ s ∈ sIm S, SnOk (sTo S) s) ∧ (sUn S).length ≤ 16 ∧ (sIm S).length ≤ 3 ∧ (sT S).length ≤ 900 ∧ ∀ b ∈ sT S, b < 256
def CInv (S : St) (t u : Nat) (I : Nat → Nat → Int) : Prop := SOk S ∧ ((t = 7 ∧ u = 248) ∨ (t = 248 ∧ u = 7)) ∧ I 1 10 = sTr S ∧ I 1 11 = sF S ∧ (sTr S = 4 → I 1 12 = sP S) ∧ I 3 1 = ((sT S).length : Int) ∧ (∀ i, i < (sT S).length → I 4 i = Int.bmod ((sT S).getD i 0 : Int) 256) ∧ TAt I t (sTo S) ∧ CAt I 24 (sNw S) ∧ PAt I (sUn S) (sIm S) ∧ (0 < tC (sTo S) → GAt I (sTo S))
/-- nothing but what a query may has changed: the trouble is tr -/
def QC (tr : Int) (I I' : Nat → Nat → Int) : Prop := Kp 232 247 (uI I 1 10 tr) I'
theorem uI_uI (I : Nat → Nat → Int) (a k : Nat) (v w : Int) : uI (uI I a k v) a k w = uI I a k w := by
  funext b j
  unfold uI
  split <;> rfl
theorem QC_rf {tr : Int} {I : Nat → Nat → Int} : QC tr I (uI I 1 10 tr) := Kp_rf
theorem QC_kp {tr : Int} {lo hi : Nat} {I I' : Nat → Nat → Int} (K : Kp lo hi (uI I 1 10 tr) I') (h1 : 232 ≤ lo) (h2 : hi ≤ 247) : QC tr I I' := Kp_w K h1 h2
theorem CInv_q {S : St} {t u : Nat} {I I' : Nat → Nat → Int} {tr : Int} (V : CInv S t u I) (h : QC tr I I') (h4 : tr ≠ 4) : CInv (sT S, (tr, sF S, sP S), S.2.2) t u I' := by
  obtain ⟨v1, v2, v3, v4, v5, v6, v7, v8, v9, v10, v11⟩ := V
  have K1 : Kp 1 1 I (uI I 1 10 tr) := Kp_uI Kp_rf (by omega) (by omega)
  have f1 : I' 1 = uI I 1 10 tr 1 := h 1 (by omega)
  have f2 : ∀ a, 1 < a → (a < 232 ∨ 247 < a) → I' a = I a := fun a h1 h2 => (h a h2).trans (K1 a (by omega))
  refine ⟨v1, v2, ?_, ?_, fun z => absurd z h4, ?_, fun i hi => ?_, TAt_kp (TAt_kp v8 K1 ?_) h ?_, CAt_kp (CAt_kp v9 K1 (by omega)) h (by omega), PAt_kp (PAt_kp v10 K1 (by omega)) h (by omega), fun z => GAt_kp (GAt_kp (v11 z) K1 (by omega)) h (by omega)⟩
  · rw [f1]; exact if_pos ⟨rfl, rfl⟩
  · rw [f1, uI_ne (Or.inr (by omega))]; exact v4
  · rw [f2 3 (by omega) (by omega)]; exact v6
  · rw [f2 4 (by omega) (by omega)]; exact v7 i hi
  · rcases v2 with ⟨z, -⟩ | ⟨z, -⟩ <;> subst z <;> omega
  · rcases v2 with ⟨z, -⟩ | ⟨z, -⟩ <;> subst z <;> omega
/-- what queries need -/
def QI (S : St) (t : Nat) (I : Nat → Nat → Int) : Prop := SOk S ∧ TAt I t (sTo S) ∧ (t = 7 ∨ t = 248) ∧ CAt I 24 (sNw S) ∧ PAt I (sUn S) (sIm S) ∧ (0 < tC (sTo S) → GAt I (sTo S))
theorem CInv_qi {S : St} {t u : Nat} {I : Nat → Nat → Int} (V : CInv S t u I) (tr : Int) : QI S t (uI I 1 10 tr) ∧ I t 9 = (tC (sTo S) : Int) ∧ kd t = 18 := by
  obtain ⟨v1, v2, v3, v4, v5, v6, v7, v8, v9, v10, v11⟩ := V
  have K1 : Kp 1 1 I (uI I 1 10 tr) := Kp_uI Kp_rf (by omega) (by omega)
  have ht : t = 7 ∨ t = 248 := v2.elim (fun z => Or.inl z.1) (fun z => Or.inr z.1)
  refine ⟨⟨v1, TAt_kp v8 K1 ?_, ht, CAt_kp v9 K1 (by omega), PAt_kp v10 K1 (by omega), fun z => GAt_kp (v11 z) K1 (by omega)⟩, v8.2.2.2.2.1, v8.1.1⟩
  rcases ht with z | z <;> subst z <;> omega
theorem QI_kp {S : St} {t : Nat} {I I' : Nat → Nat → Int} {lo hi : Nat} (V : QI S t I) (K : Kp lo hi I I') (h1 : 232 ≤ lo) (h2 : hi ≤ 247) : QI S t I' := by
  obtain ⟨v1, v8, ht, v9, v10, v11⟩ := V
  refine ⟨v1, TAt_kp v8 K ?_, ht, CAt_kp v9 K (by omega), PAt_kp v10 K (by omega), fun z => GAt_kp (v11 z) K (by omega)⟩
  rcases ht with z | z <;> subst z <;> omega
/-- of a state with a cellar: its text is right -/
theorem SOk_T {S : St} (h : SOk S) {c : Nat} (hc : c < tC (sTo S)) : TOk (sTo S) := by
  rcases h.1 with z | z
  · exact z.1
  · rw [z.1] at hc; exact absurd hc (Nat.not_lt_zero c)
theorem QI_row {S : St} {t : Nat} {I : Nat → Nat → Int} (V : QI S t I) {c : Nat} (hc : c < 4) : HAt I (26 + 2 * c) ((sNw S).1 c).1 ((sNw S).1 c).2 ∧ HOk ((sNw S).1 c) := ⟨V.2.2.2.1.2.2 c hc, V.1.2.1.1 c⟩
section
variable {t u : Nat} {I J : Nat → Nat → Int} {S : St}
theorem k20 : kd 1 = 20 := rfl
theorem r_num_ok {x m : Int} (h1 : 0 ≤ x) (h2 : x ≤ m) : q_E (163, 0, [vr 1, vi x, vi m], []) (qk t u I J) = some (vi 0, qk t u (uI I 1 10 0) J) := by
  simp (disch := omega) only [↓reduceIte, lt_TI, lt_FI, le_TI, le_FI, eq_TI, eq_FI, lt_TN, lt_FN, le_TN, le_FN, eq_TN, eq_FN, and_self, and_true, true_and, and_false, false_and, or_true, true_or, or_false, false_or, not_true_eq_false, not_false_eq_true, wr_of, uI_at, uC_at, q_bi_s, q_bl_s, q_br_s, q_bv_s, Int.toNat_natCast, tn_1, tn_m, tn_n, Int.toNat_zero, Int.toNat_one, e163_0, e160_0, e163_19]
theorem r_num_no {x m : Int} (h1 : x < 0 ∨ m < x) : q_E (163, 0, [vr 1, vi x, vi m], []) (qk t u I J) = some (vi 1, qk t u (uI I 1 10 2) J) := by
  rcases Classical.em (x < 0) with z | z
  · simp (disch := omega) only [↓reduceIte, lt_TI, lt_FI, le_TI, le_FI, eq_TI, eq_FI, lt_TN, lt_FN, le_TN, le_FN, eq_TN, eq_FN, and_self, and_true, true_and, and_false, false_and, or_true, true_or, or_false, false_or, not_true_eq_false, not_false_eq_true, wr_of, uI_at, uC_at, q_bi_s, q_bl_s, q_br_s, q_bv_s, Int.toNat_natCast, tn_1, tn_m, tn_n, Int.toNat_zero, Int.toNat_one, e163_0, e160_0, e163_19]
  · simp (disch := omega) only [↓reduceIte, lt_TI, lt_FI, le_TI, le_FI, eq_TI, eq_FI, lt_TN, lt_FN, le_TN, le_FN, eq_TN, eq_FN, and_self, and_true, true_and, and_false, false_and, or_true, true_or, or_false, false_or, not_true_eq_false, not_false_eq_true, wr_of, uI_at, uC_at, q_bi_s, q_bl_s, q_br_s, q_bv_s, Int.toNat_natCast, tn_1, tn_m, tn_n, Int.toNat_zero, Int.toNat_one, e163_0, e160_0, e163_19]
theorem h_cell_ok {c n : Int} (k : kd t = 18) (e : I t 9 = n) (h1 : 0 ≤ c) (h2 : c < n) : q_E (165, 0, [vr 1, vi c], []) (qk t u I J) = some (vi 1, qk t u I J) := by
  simp (disch := omega) only [↓reduceIte, lt_TI, lt_FI, le_TI, le_FI, eq_TI, eq_FI, lt_TN, lt_FN, le_TN, le_FN, eq_TN, eq_FN, and_self, and_true, true_and, and_false, false_and, or_true, true_or, or_false, false_or, not_true_eq_false, not_false_eq_true, wr_of, uI_at, uC_at, q_bi_s, q_bl_s, q_br_s, q_bv_s, Int.toNat_natCast, tn_1, tn_m, tn_n, Int.toNat_zero, Int.toNat_one, e165_0, k, e]
theorem h_cell_no {c n : Int} (k : kd t = 18) (e : I t 9 = n) (h1 : c < 0 ∨ n ≤ c) : q_E (165, 0, [vr 1, vi c], []) (qk t u I J) = some (vi 0, qk t u I J) := by
  rcases Classical.em (c < 0) with z | z
  · simp (disch := omega) only [↓reduceIte, lt_TI, lt_FI, le_TI, le_FI, eq_TI, eq_FI, lt_TN, lt_FN, le_TN, le_FN, eq_TN, eq_FN, and_self, and_true, true_and, and_false, false_and, or_true, true_or, or_false, false_or, not_true_eq_false, not_false_eq_true, wr_of, uI_at, uC_at, q_bi_s, q_bl_s, q_br_s, q_bv_s, Int.toNat_natCast, tn_1, tn_m, tn_n, Int.toNat_zero, Int.toNat_one, e165_0, k, e]
  · simp (disch := omega) only [↓reduceIte, lt_TI, lt_FI, le_TI, le_FI, eq_TI, eq_FI, lt_TN, lt_FN, le_TN, le_FN, eq_TN, eq_FN, and_self, and_true, true_and, and_false, false_and, or_true, true_or, or_false, false_or, not_true_eq_false, not_false_eq_true, wr_of, uI_at, uC_at, q_bi_s, q_bl_s, q_br_s, q_bv_s, Int.toNat_natCast, tn_1, tn_m, tn_n, Int.toNat_zero, Int.toNat_one, e165_0, k, e]
theorem r_cell_ok {c n : Int} (k : kd t = 18) (e : I t 9 = n) (h1 : 0 ≤ c) (h2 : c < n) : q_E (162, 0, [vr 1, vi c], []) (qk t u I J) = some (vi 0, qk t u (uI I 1 10 0) J) := by
  simp (disch := omega) only [↓reduceIte, lt_TI, lt_FI, le_TI, le_FI, eq_TI, eq_FI, lt_TN, lt_FN, le_TN, le_FN, eq_TN, eq_FN, and_self, and_true, true_and, and_false, false_and, or_true, true_or, or_false, false_or, not_true_eq_false, not_false_eq_true, wr_of, uI_at, uC_at, q_bi_s, q_bl_s, q_br_s, q_bv_s, Int.toNat_natCast, tn_1, tn_m, tn_n, Int.toNat_zero, Int.toNat_one, e162_0, h_cell_ok k e h1 h2, e162_7, k20, e160_0, e162_18]
theorem r_cell_no {c n : Int} (k : kd t = 18) (e : I t 9 = n) (h1 : c < 0 ∨ n ≤ c) : q_E (162, 0, [vr 1, vi c], []) (qk t u I J) = some (vi 1, qk t u (uI I 1 10 1) J) := by
  simp (disch := omega) only [↓reduceIte, lt_TI, lt_FI, le_TI, le_FI, eq_TI, eq_FI, lt_TN, lt_FN, le_TN, le_FN, eq_TN, eq_FN, and_self, and_true, true_and, and_false, false_and, or_true, true_or, or_false, false_or, not_true_eq_false, not_false_eq_true, wr_of, uI_at, uC_at, q_bi_s, q_bl_s, q_br_s, q_bv_s, Int.toNat_natCast, tn_1, tn_m, tn_n, Int.toNat_zero, Int.toNat_one, e162_0, h_cell_no k e h1, e162_7, k20, e160_0, e162_18]
theorem r_st_ok {n : Int} (k : kd t = 18) (e : I t 9 = n) (h1 : 0 < n) : q_E (161, 0, [vr 1], []) (qk t u I J) = some (vi 0, qk t u (uI I 1 10 0) J) := by
  simp (disch := omega) only [↓reduceIte, lt_TI, lt_FI, le_TI, le_FI, eq_TI, eq_FI, lt_TN, lt_FN, le_TN, le_FN, eq_TN, eq_FN, and_self, and_true, true_and, and_false, false_and, or_true, true_or, or_false, false_or, not_true_eq_false, not_false_eq_true, wr_of, uI_at, uC_at, q_bi_s, q_bl_s, q_br_s, q_bv_s, Int.toNat_natCast, tn_1, tn_m, tn_n, Int.toNat_zero, Int.toNat_one, e161_0, e164_0, k, e, e161_6, k20, e160_0, e161_17]
theorem r_st_no {n : Int} (k : kd t = 18) (e : I t 9 = n) (h1 : n ≤ 0) : q_E (161, 0, [vr 1], []) (qk t u I J) = some (vi 1, qk t u (uI I 1 10 1) J) := by
  simp (disch := omega) only [↓reduceIte, lt_TI, lt_FI, le_TI, le_FI, eq_TI, eq_FI, lt_TN, lt_FN, le_TN, le_FN, eq_TN, eq_FN, and_self, and_true, true_and, and_false, false_and, or_true, true_or, or_false, false_or, not_true_eq_false, not_false_eq_true, wr_of, uI_at, uC_at, q_bi_s, q_bl_s, q_br_s, q_bv_s, Int.toNat_natCast, tn_1, tn_m, tn_n, Int.toNat_zero, Int.toNat_one, e161_0, e164_0, k, e, e161_6, k20, e160_0, e161_17]
/-- whether there is such a heap -/
abbrev isHp (S : St) (c i : Int) : Prop := 0 ≤ c ∧ c < (tC (sTo S) : Int) ∧ 0 ≤ i ∧ i < (((sNw S).1 c.toNat).1.length : Int)
abbrev isCl (S : St) (c : Int) : Prop := 0 ≤ c ∧ c < (tC (sTo S) : Int)
theorem tC_4 (h : SOk S) : tC (sTo S) ≤ 4 := by
  rcases h.1 with z | z
  · exact z.1.2.2.2.1
  · rw [z.1]; exact Nat.zero_le _
theorem h_heap {c i : Int} (V : CInv S t u I) : (isHp S c i → q_E (166, 0, [vr 1, vi c, vi i], []) (qk t u I J) = some (vi 1, qk t u I J)) ∧ (¬ isHp S c i → q_E (166, 0, [vr 1, vi c, vi i], []) (qk t u I J) = some (vi 0, qk t u I J)) := by
  obtain ⟨q, e9, k⟩ := CInv_qi V 0
  have h4 := tC_4 V.1
  by_cases hc : 0 ≤ c ∧ c < (tC (sTo S) : Int)
  · obtain ⟨n, rfl⟩ : ∃ n : Nat, c = (n : Int) := ⟨c.toNat, by omega⟩
    have hn : n < 4 := by omega
    have H : HAt I (26 + 2 * n) ((sNw S).1 n).1 ((sNw S).1 n).2 := V.2.2.2.2.2.2.2.2.1.2.2 n hn
    have H1 := H.2.1
    have H0 := H.1.1
    have e0 := h_cell_ok (u := u) (J := J) k e9 hc.1 hc.2
    have rn := R_now t u n hn
    unfold isHp
    rw [Int.toNat_natCast]
    constructor
    · intro ⟨_, _, h3, h4⟩
      simp (disch := omega) only [↓reduceIte, lt_TI, lt_FI, le_TI, le_FI, eq_TI, eq_FI, lt_TN, lt_FN, le_TN, le_FN, eq_TN, eq_FN, and_self, and_true, true_and, and_false, false_and, or_true, true_or, or_false, false_or, not_true_eq_false, not_false_eq_true, wr_of, uI_at, uC_at, q_bi_s, q_bl_s, q_br_s, q_bv_s, Int.toNat_natCast, tn_1, tn_m, tn_n, Int.toNat_zero, Int.toNat_one, e166_0, e0, e166_5, rn, H0, H1]
    · intro h
      by_cases z : i < 0
      · simp (disch := omega) only [↓reduceIte, lt_TI, lt_FI, le_TI, le_FI, eq_TI, eq_FI, lt_TN, lt_FN, le_TN, le_FN, eq_TN, eq_FN, and_self, and_true, true_and, and_false, false_and, or_true, true_or, or_false, false_or, not_true_eq_false, not_false_eq_true, wr_of, uI_at, uC_at, q_bi_s, q_bl_s, q_br_s, q_bv_s, Int.toNat_natCast, tn_1, tn_m, tn_n, Int.toNat_zero, Int.toNat_one, e166_0, e0, e166_5, rn, H0, H1]
      · have z2 : (((sNw S).1 n).1.length : Int) ≤ i := by omega
        simp (disch := omega) only [↓reduceIte, lt_TI, lt_FI, le_TI, le_FI, eq_TI, eq_FI, lt_TN, lt_FN, le_TN, le_FN, eq_TN, eq_FN, and_self, and_true, true_and, and_false, false_and, or_true, true_or, or_false, false_or, not_true_eq_false, not_false_eq_true, wr_of, uI_at, uC_at, q_bi_s, q_bl_s, q_br_s, q_bv_s, Int.toNat_natCast, tn_1, tn_m, tn_n, Int.toNat_zero, Int.toNat_one, e166_0, e0, e166_5, rn, H0, H1]
  · have e0 := h_cell_no (c := c) (u := u) (J := J) k e9 (by omega)
    constructor
    · intro h; exact absurd ⟨h.1, h.2.1⟩ hc
    · intro h
      simp (disch := omega) only [↓reduceIte, lt_TI, lt_FI, le_TI, le_FI, eq_TI, eq_FI, lt_TN, lt_FN, le_TN, le_FN, eq_TN, eq_FN, and_self, and_true, true_and, and_false, false_and, or_true, true_or, or_false, false_or, not_true_eq_false, not_false_eq_true, wr_of, uI_at, uC_at, q_bi_s, q_bl_s, q_br_s, q_bv_s, Int.toNat_natCast, tn_1, tn_m, tn_n, Int.toNat_zero, Int.toNat_one, e166_0, e0, e166_5]
end
/-- heaps behind n nights from now -/
def ahd (S : St) (c n : Nat) : Hp := nti (tL (sTo S) c) (tH (sTo S)) n ((sNw S).1 c)
theorem ahd_ok {S : St} (h : SOk S) {c : Nat} (hc : c < tC (sTo S)) (n : Nat) : HOk (ahd S c n) := nti_ok (SOk_T h hc).1 (h.2.1.1 c) n
section
variable {t u : Nat} {I J : Nat → Nat → Int} {S : St}
theorem c_begin {c : Nat} (V : QI S t I) (hc : c < tC (sTo S)) {W : Nat} (w : WId W) (hW : W = 232 ∨ W = 237) : ∃ I', q_E (167, 0, [vr 1, vr W, vi (c : Int)], []) (qk t u I J) = some (vu, qk t u I' J) ∧ WAt I' W (tL (sTo S) c) (tH (sTo S)) ((sNw S).1 c) ((sNw S).1 c) 0 1 ∧ Kp W (W + 4) I I' := by
  have T := SOk_T V.1 hc
  have h4 := T.2.2.2.1
  obtain ⟨H, ok⟩ := QI_row V (show c < 4 by omega)
  obtain ⟨⟨k1, k2, k3, k4, ⟨l1, l2, l3, l4, l5, l6⟩, k6⟩, a2, a3, a4, a5, a6, a7, a8, a9, a10⟩ := V.2.1
  obtain ⟨m1, m2⟩ := k4 0 (by omega)
  obtain ⟨I', b1, b2, b3⟩ := c_wbegin (t := t) (u := u) (J := J) (law := tL (sTo S) c) (hold := tH (sTo S)) w H (by omega)
  have rn := R_now t u c (by omega)
  have w1 := w.1
  have l := a8 c hc
  simp (disch := omega) only [↓reduceIte, lt_TI, lt_FI, le_TI, le_FI, eq_TI, eq_FI, lt_TN, lt_FN, le_TN, le_FN, eq_TN, eq_FN, and_self, and_true, true_and, and_false, false_and, or_true, true_or, or_false, false_or, not_true_eq_false, not_false_eq_true, wr_of, uI_at, uC_at, q_bi_s, q_bl_s, q_br_s, q_bv_s, Int.toNat_natCast, tn_1, tn_m, tn_n, Int.toNat_zero, Int.toNat_one, e167_0, k1, m1, m2, Nat.add_zero, l1, rn, l, a3, w1, b1, e167_29]
  exact ⟨I', rfl, b2, b3⟩
theorem c_behind {c n : Nat} (V : QI S t I) (hc : c < tC (sTo S)) (hn : n ≤ 5000) : ∃ I', q_E (168, 0, [vr 1, vi (c : Int), vi (n : Int)], []) (qk t u I J) = some (vr 233, qk t u I' J) ∧ HAt I' 233 (ahd S c n).1 (ahd S c n).2 ∧ Kp 232 236 I I' := by
  have T := SOk_T V.1 hc
  obtain ⟨I1, a1, a2, a3⟩ := c_begin (u := u) (J := J) V hc WId_232 (Or.inl rfl)
  obtain ⟨I2, b1, b2, b3⟩ := c_goOn (t := t) (u := u) (J := J) (T.2.2.2.2.1 c hc) T.1 T.2.1 hn (V.1.2.1.1 c) a2
  obtain ⟨y, sm, nm, ⟨w, H, -⟩, -⟩ := b2
  simp (disch := omega) only [↓reduceIte, lt_TI, lt_FI, le_TI, le_FI, eq_TI, eq_FI, lt_TN, lt_FN, le_TN, le_FN, eq_TN, eq_FN, and_self, and_true, true_and, and_false, false_and, or_true, true_or, or_false, false_or, not_true_eq_false, not_false_eq_true, wr_of, uI_at, uC_at, q_bi_s, q_bl_s, q_br_s, q_bv_s, Int.toNat_natCast, tn_1, tn_m, tn_n, Int.toNat_zero, Int.toNat_one, e168_0, a1, e168_9, b1, e168_17]
  exact ⟨I2, rfl, H, Kp_tr a3 b3 (by omega) (by omega) (by omega) (by omega)⟩
theorem c_stays {c : Nat} (V : QI S t I) (hc : c < tC (sTo S)) : ∃ I', q_E (169, 0, [vr 1, vi (c : Int)], []) (qk t u I J) = some (vi (if ahd S c 1 = (sNw S).1 c then 1 else 0), qk t u I' J) ∧ Kp 232 236 I I' := by
  have T := SOk_T V.1 hc
  obtain ⟨I1, a1, a2, a3⟩ := c_begin (u := u) (J := J) V hc WId_232 (Or.inl rfl)
  obtain ⟨I2, b1, b2, b3⟩ := c_wstep (t := t) (u := u) (J := J) (T.2.2.2.2.1 c hc) T.1 T.2.1 a2 (V.1.2.1.1 c) (by omega) (by omega)
  have e : nt (tL (sTo S) c) (tH (sTo S)) ((sNw S).1 c) = ahd S c 1 := rfl
  rw [e] at b1
  simp (disch := omega) only [↓reduceIte, lt_TI, lt_FI, le_TI, le_FI, eq_TI, eq_FI, lt_TN, lt_FN, le_TN, le_FN, eq_TN, eq_FN, and_self, and_true, true_and, and_false, false_and, or_true, true_or, or_false, false_or, not_true_eq_false, not_false_eq_true, wr_of, uI_at, uC_at, q_bi_s, q_bl_s, q_br_s, q_bv_s, Int.toNat_natCast, tn_1, tn_m, tn_n, Int.toNat_zero, Int.toNat_one, e169_0, a1, e169_9, b1, e169_16]
  refine ⟨I2, ?_, Kp_tr a3 b3 (by omega) (by omega) (by omega) (by omega)⟩
  by_cases q : ahd S c 1 = (sNw S).1 c
  · simp only [if_pos q]; simp (disch := omega) only [↓reduceIte, lt_TI, lt_FI, le_TI, le_FI, eq_TI, eq_FI, lt_TN, lt_FN, le_TN, le_FN, eq_TN, eq_FN, and_self, and_true, true_and, and_false, false_and, or_true, true_or, or_false, false_or, not_true_eq_false, not_false_eq_true, wr_of, uI_at, uC_at, q_bi_s, q_bl_s, q_br_s, q_bv_s, Int.toNat_natCast, tn_1, tn_m, tn_n, Int.toNat_zero, Int.toNat_one]
  · simp only [if_neg q]; simp (disch := omega) only [↓reduceIte, lt_TI, lt_FI, le_TI, le_FI, eq_TI, eq_FI, lt_TN, lt_FN, le_TN, le_FN, eq_TN, eq_FN, and_self, and_true, true_and, and_false, false_and, or_true, true_or, or_false, false_or, not_true_eq_false, not_false_eq_true, wr_of, uI_at, uC_at, q_bi_s, q_bl_s, q_br_s, q_bv_s, Int.toNat_natCast, tn_1, tn_m, tn_n, Int.toNat_zero, Int.toNat_one]
theorem c_roundL {c : Nat} (V : QI S t I) (hc : c < tC (sTo S)) : ∃ v I', q_E (170, 0, [vr 1, vi (c : Int)], []) (qk t u I J) = some (vi v, qk t u I' J) ∧ FRd (tL (sTo S) c) (tH (sTo S)) ((sNw S).1 c) v ∧ Kp 232 236 I I' := by
  have T := SOk_T V.1 hc
  obtain ⟨I1, a1, a2, a3⟩ := c_begin (u := u) (J := J) V hc WId_232 (Or.inl rfl)
  obtain ⟨v, I2, b1, b2, b3⟩ := c_findRound (t := t) (u := u) (J := J) (T.2.2.2.2.1 c hc) T.1 T.2.1 (V.1.2.1.1 c) a2
  simp (disch := omega) only [↓reduceIte, lt_TI, lt_FI, le_TI, le_FI, eq_TI, eq_FI, lt_TN, lt_FN, le_TN, le_FN, eq_TN, eq_FN, and_self, and_true, true_and, and_false, false_and, or_true, true_or, or_false, false_or, not_true_eq_false, not_false_eq_true, wr_of, uI_at, uC_at, q_bi_s, q_bl_s, q_br_s, q_bv_s, Int.toNat_natCast, tn_1, tn_m, tn_n, Int.toNat_zero, Int.toNat_one, e170_0, a1, e170_9, b1, e170_16]
  exact ⟨v, I2, rfl, b2, Kp_tr a3 b3 (by omega) (by omega) (by omega) (by omega)⟩
def forI (s : Nat → Hp) (p : Nat) : Int := if fsti (fun n => decide (s n = s (n + p))) (401 - p) < 401 - p then (fsti (fun n => decide (s n = s (n + p))) (401 - p) : Int) else -2
theorem c_firstR {c p : Nat} (V : QI S t I) (hc : c < tC (sTo S)) (hp : p ≤ 1000) : ∃ I', q_E (171, 0, [vr 1, vi (c : Int), vi (p : Int), vu], []) (qk t u I J) = some (vi (forI (ahd S c) p), qk t u I' J) ∧ Kp 232 241 I I' := by
  have T := SOk_T V.1 hc
  have hx := V.1.2.1.1 c
  have law := T.2.2.2.2.1 c hc
  obtain ⟨I1, a1, a2, a3⟩ := c_begin (u := u) (J := J) V hc WId_232 (Or.inl rfl)
  obtain ⟨I2, b1, b2, b3⟩ := c_begin (u := u) (J := J) (QI_kp V a3 (by omega) (by omega)) hc WId_237 (Or.inr rfl)
  obtain ⟨I3, c1, c2, c3⟩ := c_goOn (t := t) (u := u) (J := J) law T.1 T.2.1 (N := p) (by omega) hx b2
  have loop : ∀ (r n : Nat) (I1 : Nat → Nat → Int), n + r = 401 - p → (∀ i, i < n → ahd S c i ≠ ahd S c (i + p)) → WWk I1 232 (tL (sTo S) c) (tH (sTo S)) (ahd S c n) n → WWk I1 237 (tL (sTo S) c) (tH (sTo S)) (ahd S c (n + p)) (n + p) → ∃ I', q_E (171, 37, [vr 1, vu, vi (p : Int), vi (n : Int)], []) (qk t u I1 J) = some (vi (forI (ahd S c) p), qk t u I' J) ∧ Kp 232 241 I1 I' := by
    intro r
    induction r with
    | zero =>
      intro n I1 hn hne A B
      have e : fsti (fun n => decide (ahd S c n = ahd S c (n + p))) (401 - p) = 401 - p := fsti_eq (Nat.le_refl _) (fun i hi => decide_eq_false (hne i (by omega))) (fun z => by omega)
      rw [e171_37]
      unfold forI
      rw [e, if_neg (show ¬ 401 - p < 401 - p by omega)]
      simp (disch := omega) only [↓reduceIte, lt_TI, lt_FI, le_TI, le_FI, eq_TI, eq_FI, lt_TN, lt_FN, le_TN, le_FN, eq_TN, eq_FN, and_self, and_true, true_and, and_false, false_and, or_true, true_or, or_false, false_or, not_true_eq_false, not_false_eq_true, wr_of, uI_at, uC_at, q_bi_s, q_bl_s, q_br_s, q_bv_s, Int.toNat_natCast, tn_1, tn_m, tn_n, Int.toNat_zero, Int.toNat_one]
      exact ⟨I1, rfl, Kp_rf⟩
    | succ r ih =>
      intro n I1 hn hne A B
      have oA := ahd_ok V.1 hc n
      have oB := ahd_ok V.1 hc (n + p)
      obtain ⟨y, sm, nm, ⟨w, HA, -⟩, -⟩ := id A
      obtain ⟨y2, sm2, nm2, ⟨w2, HB, -⟩, -⟩ := id B
      have es := c_isSame (t := t) (u := u) (J := J) HA HB
      rw [e171_37]
      by_cases q : ahd S c n = ahd S c (n + p)
      · have e : fsti (fun n => decide (ahd S c n = ahd S c (n + p))) (401 - p) = n := fsti_eq (by omega) (fun i hi => decide_eq_false (hne i hi)) (fun _ => decide_eq_true q)
        rw [if_pos (show ((ahd S c n).1, (ahd S c n).2) = ((ahd S c (n + p)).1, (ahd S c (n + p)).2) from q)] at es
        unfold forI
        rw [e, if_pos (show n < 401 - p by omega)]
        simp (disch := omega) only [↓reduceIte, lt_TI, lt_FI, le_TI, le_FI, eq_TI, eq_FI, lt_TN, lt_FN, le_TN, le_FN, eq_TN, eq_FN, and_self, and_true, true_and, and_false, false_and, or_true, true_or, or_false, false_or, not_true_eq_false, not_false_eq_true, wr_of, uI_at, uC_at, q_bi_s, q_bl_s, q_br_s, q_bv_s, Int.toNat_natCast, tn_1, tn_m, tn_n, Int.toNat_zero, Int.toNat_one, es, e171_63]
        exact ⟨I1, rfl, Kp_rf⟩
      · rw [if_neg (show ¬ ((ahd S c n).1, (ahd S c n).2) = ((ahd S c (n + p)).1, (ahd S c (n + p)).2) from q)] at es
        obtain ⟨z, I2, a1, a2, a3⟩ := c_wstepk (t := t) (u := u) (J := J) law T.1 T.2.1 A oA (by omega)
        obtain ⟨z2, I3, b1, b2, b3⟩ := c_wstepk (t := t) (u := u) (J := J) law T.1 T.2.1 (WWk_kp B a3 (by omega)) oB (by omega)
        simp (disch := omega) only [↓reduceIte, lt_TI, lt_FI, le_TI, le_FI, eq_TI, eq_FI, lt_TN, lt_FN, le_TN, le_FN, eq_TN, eq_FN, and_self, and_true, true_and, and_false, false_and, or_true, true_or, or_false, false_or, not_true_eq_false, not_false_eq_true, wr_of, uI_at, uC_at, q_bi_s, q_bl_s, q_br_s, q_bv_s, Int.toNat_natCast, tn_1, tn_m, tn_n, Int.toNat_zero, Int.toNat_one, es, e171_63, a1, e171_75, b1, e171_83]
        obtain ⟨I4, c1, c2⟩ := ih (n + 1) I3 (by omega) (fun i hi => by
          by_cases e : i = n
          · rw [e]; exact q
          · exact hne i (by omega)) (WWk_kp a2 b3 (by omega)) (by rw [show n + 1 + p = (n + p) + 1 by omega]; exact b2)
        exact ⟨I4, c1, Kp_tr (Kp_tr a3 b3 (lo := 232) (hi := 241) (by omega) (by omega) (by omega) (by omega)) c2 (by omega) (by omega) (by omega) (by omega)⟩
  have K : Kp 232 241 I I3 := Kp_tr a3 (Kp_tr b3 c3 (lo := 237) (hi := 241) (by omega) (by omega) (by omega) (by omega)) (by omega) (by omega) (by omega) (by omega)
  obtain ⟨I4, d1, d2⟩ := loop (401 - p) 0 I3 (by omega) (fun i hi => by omega) ⟨_, _, _, WAt_kp (WAt_kp a2 b3 (by omega)) c3 (by omega), by omega, by omega, by omega⟩ (by rw [Nat.zero_add]; exact c2)
  simp (disch := omega) only [↓reduceIte, lt_TI, lt_FI, le_TI, le_FI, eq_TI, eq_FI, lt_TN, lt_FN, le_TN, le_FN, eq_TN, eq_FN, and_self, and_true, true_and, and_false, false_and, or_true, true_or, or_false, false_or, not_true_eq_false, not_false_eq_true, wr_of, uI_at, uC_at, q_bi_s, q_bl_s, q_br_s, q_bv_s, Int.toNat_natCast, tn_1, tn_m, tn_n, Int.toNat_zero, Int.toNat_one, e171_0, a1, e171_18, b1, e171_27, c1, e171_35]
  exact ⟨I4, d1, Kp_tr K d2 (by omega) (by omega) (by omega) (by omega)⟩
end

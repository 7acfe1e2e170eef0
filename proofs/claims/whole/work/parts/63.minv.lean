/-! THE MODEL'S STATE: what its cells are -/
def SnA (I : Nat → Nat → Int) (a p : Nat) (s : Sn) : Prop := (∀ c, c < 4 → mRw I a (p + 61 * c) (s.1 c)) ∧ I a (p + 244) = (s.2 : Int)
def MT (I : Nat → Nat → Int) (T : Tt) : Prop := I 268 0 = (tH T : Int) ∧ I 268 1 = (tS T : Int) ∧ I 268 2 = (tC T : Int) ∧ I 268 3 = (tU T : Int) ∧ I 268 4 = (tE T : Int) ∧ (∀ c, c < tC T → I 268 (5 + c) = (tL T c : Int)) ∧ (∀ i, i < tU T → I 268 (9 + 2 * i) = (tUc T i : Int) ∧ I 268 (9 + 2 * i + 1) = (tUs T i : Int)) ∧ ∀ i, i < tE T → I 268 (17 + 3 * i) = (tEc T i : Int) ∧ I 268 (17 + 3 * i + 1) = (tEn T i : Int) ∧ I 268 (17 + 3 * i + 2) = (tEh T i : Int)
/-- what queries need -/
def MQs (S : St) (I : Nat → Nat → Int) : Prop := SOk S ∧ I 265 14 = (if 0 < tC (sTo S) then 1 else 0) ∧ MT I (sTo S) ∧ SnA I 270 0 (tB (sTo S), 0) ∧ SnA I 272 0 (sNw S)
def MInv (S : St) (I : Nat → Nat → Int) : Prop := MQs S I ∧ I 265 11 = sTr S ∧ I 265 9 = sF S ∧ (sTr S = 4 → I 265 10 = sP S) ∧ I 265 2 = ((sT S).length : Int) ∧ (∀ i, i < (sT S).length → I 266 i = ((sT S).getD i 0 : Int)) ∧ I 265 22 = ((sUn S).length : Int) ∧ (∀ i, i < (sUn S).length → SnA I 273 (245 * i) ((sUn S).getD i S0)) ∧ I 265 23 = ((sIm S).length : Int) ∧ ∀ i, i < (sIm S).length → SnA I 274 (245 * i) ((sIm S).getD i S0)
/-- a query changes its own rows at most -/
def QF (I I' : Nat → Nat → Int) : Prop := (∀ a, a ≠ 265 → (a < 275 ∨ 282 < a) → I' a = I a) ∧ ∀ k, 1 ≤ k → k < 25 → I' 265 k = I 265 k
def QM (tr : Int) (I I' : Nat → Nat → Int) : Prop := QF (uI I 265 11 tr) I'
theorem QF_rf {I : Nat → Nat → Int} : QF I I := ⟨fun _ _ _ => rfl, fun _ _ _ => rfl⟩
theorem QF_tr {I I1 I2 : Nat → Nat → Int} (a : QF I I1) (b : QF I1 I2) : QF I I2 := ⟨fun c h1 h2 => (b.1 c h1 h2).trans (a.1 c h1 h2), fun k h1 h2 => (b.2 k h1 h2).trans (a.2 k h1 h2)⟩
theorem QF_fr {I I1 I2 : Nat → Nat → Int} {a lo hi : Nat} (f : QF I I1) (h : FrA a lo hi I1 I2) (h1 : 275 ≤ a) (h2 : a ≤ 282) : QF I I2 := ⟨fun c q1 q2 => (FrA_o h (by omega)).trans (f.1 c q1 q2), fun k q1 q2 => (h 265 k (fun z => by omega)).trans (f.2 k q1 q2)⟩
theorem QF_uI {I I1 : Nat → Nat → Int} {a k : Nat} {v : Int} (f : QF I I1) (h : (275 ≤ a ∧ a ≤ 282) ∨ (a = 265 ∧ (k = 0 ∨ 25 ≤ k))) : QF I (uI I1 a k v) := ⟨fun c q1 q2 => (uI_o1 (by omega)).trans (f.1 c q1 q2), fun j q1 q2 => (uI_ne (by omega)).trans (f.2 j q1 q2)⟩
theorem SnA_rw {I I1 : Nat → Nat → Int} {a p : Nat} {s : Sn} (H : SnA I a p s) (h : I1 a = I a) : SnA I1 a p s := ⟨fun c hc => mRw_rw (H.1 c hc) h, by rw [h]; exact H.2⟩
theorem MT_rw {I I1 : Nat → Nat → Int} {T : Tt} (H : MT I T) (h : I1 268 = I 268) : MT I1 T := by
  unfold MT; rw [h]; exact H
theorem MQs_qf {S : St} {I I1 : Nat → Nat → Int} (V : MQs S I) (f : QF I I1) : MQs S I1 := ⟨V.1, by rw [f.2 14 (by omega) (by omega)]; exact V.2.1, MT_rw V.2.2.1 (f.1 268 (by omega) (by omega)), SnA_rw V.2.2.2.1 (f.1 270 (by omega) (by omega)), SnA_rw V.2.2.2.2 (f.1 272 (by omega) (by omega))⟩
theorem MQs_11 {S : St} {I : Nat → Nat → Int} {v : Int} (V : MQs S I) : MQs S (uI I 265 11 v) := ⟨V.1, by rw [uI_ne (Or.inr (by omega))]; exact V.2.1, MT_rw V.2.2.1 (uI_o1 (by omega)), SnA_rw V.2.2.2.1 (uI_o1 (by omega)), SnA_rw V.2.2.2.2 (uI_o1 (by omega))⟩
abbrev A0 (I : Nat → Nat → Int) : Nat → Nat → Int := uI (uI I 265 0 0) 265 11 0
theorem QM_ok {I I1 : Nat → Nat → Int} (f : QF (A0 I) I1) : QM 0 I I1 := ⟨fun a h1 h2 => by unfold A0 at f; rw [f.1 a h1 h2, uI_o1 h1, uI_o1 h1, uI_o1 h1], fun k h1 h2 => by
  unfold A0 at f
  rw [f.2 k h1 h2]
  by_cases z : k = 11
  · subst z; rfl
  · rw [uI_ne (Or.inr z), uI_ne (Or.inr (by omega)), uI_ne (Or.inr z)]⟩
theorem QM_no {I I1 : Nat → Nat → Int} {w : Int} (f : QF (A0 I) I1) : QM w I (uI I1 265 11 w) := ⟨fun a h1 h2 => by unfold A0 at f; rw [uI_o1 h1, f.1 a h1 h2, uI_o1 h1, uI_o1 h1, uI_o1 h1], fun k h1 h2 => by
  by_cases z : k = 11
  · subst z; rfl
  · unfold A0 at f; rw [uI_ne (Or.inr z), f.2 k h1 h2, uI_ne (Or.inr z), uI_ne (Or.inr (by omega)), uI_ne (Or.inr z)]⟩
theorem MInv_q {S : St} {I I1 : Nat → Nat → Int} {tr : Int} (V : MInv S I) (h : QM tr I I1) (h4 : tr ≠ 4) : MInv (sT S, (tr, sF S, sP S), S.2.2) I1 := by
  obtain ⟨v1, v2, v3, v4, v5, v6, v7, v8, v9, v10⟩ := V
  have f1 : ∀ a, a ≠ 265 → (a < 275 ∨ 282 < a) → I1 a = I a := fun a h1 h2 => (h.1 a h1 h2).trans (uI_o1 h1)
  have f2 : ∀ k, 1 ≤ k → k < 25 → k ≠ 11 → I1 265 k = I 265 k := fun k h1 h2 h3 => (h.2 k h1 h2).trans (uI_ne (Or.inr h3))
  refine ⟨?_, ?_, ?_, fun z => absurd z h4, ?_, fun i hi => ?_, ?_, fun i hi => SnA_rw (v8 i hi) (f1 273 (by omega) (by omega)), ?_, fun i hi => SnA_rw (v10 i hi) (f1 274 (by omega) (by omega))⟩
  · have q := MQs_qf (MQs_11 v1) h
    exact q
  · rw [h.2 11 (by omega) (by omega)]; exact if_pos ⟨rfl, rfl⟩
  · rw [f2 9 (by omega) (by omega) (by omega)]; exact v3
  · rw [f2 2 (by omega) (by omega) (by omega)]; exact v5
  · rw [f1 266 (by omega) (by omega)]; exact v6 i hi
  · rw [f2 22 (by omega) (by omega) (by omega)]; exact v7
  · rw [f2 23 (by omega) (by omega) (by omega)]; exact v9
theorem MInv_A {S : St} {I : Nat → Nat → Int} (V : MInv S I) : MQs S (A0 I) := MQs_11 (MQs_qf V.1 (QF_uI QF_rf (Or.inr ⟨rfl, Or.inl rfl⟩)))
/-- what a call may change: nothing of the class's -/
def KM (I I' : Nat → Nat → Int) : Prop := ∀ a, a < 265 ∨ 282 < a → I' a = I a
theorem QM_km {I I1 : Nat → Nat → Int} {tr : Int} (h : QM tr I I1) : KM I I1 := fun a q => (h.1 a (by omega) (by omega)).trans (uI_o1 (by omega))
theorem tn_5 (n : Nat) : (5 + (n : Int)).toNat = 5 + n := by omega
theorem tn_61 (n : Nat) : (61 * (n : Int)).toNat = 61 * n := by omega
theorem tn_61a (n m : Nat) : (61 * (n : Int) + (m : Int)).toNat = 61 * n + m := by omega
theorem tn_61h (n : Nat) : (61 * (n : Int) + 60).toNat = 61 * n + 60 := by omega
theorem c_61 (n : Nat) : ((61 * n : Nat) : Int) = 61 * (n : Int) := by omega
theorem A272 : AId 272 245 := ⟨rfl, rfl, by omega⟩
theorem A270 : AId 270 245 := ⟨rfl, rfl, by omega⟩
theorem A275 : AId 275 61 := ⟨rfl, rfl, by omega⟩
theorem A276 : AId 276 61 := ⟨rfl, rfl, by omega⟩
theorem A277 : AId 277 24461 := ⟨rfl, rfl, by omega⟩
theorem k21 : kd 265 = 21 := rfl
section
variable {t u : Nat} {I J : Nat → Nat → Int} {S : St}
theorem n_ok {x l h : Int} (h1 : l ≤ x) (h2 : x ≤ h) : q_E (180, 0, [vi x, vi l, vi h], []) (qk t u I J) = some (vi 1, qk t u I J) := by
  simp (disch := omega) only [↓reduceIte, lt_TI, lt_FI, le_TI, le_FI, eq_TI, eq_FI, lt_TN, lt_FN, le_TN, le_FN, eq_TN, eq_FN, and_self, and_true, true_and, and_false, false_and, or_true, true_or, or_false, false_or, not_true_eq_false, not_false_eq_true, wr_of, uI_at, uC_at, q_bi_s, q_bl_s, q_br_s, q_bv_s, Int.toNat_natCast, tn_1, tn_m, tn_n, Int.toNat_zero, Int.toNat_one, e180_0]
theorem n_no {x l h : Int} (h1 : x < l ∨ h < x) : q_E (180, 0, [vi x, vi l, vi h], []) (qk t u I J) = some (vi 0, qk t u I J) := by
  rcases Classical.em (x < l) with z | z
  · simp (disch := omega) only [↓reduceIte, lt_TI, lt_FI, le_TI, le_FI, eq_TI, eq_FI, lt_TN, lt_FN, le_TN, le_FN, eq_TN, eq_FN, and_self, and_true, true_and, and_false, false_and, or_true, true_or, or_false, false_or, not_true_eq_false, not_false_eq_true, wr_of, uI_at, uC_at, q_bi_s, q_bl_s, q_br_s, q_bv_s, Int.toNat_natCast, tn_1, tn_m, tn_n, Int.toNat_zero, Int.toNat_one, e180_0]
  · simp (disch := omega) only [↓reduceIte, lt_TI, lt_FI, le_TI, le_FI, eq_TI, eq_FI, lt_TN, lt_FN, le_TN, le_FN, eq_TN, eq_FN, and_self, and_true, true_and, and_false, false_and, or_true, true_or, or_false, false_or, not_true_eq_false, not_false_eq_true, wr_of, uI_at, uC_at, q_bi_s, q_bl_s, q_br_s, q_bv_s, Int.toNat_natCast, tn_1, tn_m, tn_n, Int.toNat_zero, Int.toNat_one, e180_0]
theorem m_cell_ok {c : Int} (V : MQs S I) (h : isCl S c) : q_E (210, 0, [vr 265, vi c], []) (qk t u I J) = some (vi 1, qk t u I J) := by
  obtain ⟨v1, v2, v3, -⟩ := V
  have h4 := tC_4 v1
  have e := v3.2.2.1
  obtain ⟨c1, c2⟩ := h
  rw [if_pos (by omega)] at v2
  simp (disch := omega) only [↓reduceIte, lt_TI, lt_FI, le_TI, le_FI, eq_TI, eq_FI, lt_TN, lt_FN, le_TN, le_FN, eq_TN, eq_FN, and_self, and_true, true_and, and_false, false_and, or_true, true_or, or_false, false_or, not_true_eq_false, not_false_eq_true, wr_of, uI_at, uC_at, q_bi_s, q_bl_s, q_br_s, q_bv_s, Int.toNat_natCast, tn_1, tn_m, tn_n, Int.toNat_zero, Int.toNat_one, e210_0, v2, e, n_ok, e210_20]
theorem m_cell_no {c : Int} (V : MQs S I) (h : ¬ isCl S c) : q_E (210, 0, [vr 265, vi c], []) (qk t u I J) = some (vi 0, qk t u I J) := by
  obtain ⟨v1, v2, v3, -⟩ := V
  have h4 := tC_4 v1
  have e := v3.2.2.1
  by_cases z : 0 < tC (sTo S)
  · rw [if_pos z] at v2
    simp (disch := omega) only [↓reduceIte, lt_TI, lt_FI, le_TI, le_FI, eq_TI, eq_FI, lt_TN, lt_FN, le_TN, le_FN, eq_TN, eq_FN, and_self, and_true, true_and, and_false, false_and, or_true, true_or, or_false, false_or, not_true_eq_false, not_false_eq_true, wr_of, uI_at, uC_at, q_bi_s, q_bl_s, q_br_s, q_bv_s, Int.toNat_natCast, tn_1, tn_m, tn_n, Int.toNat_zero, Int.toNat_one, e210_0, v2, e, n_no, e210_20]
  · rw [if_neg z] at v2
    simp (disch := omega) only [↓reduceIte, lt_TI, lt_FI, le_TI, le_FI, eq_TI, eq_FI, lt_TN, lt_FN, le_TN, le_FN, eq_TN, eq_FN, and_self, and_true, true_and, and_false, false_and, or_true, true_or, or_false, false_or, not_true_eq_false, not_false_eq_true, wr_of, uI_at, uC_at, q_bi_s, q_bl_s, q_br_s, q_bv_s, Int.toNat_natCast, tn_1, tn_m, tn_n, Int.toNat_zero, Int.toNat_one, e210_0, v2]
theorem MQs_row {c : Nat} (V : MQs S I) (hc : c < 4) : mRw I 272 (61 * c) ((sNw S).1 c) ∧ HOk ((sNw S).1 c) := ⟨by have := V.2.2.2.2.1 c hc; rwa [Nat.zero_add] at this, V.1.2.1.1 c⟩
theorem m_begin {c : Nat} (V : MQs S I) (hc : c < 4) : ∃ I', q_E (220, 0, [vr 265, vi (c : Int)], []) (qk t u I J) = some (vu, qk t u I' J) ∧ mRw I' 275 0 ((sNw S).1 c) ∧ FrA 275 0 61 I I' := by
  obtain ⟨H, ok⟩ := MQs_row V hc
  obtain ⟨I1, x1, x2, x3⟩ := c_mcopy (t := t) (u := u) (I := I) (J := J) (p := 61 * c) (s := 0) (n := 61) A272 A275 (by omega) (by omega) (by omega)
  rw [c_61, Int.natCast_zero] at x1
  rw [show ((61 : Nat) : Int) = 61 from rfl] at x1
  simp (disch := omega) only [↓reduceIte, lt_TI, lt_FI, le_TI, le_FI, eq_TI, eq_FI, lt_TN, lt_FN, le_TN, le_FN, eq_TN, eq_FN, and_self, and_true, true_and, and_false, false_and, or_true, true_or, or_false, false_or, not_true_eq_false, not_false_eq_true, wr_of, uI_at, uC_at, q_bi_s, q_bl_s, q_br_s, q_bv_s, Int.toNat_natCast, tn_1, tn_m, tn_n, Int.toNat_zero, Int.toNat_one, e220_0, x1, e220_18]
  refine ⟨I1, rfl, ⟨fun i hi => ?_, ?_⟩, x3⟩
  · rw [x2 i (by omega)]; exact H.1 i hi
  · rw [x2 60 (by omega)]; exact H.2
theorem m_nt {c : Nat} (V : MQs S I) (hc : c < tC (sTo S)) {a : Nat} (ha : a = 275 ∨ a = 276) {x : Hp} (H : mRw I a 0 x) (ok : HOk x) : ∃ I', q_E (219, 0, [vr 265, vr a, vi 0, vi (tL (sTo S) c : Int), vu], []) (qk t u I J) = some (vu, qk t u I' J) ∧ mRw I' a 0 (nt (tL (sTo S) c) (tH (sTo S)) x) ∧ FrA a 0 61 I I' := by
  have T := SOk_T V.1 hc
  have A : AId a 61 := by rcases ha with rfl | rfl; exact A275; exact A276
  obtain ⟨I1, x1, x2, x3⟩ := c_nightOf (t := t) (u := u) (J := J) A (p := 0) (by omega) (by omega) H ok T.1 T.2.1 (T.2.2.2.2.1 c hc) V.2.2.1.1
  rw [Int.natCast_zero] at x1
  exact ⟨I1, x1, x2, x3⟩
theorem MQs_law {c : Nat} (V : MQs S I) (hc : c < tC (sTo S)) : I 268 (5 + c) = (tL (sTo S) c : Int) := V.2.2.1.2.2.2.2.2.1 c hc
theorem m_nightsOn {c n : Nat} (V : MQs S I) (hc : c < tC (sTo S)) (hn : n ≤ 5000) : ∃ I', q_E (221, 0, [vr 265, vi (c : Int), vi (n : Int), vu], []) (qk t u I J) = some (vu, qk t u I' J) ∧ mRw I' 275 0 (ahd S c n) ∧ QF I I' := by
  have h4 := tC_4 V.1
  have loop : ∀ (r i : Nat) (I1 : Nat → Nat → Int), i + r = n → QF I I1 → mRw I1 275 0 (ahd S c i) → ∃ I', q_E (221, 7, [vr 265, vi (c : Int), vi (n : Int), vi (i : Int)], []) (qk t u I1 J) = some (vu, qk t u I' J) ∧ mRw I' 275 0 (ahd S c n) ∧ QF I I' := by
    intro r
    induction r with
    | zero =>
      intro i I1 hi F H
      rw [e221_7]
      simp (disch := omega) only [↓reduceIte, lt_TI, lt_FI, le_TI, le_FI, eq_TI, eq_FI, lt_TN, lt_FN, le_TN, le_FN, eq_TN, eq_FN, and_self, and_true, true_and, and_false, false_and, or_true, true_or, or_false, false_or, not_true_eq_false, not_false_eq_true, wr_of, uI_at, uC_at, q_bi_s, q_bl_s, q_br_s, q_bv_s, Int.toNat_natCast, tn_1, tn_m, tn_n, Int.toNat_zero, Int.toNat_one]
      rw [show i = n by omega] at H
      exact ⟨I1, rfl, H, F⟩
    | succ r ih =>
      intro i I1 hi F H
      have V1 := MQs_qf V F
      have l := MQs_law V1 hc
      obtain ⟨I2, x1, x2, x3⟩ := m_nt (t := t) (u := u) (J := J) V1 hc (Or.inl rfl) H (ahd_ok V.1 hc i)
      rw [e221_7]
      simp (disch := omega) only [↓reduceIte, lt_TI, lt_FI, le_TI, le_FI, eq_TI, eq_FI, lt_TN, lt_FN, le_TN, le_FN, eq_TN, eq_FN, and_self, and_true, true_and, and_false, false_and, or_true, true_or, or_false, false_or, not_true_eq_false, not_false_eq_true, wr_of, uI_at, uC_at, q_bi_s, q_bl_s, q_br_s, q_bv_s, Int.toNat_natCast, tn_1, tn_m, tn_n, Int.toNat_zero, Int.toNat_one, tn_5, l, x1, e221_29]
      exact ih (i + 1) I2 (by omega) (QF_fr F x3 (by omega) (by omega)) x2
  obtain ⟨I1, x1, x2, x3⟩ := m_begin (t := t) (u := u) (J := J) V (show c < 4 by omega)
  obtain ⟨I2, y1, y2, y3⟩ := loop n 0 I1 (by omega) (QF_fr QF_rf x3 (by omega) (by omega)) x2
  simp (disch := omega) only [↓reduceIte, lt_TI, lt_FI, le_TI, le_FI, eq_TI, eq_FI, lt_TN, lt_FN, le_TN, le_FN, eq_TN, eq_FN, and_self, and_true, true_and, and_false, false_and, or_true, true_or, or_false, false_or, not_true_eq_false, not_false_eq_true, wr_of, uI_at, uC_at, q_bi_s, q_bl_s, q_br_s, q_bv_s, Int.toNat_natCast, tn_1, tn_m, tn_n, Int.toNat_zero, Int.toNat_one, e221_0, x1, e221_5]
  exact ⟨I2, y1, y2, y3⟩
theorem m_isStill {c : Nat} (V : MQs S I) (hc : c < tC (sTo S)) : ∃ I', q_E (225, 0, [vr 265, vi (c : Int)], []) (qk t u I J) = some (vi (if ahd S c 1 = (sNw S).1 c then 1 else 0), qk t u I' J) ∧ QF I I' := by
  have h4 := tC_4 V.1
  obtain ⟨I1, x1, x2, x3⟩ := m_nightsOn (t := t) (u := u) (J := J) (n := 1) V hc (by omega)
  obtain ⟨H, ok⟩ := MQs_row (MQs_qf V x3) (show c < 4 by omega)
  have k := c_sameR (t := t) (u := u) (J := J) A275 A272 (p := 0) (s := 61 * c) (by omega) (by omega) x2 H (ahd_ok V.1 hc 1) ok
  rw [Int.natCast_zero, c_61] at k
  rw [Int.natCast_one] at x1
  simp (disch := omega) only [↓reduceIte, lt_TI, lt_FI, le_TI, le_FI, eq_TI, eq_FI, lt_TN, lt_FN, le_TN, le_FN, eq_TN, eq_FN, and_self, and_true, true_and, and_false, false_and, or_true, true_or, or_false, false_or, not_true_eq_false, not_false_eq_true, wr_of, uI_at, uC_at, q_bi_s, q_bl_s, q_br_s, q_bv_s, Int.toNat_natCast, tn_1, tn_m, tn_n, Int.toNat_zero, Int.toNat_one, e225_0, x1, e225_6, k]
  refine ⟨I1, ?_, x3⟩
  rw [e225_24]
  by_cases q : ahd S c 1 = (sNw S).1 c
  · simp only [if_pos q]; simp (disch := omega) only [↓reduceIte, lt_TI, lt_FI, le_TI, le_FI, eq_TI, eq_FI, lt_TN, lt_FN, le_TN, le_FN, eq_TN, eq_FN, and_self, and_true, true_and, and_false, false_and, or_true, true_or, or_false, false_or, not_true_eq_false, not_false_eq_true, wr_of, uI_at, uC_at, q_bi_s, q_bl_s, q_br_s, q_bv_s, Int.toNat_natCast, tn_1, tn_m, tn_n, Int.toNat_zero, Int.toNat_one]
  · simp only [if_neg q]; simp (disch := omega) only [↓reduceIte, lt_TI, lt_FI, le_TI, le_FI, eq_TI, eq_FI, lt_TN, lt_FN, le_TN, le_FN, eq_TN, eq_FN, and_self, and_true, true_and, and_false, false_and, or_true, true_or, or_false, false_or, not_true_eq_false, not_false_eq_true, wr_of, uI_at, uC_at, q_bi_s, q_bl_s, q_br_s, q_bv_s, Int.toNat_natCast, tn_1, tn_m, tn_n, Int.toNat_zero, Int.toNat_one]
end

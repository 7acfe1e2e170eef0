/-! THE MODEL'S TAPE; what is told without a refusal -/
theorem q_and255 (y : Int) : q_and y 255 = y % 256 := by
  unfold q_and
  have e : (Int32.ofInt y &&& Int32.ofInt 255).toBitVec.toNat = (y % 4294967296).toNat % 256 := by
    rw [Int32.toBitVec_and, BitVec.toNat_and]
    show (BitVec.ofInt 32 y).toNat &&& 255 = _
    rw [BitVec.toNat_ofInt, show (255 : Nat) = 2 ^ 8 - 1 from rfl, Nat.and_two_pow_sub_one_eq_mod]
    rfl
  show (Int32.ofInt y &&& Int32.ofInt 255).toBitVec.toInt = _
  rw [BitVec.toInt_eq_toNat_of_lt (by rw [e]; omega), e]
  omega
def TpM (I : Nat → Nat → Int) (tp : List Nat) : Prop := I 265 2 = (tp.length : Int) ∧ ∀ i, i < tp.length → I 266 i = (tp.getD i 0 : Int)
def TF (I I' : Nat → Nat → Int) : Prop := (∀ x, x ≠ 265 → x ≠ 266 → I' x = I x) ∧ ∀ k, k ≠ 2 → I' 265 k = I 265 k
theorem TF_rf {I : Nat → Nat → Int} : TF I I := ⟨fun _ _ _ => rfl, fun _ _ => rfl⟩
theorem TF_tr {I I1 I2 : Nat → Nat → Int} (a : TF I I1) (b : TF I1 I2) : TF I I2 := ⟨fun x h1 h2 => (b.1 x h1 h2).trans (a.1 x h1 h2), fun k h => (b.2 k h).trans (a.2 k h)⟩
theorem m_app1 {I : Nat → Nat → Int} {tp : List Nat} (h : TpM I tp) (b : Nat) : TpM (uI (uI I 266 tp.length (b : Int)) 265 2 ((tp.length : Int) + 1)) (tp ++ [b]) := by
  refine ⟨by rw [List.length_append]; simp (disch := omega) only [↓reduceIte, lt_TI, lt_FI, le_TI, le_FI, eq_TI, eq_FI, lt_TN, lt_FN, le_TN, le_FN, eq_TN, eq_FN, and_self, and_true, true_and, and_false, false_and, or_true, true_or, or_false, false_or, not_true_eq_false, not_false_eq_true, wr_of, uI_at, uC_at, q_bi_s, q_bl_s, q_br_s, q_bv_s, Int.toNat_natCast, tn_1, tn_m, tn_n, Int.toNat_zero, Int.toNat_one] <;> rfl, fun i hi => ?_⟩
  rw [List.length_append] at hi
  have hi : i < tp.length + 1 := hi
  rw [gD_app]
  by_cases q : i < tp.length
  · rw [if_pos q, uI_ne (Or.inl (by omega)), uI_ne (Or.inr (by omega))]; exact h.2 i q
  · have e : i = tp.length := by omega
    subst e
    rw [if_neg q, Nat.sub_self]
    simp (disch := omega) only [↓reduceIte, lt_TI, lt_FI, le_TI, le_FI, eq_TI, eq_FI, lt_TN, lt_FN, le_TN, le_FN, eq_TN, eq_FN, and_self, and_true, true_and, and_false, false_and, or_true, true_or, or_false, false_or, not_true_eq_false, not_false_eq_true, wr_of, uI_at, uC_at, q_bi_s, q_bl_s, q_br_s, q_bv_s, Int.toNat_natCast, tn_1, tn_m, tn_n, Int.toNat_zero, Int.toNat_one, List.getD_cons_zero]
def fdB (a b c d e : Int) (k : Nat) : Nat := byt (if k < 4 then a else if k < 8 then b else if k < 12 then c else if k < 16 then d else e) (24 - 8 * ((k % 4 : Nat) : Int))
def fdL (a b c d e : Int) : Nat → Nat → List Nat
  | 0, _ => []
  | r + 1, k => fdB a b c d e k :: fdL a b c d e r (k + 1)
theorem fdL_len (a b c d e : Int) : ∀ r k, (fdL a b c d e r k).length = r
  | 0, _ => rfl
  | r + 1, k => by unfold fdL; rw [List.length_cons, fdL_len a b c d e r (k + 1)]
theorem fdL_lt (a b c d e : Int) : ∀ r k, ∀ x ∈ fdL a b c d e r k, x < 256
  | 0, _, x, h => by cases h
  | r + 1, k, x, h => by
    rcases List.mem_cons.mp (show x ∈ fdB a b c d e k :: fdL a b c d e r (k + 1) from h) with q | q
    · rw [q]; exact byt_lt _ _
    · exact fdL_lt a b c d e r (k + 1) x q
theorem fdL_20 (a b c d e : Int) : fdL a b c d e 20 0 = by4 a ++ (by4 b ++ (by4 c ++ (by4 d ++ by4 e))) := rfl
theorem byt_255 (x sh : Int) : q_and (q_shr x sh) 255 = (byt x sh : Int) := by
  rw [q_and255]
  unfold byt
  omega
/-- what is told at any time leaves the state -/
theorem MInv_q0 {S : St} {I I1 : Nat → Nat → Int} (V : MInv S I) (h : QF I I1) : MInv S I1 := by
  obtain ⟨v1, v2, v3, v4, v5, v6, v7, v8, v9, v10⟩ := V
  have f1 : ∀ a, a ≠ 265 → (a < 275 ∨ 282 < a) → I1 a = I a := fun a h1 h2 => h.1 a h1 h2
  have f2 : ∀ k, 1 ≤ k → k < 25 → I1 265 k = I 265 k := fun k h1 h2 => h.2 k h1 h2
  refine ⟨MQs_qf v1 h, ?_, ?_, fun z => ?_, ?_, fun i hi => ?_, ?_, fun i hi => SnA_rw (v8 i hi) (f1 273 (by omega) (by omega)), ?_, fun i hi => SnA_rw (v10 i hi) (f1 274 (by omega) (by omega))⟩
  · rw [f2 11 (by omega) (by omega)]; exact v2
  · rw [f2 9 (by omega) (by omega)]; exact v3
  · rw [f2 10 (by omega) (by omega)]; exact v4 z
  · rw [f2 2 (by omega) (by omega)]; exact v5
  · rw [f1 266 (by omega) (by omega)]; exact v6 i hi
  · rw [f2 22 (by omega) (by omega)]; exact v7
  · rw [f2 23 (by omega) (by omega)]; exact v9
theorem QF_km {I I1 : Nat → Nat → Int} (h : QF I I1) : KM I I1 := fun a q => h.1 a (by omega) (by omega)
theorem QF_00 {I : Nat → Nat → Int} {v : Int} : QF I (uI I 265 0 v) := QF_uI QF_rf (Or.inr ⟨rfl, Or.inl rfl⟩)
section
variable {t u : Nat} {I J : Nat → Nat → Int} {S : St}
theorem m_feedL {a b c d e : Int} : ∀ (r k : Nat) (tp : List Nat) (I1 : Nat → Nat → Int), k + r = 20 → TpM I1 tp → tp.length + r ≤ 900 → ∃ I', q_E (184, 23, [vr 265, vi a, vi b, vi c, vi d, vi e, vi (k : Int), vu], []) (qk t u I1 J) = some (vi ((tp.length + r : Nat) : Int), qk t u I' J) ∧ TpM I' (tp ++ fdL a b c d e r k) ∧ TF I1 I' := by
  intro r
  induction r with
  | zero =>
    intro k tp I1 hk A hl
    have a1 := A.1
    rw [e184_23]
    simp (disch := omega) only [↓reduceIte, lt_TI, lt_FI, le_TI, le_FI, eq_TI, eq_FI, lt_TN, lt_FN, le_TN, le_FN, eq_TN, eq_FN, and_self, and_true, true_and, and_false, false_and, or_true, true_or, or_false, false_or, not_true_eq_false, not_false_eq_true, wr_of, uI_at, uC_at, q_bi_s, q_bl_s, q_br_s, q_bv_s, Int.toNat_natCast, tn_1, tn_m, tn_n, Int.toNat_zero, Int.toNat_one, a1]
    exact ⟨I1, rfl, by rw [show fdL a b c d e 0 k = [] from rfl, List.append_nil]; exact A, TF_rf⟩
  | succ r ih =>
    intro k tp I1 hk A hl
    have a1 := A.1
    have tm : Int.tmod (k : Int) 4 = ((k % 4 : Nat) : Int) := (Int.ofNat_tmod k 4).symm
    have m4 := Nat.mod_lt k (show 0 < 4 by omega)
    have st : q_E (184, 23, [vr 265, vi a, vi b, vi c, vi d, vi e, vi (k : Int), vu], []) (qk t u I1 J) = q_E (184, 23, [vr 265, vi a, vi b, vi c, vi d, vi e, vi ((k : Int) + 1), vu], []) (qk t u (uI (uI I1 266 tp.length (fdB a b c d e k : Int)) 265 2 ((tp.length : Int) + 1)) J) := by
      rw [e184_23]
      unfold fdB
      rcases (by omega : k < 4 ∨ (4 ≤ k ∧ k < 8) ∨ (8 ≤ k ∧ k < 12) ∨ (12 ≤ k ∧ k < 16) ∨ 16 ≤ k) with z | z | z | z | z
      · simp (disch := omega) only [↓reduceIte, lt_TI, lt_FI, le_TI, le_FI, eq_TI, eq_FI, lt_TN, lt_FN, le_TN, le_FN, eq_TN, eq_FN, and_self, and_true, true_and, and_false, false_and, or_true, true_or, or_false, false_or, not_true_eq_false, not_false_eq_true, wr_of, uI_at, uC_at, q_bi_s, q_bl_s, q_br_s, q_bv_s, Int.toNat_natCast, tn_1, tn_m, tn_n, Int.toNat_zero, Int.toNat_one, a1, tm, byt_255]
      · simp (disch := omega) only [↓reduceIte, lt_TI, lt_FI, le_TI, le_FI, eq_TI, eq_FI, lt_TN, lt_FN, le_TN, le_FN, eq_TN, eq_FN, and_self, and_true, true_and, and_false, false_and, or_true, true_or, or_false, false_or, not_true_eq_false, not_false_eq_true, wr_of, uI_at, uC_at, q_bi_s, q_bl_s, q_br_s, q_bv_s, Int.toNat_natCast, tn_1, tn_m, tn_n, Int.toNat_zero, Int.toNat_one, a1, tm, byt_255]
      · simp (disch := omega) only [↓reduceIte, lt_TI, lt_FI, le_TI, le_FI, eq_TI, eq_FI, lt_TN, lt_FN, le_TN, le_FN, eq_TN, eq_FN, and_self, and_true, true_and, and_false, false_and, or_true, true_or, or_false, false_or, not_true_eq_false, not_false_eq_true, wr_of, uI_at, uC_at, q_bi_s, q_bl_s, q_br_s, q_bv_s, Int.toNat_natCast, tn_1, tn_m, tn_n, Int.toNat_zero, Int.toNat_one, a1, tm, byt_255]
      · simp (disch := omega) only [↓reduceIte, lt_TI, lt_FI, le_TI, le_FI, eq_TI, eq_FI, lt_TN, lt_FN, le_TN, le_FN, eq_TN, eq_FN, and_self, and_true, true_and, and_false, false_and, or_true, true_or, or_false, false_or, not_true_eq_false, not_false_eq_true, wr_of, uI_at, uC_at, q_bi_s, q_bl_s, q_br_s, q_bv_s, Int.toNat_natCast, tn_1, tn_m, tn_n, Int.toNat_zero, Int.toNat_one, a1, tm, byt_255]
      · simp (disch := omega) only [↓reduceIte, lt_TI, lt_FI, le_TI, le_FI, eq_TI, eq_FI, lt_TN, lt_FN, le_TN, le_FN, eq_TN, eq_FN, and_self, and_true, true_and, and_false, false_and, or_true, true_or, or_false, false_or, not_true_eq_false, not_false_eq_true, wr_of, uI_at, uC_at, q_bi_s, q_bl_s, q_br_s, q_bv_s, Int.toNat_natCast, tn_1, tn_m, tn_n, Int.toNat_zero, Int.toNat_one, a1, tm, byt_255]
    have A2 := m_app1 A (fdB a b c d e k)
    obtain ⟨I2, x1, x2, x3⟩ := ih (k + 1) (tp ++ [fdB a b c d e k]) _ (by omega) A2 (by rw [List.length_append]; show tp.length + 1 + r ≤ 900; omega)
    refine ⟨I2, ?_, ?_, TF_tr ⟨fun x h1 h2 => by rw [uI_o1 h1, uI_o1 h2], fun j h => by rw [uI_ne (Or.inr h), uI_ne (Or.inl (by omega))]⟩ x3⟩
    · rw [st]
      rw [List.length_append] at x1
      rw [show tp.length + (r + 1) = tp.length + [fdB a b c d e k].length + r by show _ = tp.length + 1 + r; omega]
      exact x1
    · rw [show tp ++ fdL a b c d e (r + 1) k = tp ++ [fdB a b c d e k] ++ fdL a b c d e r (k + 1) from List.append_cons tp (fdB a b c d e k) (fdL a b c d e r (k + 1))]
      exact x2
theorem m_feed (V : MInv S I) (a b c d e : Int) : ∃ I', q_E (184, 0, [vr 265, vi a, vi b, vi c, vi d, vi e, vu, vu], []) (qk t u I J) = some (vi (ac_feed S a b c d e).1, qk t u I' J) ∧ MInv (ac_feed S a b c d e).2 I' ∧ KM I I' := by
  have v5 := V.2.2.2.2.1
  have hl := V.1.1.2.2.2.2.2.2.1
  unfold ac_feed
  by_cases h : 900 < (sT S).length + 20
  · simp only [if_pos h]
    simp (disch := omega) only [↓reduceIte, lt_TI, lt_FI, le_TI, le_FI, eq_TI, eq_FI, lt_TN, lt_FN, le_TN, le_FN, eq_TN, eq_FN, and_self, and_true, true_and, and_false, false_and, or_true, true_or, or_false, false_or, not_true_eq_false, not_false_eq_true, wr_of, uI_at, uC_at, q_bi_s, q_bl_s, q_br_s, q_bv_s, Int.toNat_natCast, tn_1, tn_m, tn_n, Int.toNat_zero, Int.toNat_one, e184_0, v5]
    exact ⟨_, rfl, MInv_q0 V QF_00, QF_km QF_00⟩
  · simp only [if_neg h]
    have e0 : sT S ++ by4 a ++ by4 b ++ by4 c ++ by4 d ++ by4 e = sT S ++ fdL a b c d e 20 0 := by rw [fdL_20]; simp only [List.append_assoc]
    rw [e0]
    obtain ⟨I2, x1, x2, x3⟩ := m_feedL (t := t) (u := u) (J := J) (a := a) (b := b) (c := c) (d := d) (e := e) 20 0 (sT S) (uI I 265 0 0) rfl ⟨by rw [uI_ne (Or.inr (by omega))]; exact v5, fun i hi => by rw [uI_o1 (by omega)]; exact V.2.2.2.2.2.1 i hi⟩ (by omega)
    rw [Int.natCast_zero] at x1
    simp (disch := omega) only [↓reduceIte, lt_TI, lt_FI, le_TI, le_FI, eq_TI, eq_FI, lt_TN, lt_FN, le_TN, le_FN, eq_TN, eq_FN, and_self, and_true, true_and, and_false, false_and, or_true, true_or, or_false, false_or, not_true_eq_false, not_false_eq_true, wr_of, uI_at, uC_at, q_bi_s, q_bl_s, q_br_s, q_bv_s, Int.toNat_natCast, tn_1, tn_m, tn_n, Int.toNat_zero, Int.toNat_one, e184_0, v5, x1]
    obtain ⟨⟨w1, w2, w3, w4, w5⟩, v2, v3, v4, v5, v6, v7, v8, v9, v10⟩ := V
    obtain ⟨h1, h2, h3, h4, h5, h6, h7, h8⟩ := w1
    have f1 : ∀ x, x ≠ 265 → x ≠ 266 → I2 x = I x := fun x y1 y2 => by rw [x3.1 x y1 y2, uI_o1 y1]
    have f2 : ∀ k, k ≠ 2 → k ≠ 0 → I2 265 k = I 265 k := fun k y1 y2 => by rw [x3.2 k y1, uI_ne (Or.inr y2)]
    refine ⟨I2, rfl, ⟨⟨⟨h1, h2, h3, h4, h5, h6, ?_, fun x hx => ?_⟩, by rw [f2 14 (by omega) (by omega)]; exact w2, MT_rw w3 (f1 268 (by omega) (by omega)), SnA_rw w4 (f1 270 (by omega) (by omega)), SnA_rw w5 (f1 272 (by omega) (by omega))⟩, by rw [f2 11 (by omega) (by omega)]; exact v2, by rw [f2 9 (by omega) (by omega)]; exact v3, fun z => by rw [f2 10 (by omega) (by omega)]; exact v4 z, x2.1, x2.2, by rw [f2 22 (by omega) (by omega)]; exact v7, fun i hi => SnA_rw (v8 i hi) (f1 273 (by omega) (by omega)), by rw [f2 23 (by omega) (by omega)]; exact v9, fun i hi => SnA_rw (v10 i hi) (f1 274 (by omega) (by omega))⟩, fun x hx => f1 x (by omega) (by omega)⟩
    · show (sT S ++ fdL a b c d e 20 0).length ≤ 900
      rw [List.length_append, fdL_len]; omega
    · rcases List.mem_append.mp (show x ∈ sT S ++ fdL a b c d e 20 0 from hx) with q | q
      · exact h8 x q
      · exact fdL_lt a b c d e 20 0 x q
theorem m_trouble (V : MInv S I) : ∃ I', q_E (301, 0, [vr 265], []) (qk t u I J) = some (vi (sTr S), qk t u I' J) ∧ QF I I' := by
  have v := V.2.1
  simp (disch := omega) only [↓reduceIte, lt_TI, lt_FI, le_TI, le_FI, eq_TI, eq_FI, lt_TN, lt_FN, le_TN, le_FN, eq_TN, eq_FN, and_self, and_true, true_and, and_false, false_and, or_true, true_or, or_false, false_or, not_true_eq_false, not_false_eq_true, wr_of, uI_at, uC_at, q_bi_s, q_bl_s, q_br_s, q_bv_s, Int.toNat_natCast, tn_1, tn_m, tn_n, Int.toNat_zero, Int.toNat_one, e301_0, v]
  exact ⟨_, rfl, QF_00⟩
theorem m_fault (V : MInv S I) : ∃ I', q_E (208, 0, [vr 265], []) (qk t u I J) = some (vi (sF S), qk t u I' J) ∧ QF I I' := by
  have v := V.2.2.1
  simp (disch := omega) only [↓reduceIte, lt_TI, lt_FI, le_TI, le_FI, eq_TI, eq_FI, lt_TN, lt_FN, le_TN, le_FN, eq_TN, eq_FN, and_self, and_true, true_and, and_false, false_and, or_true, true_or, or_false, false_or, not_true_eq_false, not_false_eq_true, wr_of, uI_at, uC_at, q_bi_s, q_bl_s, q_br_s, q_bv_s, Int.toNat_natCast, tn_1, tn_m, tn_n, Int.toNat_zero, Int.toNat_one, e208_0, v]
  exact ⟨_, rfl, QF_00⟩
theorem m_where (V : MInv S I) : ∃ I', q_E (209, 0, [vr 265], []) (qk t u I J) = some (vi (if sTr S = 4 then sP S else -1), qk t u I' J) ∧ QF I I' := by
  have v := V.2.1
  have w := V.2.2.2.1
  refine ⟨uI I 265 0 0, ?_, QF_00⟩
  rw [e209_0, uI_ne (Or.inr (by omega)), v, uI_ne (Or.inr (by omega))]
  by_cases q : sTr S = 4
  · rw [if_pos q, if_pos q, w q]
  · rw [if_neg q, if_neg q]
theorem m_thrown (v : Int) (h : I 265 0 = v) : q_E (176, 0, [vr 265], []) (qk t u I J) = some (vi v, qk t u I J) := by
  rw [e176_0, h]
theorem MQs_has (V : MQs S I) : (0 < tC (sTo S) → I 265 14 = 1) ∧ (¬ 0 < tC (sTo S) → I 265 14 = 0) := by
  have v := V.2.1
  constructor
  · intro h; rw [v, if_pos h]
  · intro h; rw [v, if_neg h]
/-- whether a night changes nothing, as the spec of 'led' says it -/
theorem m_stB {c : Nat} (V : MQs S I) (hc : c < tC (sTo S)) : ∃ I', q_E (225, 0, [vr 265, vi (c : Int)], []) (qk t u I J) = some (vi (if stB S c = true then 1 else 0), qk t u I' J) ∧ QF I I' := by
  obtain ⟨I', a1, a2⟩ := m_isStill (t := t) (u := u) (J := J) V hc
  refine ⟨I', ?_, a2⟩
  rw [a1]
  unfold stB
  by_cases q : ahd S c 1 = (sNw S).1 c
  · rw [if_pos q, if_pos (decide_eq_true q)]
  · rw [if_neg q, if_neg (fun z => q (of_decide_eq_true z))]
def ledV (o : Option Nat) : Int := match o with
  | some c => (c : Int)
  | none => 0
def ledT (o : Option Nat) : Int := match o with
  | some _ => 0
  | none => 1
theorem m_led (V : MInv S I) (i : Int) : ∃ I', q_E (298, 0, [vr 265, vi i, vu, vu], []) (qk t u I J) = some (vi (ledV (sp_led S i)), qk t u I' J) ∧ I' 265 0 = ledT (sp_led S i) ∧ QF I I' := by
  have h4 := tC_4 V.1.1
  have loop : ∀ (r c : Nat) (I1 : Nat → Nat → Int), c + r = tC (sTo S) → QF I I1 → (∀ a, a < c → ledP S i a = false) → ∃ I', q_E (298, 4, [vr 265, vi i, vi ((List.range c).countP (stB S) : Int), vi (c : Int)], []) (qk t u I1 J) = some (vi (ledV (sp_led S i)), qk t u I' J) ∧ I' 265 0 = ledT (sp_led S i) ∧ QF I I' := by
    intro r
    induction r with
    | zero =>
      intro c I1 hc F hne
      have Q := MQs_qf V.1 F
      have e : fsti (ledP S i) (tC (sTo S)) = tC (sTo S) := fsti_eq (Nat.le_refl _) (fun a ha => hne a (by omega)) (fun z => by omega)
      have el : sp_led S i = none := by unfold sp_led; rw [e, if_neg (by omega)]
      have k2 : I1 268 2 = (tC (sTo S) : Int) := Q.2.2.1.2.2.1
      rw [e298_4, el]
      refine ⟨uI I1 265 0 1, ?_, if_pos ⟨rfl, rfl⟩, QF_uI F (Or.inr ⟨rfl, Or.inl rfl⟩)⟩
      rw [k2, if_neg (show ¬ (c : Int) < (tC (sTo S) : Int) by omega)]
      show (if I1 265 14 = 0 then _ else _) = _
      split <;> rfl
    | succ r ih =>
      intro c I1 hc F hne
      have Q := MQs_qf V.1 F
      have k2 : I1 268 2 = (tC (sTo S) : Int) := Q.2.2.1.2.2.1
      have k14 := (MQs_has Q).1 (by omega)
      obtain ⟨I2, a1, a2⟩ := m_stB (t := t) (u := u) (J := J) (c := c) Q (by omega)
      have cb := cr_le (stB S) c
      rw [e298_4]
      simp (disch := omega) only [↓reduceIte, lt_TI, lt_FI, le_TI, le_FI, eq_TI, eq_FI, lt_TN, lt_FN, le_TN, le_FN, eq_TN, eq_FN, and_self, and_true, true_and, and_false, false_and, or_true, true_or, or_false, false_or, not_true_eq_false, not_false_eq_true, wr_of, uI_at, uC_at, q_bi_s, q_bl_s, q_br_s, q_bv_s, Int.toNat_natCast, tn_1, tn_m, tn_n, Int.toNat_zero, Int.toNat_one, k2, k14, a1]
      rw [e298_26]
      have nxt : ledP S i c = false → ∃ I', q_E (298, 4, [vr 265, vi i, vi (((List.range c).countP (stB S) + if stB S c = true then 1 else 0 : Nat) : Int), vi ((c : Int) + 1)], []) (qk t u I2 J) = some (vi (ledV (sp_led S i)), qk t u I' J) ∧ I' 265 0 = ledT (sp_led S i) ∧ QF I I' := fun z => by
        have b := ih (c + 1) I2 (by omega) (QF_tr F a2) (fun a ha => by
          by_cases y : a = c
          · rw [y]; exact z
          · exact hne a (by omega))
        rw [cr_s] at b
        exact b
      cases q : stB S c with
      | false =>
        have := nxt (by unfold ledP; rw [q]; rfl)
        rw [q] at this
        simp (disch := omega) only [↓reduceIte, lt_TI, lt_FI, le_TI, le_FI, eq_TI, eq_FI, lt_TN, lt_FN, le_TN, le_FN, eq_TN, eq_FN, and_self, and_true, true_and, and_false, false_and, or_true, true_or, or_false, false_or, not_true_eq_false, not_false_eq_true, wr_of, uI_at, uC_at, q_bi_s, q_bl_s, q_br_s, q_bv_s, Int.toNat_natCast, tn_1, tn_m, tn_n, Int.toNat_zero, Int.toNat_one, Bool.false_eq_true]
        exact this
      | true =>
        by_cases y : ((List.range c).countP (stB S) : Int) = i
        · have hp : ledP S i c = true := by unfold ledP; rw [q, decide_eq_true y]; rfl
          have e : fsti (ledP S i) (tC (sTo S)) = c := fsti_eq (by omega) hne (fun _ => hp)
          have el : sp_led S i = some c := by unfold sp_led; rw [e, if_pos (by omega)]
          rw [el]
          simp (disch := omega) only [↓reduceIte, lt_TI, lt_FI, le_TI, le_FI, eq_TI, eq_FI, lt_TN, lt_FN, le_TN, le_FN, eq_TN, eq_FN, and_self, and_true, true_and, and_false, false_and, or_true, true_or, or_false, false_or, not_true_eq_false, not_false_eq_true, wr_of, uI_at, uC_at, q_bi_s, q_bl_s, q_br_s, q_bv_s, Int.toNat_natCast, tn_1, tn_m, tn_n, Int.toNat_zero, Int.toNat_one, y]
          exact ⟨_, rfl, if_pos ⟨rfl, rfl⟩, QF_uI (QF_tr F a2) (Or.inr ⟨rfl, Or.inl rfl⟩)⟩
        · have := nxt (by unfold ledP; rw [decide_eq_false y, Bool.and_false])
          rw [q] at this
          simp (disch := omega) only [↓reduceIte, lt_TI, lt_FI, le_TI, le_FI, eq_TI, eq_FI, lt_TN, lt_FN, le_TN, le_FN, eq_TN, eq_FN, and_self, and_true, true_and, and_false, false_and, or_true, true_or, or_false, false_or, not_true_eq_false, not_false_eq_true, wr_of, uI_at, uC_at, q_bi_s, q_bl_s, q_br_s, q_bv_s, Int.toNat_natCast, tn_1, tn_m, tn_n, Int.toNat_zero, Int.toNat_one]
          exact this
  rw [e298_0]
  exact loop (tC (sTo S)) 0 I (by omega) QF_rf (fun a ha => by omega)
theorem m_allStones (Q : MQs S I) : q_E (299, 0, [vr 265, vu, vu], []) (qk t u I J) = some (vi ((sto ((sNw S).1 0) + sto ((sNw S).1 1) + sto ((sNw S).1 2) + sto ((sNw S).1 3) : Nat) : Int), qk t u I J) := by
  have h4 := tC_4 Q.1
  have k2 : I 268 2 = (tC (sTo S) : Int) := Q.2.2.1.2.2.1
  have sb : ∀ c, sto ((sNw S).1 c) ≤ 60 := fun c => (Q.1.2.1.1 c).2.2
  have loop : ∀ (r c : Nat), c + r = tC (sTo S) → q_E (299, 4, [vr 265, vi ((rg c (fun c => sto ((sNw S).1 c))).sum : Int), vi (c : Int)], []) (qk t u I J) = some (vi ((rg (tC (sTo S)) (fun c => sto ((sNw S).1 c))).sum : Int), qk t u I J) := by
    intro r
    induction r with
    | zero =>
      intro c hc
      rw [e299_4, show c = tC (sTo S) by omega, k2]
      simp (disch := omega) only [↓reduceIte, lt_TI, lt_FI, le_TI, le_FI, eq_TI, eq_FI, lt_TN, lt_FN, le_TN, le_FN, eq_TN, eq_FN, and_self, and_true, true_and, and_false, false_and, or_true, true_or, or_false, false_or, not_true_eq_false, not_false_eq_true, wr_of, uI_at, uC_at, q_bi_s, q_bl_s, q_br_s, q_bv_s, Int.toNat_natCast, tn_1, tn_m, tn_n, Int.toNat_zero, Int.toNat_one]
    | succ r ih =>
      intro c hc
      obtain ⟨H, ok⟩ := MQs_row Q (show c < 4 by omega)
      have hl := HOk_len ok
      have hs := ok.2.2
      have k := c_stonesOf (t := t) (u := u) (I := I) (J := J) A272 (p := 61 * c) (by omega) H.1 hl (by omega)
      rw [c_61] at k
      have k3 := H.2
      have le := rg_sum_leb (fun c => sto ((sNw S).1 c)) 60 sb c
      have b := ih (c + 1) (by omega)
      rw [rg_sum_s] at b
      rw [e299_4]
      simp (disch := omega) only [↓reduceIte, lt_TI, lt_FI, le_TI, le_FI, eq_TI, eq_FI, lt_TN, lt_FN, le_TN, le_FN, eq_TN, eq_FN, and_self, and_true, true_and, and_false, false_and, or_true, true_or, or_false, false_or, not_true_eq_false, not_false_eq_true, wr_of, uI_at, uC_at, q_bi_s, q_bl_s, q_br_s, q_bv_s, Int.toNat_natCast, tn_1, tn_m, tn_n, Int.toNat_zero, Int.toNat_one, k2, k, e299_26, tn_61h, k3]
      rw [← b]
      rfl
  have t0 : ∀ c, tC (sTo S) ≤ c → sto ((sNw S).1 c) = 0 := fun c hc => by rw [Q.1.2.1.2.1 c hc]; rfl
  rw [e299_0]
  have := loop (tC (sTo S)) 0 (by omega)
  rw [show (rg 0 (fun c => sto ((sNw S).1 c))).sum = 0 from rfl, Int.natCast_zero] at this
  rw [this]
  have e : (rg (tC (sTo S)) (fun c => sto ((sNw S).1 c))).sum = sto ((sNw S).1 0) + sto ((sNw S).1 1) + sto ((sNw S).1 2) + sto ((sNw S).1 3) := by
    rcases (by omega : tC (sTo S) = 0 ∨ tC (sTo S) = 1 ∨ tC (sTo S) = 2 ∨ tC (sTo S) = 3 ∨ tC (sTo S) = 4) with z | z | z | z | z
    · rw [z] at t0 ⊢
      rw [t0 0 (by omega), t0 1 (by omega), t0 2 (by omega), t0 3 (by omega)]; rfl
    · rw [z] at t0 ⊢
      rw [rg_sum_s, t0 1 (by omega), t0 2 (by omega), t0 3 (by omega)]
      show 0 + _ = _; omega
    · rw [z] at t0 ⊢
      rw [rg_sum_s, rg_sum_s, t0 2 (by omega), t0 3 (by omega)]
      show 0 + _ + _ = _; omega
    · rw [z] at t0 ⊢
      rw [rg_sum_s, rg_sum_s, rg_sum_s, t0 3 (by omega)]
      show 0 + _ + _ + _ = _; omega
    · rw [z]
      rw [rg_sum_s, rg_sum_s, rg_sum_s, rg_sum_s]
      show 0 + _ + _ + _ + _ = _; omega
  rw [e]
theorem tn_c2 : Int.toNat 2 = 2 := rfl
theorem tn_c3 : Int.toNat 3 = 3 := rfl
theorem tn_c4 : Int.toNat 4 = 4 := rfl
theorem m_size (V : MInv S I) (w : Int) : ∃ I', q_E (300, 0, [vr 265, vi w], []) (qk t u I J) = some (vi (sp_size S w), qk t u I' J) ∧ QF I I' := by
  have Q : MQs S (uI I 265 0 0) := MQs_qf V.1 QF_00
  refine ⟨uI I 265 0 0, ?_, QF_00⟩
  have v5 : (uI I 265 0 0) 265 2 = ((sT S).length : Int) := by rw [uI_ne (Or.inr (by omega))]; exact V.2.2.2.2.1
  have v7 : (uI I 265 0 0) 265 22 = ((sUn S).length : Int) := by rw [uI_ne (Or.inr (by omega))]; exact V.2.2.2.2.2.2.1
  have v9 : (uI I 265 0 0) 265 23 = ((sIm S).length : Int) := by rw [uI_ne (Or.inr (by omega))]; exact V.2.2.2.2.2.2.2.2.1
  have al := m_allStones (t := t) (u := u) (J := J) Q
  have hs := MQs_has Q
  have m := Q.2.2.1
  have n5 := Q.2.2.2.2.2
  rw [Nat.zero_add] at n5
  have sok := Q.1
  have h4 := tC_4 sok
  clear Q V
  rw [e300_0]
  generalize uI I 265 0 0 = I1 at *
  obtain ⟨m0, m1, m2, m3, m4, -⟩ := m
  unfold sp_size
  by_cases w9 : w = 9
  · subst w9
    simp (disch := omega) only [↓reduceIte, lt_TI, lt_FI, le_TI, le_FI, eq_TI, eq_FI, lt_TN, lt_FN, le_TN, le_FN, eq_TN, eq_FN, and_self, and_true, true_and, and_false, false_and, or_true, true_or, or_false, false_or, not_true_eq_false, not_false_eq_true, wr_of, uI_at, uC_at, q_bi_s, q_bl_s, q_br_s, q_bv_s, Int.toNat_natCast, tn_1, tn_m, tn_n, Int.toNat_zero, Int.toNat_one, v5]
  by_cases hc : 0 < tC (sTo S)
  · have k14 := hs.1 hc
    clear hs
    by_cases w0 : w = 0
    · subst w0; simp (disch := omega) only [↓reduceIte, lt_TI, lt_FI, le_TI, le_FI, eq_TI, eq_FI, lt_TN, lt_FN, le_TN, le_FN, eq_TN, eq_FN, and_self, and_true, true_and, and_false, false_and, or_true, true_or, or_false, false_or, not_true_eq_false, not_false_eq_true, wr_of, uI_at, uC_at, q_bi_s, q_bl_s, q_br_s, q_bv_s, Int.toNat_natCast, tn_1, tn_m, tn_n, Int.toNat_zero, Int.toNat_one, k14, n_ok, e300_45, m0]
    by_cases w1 : w = 1
    · subst w1; simp (disch := omega) only [↓reduceIte, lt_TI, lt_FI, le_TI, le_FI, eq_TI, eq_FI, lt_TN, lt_FN, le_TN, le_FN, eq_TN, eq_FN, and_self, and_true, true_and, and_false, false_and, or_true, true_or, or_false, false_or, not_true_eq_false, not_false_eq_true, wr_of, uI_at, uC_at, q_bi_s, q_bl_s, q_br_s, q_bv_s, Int.toNat_natCast, tn_1, tn_m, tn_n, Int.toNat_zero, Int.toNat_one, k14, n_ok, e300_45, m1]
    by_cases w2 : w = 2
    · subst w2; simp (disch := omega) only [↓reduceIte, lt_TI, lt_FI, le_TI, le_FI, eq_TI, eq_FI, lt_TN, lt_FN, le_TN, le_FN, eq_TN, eq_FN, and_self, and_true, true_and, and_false, false_and, or_true, true_or, or_false, false_or, not_true_eq_false, not_false_eq_true, wr_of, uI_at, uC_at, q_bi_s, q_bl_s, q_br_s, q_bv_s, Int.toNat_natCast, tn_1, tn_m, tn_n, Int.toNat_zero, Int.toNat_one, k14, n_ok, e300_45, m2, tn_c2]
    by_cases w3 : w = 3
    · subst w3; simp (disch := omega) only [↓reduceIte, lt_TI, lt_FI, le_TI, le_FI, eq_TI, eq_FI, lt_TN, lt_FN, le_TN, le_FN, eq_TN, eq_FN, and_self, and_true, true_and, and_false, false_and, or_true, true_or, or_false, false_or, not_true_eq_false, not_false_eq_true, wr_of, uI_at, uC_at, q_bi_s, q_bl_s, q_br_s, q_bv_s, Int.toNat_natCast, tn_1, tn_m, tn_n, Int.toNat_zero, Int.toNat_one, k14, n_ok, e300_45, m3, tn_c3]
    by_cases w4 : w = 4
    · subst w4; simp (disch := omega) only [↓reduceIte, lt_TI, lt_FI, le_TI, le_FI, eq_TI, eq_FI, lt_TN, lt_FN, le_TN, le_FN, eq_TN, eq_FN, and_self, and_true, true_and, and_false, false_and, or_true, true_or, or_false, false_or, not_true_eq_false, not_false_eq_true, wr_of, uI_at, uC_at, q_bi_s, q_bl_s, q_br_s, q_bv_s, Int.toNat_natCast, tn_1, tn_m, tn_n, Int.toNat_zero, Int.toNat_one, k14, n_ok, e300_45, m4, tn_c4]
    by_cases w5 : w = 5
    · subst w5; simp (disch := omega) only [↓reduceIte, lt_TI, lt_FI, le_TI, le_FI, eq_TI, eq_FI, lt_TN, lt_FN, le_TN, le_FN, eq_TN, eq_FN, and_self, and_true, true_and, and_false, false_and, or_true, true_or, or_false, false_or, not_true_eq_false, not_false_eq_true, wr_of, uI_at, uC_at, q_bi_s, q_bl_s, q_br_s, q_bv_s, Int.toNat_natCast, tn_1, tn_m, tn_n, Int.toNat_zero, Int.toNat_one, k14, n_no, e300_45, n5]
    by_cases w6 : w = 6
    · subst w6; simp (disch := omega) only [↓reduceIte, lt_TI, lt_FI, le_TI, le_FI, eq_TI, eq_FI, lt_TN, lt_FN, le_TN, le_FN, eq_TN, eq_FN, and_self, and_true, true_and, and_false, false_and, or_true, true_or, or_false, false_or, not_true_eq_false, not_false_eq_true, wr_of, uI_at, uC_at, q_bi_s, q_bl_s, q_br_s, q_bv_s, Int.toNat_natCast, tn_1, tn_m, tn_n, Int.toNat_zero, Int.toNat_one, k14, n_no, e300_45, al, e300_81]
    by_cases w7 : w = 7
    · subst w7; simp (disch := omega) only [↓reduceIte, lt_TI, lt_FI, le_TI, le_FI, eq_TI, eq_FI, lt_TN, lt_FN, le_TN, le_FN, eq_TN, eq_FN, and_self, and_true, true_and, and_false, false_and, or_true, true_or, or_false, false_or, not_true_eq_false, not_false_eq_true, wr_of, uI_at, uC_at, q_bi_s, q_bl_s, q_br_s, q_bv_s, Int.toNat_natCast, tn_1, tn_m, tn_n, Int.toNat_zero, Int.toNat_one, k14, n_no, e300_45, v7]
    by_cases w8 : w = 8
    · subst w8; simp (disch := omega) only [↓reduceIte, lt_TI, lt_FI, le_TI, le_FI, eq_TI, eq_FI, lt_TN, lt_FN, le_TN, le_FN, eq_TN, eq_FN, and_self, and_true, true_and, and_false, false_and, or_true, true_or, or_false, false_or, not_true_eq_false, not_false_eq_true, wr_of, uI_at, uC_at, q_bi_s, q_bl_s, q_br_s, q_bv_s, Int.toNat_natCast, tn_1, tn_m, tn_n, Int.toNat_zero, Int.toNat_one, k14, n_no, e300_45, v9]
    · have z : w < 0 ∨ 9 < w := by omega
      simp (disch := omega) only [↓reduceIte, lt_TI, lt_FI, le_TI, le_FI, eq_TI, eq_FI, lt_TN, lt_FN, le_TN, le_FN, eq_TN, eq_FN, and_self, and_true, true_and, and_false, false_and, or_true, true_or, or_false, false_or, not_true_eq_false, not_false_eq_true, wr_of, uI_at, uC_at, q_bi_s, q_bl_s, q_br_s, q_bv_s, Int.toNat_natCast, tn_1, tn_m, tn_n, Int.toNat_zero, Int.toNat_one, k14, n_no, e300_45]
  · have k14 := hs.2 hc
    clear hs
    obtain ⟨z1, z2, z3, z4⟩ := sok.1.resolve_left (fun z => hc z.2)
    have a0 : (tH (sTo S) : Int) = 0 := by rw [z1]; rfl
    have a1 : (tS (sTo S) : Int) = 0 := by rw [z1]; rfl
    have a2 : (tC (sTo S) : Int) = 0 := by rw [z1]; rfl
    have a3 : (tU (sTo S) : Int) = 0 := by rw [z1]; rfl
    have a4 : (tE (sTo S) : Int) = 0 := by rw [z1]; rfl
    have a5 : ((sNw S).2 : Int) = 0 := by rw [z2]; rfl
    have a6 : ((sto ((sNw S).1 0) + sto ((sNw S).1 1) + sto ((sNw S).1 2) + sto ((sNw S).1 3) : Nat) : Int) = 0 := by rw [z2]; rfl
    have a7 : ((sUn S).length : Int) = 0 := by rw [z3]; rfl
    have a8 : ((sIm S).length : Int) = 0 := by rw [z4]; rfl
    rw [a0, a1, a2, a3, a4, a5, a6, a7, a8]
    by_cases h : 0 ≤ w ∧ w ≤ 8
    · obtain ⟨h1, h2⟩ := h
      rcases (by omega : w = 0 ∨ w = 1 ∨ w = 2 ∨ w = 3 ∨ w = 4 ∨ w = 5 ∨ w = 6 ∨ w = 7 ∨ w = 8) with rfl | rfl | rfl | rfl | rfl | rfl | rfl | rfl | rfl
      · simp (disch := omega) only [↓reduceIte, lt_TI, lt_FI, le_TI, le_FI, eq_TI, eq_FI, lt_TN, lt_FN, le_TN, le_FN, eq_TN, eq_FN, and_self, and_true, true_and, and_false, false_and, or_true, true_or, or_false, false_or, not_true_eq_false, not_false_eq_true, wr_of, uI_at, uC_at, q_bi_s, q_bl_s, q_br_s, q_bv_s, Int.toNat_natCast, tn_1, tn_m, tn_n, Int.toNat_zero, Int.toNat_one, k14, n_ok, e300_30]
      · simp (disch := omega) only [↓reduceIte, lt_TI, lt_FI, le_TI, le_FI, eq_TI, eq_FI, lt_TN, lt_FN, le_TN, le_FN, eq_TN, eq_FN, and_self, and_true, true_and, and_false, false_and, or_true, true_or, or_false, false_or, not_true_eq_false, not_false_eq_true, wr_of, uI_at, uC_at, q_bi_s, q_bl_s, q_br_s, q_bv_s, Int.toNat_natCast, tn_1, tn_m, tn_n, Int.toNat_zero, Int.toNat_one, k14, n_ok, e300_30]
      · simp (disch := omega) only [↓reduceIte, lt_TI, lt_FI, le_TI, le_FI, eq_TI, eq_FI, lt_TN, lt_FN, le_TN, le_FN, eq_TN, eq_FN, and_self, and_true, true_and, and_false, false_and, or_true, true_or, or_false, false_or, not_true_eq_false, not_false_eq_true, wr_of, uI_at, uC_at, q_bi_s, q_bl_s, q_br_s, q_bv_s, Int.toNat_natCast, tn_1, tn_m, tn_n, Int.toNat_zero, Int.toNat_one, k14, n_ok, e300_30]
      · simp (disch := omega) only [↓reduceIte, lt_TI, lt_FI, le_TI, le_FI, eq_TI, eq_FI, lt_TN, lt_FN, le_TN, le_FN, eq_TN, eq_FN, and_self, and_true, true_and, and_false, false_and, or_true, true_or, or_false, false_or, not_true_eq_false, not_false_eq_true, wr_of, uI_at, uC_at, q_bi_s, q_bl_s, q_br_s, q_bv_s, Int.toNat_natCast, tn_1, tn_m, tn_n, Int.toNat_zero, Int.toNat_one, k14, n_ok, e300_30]
      · simp (disch := omega) only [↓reduceIte, lt_TI, lt_FI, le_TI, le_FI, eq_TI, eq_FI, lt_TN, lt_FN, le_TN, le_FN, eq_TN, eq_FN, and_self, and_true, true_and, and_false, false_and, or_true, true_or, or_false, false_or, not_true_eq_false, not_false_eq_true, wr_of, uI_at, uC_at, q_bi_s, q_bl_s, q_br_s, q_bv_s, Int.toNat_natCast, tn_1, tn_m, tn_n, Int.toNat_zero, Int.toNat_one, k14, n_ok, e300_30]
      · simp (disch := omega) only [↓reduceIte, lt_TI, lt_FI, le_TI, le_FI, eq_TI, eq_FI, lt_TN, lt_FN, le_TN, le_FN, eq_TN, eq_FN, and_self, and_true, true_and, and_false, false_and, or_true, true_or, or_false, false_or, not_true_eq_false, not_false_eq_true, wr_of, uI_at, uC_at, q_bi_s, q_bl_s, q_br_s, q_bv_s, Int.toNat_natCast, tn_1, tn_m, tn_n, Int.toNat_zero, Int.toNat_one, k14, n_ok, e300_30]
      · simp (disch := omega) only [↓reduceIte, lt_TI, lt_FI, le_TI, le_FI, eq_TI, eq_FI, lt_TN, lt_FN, le_TN, le_FN, eq_TN, eq_FN, and_self, and_true, true_and, and_false, false_and, or_true, true_or, or_false, false_or, not_true_eq_false, not_false_eq_true, wr_of, uI_at, uC_at, q_bi_s, q_bl_s, q_br_s, q_bv_s, Int.toNat_natCast, tn_1, tn_m, tn_n, Int.toNat_zero, Int.toNat_one, k14, n_ok, e300_30]
      · simp (disch := omega) only [↓reduceIte, lt_TI, lt_FI, le_TI, le_FI, eq_TI, eq_FI, lt_TN, lt_FN, le_TN, le_FN, eq_TN, eq_FN, and_self, and_true, true_and, and_false, false_and, or_true, true_or, or_false, false_or, not_true_eq_false, not_false_eq_true, wr_of, uI_at, uC_at, q_bi_s, q_bl_s, q_br_s, q_bv_s, Int.toNat_natCast, tn_1, tn_m, tn_n, Int.toNat_zero, Int.toNat_one, k14, n_ok, e300_30]
      · simp (disch := omega) only [↓reduceIte, lt_TI, lt_FI, le_TI, le_FI, eq_TI, eq_FI, lt_TN, lt_FN, le_TN, le_FN, eq_TN, eq_FN, and_self, and_true, true_and, and_false, false_and, or_true, true_or, or_false, false_or, not_true_eq_false, not_false_eq_true, wr_of, uI_at, uC_at, q_bi_s, q_bl_s, q_br_s, q_bv_s, Int.toNat_natCast, tn_1, tn_m, tn_n, Int.toNat_zero, Int.toNat_one, k14, n_ok, e300_30]
    · have z : w < 0 ∨ 9 < w := by omega
      simp (disch := omega) only [↓reduceIte, lt_TI, lt_FI, le_TI, le_FI, eq_TI, eq_FI, lt_TN, lt_FN, le_TN, le_FN, eq_TN, eq_FN, and_self, and_true, true_and, and_false, false_and, or_true, true_or, or_false, false_or, not_true_eq_false, not_false_eq_true, wr_of, uI_at, uC_at, q_bi_s, q_bl_s, q_br_s, q_bv_s, Int.toNat_natCast, tn_1, tn_m, tn_n, Int.toNat_zero, Int.toNat_one, k14, n_no, e300_30]
end

/-! the model's acts -/
section
variable {t u : Nat} {I J : Nat → Nat → Int} {S : St}

theorem gD_set {l : List Nat} {i v : Nat} (hi : i < l.length) (j : Nat) : (l.set i v).getD j 0 = if j = i then v else l.getD j 0 := by
  rw [List.getD_eq_getElem?_getD, List.getD_eq_getElem?_getD, List.getElem?_set]
  by_cases q : i = j
  · subst q; rw [if_pos rfl, if_pos rfl, if_pos hi]; rfl
  · rw [if_neg q, if_neg (fun z => q z.symm)]
theorem set_perm {l : List Nat} {i v : Nat} (hi : i < l.length) : (l.set i v).Perm (v :: l.eraseIdx i) := by
  have e : l.set i v = l.take i ++ v :: l.drop (i + 1) := by
    refine gD_ext ?_ (fun j hj => ?_)
    · rw [List.length_set, List.length_append, List.length_cons, List.length_take, List.length_drop]; omega
    · rw [gD_set hi, gD_app, List.length_take, gD_tk]
      by_cases q : j = i
      · subst q; rw [if_pos rfl, if_neg (by omega), show j - min j l.length = 0 by omega, List.getD_cons_zero]
      · rw [if_neg q]
        by_cases z : j < i
        · rw [if_pos (by omega), if_pos z]
        · rw [if_neg (by omega), show j - min i l.length = (j - i - 1) + 1 by omega, List.getD_cons_succ, gD_dp, show i + 1 + (j - i - 1) = j by omega]
  rw [e, List.eraseIdx_eq_take_drop_succ]
  exact List.perm_middle
theorem set2_perm {l : List Nat} {M m a b : Nat} (hM : M < l.length) (h : m < M) : ((l.set M a).set m b).Perm (b :: a :: (l.eraseIdx M).eraseIdx m) := by
  have hm : m < (l.set M a).length := by rw [List.length_set]; omega
  have el := er_len (l := l) (i := m) (by omega)
  have elM := er_len (l := l) hM
  have e1 : (l.set M a).eraseIdx m = (l.eraseIdx m).set (M - 1) a := by
    have e0 := er_len hm
    rw [List.length_set] at e0
    refine gD_ext (by rw [List.length_set]; omega) (fun j hj => ?_)
    rw [gD_er, gD_set hM, gD_set hM, gD_set (l := l.eraseIdx m) (by omega), gD_er]
    by_cases q : j < m
    · rw [if_pos q, if_neg (by omega), if_neg (by omega), if_pos q]
    · rw [if_neg q]
      by_cases z : j = M - 1
      · rw [if_pos (by omega), if_pos z]
      · rw [if_neg (by omega), if_neg z, if_neg q]
  have e2 : (l.eraseIdx m).eraseIdx (M - 1) = (l.eraseIdx M).eraseIdx m := by
    have x1 := er_len (l := l.eraseIdx m) (i := M - 1) (by omega)
    have x2 := er_len (l := l.eraseIdx M) (i := m) (by omega)
    refine gD_ext (by omega) (fun j hj => ?_)
    rw [gD_er, gD_er, gD_er, gD_er, gD_er, gD_er]
    by_cases q : j < m
    · rw [if_pos (show j < M - 1 by omega), if_pos q, if_pos q, if_pos (show j < M by omega)]
    · rw [if_neg (show ¬ j < m by omega), if_neg (show ¬ j < m by omega), if_neg (show ¬ j + 1 < m by omega)]
      by_cases z : j < M - 1
      · rw [if_pos z, if_pos (by omega)]
      · rw [if_neg z, if_neg (by omega)]
  refine (set_perm hm).trans (List.Perm.cons _ ?_)
  rw [e1]
  refine (set_perm (by omega)).trans (List.Perm.cons _ ?_)
  rw [e2]
theorem SnA_cp {I I1 : Nat → Nat → Int} {a p b s : Nat} {x : Sn} (H : SnA I a p x) (h : ∀ i, i < 245 → I1 b (s + i) = I a (p + i)) : SnA I1 b s x := ⟨fun c hc => ⟨fun i hi => by
  have := (H.1 c hc).1 i hi
  rw [Nat.add_assoc] at this ⊢
  rw [h _ (by omega)]; exact this, by
  have := (H.1 c hc).2
  rw [Nat.add_assoc] at this ⊢
  rw [h _ (by omega)]; exact this⟩, by rw [h 244 (by omega)]; exact H.2⟩
theorem SnA_upd {I I1 : Nat → Nat → Int} {s : Sn} {c : Nat} {x : Hp} (H : SnA I 272 0 s) (hc : c < 4) (F : FrA 272 (61 * c) (61 * c + 61) I I1) (R : mRw I1 272 (61 * c) x) : SnA I1 272 0 (updS s c x) := ⟨fun d hd => by
  show mRw I1 272 (0 + 61 * d) (if d = c then x else s.1 d)
  by_cases q : d = c
  · subst q; rw [if_pos rfl, Nat.zero_add]; exact R
  · rw [if_neg q]
    exact mRw_fr (H.1 d hd) F (by omega), by
  rw [F 272 (0 + 244) (fun z => by omega)]; exact H.2⟩
theorem A273 : AId 273 3920 := ⟨rfl, rfl, by omega⟩
theorem A274 : AId 274 735 := ⟨rfl, rfl, by omega⟩
/-- an act keeps all but how it is, what is kept -/
def AF (I I' : Nat → Nat → Int) : Prop := (∀ a, a ≠ 265 → a ≠ 272 → a ≠ 273 → (a < 275 ∨ 282 < a) → I' a = I a) ∧ ∀ k, 1 ≤ k → k < 25 → k ≠ 22 → I' 265 k = I 265 k
theorem AF_qf {I I' : Nat → Nat → Int} (h : QF I I') : AF I I' := ⟨fun a h1 _ _ h4 => h.1 a h1 h4, fun k h1 h2 _ => h.2 k h1 h2⟩
theorem AF_tr {I I1 I2 : Nat → Nat → Int} (a : AF I I1) (b : AF I1 I2) : AF I I2 := ⟨fun c h1 h2 h3 h4 => (b.1 c h1 h2 h3 h4).trans (a.1 c h1 h2 h3 h4), fun k h1 h2 h3 => (b.2 k h1 h2 h3).trans (a.2 k h1 h2 h3)⟩
theorem AF_fr {I I1 I2 : Nat → Nat → Int} {a lo hi : Nat} (f : AF I I1) (h : FrA a lo hi I1 I2) (h1 : a = 272 ∨ a = 273) : AF I I2 := ⟨fun c q1 q2 q3 q4 => (FrA_o h (by omega)).trans (f.1 c q1 q2 q3 q4), fun k q1 q2 q3 => (h 265 k (fun z => by omega)).trans (f.2 k q1 q2 q3)⟩
theorem AF_uI {I I1 : Nat → Nat → Int} {a k : Nat} {v : Int} (f : AF I I1) (h : a = 272 ∨ a = 273 ∨ (a = 265 ∧ k = 22)) : AF I (uI I1 a k v) := ⟨fun c q1 q2 q3 q4 => (uI_o1 (by omega)).trans (f.1 c q1 q2 q3 q4), fun j q1 q2 q3 => (uI_ne (by omega)).trans (f.2 j q1 q2 q3)⟩
theorem AF_rf {I : Nat → Nat → Int} : AF I I := ⟨fun _ _ _ _ _ => rfl, fun _ _ _ _ => rfl⟩
theorem AF_km {I I1 : Nat → Nat → Int} (h : AF (A0 I) I1) : KM I I1 := fun a q => (h.1 a (by omega) (by omega) (by omega) (by omega)).trans ((uI_o1 (show a ≠ 265 by omega)).trans (uI_o1 (show a ≠ 265 by omega)))
/-- an act's end -/
theorem MInv_end {S' : St} {I1 : Nat → Nat → Int} (V : MInv S I) (hS : SOk S') (e1 : sT S' = sT S) (e2 : S'.2.1 = (0, sF S, sP S)) (e3 : sTo S' = sTo S) (e4 : sIm S' = sIm S) (F : AF (A0 I) I1) (hn : SnA I1 272 0 (sNw S')) (h22 : I1 265 22 = ((sUn S').length : Int)) (hu : ∀ i, i < (sUn S').length → SnA I1 273 (245 * i) ((sUn S').getD i S0)) : MInv S' I1 := by
  obtain ⟨⟨w1, w2, w3, w4, w5⟩, v2, v3, v4, v5, v6, v7, v8, v9, v10⟩ := V
  have f1 : ∀ a, a ≠ 265 → a ≠ 272 → a ≠ 273 → (a < 275 ∨ 282 < a) → I1 a = I a := fun a h1 h2 h3 h4 => (F.1 a h1 h2 h3 h4).trans ((uI_o1 h1).trans (uI_o1 h1))
  have f2 : ∀ k, 1 ≤ k → k < 25 → k ≠ 22 → k ≠ 11 → I1 265 k = I 265 k := fun k h1 h2 h3 h4 => (F.2 k h1 h2 h3).trans ((uI_ne (Or.inr h4)).trans (uI_ne (Or.inr (show k ≠ 0 by omega))))
  have g1 : sTr S' = 0 := by show S'.2.1.1 = 0; rw [e2]
  have g2 : sF S' = sF S := by show S'.2.1.2.1 = sF S; rw [e2]
  refine ⟨⟨hS, ?_, ?_, ?_, hn⟩, ?_, ?_, fun z => ?_, ?_, fun i hi => ?_, h22, hu, ?_, fun i hi => ?_⟩
  · rw [f2 14 (by omega) (by omega) (by omega) (by omega), e3]; exact w2
  · rw [e3]; exact MT_rw w3 (f1 268 (by omega) (by omega) (by omega) (by omega))
  · rw [e3]; exact SnA_rw w4 (f1 270 (by omega) (by omega) (by omega) (by omega))
  · rw [g1, F.2 11 (by omega) (by omega) (by omega)]; exact if_pos ⟨rfl, rfl⟩
  · rw [g2, f2 9 (by omega) (by omega) (by omega) (by omega)]; exact v3
  · rw [g1] at z; exact absurd z (by decide)
  · rw [e1, f2 2 (by omega) (by omega) (by omega) (by omega)]; exact v5
  · rw [e1] at hi ⊢; rw [f1 266 (by omega) (by omega) (by omega) (by omega)]; exact v6 i hi
  · rw [e4, f2 23 (by omega) (by omega) (by omega) (by omega)]; exact v9
  · rw [e4] at hi ⊢; exact SnA_rw (v10 i hi) (f1 274 (by omega) (by omega) (by omega) (by omega))
theorem MInv_trS {I1 : Nat → Nat → Int} {tr : Int} (V : MInv S I) (h : QM tr I I1) (h4 : tr ≠ 4) : MInv (trS S tr) I1 := MInv_q V h h4
/-- what is now is kept -/
theorem m_note {und : List Sn} {s : Sn} (hl : und.length ≤ 16) (h22 : I 265 22 = (und.length : Int)) (hu : ∀ i, i < und.length → SnA I 273 (245 * i) (und.getD i S0)) (hn : SnA I 272 0 s) : ∃ I', q_E (289, 0, [vr 265, vu], []) (qk t u I J) = some (vu, qk t u I' J) ∧ I' 265 22 = ((keepS und s).length : Int) ∧ (∀ i, i < (keepS und s).length → SnA I' 273 (245 * i) ((keepS und s).getD i S0)) ∧ (∀ a, a ≠ 265 → a ≠ 273 → I' a = I a) ∧ ∀ k, k ≠ 22 → I' 265 k = I 265 k := by
  have last : ∀ (xs : List Sn) (I1 : Nat → Nat → Int), xs.length < 16 → I1 272 = I 272 → (∀ i, i < xs.length → SnA I1 273 (245 * i) (xs.getD i S0)) → ∃ I2, (∀ J, q_E (182, 0, [vr 272, vi 0, vr 273, vi ((245 * xs.length : Nat) : Int), vi 245, vu], []) (qk t u I1 J) = some (vu, qk t u I2 J)) ∧ (∀ i, i < (xs ++ [s]).length → SnA I2 273 (245 * i) ((xs ++ [s]).getD i S0)) ∧ FrA 273 (245 * xs.length) (245 * xs.length + 245) I1 I2 := by
    intro xs I1 hx e2 hxs
    obtain ⟨I2, x1, x2, x3⟩ := c_mcopy (t := t) (u := u) (I := I1) (J := J) (p := 0) (s := 245 * xs.length) (n := 245) A272 A273 (by omega) (by omega) (by omega)
    have x1' : ∀ J, q_E (182, 0, [vr 272, vi 0, vr 273, vi ((245 * xs.length : Nat) : Int), vi 245, vu], []) (qk t u I1 J) = some (vu, qk t u I2 J) := fun J' => by
      obtain ⟨I3, z1, z2, z3⟩ := c_mcopy (t := t) (u := u) (I := I1) (J := J') (p := 0) (s := 245 * xs.length) (n := 245) A272 A273 (by omega) (by omega) (by omega)
      have : I3 = I2 := by
        funext a k
        by_cases q : a = 273 ∧ 245 * xs.length ≤ k ∧ k < 245 * xs.length + 245
        · obtain ⟨q1, q2, q3⟩ := q
          subst q1
          have y1 := z2 (k - 245 * xs.length) (by omega)
          have y2 := x2 (k - 245 * xs.length) (by omega)
          rw [show 245 * xs.length + (k - 245 * xs.length) = k by omega] at y1 y2
          rw [y1, y2]
        · rw [z3 a k q, x3 a k q]
      rw [← this]; exact z1
    refine ⟨I2, x1', fun i hi => ?_, x3⟩
    rw [List.length_append, List.length_singleton] at hi
    rw [gS_app]
    by_cases q : i < xs.length
    · rw [if_pos q]
      exact SnA_cp (hxs i q) (fun j hj => x3 273 (245 * i + j) (fun z => by omega))
    · rw [if_neg q, if_pos (by omega)]
      refine SnA_cp hn (fun j hj => ?_)
      rw [show i = xs.length by omega, x2 j hj, e2]
  unfold keepS
  by_cases h16 : und.length = 16
  · have lt : und.tail.length = 15 := by rw [List.length_tail]; omega
    rw [if_pos h16]
    have loop : ∀ (r k : Nat) (I1 : Nat → Nat → Int), k + r = 3675 → (∀ a, a ≠ 273 → I1 a = I a) → (∀ j, j < k → I1 273 j = I 273 (j + 245)) → (∀ j, k ≤ j → I1 273 j = I 273 j) → ∃ I' x, q_E (289, 11, [vr 265, vi (k : Int)], []) (qk t u I1 J) = (q_bv (q_E (182, 0, [vr 272, vi 0, vr 273, vi ((245 * 15 : Nat) : Int), vi 245, vu], []) (qk t u I' J)) fun M1 => q_E (289, 73, [vr 265, vi x], []) M1) ∧ I' 265 22 = 15 ∧ (∀ a, a ≠ 265 → a ≠ 273 → I' a = I a) ∧ (∀ k, k ≠ 22 → I' 265 k = I 265 k) ∧ ∀ j, j < 3675 → I' 273 j = I 273 (j + 245) := by
      intro r
      induction r with
      | zero =>
        intro k I1 hk f e1 e2
        have h5 : I1 265 22 = 16 := by rw [f 265 (by omega), h22, h16]; rfl
        refine ⟨uI I1 265 22 15, (k : Int), ?_, if_pos ⟨rfl, rfl⟩, fun a h1 h2 => by rw [uI_o1 h1, f a h2], fun k hk => by rw [uI_ne (Or.inr hk), f 265 (by omega)], fun j hj => by rw [uI_ne (Or.inl (by omega))]; exact e1 j (by omega)⟩
        rw [e289_11]
        simp (disch := omega) only [↓reduceIte, lt_TI, lt_FI, le_TI, le_FI, eq_TI, eq_FI, lt_TN, lt_FN, le_TN, le_FN, eq_TN, eq_FN, and_self, and_true, true_and, and_false, false_and, or_true, true_or, or_false, false_or, not_true_eq_false, not_false_eq_true, wr_of, uI_at, uC_at, q_bi_s, q_bl_s, q_br_s, q_bv_s, Int.toNat_natCast, tn_1, tn_m, tn_n, Int.toNat_zero, Int.toNat_one, h5]
        rfl
      | succ r ih =>
        intro k I1 hk f e1 e2
        have v := e2 (k + 245) (by omega)
        have t1 : ((k : Int) + 245).toNat = k + 245 := by omega
        obtain ⟨I', x, x1, x2⟩ := ih (k + 1) (uI I1 273 k (I 273 (k + 245))) (by omega) (fun a ha => by rw [uI_o1 ha]; exact f a ha) (fun j hj => by
          by_cases q : j = k
          · subst q; rw [uI_at, if_pos ⟨rfl, rfl⟩]
          · rw [uI_ne (Or.inr q)]; exact e1 j (by omega)) (fun j hj => by rw [uI_ne (Or.inr (by omega))]; exact e2 j (by omega))
        refine ⟨I', x, ?_, x2⟩
        rw [← x1, e289_11]
        simp (disch := omega) only [↓reduceIte, lt_TI, lt_FI, le_TI, le_FI, eq_TI, eq_FI, lt_TN, lt_FN, le_TN, le_FN, eq_TN, eq_FN, and_self, and_true, true_and, and_false, false_and, or_true, true_or, or_false, false_or, not_true_eq_false, not_false_eq_true, wr_of, uI_at, uC_at, q_bi_s, q_bl_s, q_br_s, q_bv_s, Int.toNat_natCast, tn_1, tn_m, tn_n, Int.toNat_zero, Int.toNat_one, t1, v]
        rfl
    obtain ⟨I1, x, x1, x2, x3, x4, x5⟩ := loop 3675 0 I (by omega) (fun _ _ => rfl) (fun j hj => by omega) (fun _ _ => rfl)
    obtain ⟨I2, y1, y2, y3⟩ := last und.tail I1 (by omega) (x3 272 (by omega) (by omega)) (fun i hi => by
      rw [gS_tail]
      refine SnA_cp (hu (i + 1) (by omega)) (fun j hj => ?_)
      rw [x5 _ (by omega), show 245 * i + j + 245 = 245 * (i + 1) + j by omega])
    rw [lt] at y1 y3
    rw [Int.natCast_zero] at x1
    have h5 : I2 265 22 = 15 := by rw [y3 265 22 (fun z => by omega)]; exact x2
    refine ⟨uI I2 265 22 16, ?_, ?_, fun i hi => SnA_rw (y2 i hi) (uI_o1 (by omega)), fun a h1 h2 => by rw [uI_o1 h1, FrA_o y3 h2]; exact x3 a h1 h2, fun k hk => by rw [uI_ne (Or.inr hk), y3 265 k (fun z => by omega)]; exact x4 k hk⟩
    · rw [e289_0, h22, h16]
      simp (disch := omega) only [↓reduceIte, lt_TI, lt_FI, le_TI, le_FI, eq_TI, eq_FI, lt_TN, lt_FN, le_TN, le_FN, eq_TN, eq_FN, and_self, and_true, true_and, and_false, false_and, or_true, true_or, or_false, false_or, not_true_eq_false, not_false_eq_true, wr_of, uI_at, uC_at, q_bi_s, q_bl_s, q_br_s, q_bv_s, Int.toNat_natCast, tn_1, tn_m, tn_n, Int.toNat_zero, Int.toNat_one, x1, y1]
      rw [e289_73_1]
      simp (disch := omega) only [↓reduceIte, lt_TI, lt_FI, le_TI, le_FI, eq_TI, eq_FI, lt_TN, lt_FN, le_TN, le_FN, eq_TN, eq_FN, and_self, and_true, true_and, and_false, false_and, or_true, true_or, or_false, false_or, not_true_eq_false, not_false_eq_true, wr_of, uI_at, uC_at, q_bi_s, q_bl_s, q_br_s, q_bv_s, Int.toNat_natCast, tn_1, tn_m, tn_n, Int.toNat_zero, Int.toNat_one, h5]
      rfl
    · rw [List.length_append, lt, List.length_singleton]; exact if_pos ⟨rfl, rfl⟩
  · rw [if_neg h16]
    obtain ⟨I2, y1, y2, y3⟩ := last und I (by omega) rfl hu
    have h5 : I2 265 22 = (und.length : Int) := by rw [y3 265 22 (fun z => by omega)]; exact h22
    have ec : ((245 * und.length : Nat) : Int) = 245 * (und.length : Int) := by omega
    rw [ec] at y1
    refine ⟨uI I2 265 22 ((und.length : Int) + 1), ?_, ?_, fun i hi => SnA_rw (y2 i hi) (uI_o1 (by omega)), fun a h1 h2 => by rw [uI_o1 h1, FrA_o y3 h2], fun k hk => by rw [uI_ne (Or.inr hk), y3 265 k (fun z => by omega)]⟩
    · rw [e289_0]
      simp (disch := omega) only [↓reduceIte, lt_TI, lt_FI, le_TI, le_FI, eq_TI, eq_FI, lt_TN, lt_FN, le_TN, le_FN, eq_TN, eq_FN, and_self, and_true, true_and, and_false, false_and, or_true, true_or, or_false, false_or, not_true_eq_false, not_false_eq_true, wr_of, uI_at, uC_at, q_bi_s, q_bl_s, q_br_s, q_bv_s, Int.toNat_natCast, tn_1, tn_m, tn_n, Int.toNat_zero, Int.toNat_one, h22, y1]
      rw [e289_73]
      simp (disch := omega) only [↓reduceIte, lt_TI, lt_FI, le_TI, le_FI, eq_TI, eq_FI, lt_TN, lt_FN, le_TN, le_FN, eq_TN, eq_FN, and_self, and_true, true_and, and_false, false_and, or_true, true_or, or_false, false_or, not_true_eq_false, not_false_eq_true, wr_of, uI_at, uC_at, q_bi_s, q_bl_s, q_br_s, q_bv_s, Int.toNat_natCast, tn_1, tn_m, tn_n, Int.toNat_zero, Int.toNat_one, h5]
    · rw [List.length_append, List.length_singleton]; exact if_pos ⟨rfl, rfl⟩
theorem m_noteV (V : MInv S I) {I1 : Nat → Nat → Int} (F : QF (A0 I) I1) : ∃ I', q_E (289, 0, [vr 265, vu], []) (qk t u I1 J) = some (vu, qk t u I' J) ∧ I' 265 22 = ((keepS (sUn S) (sNw S)).length : Int) ∧ (∀ i, i < (keepS (sUn S) (sNw S)).length → SnA I' 273 (245 * i) ((keepS (sUn S) (sNw S)).getD i S0)) ∧ I' 272 = I1 272 ∧ I' 268 = I1 268 ∧ AF (A0 I) I' := by
  have A := MQs_qf (MInv_A V) F
  obtain ⟨w1, v2, v3, v4, v5, v6, v7, v8, v9, v10⟩ := V
  obtain ⟨I', x1, x2, x3, x4, x5⟩ := m_note (t := t) (u := u) (I := I1) (J := J) w1.1.2.2.2.2.1 (by rw [F.2 22 (by omega) (by omega)]; exact v7) (fun i hi => SnA_rw (v8 i hi) (by rw [F.1 273 (by omega) (by omega)]; rfl)) A.2.2.2.2
  exact ⟨I', x1, x2, x3, x4 272 (by omega) (by omega), x4 268 (by omega) (by omega), AF_tr (AF_qf F) ⟨fun a h1 h2 h3 h4 => x4 a h1 h3, fun k h1 h2 h3 => x5 k h3⟩⟩
theorem MT_of (V : MInv S I) {c : Nat} (hc : c < tC (sTo S)) : TOk (sTo S) ∧ 0 < tC (sTo S) := ⟨SOk_T V.1.1 hc, by omega⟩
theorem m_add (V : MInv S I) (c m : Int) (hm0 : -2147483648 ≤ m) (hm1 : m ≤ 2147483647) : ∃ I', q_E (291, 0, [vr 265, vi c, vi m, vu], []) (qk t u I J) = some (vi (ac_add S c m).1, qk t u I' J) ∧ MInv (ac_add S c m).2 I' ∧ KM I I' := by
  have A := MInv_A V
  have h4 := tC_4 V.1.1
  unfold ac_add
  by_cases hc : isCl S c
  · simp only [if_pos hc]
    have r1 := m_cell_ok (t := t) (u := u) (J := J) A hc
    obtain ⟨hc1, hc2⟩ := id hc
    obtain ⟨c, rfl⟩ : ∃ m : Nat, c = (m : Int) := ⟨c.toNat, by omega⟩
    have hcc : c < tC (sTo S) := by omega
    obtain ⟨H, ok⟩ := MQs_row A (show c < 4 by omega)
    obtain ⟨o1, o2, o3⟩ := id ok
    have hl := HOk_len ok
    have ln := len_sum o2
    simp only [Int.toNat_natCast]
    have k2 := c_stonesOf (t := t) (u := u) (J := J) A272 (p := 61 * c) (by omega) H.1 hl (by omega)
    have G := (MQs_row V.1 (show c < 4 by omega)).1.2
    rw [c_61] at k2
    by_cases hm : 1 ≤ m ∧ m ≤ 30
    · simp only [if_pos hm]
      obtain ⟨hm2, hm3⟩ := hm
      obtain ⟨m, rfl⟩ : ∃ o : Nat, m = (o : Int) := ⟨m.toNat, by omega⟩
      simp only [Int.toNat_natCast]
      by_cases h6 : 60 < (((((sNw S).1 c).1.sum + ((sNw S).1 c).2 : Nat) : Int) + (m : Int))
      · simp only [if_pos h6]
        simp (disch := omega) only [↓reduceIte, lt_TI, lt_FI, le_TI, le_FI, eq_TI, eq_FI, lt_TN, lt_FN, le_TN, le_FN, eq_TN, eq_FN, and_self, and_true, true_and, and_false, false_and, or_true, true_or, or_false, false_or, not_true_eq_false, not_false_eq_true, wr_of, uI_at, uC_at, q_bi_s, q_bl_s, q_br_s, q_bv_s, Int.toNat_natCast, tn_1, tn_m, tn_n, Int.toNat_zero, Int.toNat_one, r1, e177_0, e178_0, e212_0, k21, n_ok, k2, tn_61h, G, e291_0, e291_4, e291_10, e291_17, e291_20, e291_36, e291_72, e291_67, e291_84, e291_95, e291_106]
        exact ⟨_, rfl, MInv_trS V (QM_no QF_rf) (by decide), QM_km (QM_no QF_rf)⟩
      · simp only [if_neg h6]
        obtain ⟨I1, x1, x2, x3, x4, x5, F⟩ := m_noteV (t := t) (u := u) (J := J) V QF_rf
        have L1 : LA I1 272 (61 * c) ((sNw S).1 c).1 := fun i hi => by rw [x4]; exact H.1 i hi
        obtain ⟨I2, y1, y2, y3⟩ := c_layOn (t := t) (u := u) (J := J) A272 (p := 61 * c) (by omega) L1 o2 (by omega) (z := m) (by omega) (by omega)
        have ps : PS (((sNw S).1 c).1 ++ [m]) := fun a ha => by
          rcases List.mem_append.mp ha with z | z
          · exact o2 a z
          · rw [List.mem_singleton.mp z]; omega
        have ll : (((sNw S).1 c).1 ++ [m]).length = ((sNw S).1 c).1.length + 1 := by rw [List.length_append]; rfl
        obtain ⟨I3, z1, z2, z3⟩ := c_sortOf (t := t) (u := u) (J := J) A272 (p := 61 * c) (by omega) y2 (by omega) (fun j => by
          rw [gD_app]
          split
          · have := gD_sum (l := ((sNw S).1 c).1) j; omega
          · have := gD_sum (l := [m]) (j - ((sNw S).1 c).1.length)
            simp only [List.sum_cons, List.sum_nil] at this
            omega) (ins_sd m _ o1) (ins_ps (by omega) o2) (by
          rw [pos_id ps]
          exact (ins_perm _ _).trans (List.perm_append_comm (l₁ := [_])))
        have k3 := c_manyOf (t := t) (u := u) (J := J) A272 (p := 61 * c) (by omega) z2 (ins_ps (by omega) o2) (by rw [ins_len]; omega)
        rw [ins_len] at k3
        rw [c_61] at y1 z1 k3
        have F3 : FrA 272 (61 * c) (61 * c + 60) I1 I3 := FrA_tr y3 z3 (Nat.le_refl _) (Nat.le_refl _) (Nat.le_refl _) (Nat.le_refl _)
        have F4 : FrA 272 (61 * c) (61 * c + 61) I1 I3 := FrA_w F3 (Nat.le_refl _) (by omega)
        simp (disch := omega) only [↓reduceIte, lt_TI, lt_FI, le_TI, le_FI, eq_TI, eq_FI, lt_TN, lt_FN, le_TN, le_FN, eq_TN, eq_FN, and_self, and_true, true_and, and_false, false_and, or_true, true_or, or_false, false_or, not_true_eq_false, not_false_eq_true, wr_of, uI_at, uC_at, q_bi_s, q_bl_s, q_br_s, q_bv_s, Int.toNat_natCast, tn_1, tn_m, tn_n, Int.toNat_zero, Int.toNat_one, r1, e177_0, e178_0, e212_0, k21, n_ok, k2, tn_61h, G, x1, y1, z1, k3, e291_0, e291_4, e291_10, e291_17, e291_20, e291_36, e291_72, e291_67, e291_84, e291_95, e291_106]
        refine ⟨I3, rfl, MInv_end V (SOk_act V.1.1 (MT_of V hcc) (SnOk_upd V.1.1.2.1 hcc ?_)) rfl rfl rfl rfl (AF_fr F F3 (Or.inl rfl)) (SnA_upd (SnA_rw A.2.2.2.2 x4) (by omega) F4 ⟨z2, ?_⟩) ?_ (fun i hi => SnA_rw (x3 i hi) (FrA_o F3 (by omega))), AF_km (AF_fr F F3 (Or.inl rfl))⟩
        · exact ⟨ins_sd _ _ o1, ins_ps (by omega) o2, by show (ins _ _).sum + _ ≤ 60; have er : (rw1 S c).sum = ((sNw S).1 c).1.sum := rfl; rw [ins_sum]; omega⟩
        · rw [F3 272 (61 * c + 60) (fun z => by omega), x4]; exact H.2
        · rw [F3 265 22 (fun z => by omega)]; exact x2
    · simp only [if_neg hm]
      simp (disch := omega) only [↓reduceIte, lt_TI, lt_FI, le_TI, le_FI, eq_TI, eq_FI, lt_TN, lt_FN, le_TN, le_FN, eq_TN, eq_FN, and_self, and_true, true_and, and_false, false_and, or_true, true_or, or_false, false_or, not_true_eq_false, not_false_eq_true, wr_of, uI_at, uC_at, q_bi_s, q_bl_s, q_br_s, q_bv_s, Int.toNat_natCast, tn_1, tn_m, tn_n, Int.toNat_zero, Int.toNat_one, r1, e177_0, e178_0, e212_0, k21, n_no, e291_0, e291_4, e291_10, e291_17, e291_20, e291_36, e291_72, e291_67, e291_84, e291_95, e291_106]
      exact ⟨_, rfl, MInv_trS V (QM_no QF_rf) (by decide), QM_km (QM_no QF_rf)⟩
  · simp only [if_neg hc]
    have r1 := m_cell_no (t := t) (u := u) (J := J) A hc
    by_cases hm : 1 ≤ m ∧ m ≤ 30
    · obtain ⟨hm2, hm3⟩ := hm
      simp (disch := omega) only [↓reduceIte, lt_TI, lt_FI, le_TI, le_FI, eq_TI, eq_FI, lt_TN, lt_FN, le_TN, le_FN, eq_TN, eq_FN, and_self, and_true, true_and, and_false, false_and, or_true, true_or, or_false, false_or, not_true_eq_false, not_false_eq_true, wr_of, uI_at, uC_at, q_bi_s, q_bl_s, q_br_s, q_bv_s, Int.toNat_natCast, tn_1, tn_m, tn_n, Int.toNat_zero, Int.toNat_one, r1, e177_0, e178_0, e212_0, k21, n_ok, e291_0, e291_4, e291_10, e291_17, e291_20, e291_36, e291_72, e291_67, e291_84, e291_95, e291_106]
      exact ⟨_, rfl, MInv_trS V (QM_no QF_rf) (by decide), QM_km (QM_no QF_rf)⟩
    · simp (disch := omega) only [↓reduceIte, lt_TI, lt_FI, le_TI, le_FI, eq_TI, eq_FI, lt_TN, lt_FN, le_TN, le_FN, eq_TN, eq_FN, and_self, and_true, true_and, and_false, false_and, or_true, true_or, or_false, false_or, not_true_eq_false, not_false_eq_true, wr_of, uI_at, uC_at, q_bi_s, q_bl_s, q_br_s, q_bv_s, Int.toNat_natCast, tn_1, tn_m, tn_n, Int.toNat_zero, Int.toNat_one, r1, e177_0, e178_0, e212_0, k21, n_no, e291_0, e291_4, e291_10, e291_17, e291_20, e291_36, e291_72, e291_67, e291_84, e291_95, e291_106]
      exact ⟨_, rfl, MInv_trS V (QM_no QF_rf) (by decide), QM_km (QM_no QF_rf)⟩
theorem m_isHeap {I1 : Nat → Nat → Int} (A : MQs S I1) (c i : Int) : (isHp S c i → q_E (292, 0, [vr 265, vi c, vi i], []) (qk t u I1 J) = some (vi 1, qk t u I1 J)) ∧ (¬ isHp S c i → q_E (292, 0, [vr 265, vi c, vi i], []) (qk t u I1 J) = some (vi 0, qk t u I1 J)) := by
  have h4 := tC_4 A.1
  by_cases hc : isCl S c
  · have r1 := m_cell_ok (t := t) (u := u) (J := J) A hc
    obtain ⟨hc1, hc2⟩ := id hc
    obtain ⟨c, rfl⟩ : ∃ m : Nat, c = (m : Int) := ⟨c.toNat, by omega⟩
    obtain ⟨H, ok⟩ := MQs_row A (show c < 4 by omega)
    obtain ⟨o1, o2, o3⟩ := id ok
    have hl := HOk_len ok
    have k1 := c_manyOf (t := t) (u := u) (J := J) A272 (p := 61 * c) (by omega) H.1 o2 hl
    rw [c_61] at k1
    constructor
    · intro h
      obtain ⟨b1, b2, b3, b4⟩ := h
      rw [Int.toNat_natCast] at b4
      simp (disch := omega) only [↓reduceIte, lt_TI, lt_FI, le_TI, le_FI, eq_TI, eq_FI, lt_TN, lt_FN, le_TN, le_FN, eq_TN, eq_FN, and_self, and_true, true_and, and_false, false_and, or_true, true_or, or_false, false_or, not_true_eq_false, not_false_eq_true, wr_of, uI_at, uC_at, q_bi_s, q_bl_s, q_br_s, q_bv_s, Int.toNat_natCast, tn_1, tn_m, tn_n, Int.toNat_zero, Int.toNat_one, e292_0, r1, e292_5, k1, e292_21, n_ok, e292_26]
    · intro h
      have b : i < 0 ∨ (((sNw S).1 c).1.length : Int) ≤ i := by
        rcases Classical.em (i < 0) with z | z
        · exact Or.inl z
        · refine Or.inr ?_
          rcases Classical.em ((((sNw S).1 c).1.length : Int) ≤ i) with y | y
          · exact y
          · exact absurd ⟨hc1, hc2, by omega, by rw [Int.toNat_natCast]; omega⟩ h
      simp (disch := omega) only [↓reduceIte, lt_TI, lt_FI, le_TI, le_FI, eq_TI, eq_FI, lt_TN, lt_FN, le_TN, le_FN, eq_TN, eq_FN, and_self, and_true, true_and, and_false, false_and, or_true, true_or, or_false, false_or, not_true_eq_false, not_false_eq_true, wr_of, uI_at, uC_at, q_bi_s, q_bl_s, q_br_s, q_bv_s, Int.toNat_natCast, tn_1, tn_m, tn_n, Int.toNat_zero, Int.toNat_one, e292_0, r1, e292_5, k1, e292_21, n_no, e292_26]
  · have r1 := m_cell_no (t := t) (u := u) (J := J) A hc
    constructor
    · intro h
      exact absurd ⟨h.1, h.2.1⟩ hc
    · intro h
      simp (disch := omega) only [↓reduceIte, lt_TI, lt_FI, le_TI, le_FI, eq_TI, eq_FI, lt_TN, lt_FN, le_TN, le_FN, eq_TN, eq_FN, and_self, and_true, true_and, and_false, false_and, or_true, true_or, or_false, false_or, not_true_eq_false, not_false_eq_true, wr_of, uI_at, uC_at, q_bi_s, q_bl_s, q_br_s, q_bv_s, Int.toNat_natCast, tn_1, tn_m, tn_n, Int.toNat_zero, Int.toNat_one, e292_0, r1, e292_5]
theorem lay0_perm {z : Nat} {l : List Nat} (P : PS l) : (lay0 z l).Perm (pos (z :: l)) := by
  unfold lay0
  by_cases q : z = 0
  · rw [if_pos q, q]
    have : pos (0 :: l) = pos l := List.filter_cons_of_neg (by simp)
    rw [this, pos_id P]
  · rw [if_neg q]
    have : pos (z :: l) = z :: l := pos_id (fun a ha => by
      rcases List.mem_cons.mp ha with y | y
      · rw [y]; omega
      · exact P a y)
    rw [this]
    exact ins_perm _ _
theorem m_take (V : MInv S I) (c i : Int) : ∃ I', q_E (293, 0, [vr 265, vi c, vi i], []) (qk t u I J) = some (vi (ac_take S c i).1, qk t u I' J) ∧ MInv (ac_take S c i).2 I' ∧ KM I I' := by
  have A := MInv_A V
  have h4 := tC_4 V.1.1
  obtain ⟨a1, a2⟩ := m_isHeap (t := t) (u := u) (J := J) A c i
  unfold ac_take
  by_cases h : isHp S c i
  · have a := a1 h
    clear a1 a2
    obtain ⟨b1, b2, b3, b4⟩ := id h
    simp only [if_pos h]
    obtain ⟨c, rfl⟩ : ∃ m : Nat, c = (m : Int) := ⟨c.toNat, by omega⟩
    obtain ⟨i, rfl⟩ : ∃ j : Nat, i = (j : Int) := ⟨i.toNat, by omega⟩
    simp only [Int.toNat_natCast] at b4 ⊢
    have hcc : c < tC (sTo S) := by omega
    obtain ⟨H, ok⟩ := MQs_row A (show c < 4 by omega)
    obtain ⟨o1, o2, o3⟩ := id ok
    have hl := HOk_len ok
    have ln := len_sum o2
    have hil : i < ((sNw S).1 c).1.length := by omega
    have gb := gD_sum (l := ((sNw S).1 c).1) i
    have pp := PS_gD o2 hil
    obtain ⟨t1, t2⟩ := tkS_ok ok hil
    obtain ⟨I1, x1, x2, x3, x4, x5, F⟩ := m_noteV (t := t) (u := u) (J := J) V QF_rf
    have v : I1 272 (61 * c + i) = (((sNw S).1 c).1.getD i 0 : Int) := by rw [x4]; exact H.1 i (by omega)
    have Ls : LA (uI I1 272 (61 * c + i) ((((sNw S).1 c).1.getD i 0 : Int) - 1)) 272 (61 * c) (((sNw S).1 c).1.set i (((sNw S).1 c).1.getD i 0 - 1)) := fun j hj => by
      rw [gD_set hil]
      by_cases q : j = i
      · subst q; rw [uI_at, if_pos ⟨rfl, rfl⟩, if_pos rfl]; omega
      · rw [uI_ne (Or.inr (by omega)), if_neg q, x4]; exact H.1 j hj
    have sp := set_perm (v := ((sNw S).1 c).1.getD i 0 - 1) hil
    have el := er_len hil
    have es := er_sum hil
    obtain ⟨I3, z1, z2, z3⟩ := c_sortOf (t := t) (u := u) (J := J) A272 (p := 61 * c) (by omega) Ls (by rw [List.length_set]; omega) (fun j => by
      rw [gD_set hil]
      have := gD_sum (l := ((sNw S).1 c).1) j
      split <;> omega) t1.1 t1.2.1 (by
      exact (lay0_perm (er_ps o2 i)).trans (pos_perm sp).symm)
    rw [c_61] at z1
    have F3 : FrA 272 (61 * c) (61 * c + 60) I1 I3 := FrA_tr (FrA_uI FrA_rf (by omega) (by omega) : FrA 272 (61 * c) (61 * c + 60) I1 _) z3 (Nat.le_refl _) (Nat.le_refl _) (Nat.le_refl _) (Nat.le_refl _)
    have F4 : FrA 272 (61 * c) (61 * c + 61) I1 I3 := FrA_w F3 (Nat.le_refl _) (by omega)
    have G3 : I3 272 (61 * c + 60) = (((sNw S).1 c).2 : Int) := by rw [F3 272 (61 * c + 60) (fun z => by omega), x4]; exact H.2
    have tl := HOk_len t1
    have k2 := c_stonesOf (t := t) (u := u) (J := J) A272 (p := 61 * c) (by omega) z2 tl (by have := t1.2.2; omega)
    rw [c_61] at k2
    have ts := t1.2.2
    have e2 : (tkS ((sNw S).1 c) i).2 = ((sNw S).1 c).2 := rfl
    rw [e2] at t2 ts
    have er : ((tkS ((sNw S).1 c) i).1.sum : Int) + (((sNw S).1 c).2 : Int) = ((((sNw S).1 c).1.sum + ((sNw S).1 c).2 - 1 : Nat) : Int) := by omega
    simp (disch := omega) only [↓reduceIte, lt_TI, lt_FI, le_TI, le_FI, eq_TI, eq_FI, lt_TN, lt_FN, le_TN, le_FN, eq_TN, eq_FN, and_self, and_true, true_and, and_false, false_and, or_true, true_or, or_false, false_or, not_true_eq_false, not_false_eq_true, wr_of, uI_at, uC_at, q_bi_s, q_bl_s, q_br_s, q_bv_s, Int.toNat_natCast, tn_1, tn_m, tn_n, Int.toNat_zero, Int.toNat_one, e177_0, a, x1, tn_61a, v, z1, k2, tn_61h, G3, er, e293_0, e293_4, e293_10, e293_18, e293_23, e293_49, e293_60]
    refine ⟨I3, rfl, MInv_end V (SOk_act V.1.1 (MT_of V hcc) (SnOk_upd V.1.1.2.1 hcc t1)) rfl rfl rfl rfl (AF_fr F F3 (Or.inl rfl)) (SnA_upd (SnA_rw A.2.2.2.2 x4) (by omega) F4 ⟨z2, G3⟩) ?_ (fun i hi => SnA_rw (x3 i hi) (FrA_o F3 (by omega))), AF_km (AF_fr F F3 (Or.inl rfl))⟩
    rw [F3 265 22 (fun z => by omega)]; exact x2
  · have a := a2 h
    clear a1 a2
    simp only [if_neg h]
    simp (disch := omega) only [↓reduceIte, lt_TI, lt_FI, le_TI, le_FI, eq_TI, eq_FI, lt_TN, lt_FN, le_TN, le_FN, eq_TN, eq_FN, and_self, and_true, true_and, and_false, false_and, or_true, true_or, or_false, false_or, not_true_eq_false, not_false_eq_true, wr_of, uI_at, uC_at, q_bi_s, q_bl_s, q_br_s, q_bv_s, Int.toNat_natCast, tn_1, tn_m, tn_n, Int.toNat_zero, Int.toNat_one, e177_0, e178_0, a, e293_0, e293_4, e293_10, e293_18, e293_23, e293_49, e293_60]
    exact ⟨_, rfl, MInv_trS V (QM_no QF_rf) (by decide), QM_km (QM_no QF_rf)⟩
theorem m_join (V : MInv S I) (c i j : Int) : ∃ I', q_E (294, 0, [vr 265, vi c, vi i, vi j, vu], []) (qk t u I J) = some (vi (ac_join S c i j).1, qk t u I' J) ∧ MInv (ac_join S c i j).2 I' ∧ KM I I' := by
  have A := MInv_A V
  have h4 := tC_4 V.1.1
  obtain ⟨a1, a2⟩ := m_isHeap (t := t) (u := u) (J := J) A c i
  obtain ⟨d1, d2⟩ := m_isHeap (t := t) (u := u) (J := J) A c j
  unfold ac_join
  by_cases h : isHp S c i
  · have a := a1 h
    clear a1 a2
    by_cases g : isHp S c j
    · have d := d1 g
      clear d1 d2
      by_cases ne : i = j
      · simp only [if_neg (show ¬ (isHp S c i ∧ isHp S c j ∧ i ≠ j) from fun z => z.2.2 ne)]
        simp (disch := omega) only [↓reduceIte, lt_TI, lt_FI, le_TI, le_FI, eq_TI, eq_FI, lt_TN, lt_FN, le_TN, le_FN, eq_TN, eq_FN, and_self, and_true, true_and, and_false, false_and, or_true, true_or, or_false, false_or, not_true_eq_false, not_false_eq_true, wr_of, uI_at, uC_at, q_bi_s, q_bl_s, q_br_s, q_bv_s, Int.toNat_natCast, tn_1, tn_m, tn_n, Int.toNat_zero, Int.toNat_one, e177_0, e178_0, a, d, ne, e294_0, e294_4, e294_10, e294_32, e294_19, e294_37, e294_98]
        exact ⟨_, rfl, MInv_trS V (QM_no QF_rf) (by decide), QM_km (QM_no QF_rf)⟩
      · simp only [if_pos (show isHp S c i ∧ isHp S c j ∧ i ≠ j from ⟨h, g, ne⟩)]
        obtain ⟨b1, b2, b3, b4⟩ := id h
        obtain ⟨-, -, g3, g4⟩ := id g
        obtain ⟨c, rfl⟩ : ∃ m : Nat, c = (m : Int) := ⟨c.toNat, by omega⟩
        obtain ⟨i, rfl⟩ : ∃ j : Nat, i = (j : Int) := ⟨i.toNat, by omega⟩
        obtain ⟨j, rfl⟩ : ∃ k : Nat, j = (k : Int) := ⟨j.toNat, by omega⟩
        simp only [Int.toNat_natCast] at b4 g4 ⊢
        have ne : i ≠ j := fun z => ne (by rw [z])
        have hcc : c < tC (sTo S) := by omega
        obtain ⟨H, ok⟩ := MQs_row A (show c < 4 by omega)
        obtain ⟨o1, o2, o3⟩ := id ok
        have hl := HOk_len ok
        have hil : i < ((sNw S).1 c).1.length := by omega
        have hjl : j < ((sNw S).1 c).1.length := by omega
        have gb := gD_sum (l := ((sNw S).1 c).1) i
        have gb2 := gD_sum (l := ((sNw S).1 c).1) j
        have pp := PS_gD o2 hil
        have t1 := jnS_ok ok hil hjl ne
        obtain ⟨I1, x1, x2, x3, x4, x5, F⟩ := m_noteV (t := t) (u := u) (J := J) V QF_rf
        have v : I1 272 (61 * c + i) = (((sNw S).1 c).1.getD i 0 : Int) := by rw [x4]; exact H.1 i (by omega)
        have v2 : I1 272 (61 * c + j) = (((sNw S).1 c).1.getD j 0 : Int) := by rw [x4]; exact H.1 j (by omega)
        have hls : j < (((sNw S).1 c).1.set i (((sNw S).1 c).1.getD i 0 + ((sNw S).1 c).1.getD j 0)).length := by rw [List.length_set]; exact hjl
        have Ls : LA (uI (uI I1 272 (61 * c + i) ((((sNw S).1 c).1.getD i 0 : Int) + (((sNw S).1 c).1.getD j 0 : Int))) 272 (61 * c + j) 0) 272 (61 * c) ((((sNw S).1 c).1.set i (((sNw S).1 c).1.getD i 0 + ((sNw S).1 c).1.getD j 0)).set j 0) := fun k hk => by
          rw [gD_set hls, gD_set hil]
          by_cases y : k = j
          · subst y; rw [uI_at, if_pos ⟨rfl, rfl⟩, if_pos rfl]; rfl
          · rw [uI_ne (Or.inr (by omega)), if_neg y]
            by_cases q : k = i
            · subst q; rw [uI_at, if_pos ⟨rfl, rfl⟩, if_pos rfl]; rfl
            · rw [uI_ne (Or.inr (by omega)), if_neg q, x4]; exact H.1 k hk
        have sp : ((((sNw S).1 c).1.set i (((sNw S).1 c).1.getD i 0 + ((sNw S).1 c).1.getD j 0)).set j 0).Perm (0 :: (((sNw S).1 c).1.getD i 0 + ((sNw S).1 c).1.getD j 0) :: (((sNw S).1 c).1.eraseIdx (max i j)).eraseIdx (min i j)) := by
          rcases Nat.lt_or_ge i j with q | q
          · rw [Nat.max_eq_right (by omega), Nat.min_eq_left (by omega), List.set_comm _ _ ne]
            exact (set2_perm hjl q).trans (List.Perm.swap _ _ _)
          · rw [Nat.max_eq_left (by omega), Nat.min_eq_right (by omega)]
            exact set2_perm hil (by omega)
        have prest := er_ps (er_ps o2 (max i j)) (min i j)
        have e0 : pos (0 :: (((sNw S).1 c).1.getD i 0 + ((sNw S).1 c).1.getD j 0) :: (((sNw S).1 c).1.eraseIdx (max i j)).eraseIdx (min i j)) = (((sNw S).1 c).1.getD i 0 + ((sNw S).1 c).1.getD j 0) :: (((sNw S).1 c).1.eraseIdx (max i j)).eraseIdx (min i j) := by
          have : pos (0 :: (((sNw S).1 c).1.getD i 0 + ((sNw S).1 c).1.getD j 0) :: (((sNw S).1 c).1.eraseIdx (max i j)).eraseIdx (min i j)) = pos ((((sNw S).1 c).1.getD i 0 + ((sNw S).1 c).1.getD j 0) :: (((sNw S).1 c).1.eraseIdx (max i j)).eraseIdx (min i j)) := List.filter_cons_of_neg (by simp)
          rw [this]
          exact pos_id (fun a ha => by
            rcases List.mem_cons.mp ha with y | y
            · rw [y]; omega
            · exact prest a y)
        obtain ⟨I3, z1, z2, z3⟩ := c_sortOf (t := t) (u := u) (J := J) A272 (p := 61 * c) (by omega) Ls (by rw [List.length_set, List.length_set]; omega) (fun k => by
          rw [gD_set hls, gD_set hil]
          have := gD_sum (l := ((sNw S).1 c).1) k
          split
          · omega
          · split <;> omega) t1.1 t1.2.1 ((ins_perm _ _).trans (by rw [← e0]; exact (pos_perm sp).symm))
        rw [c_61] at z1
        have F3 : FrA 272 (61 * c) (61 * c + 60) I1 I3 := FrA_tr (FrA_uI (FrA_uI FrA_rf (by omega) (by omega)) (by omega) (by omega) : FrA 272 (61 * c) (61 * c + 60) I1 _) z3 (Nat.le_refl _) (Nat.le_refl _) (Nat.le_refl _) (Nat.le_refl _)
        have F4 : FrA 272 (61 * c) (61 * c + 61) I1 I3 := FrA_w F3 (Nat.le_refl _) (by omega)
        simp (disch := omega) only [↓reduceIte, lt_TI, lt_FI, le_TI, le_FI, eq_TI, eq_FI, lt_TN, lt_FN, le_TN, le_FN, eq_TN, eq_FN, and_self, and_true, true_and, and_false, false_and, or_true, true_or, or_false, false_or, not_true_eq_false, not_false_eq_true, wr_of, uI_at, uC_at, q_bi_s, q_bl_s, q_br_s, q_bv_s, Int.toNat_natCast, tn_1, tn_m, tn_n, Int.toNat_zero, Int.toNat_one, e177_0, a, d, x1, tn_61a, v, v2, z1, e294_0, e294_4, e294_10, e294_32, e294_19, e294_37, e294_98]
        refine ⟨I3, rfl, MInv_end V (SOk_act V.1.1 (MT_of V hcc) (SnOk_upd V.1.1.2.1 hcc t1)) rfl rfl rfl rfl (AF_fr F F3 (Or.inl rfl)) (SnA_upd (SnA_rw A.2.2.2.2 x4) (by omega) F4 ⟨z2, ?_⟩) ?_ (fun i hi => SnA_rw (x3 i hi) (FrA_o F3 (by omega))), AF_km (AF_fr F F3 (Or.inl rfl))⟩
        · rw [F3 272 (61 * c + 60) (fun z => by omega), x4]; exact H.2
        · rw [F3 265 22 (fun z => by omega)]; exact x2
    · have d := d2 g
      clear d1 d2
      simp only [if_neg (show ¬ (isHp S c i ∧ isHp S c j ∧ i ≠ j) from fun z => g z.2.1)]
      simp (disch := omega) only [↓reduceIte, lt_TI, lt_FI, le_TI, le_FI, eq_TI, eq_FI, lt_TN, lt_FN, le_TN, le_FN, eq_TN, eq_FN, and_self, and_true, true_and, and_false, false_and, or_true, true_or, or_false, false_or, not_true_eq_false, not_false_eq_true, wr_of, uI_at, uC_at, q_bi_s, q_bl_s, q_br_s, q_bv_s, Int.toNat_natCast, tn_1, tn_m, tn_n, Int.toNat_zero, Int.toNat_one, e177_0, e178_0, a, d, e294_0, e294_4, e294_10, e294_32, e294_19, e294_37, e294_98]
      exact ⟨_, rfl, MInv_trS V (QM_no QF_rf) (by decide), QM_km (QM_no QF_rf)⟩
  · have a := a2 h
    clear a1 a2 d1 d2
    simp only [if_neg (show ¬ (isHp S c i ∧ isHp S c j ∧ i ≠ j) from fun z => h z.1)]
    simp (disch := omega) only [↓reduceIte, lt_TI, lt_FI, le_TI, le_FI, eq_TI, eq_FI, lt_TN, lt_FN, le_TN, le_FN, eq_TN, eq_FN, and_self, and_true, true_and, and_false, false_and, or_true, true_or, or_false, false_or, not_true_eq_false, not_false_eq_true, wr_of, uI_at, uC_at, q_bi_s, q_bl_s, q_br_s, q_bv_s, Int.toNat_natCast, tn_1, tn_m, tn_n, Int.toNat_zero, Int.toNat_one, e177_0, e178_0, a, e294_0, e294_4, e294_10, e294_32, e294_19, e294_37, e294_98]
    exact ⟨_, rfl, MInv_trS V (QM_no QF_rf) (by decide), QM_km (QM_no QF_rf)⟩
/-- a night: the cellars before the k-th have had it -/
def ntK (S : St) (k : Nat) : Sn := (fun c => if c < k then nt (tL (sTo S) c) (tH (sTo S)) ((sNw S).1 c) else (sNw S).1 c, (sNw S).2 + 1)
theorem m_night (V : MInv S I) : ∃ I', q_E (290, 0, [vr 265, vu, vu], []) (qk t u I J) = some (vi (ac_night S).1, qk t u I' J) ∧ MInv (ac_night S).2 I' ∧ KM I I' := by
  have A := MInv_A V
  have h4 := tC_4 V.1.1
  have hs := V.1.2.1
  have h244 := A.2.2.2.2.2
  rw [Nat.zero_add] at h244
  have h244' : I 272 244 = ((sNw S).2 : Int) := by have := V.1.2.2.2.2.2; rwa [Nat.zero_add] at this
  have b999 := V.1.1.2.1.2.2
  unfold ac_night
  by_cases hc : 0 < tC (sTo S)
  · simp only [if_pos hc]
    rw [if_pos hc] at hs
    have T := SOk_T V.1.1 hc
    by_cases h9 : (sNw S).2 < 999
    · simp only [if_pos h9]
      have z1 : ∀ (r k : Nat) (I1 : Nat → Nat → Int), k + r = tC (sTo S) → QF (A0 I) I1 → ∃ I', q_E (290, 41, [vr 265, vi (nbS S k : Int), vi (k : Int)], []) (qk t u I1 J) = q_E (290, 41, [vr 265, vi (nbS S (tC (sTo S)) : Int), vi (tC (sTo S) : Int)], []) (qk t u I' J) ∧ QF (A0 I) I' := by
        intro r
        induction r with
        | zero =>
          intro k I1 hk F
          have : k = tC (sTo S) := by omega
          rw [this]
          exact ⟨I1, rfl, F⟩
        | succ r ih =>
          intro k I1 hk F
          have A1 := MQs_qf A F
          have m2 := A1.2.2.1.2.2.1
          obtain ⟨I2, x1, x2⟩ := m_isStill (t := t) (u := u) (J := J) A1 (show k < tC (sTo S) by omega)
          have nb := nbS_lt S k (by omega)
          have nb2 := nbS_lt S (k + 1) (by omega)
          have sh := b_shl k (by omega)
          have p8 : 2 ^ k < 16 := by
            have := Nat.pow_lt_pow_right (show 1 < 2 by omega) (show k < 4 by omega)
            omega
          have bo := b_or (nbS S k) nb (2 ^ k) p8
          have bo0 := b_or (nbS S k) nb 0 (by omega)
          rw [Int.natCast_zero] at bo0
          obtain ⟨I3, y1, y2⟩ := ih (k + 1) I2 (by omega) (QF_tr F x2)
          refine ⟨I3, ?_, y2⟩
          rw [← y1, e290_41]
          by_cases q : ahd S k 1 = (sNw S).1 k
          · have eb : nbS S (k + 1) = nbS S k := if_pos (decide_eq_true q)
            rw [if_pos q] at x1
            simp (disch := omega) only [↓reduceIte, lt_TI, lt_FI, le_TI, le_FI, eq_TI, eq_FI, lt_TN, lt_FN, le_TN, le_FN, eq_TN, eq_FN, and_self, and_true, true_and, and_false, false_and, or_true, true_or, or_false, false_or, not_true_eq_false, not_false_eq_true, wr_of, uI_at, uC_at, q_bi_s, q_bl_s, q_br_s, q_bv_s, Int.toNat_natCast, tn_1, tn_m, tn_n, Int.toNat_zero, Int.toNat_one, m2, x1]
            rw [e290_57]
            simp (disch := omega) only [↓reduceIte, lt_TI, lt_FI, le_TI, le_FI, eq_TI, eq_FI, lt_TN, lt_FN, le_TN, le_FN, eq_TN, eq_FN, and_self, and_true, true_and, and_false, false_and, or_true, true_or, or_false, false_or, not_true_eq_false, not_false_eq_true, wr_of, uI_at, uC_at, q_bi_s, q_bl_s, q_br_s, q_bv_s, Int.toNat_natCast, tn_1, tn_m, tn_n, Int.toNat_zero, Int.toNat_one, bo0]
            rw [Nat.or_zero, eb]; rfl
          · have eb : nbS S (k + 1) = nbS S k ||| 2 ^ k := if_neg (fun z => q (of_decide_eq_true z))
            rw [if_neg q] at x1
            simp (disch := omega) only [↓reduceIte, lt_TI, lt_FI, le_TI, le_FI, eq_TI, eq_FI, lt_TN, lt_FN, le_TN, le_FN, eq_TN, eq_FN, and_self, and_true, true_and, and_false, false_and, or_true, true_or, or_false, false_or, not_true_eq_false, not_false_eq_true, wr_of, uI_at, uC_at, q_bi_s, q_bl_s, q_br_s, q_bv_s, Int.toNat_natCast, tn_1, tn_m, tn_n, Int.toNat_zero, Int.toNat_one, m2, x1]
            rw [e290_57]
            simp (disch := omega) only [↓reduceIte, lt_TI, lt_FI, le_TI, le_FI, eq_TI, eq_FI, lt_TN, lt_FN, le_TN, le_FN, eq_TN, eq_FN, and_self, and_true, true_and, and_false, false_and, or_true, true_or, or_false, false_or, not_true_eq_false, not_false_eq_true, wr_of, uI_at, uC_at, q_bi_s, q_bl_s, q_br_s, q_bv_s, Int.toNat_natCast, tn_1, tn_m, tn_n, Int.toNat_zero, Int.toNat_one, sh, bo]
            rw [eb]; rfl
      obtain ⟨I1, x1, F1⟩ := z1 (tC (sTo S)) 0 (A0 I) (by omega) QF_rf
      obtain ⟨I2, y1, y2, y3, y4, y5, F2⟩ := m_noteV (t := t) (u := u) (J := J) V F1
      have A1 := MQs_qf A F1
      have m2 := A1.2.2.1.2.2.1
      have M2 : MT I2 (sTo S) := MT_rw A1.2.2.1 y5
      have N2 : SnA (uI I2 272 244 (((sNw S).2 : Int) + 1)) 272 0 (ntK S 0) := ⟨fun d hd => by
        have e : (ntK S 0).1 d = (sNw S).1 d := by
          show (if d < 0 then nt (tL (sTo S) d) (tH (sTo S)) ((sNw S).1 d) else (sNw S).1 d) = (sNw S).1 d
          exact if_neg (Nat.not_lt_zero d)
        rw [e]
        have w := A1.2.2.2.2.1 d hd
        exact mRw_fr (mRw_rw w y4) (FrA_uI FrA_rf (show 244 ≤ 244 by omega) (show 244 < 245 by omega)) (by omega), if_pos ⟨rfl, rfl⟩⟩
      have e244 : I2 272 244 = ((sNw S).2 : Int) := by
        rw [y4]
        have := A1.2.2.2.2.2
        rwa [Nat.zero_add] at this
      have z2 : ∀ (r k : Nat) (I3 : Nat → Nat → Int), k + r = tC (sTo S) → FrA 272 0 245 I2 I3 → SnA I3 272 0 (ntK S k) → ∃ I', q_E (290, 93, [vr 265, vi (nbS S (tC (sTo S)) : Int), vi (k : Int)], []) (qk t u I3 J) = some (vi (nbS S (tC (sTo S)) : Int), qk t u I' J) ∧ FrA 272 0 245 I2 I' ∧ SnA I' 272 0 (ntS S) := by
        intro r
        induction r with
        | zero =>
          intro k I3 hk F N
          have M3 := MT_rw M2 (FrA_o F (show 268 ≠ 272 by omega))
          have m2 := M3.2.2.1
          have e : k = tC (sTo S) := by omega
          subst e
          rw [e290_93]
          simp (disch := omega) only [↓reduceIte, lt_TI, lt_FI, le_TI, le_FI, eq_TI, eq_FI, lt_TN, lt_FN, le_TN, le_FN, eq_TN, eq_FN, and_self, and_true, true_and, and_false, false_and, or_true, true_or, or_false, false_or, not_true_eq_false, not_false_eq_true, wr_of, uI_at, uC_at, q_bi_s, q_bl_s, q_br_s, q_bv_s, Int.toNat_natCast, tn_1, tn_m, tn_n, Int.toNat_zero, Int.toNat_one, m2]
          exact ⟨I3, rfl, F, N⟩
        | succ r ih =>
          intro k I3 hk F N
          have M3 := MT_rw M2 (FrA_o F (show 268 ≠ 272 by omega))
          have m2 := M3.2.2.1
          have ml := M3.2.2.2.2.2.1 k (by omega)
          have w := N.1 k (by omega)
          have e : (ntK S k).1 k = (sNw S).1 k := if_neg (Nat.lt_irrefl k)
          rw [e, Nat.zero_add] at w
          obtain ⟨I4, w1, w2, w3⟩ := c_nightOf (t := t) (u := u) (J := J) A272 (p := 61 * k) (by omega) (by omega) w (V.1.1.2.1.1 k) T.1 T.2.1 (T.2.2.2.2.1 k (by omega)) M3.1
          rw [c_61] at w1
          have N4 := SnA_upd N (show k < 4 by omega) w3 w2
          have en : updS (ntK S k) k (nt (tL (sTo S) k) (tH (sTo S)) ((sNw S).1 k)) = ntK S (k + 1) := by
            unfold updS ntK
            congr 1
            funext d
            by_cases q : d = k
            · rw [if_pos q, if_pos (by omega), q]
            · rw [if_neg q]
              show (if d < k then nt (tL (sTo S) d) (tH (sTo S)) ((sNw S).1 d) else (sNw S).1 d) = _
              by_cases y : d < k
              · rw [if_pos y, if_pos (by omega)]
              · rw [if_neg y, if_neg (by omega)]
          rw [en] at N4
          obtain ⟨I5, v1, v2, v3⟩ := ih (k + 1) I4 (by omega) (FrA_tr F w3 (by omega) (by omega) (by omega) (by omega)) N4
          refine ⟨I5, ?_, v2, v3⟩
          rw [← v1, e290_93]
          simp (disch := omega) only [↓reduceIte, lt_TI, lt_FI, le_TI, le_FI, eq_TI, eq_FI, lt_TN, lt_FN, le_TN, le_FN, eq_TN, eq_FN, and_self, and_true, true_and, and_false, false_and, or_true, true_or, or_false, false_or, not_true_eq_false, not_false_eq_true, wr_of, uI_at, uC_at, q_bi_s, q_bl_s, q_br_s, q_bv_s, Int.toNat_natCast, tn_1, tn_m, tn_n, Int.toNat_zero, Int.toNat_one, m2, tn_5, ml, w1]
          rw [e290_123]
          simp (disch := omega) only [↓reduceIte, lt_TI, lt_FI, le_TI, le_FI, eq_TI, eq_FI, lt_TN, lt_FN, le_TN, le_FN, eq_TN, eq_FN, and_self, and_true, true_and, and_false, false_and, or_true, true_or, or_false, false_or, not_true_eq_false, not_false_eq_true, wr_of, uI_at, uC_at, q_bi_s, q_bl_s, q_br_s, q_bv_s, Int.toNat_natCast, tn_1, tn_m, tn_n, Int.toNat_zero, Int.toNat_one]
          rfl
      obtain ⟨I3, w1, w2, w3⟩ := z2 (tC (sTo S)) 0 (uI I2 272 244 (((sNw S).2 : Int) + 1)) (by omega) (FrA_uI FrA_rf (by omega) (by omega)) N2
      rw [Int.natCast_zero] at w1
      have n0 : nbS S 0 = 0 := rfl
      rw [n0, Int.natCast_zero] at x1
      have last : q_E (290, 41, [vr 265, vi (nbS S (tC (sTo S)) : Int), vi (tC (sTo S) : Int)], []) (qk t u I1 J) = some (vi (nbS S (tC (sTo S)) : Int), qk t u I3 J) := by
        rw [e290_41]
        simp (disch := omega) only [↓reduceIte, lt_TI, lt_FI, le_TI, le_FI, eq_TI, eq_FI, lt_TN, lt_FN, le_TN, le_FN, eq_TN, eq_FN, and_self, and_true, true_and, and_false, false_and, or_true, true_or, or_false, false_or, not_true_eq_false, not_false_eq_true, wr_of, uI_at, uC_at, q_bi_s, q_bl_s, q_br_s, q_bv_s, Int.toNat_natCast, tn_1, tn_m, tn_n, Int.toNat_zero, Int.toNat_one, m2, y1]
        rw [e290_79]
        simp (disch := omega) only [↓reduceIte, lt_TI, lt_FI, le_TI, le_FI, eq_TI, eq_FI, lt_TN, lt_FN, le_TN, le_FN, eq_TN, eq_FN, and_self, and_true, true_and, and_false, false_and, or_true, true_or, or_false, false_or, not_true_eq_false, not_false_eq_true, wr_of, uI_at, uC_at, q_bi_s, q_bl_s, q_br_s, q_bv_s, Int.toNat_natCast, tn_1, tn_m, tn_n, Int.toNat_zero, Int.toNat_one, e244]
        exact w1
      have F3 := AF_fr F2 w2 (Or.inl rfl)
      simp (disch := omega) only [↓reduceIte, lt_TI, lt_FI, le_TI, le_FI, eq_TI, eq_FI, lt_TN, lt_FN, le_TN, le_FN, eq_TN, eq_FN, and_self, and_true, true_and, and_false, false_and, or_true, true_or, or_false, false_or, not_true_eq_false, not_false_eq_true, wr_of, uI_at, uC_at, q_bi_s, q_bl_s, q_br_s, q_bv_s, Int.toNat_natCast, tn_1, tn_m, tn_n, Int.toNat_zero, Int.toNat_one, e177_0, hs, h244', e290_0, e290_4, e290_16, e290_36]
      rw [x1, last]
      refine ⟨I3, rfl, MInv_end V (SOk_act V.1.1 ⟨T, hc⟩ (SnOk_nt V.1.1 T h9)) rfl rfl rfl rfl F3 w3 ?_ (fun i hi => SnA_rw (y3 i hi) (FrA_o w2 (by omega))), AF_km F3⟩
      rw [w2 265 22 (fun z => by omega)]; exact y2
    · simp only [if_neg h9]
      simp (disch := omega) only [↓reduceIte, lt_TI, lt_FI, le_TI, le_FI, eq_TI, eq_FI, lt_TN, lt_FN, le_TN, le_FN, eq_TN, eq_FN, and_self, and_true, true_and, and_false, false_and, or_true, true_or, or_false, false_or, not_true_eq_false, not_false_eq_true, wr_of, uI_at, uC_at, q_bi_s, q_bl_s, q_br_s, q_bv_s, Int.toNat_natCast, tn_1, tn_m, tn_n, Int.toNat_zero, Int.toNat_one, e177_0, e178_0, hs, h244', e290_0, e290_4, e290_16, e290_36]
      exact ⟨_, rfl, MInv_trS V (QM_no QF_rf) (by decide), QM_km (QM_no QF_rf)⟩
  · simp only [if_neg hc]
    rw [if_neg hc] at hs
    simp (disch := omega) only [↓reduceIte, lt_TI, lt_FI, le_TI, le_FI, eq_TI, eq_FI, lt_TN, lt_FN, le_TN, le_FN, eq_TN, eq_FN, and_self, and_true, true_and, and_false, false_and, or_true, true_or, or_false, false_or, not_true_eq_false, not_false_eq_true, wr_of, uI_at, uC_at, q_bi_s, q_bl_s, q_br_s, q_bv_s, Int.toNat_natCast, tn_1, tn_m, tn_n, Int.toNat_zero, Int.toNat_one, e177_0, e178_0, hs, e290_0, e290_4, e290_16, e290_36]
    exact ⟨_, rfl, MInv_trS V (QM_no QF_rf) (by decide), QM_km (QM_no QF_rf)⟩
theorem m_undo (V : MInv S I) : ∃ I', q_E (295, 0, [vr 265], []) (qk t u I J) = some (vi (ac_undo S).1, qk t u I' J) ∧ MInv (ac_undo S).2 I' ∧ KM I I' := by
  have l16 := V.1.1.2.2.2.2.1
  have h22 := V.2.2.2.2.2.2.1
  have hu := V.2.2.2.2.2.2.2.1
  unfold ac_undo
  by_cases h : (sUn S).length = 0
  · simp only [if_pos h]
    rw [h, Int.natCast_zero] at h22
    simp (disch := omega) only [↓reduceIte, lt_TI, lt_FI, le_TI, le_FI, eq_TI, eq_FI, lt_TN, lt_FN, le_TN, le_FN, eq_TN, eq_FN, and_self, and_true, true_and, and_false, false_and, or_true, true_or, or_false, false_or, not_true_eq_false, not_false_eq_true, wr_of, uI_at, uC_at, q_bi_s, q_bl_s, q_br_s, q_bv_s, Int.toNat_natCast, tn_1, tn_m, tn_n, Int.toNat_zero, Int.toNat_one, e177_0, e179_0, h22, e295_0, e295_4, e295_17, e295_51]
    exact ⟨_, rfl, MInv_trS V (QM_no QF_rf) (by decide), QM_km (QM_no QF_rf)⟩
  · simp only [if_neg h]
    obtain ⟨I2, x1, x2, x3⟩ := c_mcopy (t := t) (u := u) (I := uI (uI (uI I 265 0 0) 265 11 0) 265 22 ((sUn S).length - 1 : Nat)) (J := J) (p := 245 * ((sUn S).length - 1)) (s := 0) (n := 245) A273 A272 (by omega) (by omega) (by omega)
    have ec : ((245 * ((sUn S).length - 1) : Nat) : Int) = 245 * (((sUn S).length : Int) - 1) := by omega
    have ec2 : (((sUn S).length - 1 : Nat) : Int) = ((sUn S).length : Int) - 1 := by omega
    rw [ec, ec2, Int.natCast_zero, show ((245 : Nat) : Int) = 245 from rfl] at x1
    have F : AF (A0 I) I2 := AF_fr (AF_uI AF_rf (Or.inr (Or.inr ⟨rfl, rfl⟩))) x3 (Or.inl rfl)
    simp (disch := omega) only [↓reduceIte, lt_TI, lt_FI, le_TI, le_FI, eq_TI, eq_FI, lt_TN, lt_FN, le_TN, le_FN, eq_TN, eq_FN, and_self, and_true, true_and, and_false, false_and, or_true, true_or, or_false, false_or, not_true_eq_false, not_false_eq_true, wr_of, uI_at, uC_at, q_bi_s, q_bl_s, q_br_s, q_bv_s, Int.toNat_natCast, tn_1, tn_m, tn_n, Int.toNat_zero, Int.toNat_one, e177_0, h22, x1, e295_0, e295_4, e295_17, e295_51]
    refine ⟨I2, rfl, MInv_end V ?_ rfl rfl rfl rfl F ?_ ?_ (fun i hi => ?_), AF_km F⟩
    · obtain ⟨h1, h2, h3, h5, h6, h7, h8, h9⟩ := V.1.1
      have gm : (sUn S).getD ((sUn S).length - 1) S0 ∈ sUn S := by
        rw [List.getD_eq_getElem?_getD, List.getElem?_eq_getElem (by omega)]
        exact List.getElem_mem _
      refine ⟨?_, h3 _ gm, fun s hs => h3 s ((List.dropLast_sublist (sUn S)).subset hs), h5, by show (sUn S).dropLast.length ≤ 16; rw [List.length_dropLast]; omega, h7, h8, h9⟩
      rcases h1 with z | z
      · exact Or.inl z
      · rw [z.2.2.1] at h; exact absurd rfl h
    · exact SnA_cp (hu ((sUn S).length - 1) (by omega)) (fun i hi => by rw [x2 i hi, uI_o1 (by omega), uI_o1 (by omega), uI_o1 (by omega)])
    · show I2 265 22 = ((sUn S).dropLast.length : Int)
      rw [x3 265 22 (fun z => by omega), List.length_dropLast]; exact if_pos ⟨rfl, rfl⟩
    · have hi : i < (sUn S).dropLast.length := hi
      rw [List.length_dropLast] at hi
      show SnA I2 273 (245 * i) ((sUn S).dropLast.getD i S0)
      rw [gS_dl (by omega)]
      exact SnA_rw (hu i (by omega)) (by rw [FrA_o x3 (by omega), uI_o1 (by omega), uI_o1 (by omega), uI_o1 (by omega)])
theorem m_back (V : MInv S I) (i : Int) (hi0 : -2147483648 ≤ i) (hi1 : i ≤ 2147483647) : ∃ I', q_E (297, 0, [vr 265, vi i], []) (qk t u I J) = some (vi (ac_back S i).1, qk t u I' J) ∧ MInv (ac_back S i).2 I' ∧ KM I I' := by
  have l3 := V.1.1.2.2.2.2.2.1
  have h23 := V.2.2.2.2.2.2.2.2.1
  have hm := V.2.2.2.2.2.2.2.2.2
  unfold ac_back
  by_cases h : 0 ≤ i ∧ i < ((sIm S).length : Int)
  · simp only [if_pos h]
    obtain ⟨g1, g2⟩ := h
    obtain ⟨i, rfl⟩ : ∃ j : Nat, i = (j : Int) := ⟨i.toNat, by omega⟩
    simp only [Int.toNat_natCast]
    obtain ⟨I2, x1, x2, x3⟩ := c_mcopy (t := t) (u := u) (I := uI (uI I 265 0 0) 265 11 0) (J := J) (p := 245 * i) (s := 0) (n := 245) A274 A272 (by omega) (by omega) (by omega)
    have ec : ((245 * i : Nat) : Int) = 245 * (i : Int) := by omega
    rw [ec, Int.natCast_zero, show ((245 : Nat) : Int) = 245 from rfl] at x1
    have F : AF (A0 I) (uI I2 265 22 0) := AF_uI (AF_fr AF_rf x3 (Or.inl rfl)) (Or.inr (Or.inr ⟨rfl, rfl⟩))
    simp (disch := omega) only [↓reduceIte, lt_TI, lt_FI, le_TI, le_FI, eq_TI, eq_FI, lt_TN, lt_FN, le_TN, le_FN, eq_TN, eq_FN, and_self, and_true, true_and, and_false, false_and, or_true, true_or, or_false, false_or, not_true_eq_false, not_false_eq_true, wr_of, uI_at, uC_at, q_bi_s, q_bl_s, q_br_s, q_bv_s, Int.toNat_natCast, tn_1, tn_m, tn_n, Int.toNat_zero, Int.toNat_one, e177_0, h23, n_ok, x1, e297_0, e297_4, e297_15, e297_23, e297_44]
    refine ⟨uI I2 265 22 0, rfl, MInv_end V ?_ rfl rfl rfl rfl F ?_ (if_pos ⟨rfl, rfl⟩) (fun i hi => absurd hi (Nat.not_lt_zero i)), AF_km F⟩
    · obtain ⟨h1, h2, h3, h5, h6, h7, h8, h9⟩ := V.1.1
      have gm : (sIm S).getD i S0 ∈ sIm S := by
        rw [List.getD_eq_getElem?_getD, List.getElem?_eq_getElem (by omega)]
        exact List.getElem_mem _
      refine ⟨?_, h5 _ gm, fun s hs => absurd hs List.not_mem_nil, h5, Nat.zero_le _, h7, h8, h9⟩
      rcases h1 with z | z
      · exact Or.inl z
      · rw [z.2.2.2] at gm; exact absurd gm List.not_mem_nil
    · exact SnA_cp (hm i (by omega)) (fun j hj => by rw [uI_o1 (by omega), x2 j hj, uI_o1 (by omega), uI_o1 (by omega)])
  · simp only [if_neg h]
    have b : i < 0 ∨ ((sIm S).length : Int) - 1 < i := by omega
    simp (disch := omega) only [↓reduceIte, lt_TI, lt_FI, le_TI, le_FI, eq_TI, eq_FI, lt_TN, lt_FN, le_TN, le_FN, eq_TN, eq_FN, and_self, and_true, true_and, and_false, false_and, or_true, true_or, or_false, false_or, not_true_eq_false, not_false_eq_true, wr_of, uI_at, uC_at, q_bi_s, q_bl_s, q_br_s, q_bv_s, Int.toNat_natCast, tn_1, tn_m, tn_n, Int.toNat_zero, Int.toNat_one, e177_0, e179_0, h23, n_no, e297_0, e297_4, e297_15, e297_23, e297_44]
    exact ⟨_, rfl, MInv_trS V (QM_no QF_rf) (by decide), QM_km (QM_no QF_rf)⟩
theorem m_image (V : MInv S I) : ∃ I', q_E (296, 0, [vr 265], []) (qk t u I J) = some (vi (ac_image S).1, qk t u I' J) ∧ MInv (ac_image S).2 I' ∧ KM I I' := by
  have A := MInv_A V
  have hs := V.1.2.1
  have l3 := V.1.1.2.2.2.2.2.1
  have h23 := V.2.2.2.2.2.2.2.2.1
  have hm := V.2.2.2.2.2.2.2.2.2
  unfold ac_image
  by_cases hc : 0 < tC (sTo S)
  · simp only [if_pos hc]
    rw [if_pos hc] at hs
    by_cases h : (sIm S).length < 3
    · simp only [if_pos h]
      obtain ⟨I2, x1, x2, x3⟩ := c_mcopy (t := t) (u := u) (I := uI (uI I 265 0 0) 265 11 0) (J := J) (p := 0) (s := 245 * (sIm S).length) (n := 245) A272 A274 (by omega) (by omega) (by omega)
      have ec : ((245 * (sIm S).length : Nat) : Int) = 245 * ((sIm S).length : Int) := by omega
      rw [ec, Int.natCast_zero] at x1
      rw [show ((245 : Nat) : Int) = 245 from rfl] at x1
      have h23' : I2 265 23 = ((sIm S).length : Int) := by rw [x3 265 23 (fun z => by omega), uI_ne (by omega), uI_ne (by omega)]; exact h23
      have f1 : ∀ a, a ≠ 265 → a ≠ 274 → (uI I2 265 23 (((sIm S).length : Int) + 1)) a = I a := fun a h1 h2 => by
        rw [uI_o1 h1, FrA_o x3 h2, uI_o1 h1, uI_o1 h1]
      have f2 : ∀ k, k ≠ 0 → k ≠ 11 → k ≠ 23 → (uI I2 265 23 (((sIm S).length : Int) + 1)) 265 k = I 265 k := fun k h1 h2 h3 => by
        rw [uI_ne (Or.inr h3), x3 265 k (fun z => by omega), uI_ne (Or.inr h2), uI_ne (Or.inr h1)]
      obtain ⟨⟨w1, w2, w3, w4, w5⟩, v2, v3, v4, v5, v6, v7, v8, v9, v10⟩ := V
      simp (disch := omega) only [↓reduceIte, lt_TI, lt_FI, le_TI, le_FI, eq_TI, eq_FI, lt_TN, lt_FN, le_TN, le_FN, eq_TN, eq_FN, and_self, and_true, true_and, and_false, false_and, or_true, true_or, or_false, false_or, not_true_eq_false, not_false_eq_true, wr_of, uI_at, uC_at, q_bi_s, q_bl_s, q_br_s, q_bv_s, Int.toNat_natCast, tn_1, tn_m, tn_n, Int.toNat_zero, Int.toNat_one, e177_0, hs, h23, x1, h23', e296_0, e296_4, e296_16, e296_30, e296_54]
      refine ⟨uI I2 265 23 (((sIm S).length : Int) + 1), ?_, ⟨⟨?_, ?_, ?_, ?_, ?_⟩, ?_, ?_, fun z => absurd z (show ¬ (0 : Int) = 4 by decide), ?_, fun i hi => ?_, ?_, fun i hi => ?_, ?_, fun i hi => ?_⟩, fun a ha => f1 a (by omega) (by omega)⟩
      · rw [show ((sIm S).length : Int) + 1 - 1 = ((sIm S).length : Int) by omega]
      · obtain ⟨h1, h2, h3, h5, h6, h7, h8, h9⟩ := w1
        refine ⟨?_, h2, h3, fun s hs => ?_, h6, by show (sIm S ++ [sNw S]).length ≤ 3; rw [List.length_append, List.length_singleton]; omega, h8, h9⟩
        · rcases h1 with z | z
          · exact Or.inl z
          · have := z.1; rw [this] at hc; exact absurd hc (by decide)
        · rcases List.mem_append.mp hs with y | y
          · exact h5 s y
          · rw [List.mem_singleton.mp y]; exact h2
      · rw [f2 14 (by omega) (by omega) (by omega)]; exact w2
      · exact MT_rw w3 (f1 268 (by omega) (by omega))
      · exact SnA_rw w4 (f1 270 (by omega) (by omega))
      · exact SnA_rw w5 (f1 272 (by omega) (by omega))
      · rw [uI_ne (Or.inr (by omega)), x3 265 11 (fun z => by omega)]; exact if_pos ⟨rfl, rfl⟩
      · rw [f2 9 (by omega) (by omega) (by omega)]; exact v3
      · rw [f2 2 (by omega) (by omega) (by omega)]; exact v5
      · rw [f1 266 (by omega) (by omega)]; exact v6 i hi
      · rw [f2 22 (by omega) (by omega) (by omega)]; exact v7
      · exact SnA_rw (v8 i hi) (f1 273 (by omega) (by omega))
      · show uI I2 265 23 _ 265 23 = ((sIm S ++ [sNw S]).length : Int)
        rw [List.length_append, List.length_singleton]; exact if_pos ⟨rfl, rfl⟩
      · have hi : i < (sIm S ++ [sNw S]).length := hi
        rw [List.length_append, List.length_singleton] at hi
        show SnA _ 274 (245 * i) ((sIm S ++ [sNw S]).getD i S0)
        rw [gS_app]
        by_cases q : i < (sIm S).length
        · rw [if_pos q]
          exact SnA_cp (v10 i q) (fun j hj => by rw [uI_o1 (by omega), x3 274 _ (fun z => by omega), uI_o1 (by omega), uI_o1 (by omega)])
        · rw [if_neg q, if_pos (by omega), show i = (sIm S).length by omega]
          exact SnA_cp w5 (fun j hj => by rw [uI_o1 (by omega), x2 j hj, uI_o1 (by omega), uI_o1 (by omega)])
    · simp only [if_neg h]
      simp (disch := omega) only [↓reduceIte, lt_TI, lt_FI, le_TI, le_FI, eq_TI, eq_FI, lt_TN, lt_FN, le_TN, le_FN, eq_TN, eq_FN, and_self, and_true, true_and, and_false, false_and, or_true, true_or, or_false, false_or, not_true_eq_false, not_false_eq_true, wr_of, uI_at, uC_at, q_bi_s, q_bl_s, q_br_s, q_bv_s, Int.toNat_natCast, tn_1, tn_m, tn_n, Int.toNat_zero, Int.toNat_one, e177_0, e178_0, hs, h23, e296_0, e296_4, e296_16, e296_30, e296_54]
      exact ⟨_, rfl, MInv_trS V (QM_no QF_rf) (by decide), QM_km (QM_no QF_rf)⟩
  · simp only [if_neg hc]
    rw [if_neg hc] at hs
    simp (disch := omega) only [↓reduceIte, lt_TI, lt_FI, le_TI, le_FI, eq_TI, eq_FI, lt_TN, lt_FN, le_TN, le_FN, eq_TN, eq_FN, and_self, and_true, true_and, and_false, false_and, or_true, true_or, or_false, false_or, not_true_eq_false, not_false_eq_true, wr_of, uI_at, uC_at, q_bi_s, q_bl_s, q_br_s, q_bv_s, Int.toNat_natCast, tn_1, tn_m, tn_n, Int.toNat_zero, Int.toNat_one, e177_0, e178_0, hs, e296_0, e296_4, e296_16, e296_30, e296_54]
    exact ⟨_, rfl, MInv_trS V (QM_no QF_rf) (by decide), QM_km (QM_no QF_rf)⟩

end

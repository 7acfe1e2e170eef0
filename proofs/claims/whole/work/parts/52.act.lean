/-! the acts -/
def updS (s : Sn) (c : Nat) (x : Hp) : Sn := (fun d => if d = c then x else s.1 d, s.2)
def lay0 (z : Nat) (l : List Nat) : List Nat := if z = 0 then l else ins z l
def tkS (x : Hp) (i : Nat) : Hp := (lay0 (x.1.getD i 0 - 1) (x.1.eraseIdx i), x.2)
def jnS (x : Hp) (i j : Nat) : Hp := (ins (x.1.getD i 0 + x.1.getD j 0) ((x.1.eraseIdx (max i j)).eraseIdx (min i j)), x.2)
def ntS (S : St) : Sn := (fun c => if c < tC (sTo S) then nt (tL (sTo S) c) (tH (sTo S)) ((sNw S).1 c) else (sNw S).1 c, (sNw S).2 + 1)
def nbS (S : St) : Nat → Nat
  | 0 => 0
  | c + 1 => if stB S c then nbS S c else nbS S c ||| 2 ^ c
/-- refused, or the trouble is none -/
def trS (S : St) (tr : Int) : St := (sT S, (tr, sF S, sP S), S.2.2)
def actS (S : St) (n : Sn) : St := (sT S, (0, sF S, sP S), sTo S, n, keepS (sUn S) (sNw S), sIm S)
def ac_night (S : St) : Int × St := if 0 < tC (sTo S) then (if (sNw S).2 < 999 then ((nbS S (tC (sTo S)) : Int), actS S (ntS S)) else (-1, trS S 3)) else (-1, trS S 1)
def ac_add (S : St) (c m : Int) : Int × St := if isCl S c then (if 1 ≤ m ∧ m ≤ 30 then (if 60 < (((rw1 S c.toNat).sum + ((sNw S).1 c.toNat).2 : Nat) : Int) + m then (-1, trS S 3) else (((rw1 S c.toNat).length + 1 : Nat), actS S (updS (sNw S) c.toNat (ins m.toNat (rw1 S c.toNat), ((sNw S).1 c.toNat).2)))) else (-1, trS S 2)) else (-1, trS S 1)
def ac_take (S : St) (c i : Int) : Int × St := if isHp S c i then ((((rw1 S c.toNat).sum + ((sNw S).1 c.toNat).2 - 1 : Nat) : Int), actS S (updS (sNw S) c.toNat (tkS ((sNw S).1 c.toNat) i.toNat))) else (-1, trS S 1)
def ac_join (S : St) (c i j : Int) : Int × St := if isHp S c i ∧ isHp S c j ∧ i ≠ j then ((((rw1 S c.toNat).getD i.toNat 0 + (rw1 S c.toNat).getD j.toNat 0 : Nat) : Int), actS S (updS (sNw S) c.toNat (jnS ((sNw S).1 c.toNat) i.toNat j.toNat))) else (-1, trS S 1)
def ac_undo (S : St) : Int × St := if (sUn S).length = 0 then (0, trS S 6) else (1, (sT S, (0, sF S, sP S), sTo S, (sUn S).getD ((sUn S).length - 1) S0, (sUn S).dropLast, sIm S))
def ac_image (S : St) : Int × St := if 0 < tC (sTo S) then (if (sIm S).length < 3 then (((sIm S).length : Int), (sT S, (0, sF S, sP S), sTo S, sNw S, sUn S, sIm S ++ [sNw S])) else (-1, trS S 3)) else (-1, trS S 1)
def ac_back (S : St) (i : Int) : Int × St := if 0 ≤ i ∧ i < ((sIm S).length : Int) then (1, (sT S, (0, sF S, sP S), sTo S, (sIm S).getD i.toNat S0, [], sIm S)) else (0, trS S 1)
def KC (I I' : Nat → Nat → Int) : Prop := ∀ a, 264 < a → I' a = I a
theorem KC_kp {lo hi : Nat} {I I' : Nat → Nat → Int} (K : Kp lo hi I I') (h : hi ≤ 264) : KC I I' := fun a ha => K a (by omega)
theorem KC_tr {I I1 I2 : Nat → Nat → Int} (a : KC I I1) (b : KC I1 I2) : KC I I2 := fun c hc => (b c hc).trans (a c hc)
theorem KC_q {tr : Int} {I I' : Nat → Nat → Int} (h : QC tr I I') : KC I I' := KC_tr (KC_kp (Kp_uI Kp_rf (by omega) (by omega) : Kp 1 1 I _) (by omega)) (KC_kp h (by omega))
theorem keepS_mem {und : List Sn} {s x : Sn} (h : x ∈ keepS und s) : x ∈ und ∨ x = s := by
  unfold keepS at h
  rcases List.mem_append.mp h with h | h
  · split at h
    · exact Or.inl (List.mem_of_mem_tail h)
    · exact Or.inl h
  · exact Or.inr (List.mem_singleton.mp h)
theorem SnOk_upd {T : Tt} {s : Sn} {c : Nat} {x : Hp} (h : SnOk T s) (hc : c < tC T) (hx : HOk x) : SnOk T (updS s c x) := by
  refine ⟨fun d => ?_, fun d hd => ?_, h.2.2⟩
  · show HOk (if d = c then x else s.1 d)
    split
    · exact hx
    · exact h.1 d
  · show (if d = c then x else s.1 d) = _
    rw [if_neg (by omega)]
    exact h.2.1 d hd
theorem lay0_ok {z : Nat} {l : List Nat} (h1 : SD l) (h2 : PS l) : SD (lay0 z l) ∧ PS (lay0 z l) ∧ (lay0 z l).sum = z + l.sum := by
  unfold lay0
  split
  · rename_i q; exact ⟨h1, h2, by omega⟩
  · exact ⟨ins_sd _ _ h1, ins_ps (by omega) h2, ins_sum _ _⟩
theorem tkS_ok {x : Hp} {i : Nat} (h : HOk x) (hi : i < x.1.length) : HOk (tkS x i) ∧ (tkS x i).1.sum + (tkS x i).2 = x.1.sum + x.2 - 1 := by
  obtain ⟨h1, h2, h3⟩ := h
  obtain ⟨a1, a2, a3⟩ := lay0_ok (z := x.1.getD i 0 - 1) (er_sd h1 i) (er_ps h2 i)
  have e := er_sum hi
  have p := PS_gD h2 hi
  refine ⟨⟨a1, a2, ?_⟩, ?_⟩
  · show (lay0 _ _).sum + x.2 ≤ 60; omega
  · show (lay0 _ _).sum + x.2 = _; omega
theorem jn_sum {l : List Nat} {i j : Nat} (hi : i < l.length) (hj : j < l.length) (ne : i ≠ j) : l.getD i 0 + l.getD j 0 + ((l.eraseIdx (max i j)).eraseIdx (min i j)).sum = l.sum ∧ (l.eraseIdx (max i j)).getD (min i j) 0 = l.getD (min i j) 0 ∧ min i j < (l.eraseIdx (max i j)).length := by
  have e1 := er_sum (l := l) (i := max i j) (by omega)
  have el := er_len (l := l) (i := max i j) (by omega)
  have e2 := er_sum (l := l.eraseIdx (max i j)) (i := min i j) (by omega)
  have e3 : (l.eraseIdx (max i j)).getD (min i j) 0 = l.getD (min i j) 0 := by rw [gD_er, if_pos (by omega)]
  refine ⟨?_, e3, by omega⟩
  rw [e3] at e2
  rcases Nat.lt_or_ge i j with q | q
  · rw [Nat.max_eq_right (by omega), Nat.min_eq_left (by omega)] at *; omega
  · rw [Nat.max_eq_left (by omega), Nat.min_eq_right (by omega)] at *; omega
theorem jnS_ok {x : Hp} {i j : Nat} (h : HOk x) (hi : i < x.1.length) (hj : j < x.1.length) (ne : i ≠ j) : HOk (jnS x i j) := by
  obtain ⟨h1, h2, h3⟩ := h
  obtain ⟨e, -, -⟩ := jn_sum hi hj ne
  have p := PS_gD h2 hi
  refine ⟨ins_sd _ _ (er_sd (er_sd h1 _) _), ins_ps (by omega) (er_ps (er_ps h2 _) _), ?_⟩
  show (ins _ _).sum + x.2 ≤ 60
  rw [ins_sum]; omega
theorem SOk_act {S : St} {n : Sn} (h : SOk S) (hT : TOk (sTo S) ∧ 0 < tC (sTo S)) (hn : SnOk (sTo S) n) : SOk (actS S n) := by
  obtain ⟨h1, h2, h3, h4, h5, h6, h7, h8⟩ := h
  refine ⟨Or.inl hT, hn, fun s hs => ?_, h4, keepS_len _ _ h5, h6, h7, h8⟩
  rcases keepS_mem hs with q | q
  · exact h3 s q
  · rw [q]; exact h2
theorem SOk_tr {S : St} {tr : Int} (h : SOk S) : SOk (trS S tr) := h
section
variable {t u : Nat} {I J : Nat → Nat → Int} {S : St}
theorem CAt_upd {s : Sn} {c : Nat} {x : Hp} {I' : Nat → Nat → Int} (H : CAt I 24 s) (hc : c < 4) (K : Kp (26 + 2 * c) (26 + 2 * c + 1) I I') (hx : HAt I' (26 + 2 * c) x.1 x.2) : CAt I' 24 (updS s c x) := by
  refine ⟨H.1, by rw [K 24 (by omega)]; exact H.2.1, fun d hd => ?_⟩
  show HAt I' (24 + 2 + 2 * d) (if d = c then x else s.1 d).1 (if d = c then x else s.1 d).2
  by_cases q : d = c
  · subst q; rw [if_pos rfl]; exact hx
  · rw [if_neg q]; exact HAt_kp (H.2.2 d hd) K (by omega)
/-- an act's end: what is kept, what is now -/
theorem CInv_act {n : Sn} {I1 I' : Nat → Nat → Int} (V : CInv S t u I) (hS : SOk (actS S n)) (K : ∀ a, (a < 24 ∨ 226 < a) → I' a = uI I 1 10 0 a) (A : CAt I' 24 n) (P : PAt I' (keepS (sUn S) (sNw S)) (sIm S)) : CInv (actS S n) t u I' := by
  obtain ⟨v1, v2, v3, v4, v5, v6, v7, v8, v9, v10, v11⟩ := V
  have K0 : Kp 1 1 I (uI I 1 10 0) := Kp_uI Kp_rf (by omega) (by omega)
  have K1 : Kp 24 226 (uI I 1 10 0) I' := K
  refine ⟨hS, v2, ?_, ?_, fun z => absurd z (show ¬ (0 : Int) = 4 by decide), ?_, fun i hi => ?_, TAt_kp (TAt_kp v8 K0 ?_) K1 ?_, A, P, fun z => GAt_kp (GAt_kp (v11 z) K0 (by omega)) K1 (by omega)⟩
  · rw [K 1 (by omega)]; exact if_pos ⟨rfl, rfl⟩
  · rw [K 1 (by omega), uI_ne (Or.inr (by omega))]; exact v4
  · rw [K 3 (by omega), K0 3 (by omega)]; exact v6
  · rw [K 4 (by omega), K0 4 (by omega)]; exact v7 i hi
  · rcases v2 with ⟨z, -⟩ | ⟨z, -⟩ <;> subst z <;> omega
  · rcases v2 with ⟨z, -⟩ | ⟨z, -⟩ <;> subst z <;> omega
theorem CInv_trS {tr : Int} (V : CInv S t u I) (h4 : tr ≠ 4) : CInv (trS S tr) t u (uI I 1 10 tr) := CInv_q V QC_rf h4
theorem T_of (V : CInv S t u I) {c : Nat} (hc : c < tC (sTo S)) : TOk (sTo S) ∧ 0 < tC (sTo S) := ⟨SOk_T V.1 hc, by omega⟩
theorem k_add (V : CInv S t u I) (c m : Int) (hm0 : -2147483648 ≤ m) (hm1 : m ≤ 2147483647) : ∃ I', q_E (151, 0, [vr 1, vi c, vi m], []) (qk t u I J) = some (vi (ac_add S c m).1, qk t u I' J) ∧ CInv (ac_add S c m).2 t u I' ∧ KC I I' := by
  obtain ⟨V2, e9, k18⟩ := CInv_qi V 0
  have h4 := tC_4 V.1
  unfold ac_add
  by_cases hc : isCl S c
  · simp only [if_pos hc]
    obtain ⟨hc1, hc2⟩ := hc
    obtain ⟨c, rfl⟩ : ∃ m : Nat, c = (m : Int) := ⟨c.toNat, by omega⟩
    have hcc : c < tC (sTo S) := by omega
    have r1 := r_cell_ok (u := u) (J := J) k18 e9 hc1 hc2
    simp only [Int.toNat_natCast]
    by_cases hm : 1 ≤ m ∧ m ≤ 30
    · simp only [if_pos hm]
      obtain ⟨hm2, hm3⟩ := hm
      obtain ⟨m, rfl⟩ : ∃ o : Nat, m = (o : Int) := ⟨m.toNat, by omega⟩
      simp only [Int.toNat_natCast]
      obtain ⟨HQ, H⟩ := row_q V (m := c) (by omega)
      have ok := V.1.2.1.1 c
      obtain ⟨o1, o2, o3⟩ := id ok
      have H0 := H.1.1
      have rn := R_now t u c (by omega)
      have s1 := c_stones (t := t) (u := u) (J := J) HQ (by omega)
      by_cases q : 60 < ((((sNw S).1 c).1.sum + ((sNw S).1 c).2 : Nat) : Int) + (m : Int)
      · simp only [if_pos q]
        simp (disch := omega) only [↓reduceIte, lt_TI, lt_FI, le_TI, le_FI, eq_TI, eq_FI, lt_TN, lt_FN, le_TN, le_FN, eq_TN, eq_FN, and_self, and_true, true_and, and_false, false_and, or_true, true_or, or_false, false_or, not_true_eq_false, not_false_eq_true, wr_of, uI_at, uC_at, q_bi_s, q_bl_s, q_br_s, q_bv_s, Int.toNat_natCast, tn_1, tn_m, tn_n, Int.toNat_zero, Int.toNat_one, r1, e151_0, e151_5, e160_0, uI_uI, e151_29, rn, H0, s1, e151_46, k20, e151_61, e151_64]
        exact ⟨_, rfl, CInv_trS V (by decide), KC_q QC_rf⟩
      · simp only [if_neg q]
        obtain ⟨B, I1, a1, a2, a3, a4, a5⟩ := c_keep (t := t) (u := u) (J := J) V2.2.2.2.2.1 V2.2.2.2.1 (by omega)
        have len := len_sum o2
        obtain ⟨I2, b1, b2, b3⟩ := c_lay (t := t) (u := u) (J := J) (HAt_kp HQ a5 (by omega)) o1 (z := m) (by omega) (by omega) (by omega)
        have B1 := b2.2.1
        simp (disch := omega) only [↓reduceIte, lt_TI, lt_FI, le_TI, le_FI, eq_TI, eq_FI, lt_TN, lt_FN, le_TN, le_FN, eq_TN, eq_FN, and_self, and_true, true_and, and_false, false_and, or_true, true_or, or_false, false_or, not_true_eq_false, not_false_eq_true, wr_of, uI_at, uC_at, q_bi_s, q_bl_s, q_br_s, q_bv_s, Int.toNat_natCast, tn_1, tn_m, tn_n, Int.toNat_zero, Int.toNat_one, r1, e151_0, e151_5, e160_0, uI_uI, e151_29, rn, H0, s1, e151_46, k20, e151_61, a1, e151_77, b1, e151_91, B1]
        rw [ins_len]
        refine ⟨I2, rfl, CInv_act (I1 := I1) V (SOk_act V.1 (T_of V hcc) (SnOk_upd V.1.2.1 hcc ⟨ins_sd _ _ o1, ins_ps (by omega) o2, by show (ins m ((sNw S).1 c).1).sum + ((sNw S).1 c).2 ≤ 60; rw [ins_sum]; omega⟩)) (fun a ha => by rw [b3 a (by omega), a5 a (by omega)]) (CAt_upd (CAt_kp V2.2.2.2.1 a5 (by omega)) (by omega) b3 b2) (PAt_kp a2 b3 (by omega)), fun a ha => by rw [b3 a (by omega), a5 a (by omega), uI_o1 (by omega)]⟩
    · simp only [if_neg hm]
      rcases Classical.em (m < 1) with z | z <;> simp (disch := omega) only [↓reduceIte, lt_TI, lt_FI, le_TI, le_FI, eq_TI, eq_FI, lt_TN, lt_FN, le_TN, le_FN, eq_TN, eq_FN, and_self, and_true, true_and, and_false, false_and, or_true, true_or, or_false, false_or, not_true_eq_false, not_false_eq_true, wr_of, uI_at, uC_at, q_bi_s, q_bl_s, q_br_s, q_bv_s, Int.toNat_natCast, tn_1, tn_m, tn_n, Int.toNat_zero, Int.toNat_one, r1, e151_0, e151_5, e160_0, uI_uI, e151_29, e151_64] <;> exact ⟨_, rfl, CInv_trS V (by decide), KC_q QC_rf⟩
  · simp only [if_neg hc]
    have r1 := r_cell_no (c := c) (u := u) (J := J) k18 e9 (by omega)
    simp (disch := omega) only [↓reduceIte, lt_TI, lt_FI, le_TI, le_FI, eq_TI, eq_FI, lt_TN, lt_FN, le_TN, le_FN, eq_TN, eq_FN, and_self, and_true, true_and, and_false, false_and, or_true, true_or, or_false, false_or, not_true_eq_false, not_false_eq_true, wr_of, uI_at, uC_at, q_bi_s, q_bl_s, q_br_s, q_bv_s, Int.toNat_natCast, tn_1, tn_m, tn_n, Int.toNat_zero, Int.toNat_one, r1, e151_0, e151_5, e151_64]
    exact ⟨_, rfl, CInv_trS V (by decide), KC_q QC_rf⟩
theorem k_take (V : CInv S t u I) (c i : Int) : ∃ I', q_E (152, 0, [vr 1, vi c, vi i, vu], []) (qk t u I J) = some (vi (ac_take S c i).1, qk t u I' J) ∧ CInv (ac_take S c i).2 t u I' ∧ KC I I' := by
  have h4 := tC_4 V.1
  obtain ⟨V2, e9, k18⟩ := CInv_qi V 0
  obtain ⟨a1, a2⟩ := h_heap (u := u) (J := J) (c := c) (i := i) V
  unfold ac_take
  by_cases h : isHp S c i
  · obtain ⟨b1, b2, b3, b4⟩ := id h
    simp only [if_pos h]
    obtain ⟨c, rfl⟩ : ∃ m : Nat, c = (m : Int) := ⟨c.toNat, by omega⟩
    obtain ⟨i, rfl⟩ : ∃ j : Nat, i = (j : Int) := ⟨i.toNat, by omega⟩
    simp only [Int.toNat_natCast] at b4 ⊢
    have hcc : c < tC (sTo S) := by omega
    obtain ⟨HQ, H⟩ := row_q V (m := c) (by omega)
    have ok := V.1.2.1.1 c
    obtain ⟨o1, o2, o3⟩ := id ok
    have H0 := H.1.1
    have rn := R_now t u c (by omega)
    have hil : i < ((sNw S).1 c).1.length := by omega
    have gb := gD_sum (l := ((sNw S).1 c).1) i
    have pp := PS_gD o2 hil
    obtain ⟨t1, t2⟩ := tkS_ok ok hil
    obtain ⟨B, I1, p1, p2, p3, p4, p5⟩ := c_keep (t := t) (u := u) (J := J) V2.2.2.2.2.1 V2.2.2.2.1 (by omega)
    obtain ⟨I2, l1, l2, l3⟩ := c_lift (t := t) (u := u) (J := J) (HAt_kp HQ p5 (by omega)) hil
    have lay : ∃ I3, q_E (29, 0, [vr (26 + 2 * c), vi ((((sNw S).1 c).1.getD i 0 : Int) - 1), vu], []) (qk t u I2 J) = some (vu, qk t u I3 J) ∧ HAt I3 (26 + 2 * c) (tkS ((sNw S).1 c) i).1 (tkS ((sNw S).1 c) i).2 ∧ Kp (26 + 2 * c) (26 + 2 * c + 1) I2 I3 := by
      by_cases z : ((sNw S).1 c).1.getD i 0 = 1
      · refine ⟨I2, c_lay0 (by omega), ?_, Kp_rf⟩
        unfold tkS lay0
        rw [if_pos (show ((sNw S).1 c).1.getD i 0 - 1 = 0 by omega)]
        exact l2
      · have len := len_sum o2
        have el := er_len hil
        obtain ⟨I3, m1, m2, m3⟩ := c_lay (t := t) (u := u) (J := J) l2 (er_sd o1 i) (z := ((sNw S).1 c).1.getD i 0 - 1) (by omega) (by omega) (by omega)
        refine ⟨I3, ?_, ?_, m3⟩
        · rw [show ((((sNw S).1 c).1.getD i 0 : Int) - 1) = ((((sNw S).1 c).1.getD i 0 - 1 : Nat) : Int) by omega]; exact m1
        · unfold tkS lay0
          rw [if_neg (show ¬ ((sNw S).1 c).1.getD i 0 - 1 = 0 by omega)]
          exact m2
    obtain ⟨I3, m1, m2, m3⟩ := lay
    have s1 := c_stones (t := t) (u := u) (J := J) m2 (by omega)
    rw [t2] at s1
    have K3 : Kp (26 + 2 * c) (26 + 2 * c + 1) I1 I3 := Kp_tr l3 m3 (Nat.le_refl _) (Nat.le_refl _) (Nat.le_refl _) (Nat.le_refl _)
    simp (disch := omega) only [↓reduceIte, lt_TI, lt_FI, le_TI, le_FI, eq_TI, eq_FI, lt_TN, lt_FN, le_TN, le_FN, eq_TN, eq_FN, and_self, and_true, true_and, and_false, false_and, or_true, true_or, or_false, false_or, not_true_eq_false, not_false_eq_true, wr_of, uI_at, uC_at, q_bi_s, q_bl_s, q_br_s, q_bv_s, Int.toNat_natCast, tn_1, tn_m, tn_n, Int.toNat_zero, Int.toNat_one, a1 h, e152_0, e152_8, k20, e160_0, e152_19, p1, e152_35, rn, H0, l1, e152_52, m1, e152_57, s1, e152_61]
    exact ⟨I3, rfl, CInv_act (I1 := I1) V (SOk_act V.1 (T_of V hcc) (SnOk_upd V.1.2.1 hcc t1)) (fun a ha => by rw [K3 a (by omega), p5 a (by omega)]) (CAt_upd (CAt_kp V2.2.2.2.1 p5 (by omega)) (by omega) K3 m2) (PAt_kp p2 K3 (by omega)), fun a ha => by rw [K3 a (by omega), p5 a (by omega), uI_o1 (by omega)]⟩
  · simp only [if_neg h]
    simp (disch := omega) only [↓reduceIte, lt_TI, lt_FI, le_TI, le_FI, eq_TI, eq_FI, lt_TN, lt_FN, le_TN, le_FN, eq_TN, eq_FN, and_self, and_true, true_and, and_false, false_and, or_true, true_or, or_false, false_or, not_true_eq_false, not_false_eq_true, wr_of, uI_at, uC_at, q_bi_s, q_bl_s, q_br_s, q_bv_s, Int.toNat_natCast, tn_1, tn_m, tn_n, Int.toNat_zero, Int.toNat_one, a2 h, e152_0, e152_8, k20, e160_0, e152_19]
    exact ⟨_, rfl, CInv_trS V (by decide), KC_q QC_rf⟩
theorem k_join (V : CInv S t u I) (c i j : Int) : ∃ I', q_E (153, 0, [vr 1, vi c, vi i, vi j, vu, vu, vu], []) (qk t u I J) = some (vi (ac_join S c i j).1, qk t u I' J) ∧ CInv (ac_join S c i j).2 t u I' ∧ KC I I' := by
  have h4 := tC_4 V.1
  obtain ⟨V2, e9, k18⟩ := CInv_qi V 0
  obtain ⟨a1, a2⟩ := h_heap (u := u) (J := J) (c := c) (i := i) V
  obtain ⟨d1, d2⟩ := h_heap (u := u) (J := J) (c := c) (i := j) V
  unfold ac_join
  by_cases h : isHp S c i
  · by_cases g : isHp S c j
    · by_cases ne : i = j
      · simp only [if_neg (show ¬ (isHp S c i ∧ isHp S c j ∧ i ≠ j) from fun z => z.2.2 ne)]
        subst ne
        simp (disch := omega) only [↓reduceIte, lt_TI, lt_FI, le_TI, le_FI, eq_TI, eq_FI, lt_TN, lt_FN, le_TN, le_FN, eq_TN, eq_FN, and_self, and_true, true_and, and_false, false_and, or_true, true_or, or_false, false_or, not_true_eq_false, not_false_eq_true, wr_of, uI_at, uC_at, q_bi_s, q_bl_s, q_br_s, q_bv_s, Int.toNat_natCast, tn_1, tn_m, tn_n, Int.toNat_zero, Int.toNat_one, a1 h, e153_0, e153_8, k20, e160_0, e153_17, e153_33]
        exact ⟨_, rfl, CInv_trS V (by decide), KC_q QC_rf⟩
      · simp only [if_pos (show isHp S c i ∧ isHp S c j ∧ i ≠ j from ⟨h, g, ne⟩)]
        obtain ⟨b1, b2, b3, b4⟩ := id h
        obtain ⟨f1, f2, f3, f4⟩ := id g
        obtain ⟨c, rfl⟩ : ∃ m : Nat, c = (m : Int) := ⟨c.toNat, by omega⟩
        obtain ⟨i, rfl⟩ : ∃ j : Nat, i = (j : Int) := ⟨i.toNat, by omega⟩
        obtain ⟨j, rfl⟩ : ∃ k : Nat, j = (k : Int) := ⟨j.toNat, by omega⟩
        simp only [Int.toNat_natCast] at b4 f4 ⊢
        have hcc : c < tC (sTo S) := by omega
        obtain ⟨HQ, H⟩ := row_q V (m := c) (by omega)
        have ok := V.1.2.1.1 c
        obtain ⟨o1, o2, o3⟩ := id ok
        have H0 := H.1.1
        have rn := R_now t u c (by omega)
        have hil : i < ((sNw S).1 c).1.length := by omega
        have hjl : j < ((sNw S).1 c).1.length := by omega
        obtain ⟨js, jg, jl⟩ := jn_sum hil hjl (show i ≠ j by omega)
        have pp := PS_gD o2 hil
        have t1 := jnS_ok ok hil hjl (show i ≠ j by omega)
        obtain ⟨B, I1, p1, p2, p3, p4, p5⟩ := c_keep (t := t) (u := u) (J := J) V2.2.2.2.2.1 V2.2.2.2.1 (by omega)
        obtain ⟨I2, l1, l2, l3⟩ := c_lift (t := t) (u := u) (J := J) (HAt_kp HQ p5 (by omega)) (i := max i j) (by omega)
        obtain ⟨I3, n1, n2, n3⟩ := c_lift (t := t) (u := u) (J := J) l2 (i := min i j) jl
        rw [jg] at n1
        have ps2 := er_ps (er_ps o2 (max i j)) (min i j)
        have len := len_sum ps2
        obtain ⟨I4, m1, m2, m3⟩ := c_lay (t := t) (u := u) (J := J) n2 (er_sd (er_sd o1 _) _) (z := ((sNw S).1 c).1.getD i 0 + ((sNw S).1 c).1.getD j 0) (by omega) (by omega) (by omega)
        have K3 : Kp (26 + 2 * c) (26 + 2 * c + 1) I1 I4 := Kp_tr l3 (Kp_tr n3 m3 (Nat.le_refl _) (Nat.le_refl _) (Nat.le_refl _) (Nat.le_refl _)) (Nat.le_refl _) (Nat.le_refl _) (Nat.le_refl _) (Nat.le_refl _)
        have fin : CInv (actS S (updS (sNw S) c (jnS ((sNw S).1 c) i j))) t u I4 ∧ KC I I4 := ⟨CInv_act (I1 := I1) V (SOk_act V.1 (T_of V hcc) (SnOk_upd V.1.2.1 hcc t1)) (fun a ha => by rw [K3 a (by omega), p5 a (by omega)]) (CAt_upd (CAt_kp V2.2.2.2.1 p5 (by omega)) (by omega) K3 m2) (PAt_kp p2 K3 (by omega)), fun a ha => by rw [K3 a (by omega), p5 a (by omega), uI_o1 (by omega)]⟩
        refine ⟨I4, ?_, fin⟩
        rcases Nat.lt_or_ge i j with q | q
        · rw [Nat.max_eq_right (by omega)] at l1
          rw [Nat.min_eq_left (by omega)] at n1
          have em : ((((sNw S).1 c).1.getD j 0 : Int) + (((sNw S).1 c).1.getD i 0 : Int)) = ((((sNw S).1 c).1.getD i 0 + ((sNw S).1 c).1.getD j 0 : Nat) : Int) := by omega
          simp (disch := omega) only [↓reduceIte, lt_TI, lt_FI, le_TI, le_FI, eq_TI, eq_FI, lt_TN, lt_FN, le_TN, le_FN, eq_TN, eq_FN, and_self, and_true, true_and, and_false, false_and, or_true, true_or, or_false, false_or, not_true_eq_false, not_false_eq_true, wr_of, uI_at, uC_at, q_bi_s, q_bl_s, q_br_s, q_bv_s, Int.toNat_natCast, tn_1, tn_m, tn_n, Int.toNat_zero, Int.toNat_one, a1 h, d1 g, e153_0, e153_8, k20, e160_0, e153_17, e153_33, p1, e153_49, rn, H0, l1, e153_71, e153_73, n1, e153_85, em, e153_88, m1, e153_95]
        · rw [Nat.max_eq_left (by omega)] at l1
          rw [Nat.min_eq_right (by omega)] at n1
          have em : ((((sNw S).1 c).1.getD i 0 : Int) + (((sNw S).1 c).1.getD j 0 : Int)) = ((((sNw S).1 c).1.getD i 0 + ((sNw S).1 c).1.getD j 0 : Nat) : Int) := by omega
          simp (disch := omega) only [↓reduceIte, lt_TI, lt_FI, le_TI, le_FI, eq_TI, eq_FI, lt_TN, lt_FN, le_TN, le_FN, eq_TN, eq_FN, and_self, and_true, true_and, and_false, false_and, or_true, true_or, or_false, false_or, not_true_eq_false, not_false_eq_true, wr_of, uI_at, uC_at, q_bi_s, q_bl_s, q_br_s, q_bv_s, Int.toNat_natCast, tn_1, tn_m, tn_n, Int.toNat_zero, Int.toNat_one, a1 h, d1 g, e153_0, e153_8, k20, e160_0, e153_17, e153_33, p1, e153_49, rn, H0, l1, e153_71, e153_73, n1, e153_85, em, e153_88, m1, e153_95]
    · simp only [if_neg (show ¬ (isHp S c i ∧ isHp S c j ∧ i ≠ j) from fun z => g z.2.1)]
      simp (disch := omega) only [↓reduceIte, lt_TI, lt_FI, le_TI, le_FI, eq_TI, eq_FI, lt_TN, lt_FN, le_TN, le_FN, eq_TN, eq_FN, and_self, and_true, true_and, and_false, false_and, or_true, true_or, or_false, false_or, not_true_eq_false, not_false_eq_true, wr_of, uI_at, uC_at, q_bi_s, q_bl_s, q_br_s, q_bv_s, Int.toNat_natCast, tn_1, tn_m, tn_n, Int.toNat_zero, Int.toNat_one, a1 h, d2 g, e153_0, e153_8, k20, e160_0, e153_17, e153_33]
      exact ⟨_, rfl, CInv_trS V (by decide), KC_q QC_rf⟩
  · simp only [if_neg (show ¬ (isHp S c i ∧ isHp S c j ∧ i ≠ j) from fun z => h z.1)]
    simp (disch := omega) only [↓reduceIte, lt_TI, lt_FI, le_TI, le_FI, eq_TI, eq_FI, lt_TN, lt_FN, le_TN, le_FN, eq_TN, eq_FN, and_self, and_true, true_and, and_false, false_and, or_true, true_or, or_false, false_or, not_true_eq_false, not_false_eq_true, wr_of, uI_at, uC_at, q_bi_s, q_bl_s, q_br_s, q_bv_s, Int.toNat_natCast, tn_1, tn_m, tn_n, Int.toNat_zero, Int.toNat_one, a2 h, e153_0, e153_8, k20, e160_0, e153_33]
    exact ⟨_, rfl, CInv_trS V (by decide), KC_q QC_rf⟩
end

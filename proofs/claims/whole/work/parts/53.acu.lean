/-! nights, undoing, images, what comes onto the tape -/
theorem nbS_lt (S : St) : ∀ c, c ≤ 4 → nbS S c < 16
  | 0, _ => by show 0 < 16; omega
  | c + 1, h => by
    have a := nbS_lt S c (by omega)
    have p : 2 ^ c < 16 := Nat.lt_of_le_of_lt (Nat.pow_le_pow_right (by omega) (show c ≤ 3 by omega)) (by omega)
    unfold nbS
    split
    · exact a
    · exact b_or16 _ a _ p
theorem SnOk_nt {S : St} (h : SOk S) (hT : TOk (sTo S)) (hn : (sNw S).2 < 999) : SnOk (sTo S) (ntS S) := by
  refine ⟨fun c => ?_, fun c hc => ?_, ?_⟩
  · show HOk (if c < tC (sTo S) then nt (tL (sTo S) c) (tH (sTo S)) ((sNw S).1 c) else (sNw S).1 c)
    split
    · exact (nt_ok (h.2.1.1 c) hT.1).1
    · exact h.2.1.1 c
  · show (if c < tC (sTo S) then nt (tL (sTo S) c) (tH (sTo S)) ((sNw S).1 c) else (sNw S).1 c) = _
    rw [if_neg (by omega)]
    exact h.2.1.2.1 c hc
  · show (sNw S).2 + 1 ≤ 999; omega
def byt (a sh : Int) : Nat := (q_shr a sh % 256).toNat
def by4 (a : Int) : List Nat := [byt a 24, byt a 16, byt a 8, byt a 0]
def ac_feed (S : St) (a b c d e : Int) : Int × St := if 900 < (sT S).length + 20 then (-1, S) else ((((sT S).length + 20 : Nat) : Int), (sT S ++ by4 a ++ by4 b ++ by4 c ++ by4 d ++ by4 e, S.2))
theorem byt_lt (a sh : Int) : byt a sh < 256 := by unfold byt; omega
theorem byt_m (a sh : Int) : Int.bmod (Int.bmod (q_shr a sh) 256) 256 = Int.bmod (byt a sh : Int) 256 := by
  unfold byt
  generalize q_shr a sh = y
  rw [Int.bmod_bmod, show ((y % 256).toNat : Int) = y % 256 by omega]
  exact (Int.emod_bmod y 256).symm
theorem by4_lt (a : Int) : ∀ b ∈ by4 a, b < 256 := by
  intro b hb
  unfold by4 at hb
  simp only [List.mem_cons, List.not_mem_nil, or_false] at hb
  rcases hb with h | h | h | h <;> rw [h] <;> exact byt_lt _ _
section
variable {t u : Nat} {I J : Nat → Nat → Int} {S : St}
theorem k_night (V : CInv S t u I) : ∃ I', q_E (150, 0, [vr 1, vu, vu, vu], []) (qk t u I J) = some (vi (ac_night S).1, qk t u I' J) ∧ CInv (ac_night S).2 t u I' ∧ KC I I' := by
  obtain ⟨V2, e9, k18⟩ := CInv_qi V 0
  have h4 := tC_4 V.1
  have ht := V2.2.2.1
  have n1 := V.2.2.2.2.2.2.2.2.1.2.1
  unfold ac_night
  by_cases hc : 0 < tC (sTo S)
  · simp only [if_pos hc]
    have T := SOk_T V.1 hc
    have r1 := r_st_ok (u := u) (J := J) k18 e9 (by omega)
    have n9 := V.1.2.1.2.2
    by_cases hn : (sNw S).2 < 999
    · simp only [if_pos hn]
      obtain ⟨B, I1, p1, p2, p3, p4, p5⟩ := c_keep (t := t) (u := u) (J := J) V2.2.2.2.2.1 V2.2.2.2.1 (by omega)
      have A1 : CAt I1 24 (sNw S) := CAt_kp V2.2.2.2.1 p5 (by omega)
      have K2 : Kp 24 24 I1 (uI I1 24 1 (((sNw S).2 : Int) + 1)) := Kp_uI Kp_rf (by omega) (by omega)
      have loop : ∀ (r c : Nat) (I2 : Nat → Nat → Int), c + r = tC (sTo S) → (∀ a, (a < 24 ∨ 226 < a) → I2 a = uI I 1 10 0 a) → CAt I2 B (sNw S) → PAt I2 (keepS (sUn S) (sNw S)) (sIm S) → CAt I2 24 (fun d => if d < c then nt (tL (sTo S) d) (tH (sTo S)) ((sNw S).1 d) else (sNw S).1 d, (sNw S).2 + 1) → ∃ I', q_E (150, 64, [vr 1, vr B, vi (nbS S c : Int), vi (c : Int)], []) (qk t u I2 J) = some (vi (nbS S (tC (sTo S)) : Int), qk t u I' J) ∧ (∀ a, (a < 24 ∨ 226 < a) → I' a = uI I 1 10 0 a) ∧ PAt I' (keepS (sUn S) (sNw S)) (sIm S) ∧ CAt I' 24 (ntS S) := by
        intro r
        induction r with
        | zero =>
          intro c I2 hcr F Bt P A
          have ec : c = tC (sTo S) := by omega
          have k9 : I2 t 9 = (tC (sTo S) : Int) := by rw [F t (by omega), uI_ne (Or.inl (by omega))]; exact e9
          subst ec
          rw [e150_64]
          simp (disch := omega) only [↓reduceIte, lt_TI, lt_FI, le_TI, le_FI, eq_TI, eq_FI, lt_TN, lt_FN, le_TN, le_FN, eq_TN, eq_FN, and_self, and_true, true_and, and_false, false_and, or_true, true_or, or_false, false_or, not_true_eq_false, not_false_eq_true, wr_of, uI_at, uC_at, q_bi_s, q_bl_s, q_br_s, q_bv_s, Int.toNat_natCast, tn_1, tn_m, tn_n, Int.toNat_zero, Int.toNat_one, k18, k9]
          exact ⟨I2, rfl, F, P, A⟩
        | succ r ih =>
          intro c I2 hcr F Bt P A
          have k9 : I2 t 9 = (tC (sTo S) : Int) := by rw [F t (by omega), uI_ne (Or.inl (by omega))]; exact e9
          have VT := V2.2.1
          obtain ⟨w1, w2⟩ := VT.1.2.2.2.1 0 (by omega)
          have l1 := VT.1.2.2.2.2.1.1
          have kl : I2 (t + 11) c = (tL (sTo S) c : Int) := by rw [F (t + 11) (by omega)]; exact VT.2.2.2.2.2.2.2.1 c (by omega)
          have k7 : I2 t 7 = (tH (sTo S) : Int) := by rw [F t (by omega)]; exact VT.2.2.1
          have rn := R_now t u c (by omega)
          have HA := A.2.2 c (by omega)
          simp only [Nat.lt_irrefl, if_false] at HA
          have ok := V.1.2.1.1 c
          obtain ⟨I3, b1, b2, b3⟩ := c_pass (t := t) (u := u) (J := J) (law := tL (sTo S) c) (hold := tH (sTo S)) HA ok (T.2.2.2.2.1 c (by omega)) T.1 T.2.1
          have HB := (CAt_kp Bt b3 (by omega)).2.2 c (by omega)
          have es := c_isSame (t := t) (u := u) (J := J) b2 HB
          have en : (nt (tL (sTo S) c) (tH (sTo S)) (((sNw S).1 c).1, ((sNw S).1 c).2)) = ahd S c 1 := rfl
          rw [en] at es b2
          obtain ⟨j1, j2, j3, j4, j5, j6, j7⟩ := Bt.1
          obtain ⟨i1, i2⟩ := j7 c (by omega)
          have H0 := HA.1.1
          have cb := nbS_lt S c (by omega)
          have A3 : CAt I3 24 (fun d => if d < c + 1 then nt (tL (sTo S) d) (tH (sTo S)) ((sNw S).1 d) else (sNw S).1 d, (sNw S).2 + 1) := by
            refine ⟨A.1, by rw [b3 24 (by omega)]; exact A.2.1, fun d hd => ?_⟩
            by_cases q : d = c
            · subst q
              simp only [Nat.lt_succ_self, if_true]
              exact b2
            · have hx := HAt_kp (A.2.2 d hd) b3 (by omega)
              by_cases y : d < c
              · simp only [if_pos y] at hx
                simp only [if_pos (show d < c + 1 by omega)]
                exact hx
              · simp only [if_neg y] at hx
                simp only [if_neg (show ¬ d < c + 1 by omega)]
                exact hx
          obtain ⟨I4, c1, c2⟩ := ih (c + 1) I3 (by omega) (fun a ha => by rw [b3 a (by omega)]; exact F a ha) (CAt_kp Bt b3 (by omega)) (PAt_kp P b3 (by omega)) A3
          refine ⟨I4, ?_, c2⟩
          rw [← c1]
          have enb : nbS S (c + 1) = if stB S c then nbS S c else nbS S c ||| 2 ^ c := rfl
          have e24 : 24 + 2 + 2 * c = 26 + 2 * c := rfl
          rw [e24] at b1 es H0
          rw [e150_64]
          simp (disch := omega) only [↓reduceIte, lt_TI, lt_FI, le_TI, le_FI, eq_TI, eq_FI, lt_TN, lt_FN, le_TN, le_FN, eq_TN, eq_FN, and_self, and_true, true_and, and_false, false_and, or_true, true_or, or_false, false_or, not_true_eq_false, not_false_eq_true, wr_of, uI_at, uC_at, q_bi_s, q_bl_s, q_br_s, q_bv_s, Int.toNat_natCast, tn_1, tn_m, tn_n, Int.toNat_zero, Int.toNat_one, k18, k9, w1, w2, Nat.add_zero, l1, rn, H0, kl, k7, b1]
          rw [e150_103]
          simp (disch := omega) only [↓reduceIte, lt_TI, lt_FI, le_TI, le_FI, eq_TI, eq_FI, lt_TN, lt_FN, le_TN, le_FN, eq_TN, eq_FN, and_self, and_true, true_and, and_false, false_and, or_true, true_or, or_false, false_or, not_true_eq_false, not_false_eq_true, wr_of, uI_at, uC_at, q_bi_s, q_bl_s, q_br_s, q_bv_s, Int.toNat_natCast, tn_1, tn_m, tn_n, Int.toNat_zero, Int.toNat_one, j1, j4, j5, j6, i2, rn, H0, es]
          rw [e150_121, enb]
          unfold stB
          by_cases q : ahd S c 1 = (sNw S).1 c
          · rw [if_pos (show ((ahd S c 1).1, (ahd S c 1).2) = (((sNw S).1 c).1, ((sNw S).1 c).2) from q), if_pos (decide_eq_true q)]
            simp (disch := omega) only [↓reduceIte, lt_TI, lt_FI, le_TI, le_FI, eq_TI, eq_FI, lt_TN, lt_FN, le_TN, le_FN, eq_TN, eq_FN, and_self, and_true, true_and, and_false, false_and, or_true, true_or, or_false, false_or, not_true_eq_false, not_false_eq_true, wr_of, uI_at, uC_at, q_bi_s, q_bl_s, q_br_s, q_bv_s, Int.toNat_natCast, tn_1, tn_m, tn_n, Int.toNat_zero, Int.toNat_one]
            rfl
          · rw [if_neg (show ¬ ((ahd S c 1).1, (ahd S c 1).2) = (((sNw S).1 c).1, ((sNw S).1 c).2) from q), if_neg (show ¬ decide (ahd S c 1 = (sNw S).1 c) = true from fun z => q (of_decide_eq_true z))]
            have p16 : 2 ^ c < 16 := Nat.lt_of_le_of_lt (Nat.pow_le_pow_right (by omega) (show c ≤ 3 by omega)) (by omega)
            simp (disch := omega) only [↓reduceIte, lt_TI, lt_FI, le_TI, le_FI, eq_TI, eq_FI, lt_TN, lt_FN, le_TN, le_FN, eq_TN, eq_FN, and_self, and_true, true_and, and_false, false_and, or_true, true_or, or_false, false_or, not_true_eq_false, not_false_eq_true, wr_of, uI_at, uC_at, q_bi_s, q_bl_s, q_br_s, q_bv_s, Int.toNat_natCast, tn_1, tn_m, tn_n, Int.toNat_zero, Int.toNat_one, b_shl c (by omega), b_or _ cb _ p16]
            rfl
      obtain ⟨I3, b1, b2, b3, b4⟩ := loop (tC (sTo S)) 0 (uI I1 24 1 (((sNw S).2 : Int) + 1)) (by omega) (fun a ha => by rw [K2 a (by omega), p5 a (by omega)]) (CAt_kp p3 K2 (by omega)) (PAt_kp p2 K2 (by omega)) ⟨A1.1, by simp (disch := omega) only [↓reduceIte, lt_TI, lt_FI, le_TI, le_FI, eq_TI, eq_FI, lt_TN, lt_FN, le_TN, le_FN, eq_TN, eq_FN, and_self, and_true, true_and, and_false, false_and, or_true, true_or, or_false, false_or, not_true_eq_false, not_false_eq_true, wr_of, uI_at, uC_at, q_bi_s, q_bl_s, q_br_s, q_bv_s, Int.toNat_natCast, tn_1, tn_m, tn_n, Int.toNat_zero, Int.toNat_one] <;> rfl, fun d hd => by
        simp only [Nat.not_lt_zero, if_false]
        exact HAt_kp (A1.2.2 d hd) K2 (by omega)⟩
      have l24 : I1 24 1 = ((sNw S).2 : Int) := A1.2.1
      rw [Int.natCast_zero] at b1
      simp (disch := omega) only [↓reduceIte, lt_TI, lt_FI, le_TI, le_FI, eq_TI, eq_FI, lt_TN, lt_FN, le_TN, le_FN, eq_TN, eq_FN, and_self, and_true, true_and, and_false, false_and, or_true, true_or, or_false, false_or, not_true_eq_false, not_false_eq_true, wr_of, uI_at, uC_at, q_bi_s, q_bl_s, q_br_s, q_bv_s, Int.toNat_natCast, tn_1, tn_m, tn_n, Int.toNat_zero, Int.toNat_one, r1, e150_0, e150_4, n1, e160_0, uI_uI, e150_30, p1, e150_46, l24]
      exact ⟨I3, b1, CInv_act (I1 := I1) V (SOk_act V.1 ⟨T, hc⟩ (SnOk_nt V.1 T hn)) b2 b4 b3, fun a ha => by rw [b2 a (by omega), uI_o1 (by omega)]⟩
    · simp only [if_neg hn]
      simp (disch := omega) only [↓reduceIte, lt_TI, lt_FI, le_TI, le_FI, eq_TI, eq_FI, lt_TN, lt_FN, le_TN, le_FN, eq_TN, eq_FN, and_self, and_true, true_and, and_false, false_and, or_true, true_or, or_false, false_or, not_true_eq_false, not_false_eq_true, wr_of, uI_at, uC_at, q_bi_s, q_bl_s, q_br_s, q_bv_s, Int.toNat_natCast, tn_1, tn_m, tn_n, Int.toNat_zero, Int.toNat_one, r1, e150_0, e150_4, n1, e160_0, uI_uI, e150_30]
      exact ⟨_, rfl, CInv_trS V (by decide), KC_q QC_rf⟩
  · simp only [if_neg hc]
    have r1 := r_st_no (u := u) (J := J) k18 e9 (by omega)
    simp (disch := omega) only [↓reduceIte, lt_TI, lt_FI, le_TI, le_FI, eq_TI, eq_FI, lt_TN, lt_FN, le_TN, le_FN, eq_TN, eq_FN, and_self, and_true, true_and, and_false, false_and, or_true, true_or, or_false, false_or, not_true_eq_false, not_false_eq_true, wr_of, uI_at, uC_at, q_bi_s, q_bl_s, q_br_s, q_bv_s, Int.toNat_natCast, tn_1, tn_m, tn_n, Int.toNat_zero, Int.toNat_one, r1, e150_0, e150_4]
    exact ⟨_, rfl, CInv_trS V (by decide), KC_q QC_rf⟩
theorem CInv_back {n : Sn} {und img : List Sn} {I' : Nat → Nat → Int} (V : CInv S t u I) (hS : SOk (sT S, (0, sF S, sP S), sTo S, n, und, img)) (K : ∀ a, (a < 24 ∨ 226 < a) → I' a = uI I 1 10 0 a) (A : CAt I' 24 n) (P : PAt I' und img) : CInv (sT S, (0, sF S, sP S), sTo S, n, und, img) t u I' := by
  obtain ⟨v1, v2, v3, v4, v5, v6, v7, v8, v9, v10, v11⟩ := V
  have K0 : Kp 1 1 I (uI I 1 10 0) := Kp_uI Kp_rf (by omega) (by omega)
  have K1 : Kp 24 226 (uI I 1 10 0) I' := K
  refine ⟨hS, v2, ?_, ?_, fun z => absurd z (show ¬ (0 : Int) = 4 by decide), ?_, fun i hi => ?_, TAt_kp (TAt_kp v8 K0 ?_) K1 ?_, A, P, fun z => GAt_kp (GAt_kp (v11 z) K0 (by omega)) K1 (by omega)⟩
  · rw [K 1 (by omega)]; exact if_pos ⟨rfl, rfl⟩
  · rw [K 1 (by omega), uI_ne (Or.inr (by omega))]; exact v4
  · rw [K 3 (by omega), K0 3 (by omega)]; exact v6
  · rw [K 4 (by omega), K0 4 (by omega)]; exact v7 i hi
  · rcases v2 with ⟨z, -⟩ | ⟨z, -⟩ <;> subst z <;> omega
  · rcases v2 with ⟨z, -⟩ | ⟨z, -⟩ <;> subst z <;> omega
theorem gS_mem {l : List Sn} {i : Nat} (h : i < l.length) : l.getD i S0 ∈ l := by
  rw [List.getD_eq_getElem?_getD, List.getElem?_eq_getElem h]; exact List.getElem_mem h
theorem SOk_1 {S : St} (h : SOk S) (q : sUn S ≠ [] ∨ sIm S ≠ []) : TOk (sTo S) ∧ 0 < tC (sTo S) := by
  rcases h.1 with z | z
  · exact z
  · exact absurd z.2.2 (fun w => q.elim (fun y => y w.1) (fun y => y w.2))
theorem k_undo (V : CInv S t u I) : ∃ I', q_E (154, 0, [vr 1], []) (qk t u I J) = some (vi (ac_undo S).1, qk t u I' J) ∧ CInv (ac_undo S).2 t u I' ∧ KC I I' := by
  obtain ⟨V2, e9, k18⟩ := CInv_qi V 0
  obtain ⟨o, p1, p2, p3, -⟩ := V.2.2.2.2.2.2.2.2.2.1
  have hl := V.1.2.2.2.2.1
  unfold ac_undo
  by_cases h : (sUn S).length = 0
  · simp only [if_pos h]
    simp (disch := omega) only [↓reduceIte, lt_TI, lt_FI, le_TI, le_FI, eq_TI, eq_FI, lt_TN, lt_FN, le_TN, le_FN, eq_TN, eq_FN, and_self, and_true, true_and, and_false, false_and, or_true, true_or, or_false, false_or, not_true_eq_false, not_false_eq_true, wr_of, uI_at, uC_at, q_bi_s, q_bl_s, q_br_s, q_bv_s, Int.toNat_natCast, tn_1, tn_m, tn_n, Int.toNat_zero, Int.toNat_one, e154_0, p3, e160_0, e154_21]
    exact ⟨_, rfl, CInv_trS V (by decide), KC_q QC_rf⟩
  · simp only [if_neg h]
    obtain ⟨I1, a1, a2, a3, a4⟩ := c_returnTo (t := t) (u := u) (J := J) V2.2.2.2.2.1 (by omega) CId_24 (by omega)
    simp (disch := omega) only [↓reduceIte, lt_TI, lt_FI, le_TI, le_FI, eq_TI, eq_FI, lt_TN, lt_FN, le_TN, le_FN, eq_TN, eq_FN, and_self, and_true, true_and, and_false, false_and, or_true, true_or, or_false, false_or, not_true_eq_false, not_false_eq_true, wr_of, uI_at, uC_at, q_bi_s, q_bl_s, q_br_s, q_bv_s, Int.toNat_natCast, tn_1, tn_m, tn_n, Int.toNat_zero, Int.toNat_one, e154_0, p3, e160_0, e154_21, a1, e154_37]
    have hT := SOk_1 V.1 (Or.inl (fun z => h (by rw [z]; rfl)))
    obtain ⟨h1, h2, h3, h4, h5, h6, h7, h8⟩ := V.1
    exact ⟨I1, rfl, CInv_back V ⟨Or.inl hT, h3 _ (gS_mem (by omega)), fun s hs => h3 s ((List.dropLast_subset _ hs)), h4, by show (sUn S).dropLast.length ≤ 16; rw [List.length_dropLast]; omega, h6, h7, h8⟩ (fun a ha => a4 a (by omega) (by omega)) a3 a2, fun a ha => by rw [a4 a (by omega) (by omega), uI_o1 (by omega)]⟩
theorem k_image (V : CInv S t u I) : ∃ I', q_E (155, 0, [vr 1], []) (qk t u I J) = some (vi (ac_image S).1, qk t u I' J) ∧ CInv (ac_image S).2 t u I' ∧ KC I I' := by
  obtain ⟨V2, e9, k18⟩ := CInv_qi V 0
  obtain ⟨o, p1, p2, p3, p4, -⟩ := V.2.2.2.2.2.2.2.2.2.1
  unfold ac_image
  by_cases hc : 0 < tC (sTo S)
  · simp only [if_pos hc]
    have r1 := r_st_ok (u := u) (J := J) k18 e9 (by omega)
    have T := SOk_T V.1 hc
    have hl := V.1.2.2.2.2.2.1
    by_cases hn : (sIm S).length < 3
    · simp only [if_pos hn]
      obtain ⟨I1, a1, a2, a3⟩ := c_keepImage (t := t) (u := u) (J := J) V2.2.2.2.2.1 hn V2.2.2.2.1 (by omega)
      simp (disch := omega) only [↓reduceIte, lt_TI, lt_FI, le_TI, le_FI, eq_TI, eq_FI, lt_TN, lt_FN, le_TN, le_FN, eq_TN, eq_FN, and_self, and_true, true_and, and_false, false_and, or_true, true_or, or_false, false_or, not_true_eq_false, not_false_eq_true, wr_of, uI_at, uC_at, q_bi_s, q_bl_s, q_br_s, q_bv_s, Int.toNat_natCast, tn_1, tn_m, tn_n, Int.toNat_zero, Int.toNat_one, r1, e155_0, e155_4, p4, e160_0, uI_uI, e155_28, a1, e155_44]
      obtain ⟨h1, h2, h3, h4, h5, h6, h7, h8⟩ := V.1
      exact ⟨I1, rfl, CInv_back V ⟨Or.inl ⟨T, hc⟩, h2, h3, fun s hs => by
        rcases List.mem_append.mp hs with q | q
        · exact h4 s q
        · rw [List.mem_singleton.mp q]; exact h2, h5, by show (sIm S ++ [sNw S]).length ≤ 3; rw [List.length_append]; simp; omega, h7, h8⟩ (fun a ha => a3 a (by omega)) (CAt_kp V2.2.2.2.1 a3 (by omega)) a2, fun a ha => by rw [a3 a (by omega), uI_o1 (by omega)]⟩
    · simp only [if_neg hn]
      simp (disch := omega) only [↓reduceIte, lt_TI, lt_FI, le_TI, le_FI, eq_TI, eq_FI, lt_TN, lt_FN, le_TN, le_FN, eq_TN, eq_FN, and_self, and_true, true_and, and_false, false_and, or_true, true_or, or_false, false_or, not_true_eq_false, not_false_eq_true, wr_of, uI_at, uC_at, q_bi_s, q_bl_s, q_br_s, q_bv_s, Int.toNat_natCast, tn_1, tn_m, tn_n, Int.toNat_zero, Int.toNat_one, r1, e155_0, e155_4, p4, e160_0, uI_uI, e155_28]
      exact ⟨_, rfl, CInv_trS V (by decide), KC_q QC_rf⟩
  · simp only [if_neg hc]
    have r1 := r_st_no (u := u) (J := J) k18 e9 (by omega)
    simp (disch := omega) only [↓reduceIte, lt_TI, lt_FI, le_TI, le_FI, eq_TI, eq_FI, lt_TN, lt_FN, le_TN, le_FN, eq_TN, eq_FN, and_self, and_true, true_and, and_false, false_and, or_true, true_or, or_false, false_or, not_true_eq_false, not_false_eq_true, wr_of, uI_at, uC_at, q_bi_s, q_bl_s, q_br_s, q_bv_s, Int.toNat_natCast, tn_1, tn_m, tn_n, Int.toNat_zero, Int.toNat_one, r1, e155_0, e155_4]
    exact ⟨_, rfl, CInv_trS V (by decide), KC_q QC_rf⟩
theorem k_back (V : CInv S t u I) (i : Int) : ∃ I', q_E (156, 0, [vr 1, vi i], []) (qk t u I J) = some (vi (ac_back S i).1, qk t u I' J) ∧ CInv (ac_back S i).2 t u I' ∧ KC I I' := by
  obtain ⟨V2, e9, k18⟩ := CInv_qi V 0
  obtain ⟨o, p1, p2, p3, p4, -⟩ := V.2.2.2.2.2.2.2.2.2.1
  unfold ac_back
  by_cases h : 0 ≤ i ∧ i < ((sIm S).length : Int)
  · simp only [if_pos h]
    obtain ⟨h1, h2⟩ := h
    obtain ⟨i, rfl⟩ : ∃ o : Nat, i = (o : Int) := ⟨i.toNat, by omega⟩
    simp only [Int.toNat_natCast]
    have hi : i < (sIm S).length := by omega
    obtain ⟨I1, a1, a2, a3, a4⟩ := c_returnToImage (t := t) (u := u) (J := J) V2.2.2.2.2.1 hi CId_24 (by omega)
    simp (disch := omega) only [↓reduceIte, lt_TI, lt_FI, le_TI, le_FI, eq_TI, eq_FI, lt_TN, lt_FN, le_TN, le_FN, eq_TN, eq_FN, and_self, and_true, true_and, and_false, false_and, or_true, true_or, or_false, false_or, not_true_eq_false, not_false_eq_true, wr_of, uI_at, uC_at, q_bi_s, q_bl_s, q_br_s, q_bv_s, Int.toNat_natCast, tn_1, tn_m, tn_n, Int.toNat_zero, Int.toNat_one, e156_0, p4, e160_0, e156_25, a1, e156_42]
    have hT := SOk_1 V.1 (Or.inr (fun z => by rw [z] at hi; exact absurd hi (Nat.not_lt_zero i)))
    obtain ⟨h1, h2, h3, h4, h5, h6, h7, h8⟩ := V.1
    exact ⟨I1, rfl, CInv_back V ⟨Or.inl hT, h4 _ (gS_mem hi), fun s hs => (by cases hs), h4, Nat.zero_le _, h6, h7, h8⟩ (fun a ha => a4 a (by omega) (by omega)) a3 a2, fun a ha => by rw [a4 a (by omega) (by omega), uI_o1 (by omega)]⟩
  · simp only [if_neg h]
    rcases Classical.em (i < 0) with z | z <;> simp (disch := omega) only [↓reduceIte, lt_TI, lt_FI, le_TI, le_FI, eq_TI, eq_FI, lt_TN, lt_FN, le_TN, le_FN, eq_TN, eq_FN, and_self, and_true, true_and, and_false, false_and, or_true, true_or, or_false, false_or, not_true_eq_false, not_false_eq_true, wr_of, uI_at, uC_at, q_bi_s, q_bl_s, q_br_s, q_bv_s, Int.toNat_natCast, tn_1, tn_m, tn_n, Int.toNat_zero, Int.toNat_one, e156_0, p4, e160_0, e156_25] <;> exact ⟨_, rfl, CInv_trS V (by decide), KC_q QC_rf⟩
def TpA (I : Nat → Nat → Int) (tp : List Nat) : Prop := I 3 1 = (tp.length : Int) ∧ ∀ i, i < tp.length → I 4 i = Int.bmod (tp.getD i 0 : Int) 256
theorem c_app1 {tp : List Nat} (h : TpA I tp) {b : Nat} : TpA (uI (uI I 4 tp.length (Int.bmod (b : Int) 256)) 3 1 ((tp.length : Int) + 1)) (tp ++ [b]) := by
  refine ⟨by rw [List.length_append]; simp (disch := omega) only [↓reduceIte, lt_TI, lt_FI, le_TI, le_FI, eq_TI, eq_FI, lt_TN, lt_FN, le_TN, le_FN, eq_TN, eq_FN, and_self, and_true, true_and, and_false, false_and, or_true, true_or, or_false, false_or, not_true_eq_false, not_false_eq_true, wr_of, uI_at, uC_at, q_bi_s, q_bl_s, q_br_s, q_bv_s, Int.toNat_natCast, tn_1, tn_m, tn_n, Int.toNat_zero, Int.toNat_one] <;> rfl, fun i hi => ?_⟩
  rw [List.length_append] at hi
  have hi : i < tp.length + 1 := hi
  rw [gD_app]
  by_cases q : i < tp.length
  · rw [if_pos q, uI_ne (Or.inl (by omega)), uI_ne (Or.inr (by omega))]; exact h.2 i q
  · have e : i = tp.length := by omega
    subst e
    rw [if_neg q, Nat.sub_self]
    simp (disch := omega) only [↓reduceIte, lt_TI, lt_FI, le_TI, le_FI, eq_TI, eq_FI, lt_TN, lt_FN, le_TN, le_FN, eq_TN, eq_FN, and_self, and_true, true_and, and_false, false_and, or_true, true_or, or_false, false_or, not_true_eq_false, not_false_eq_true, wr_of, uI_at, uC_at, q_bi_s, q_bl_s, q_br_s, q_bv_s, Int.toNat_natCast, tn_1, tn_m, tn_n, Int.toNat_zero, Int.toNat_one, List.getD_cons_zero]
theorem c_append {tp : List Nat} (h : TpA I tp) (hl : tp.length + 4 ≤ 900) (a : Int) : ∃ I', q_E (84, 0, [vr 3, vi a, vu], []) (qk t u I J) = some (vu, qk t u I' J) ∧ TpA I' (tp ++ by4 a) ∧ Kp 3 4 I I' := by
  have st : ∀ (tp : List Nat) (I1 : Nat → Nat → Int) (sh : Int), 0 ≤ sh → sh ≤ 24 → TpA I1 tp → tp.length < 900 → ∃ I', q_E (84, 3, [vr 3, vi a, vi sh], []) (qk t u I1 J) = q_E (84, 3, [vr 3, vi a, vi (sh + -8)], []) (qk t u I' J) ∧ TpA I' (tp ++ [byt a sh]) ∧ Kp 3 4 I1 I' := by
    intro tp I1 sh h1 h2 A hl
    have a1 := A.1
    rw [e84_3]
    simp (disch := omega) only [↓reduceIte, lt_TI, lt_FI, le_TI, le_FI, eq_TI, eq_FI, lt_TN, lt_FN, le_TN, le_FN, eq_TN, eq_FN, and_self, and_true, true_and, and_false, false_and, or_true, true_or, or_false, false_or, not_true_eq_false, not_false_eq_true, wr_of, uI_at, uC_at, q_bi_s, q_bl_s, q_br_s, q_bv_s, Int.toNat_natCast, tn_1, tn_m, tn_n, Int.toNat_zero, Int.toNat_one, a1, byt_m a sh]
    exact ⟨_, rfl, c_app1 A, Kp_uI (Kp_uI Kp_rf (by omega) (by omega)) (by omega) (by omega)⟩
  obtain ⟨I1, a1, a2, a3⟩ := st tp I 24 (by omega) (by omega) h (by omega)
  obtain ⟨I2, b1, b2, b3⟩ := st (tp ++ [byt a 24]) I1 16 (by omega) (by omega) a2 (by simp; omega)
  obtain ⟨I3, c1, c2, c3⟩ := st (tp ++ [byt a 24] ++ [byt a 16]) I2 8 (by omega) (by omega) b2 (by simp; omega)
  obtain ⟨I4, d1, d2, d3⟩ := st (tp ++ [byt a 24] ++ [byt a 16] ++ [byt a 8]) I3 0 (by omega) (by omega) c2 (by simp; omega)
  refine ⟨I4, ?_, by rw [show tp ++ by4 a = tp ++ [byt a 24] ++ [byt a 16] ++ [byt a 8] ++ [byt a 0] by unfold by4; simp]; exact d2, Kp_tr a3 (Kp_tr b3 (Kp_tr c3 d3 (Nat.le_refl _) (Nat.le_refl _) (Nat.le_refl _) (Nat.le_refl _)) (Nat.le_refl _) (Nat.le_refl _) (Nat.le_refl _) (Nat.le_refl _)) (Nat.le_refl _) (Nat.le_refl _) (Nat.le_refl _) (Nat.le_refl _)⟩
  rw [e84_0, a1, show ((24 : Int) + -8) = 16 by decide, b1, show ((16 : Int) + -8) = 8 by decide, c1, show ((8 : Int) + -8) = 0 by decide, d1, show ((0 : Int) + -8) = -8 by decide, e84_3]
  simp (disch := omega) only [↓reduceIte, lt_TI, lt_FI, le_TI, le_FI, eq_TI, eq_FI, lt_TN, lt_FN, le_TN, le_FN, eq_TN, eq_FN, and_self, and_true, true_and, and_false, false_and, or_true, true_or, or_false, false_or, not_true_eq_false, not_false_eq_true, wr_of, uI_at, uC_at, q_bi_s, q_bl_s, q_br_s, q_bv_s, Int.toNat_natCast, tn_1, tn_m, tn_n, Int.toNat_zero, Int.toNat_one]
theorem k_feed (V : CInv S t u I) (a b c d e : Int) : ∃ I', q_E (102, 0, [vr 1, vi a, vi b, vi c, vi d, vi e], []) (qk t u I J) = some (vi (ac_feed S a b c d e).1, qk t u I' J) ∧ CInv (ac_feed S a b c d e).2 t u I' ∧ KC I I' := by
  have v6 := V.2.2.2.2.2.1
  have hl := V.1.2.2.2.2.2.2.1
  unfold ac_feed
  by_cases h : 900 < (sT S).length + 20
  · simp only [if_pos h]
    simp (disch := omega) only [↓reduceIte, lt_TI, lt_FI, le_TI, le_FI, eq_TI, eq_FI, lt_TN, lt_FN, le_TN, le_FN, eq_TN, eq_FN, and_self, and_true, true_and, and_false, false_and, or_true, true_or, or_false, false_or, not_true_eq_false, not_false_eq_true, wr_of, uI_at, uC_at, q_bi_s, q_bl_s, q_br_s, q_bv_s, Int.toNat_natCast, tn_1, tn_m, tn_n, Int.toNat_zero, Int.toNat_one, e102_0, v6]
    exact ⟨I, rfl, V, fun _ _ => rfl⟩
  · simp only [if_neg h]
    have l4 : ∀ x, (by4 x).length = 4 := fun x => rfl
    obtain ⟨I1, a1, a2, a3⟩ := c_append (t := t) (u := u) (J := J) (tp := sT S) ⟨v6, V.2.2.2.2.2.2.1⟩ (by omega) a
    obtain ⟨I2, b1, b2, b3⟩ := c_append (t := t) (u := u) (J := J) a2 (by rw [List.length_append, l4]; omega) b
    obtain ⟨I3, c1, c2, c3⟩ := c_append (t := t) (u := u) (J := J) b2 (by rw [List.length_append, List.length_append, l4, l4]; omega) c
    obtain ⟨I4, d1, d2, d3⟩ := c_append (t := t) (u := u) (J := J) c2 (by rw [List.length_append, List.length_append, List.length_append, l4, l4, l4]; omega) d
    obtain ⟨I5, f1, f2, f3⟩ := c_append (t := t) (u := u) (J := J) d2 (by rw [List.length_append, List.length_append, List.length_append, List.length_append, l4, l4, l4, l4]; omega) e
    have K : Kp 3 4 I I5 := Kp_tr a3 (Kp_tr b3 (Kp_tr c3 (Kp_tr d3 f3 (Nat.le_refl _) (Nat.le_refl _) (Nat.le_refl _) (Nat.le_refl _)) (Nat.le_refl _) (Nat.le_refl _) (Nat.le_refl _) (Nat.le_refl _)) (Nat.le_refl _) (Nat.le_refl _) (Nat.le_refl _) (Nat.le_refl _)) (Nat.le_refl _) (Nat.le_refl _) (Nat.le_refl _) (Nat.le_refl _)
    have fl := f2.1
    rw [List.length_append, List.length_append, List.length_append, List.length_append, List.length_append, l4, l4, l4, l4, l4] at fl
    simp (disch := omega) only [↓reduceIte, lt_TI, lt_FI, le_TI, le_FI, eq_TI, eq_FI, lt_TN, lt_FN, le_TN, le_FN, eq_TN, eq_FN, and_self, and_true, true_and, and_false, false_and, or_true, true_or, or_false, false_or, not_true_eq_false, not_false_eq_true, wr_of, uI_at, uC_at, q_bi_s, q_bl_s, q_br_s, q_bv_s, Int.toNat_natCast, tn_1, tn_m, tn_n, Int.toNat_zero, Int.toNat_one, e102_0, v6, a1, e102_26, b1, e102_34, c1, e102_42, d1, e102_51, f1, e102_60, fl]
    obtain ⟨v1, v2, v3, v4, v5, v6, v7, v8, v9, v10, v11⟩ := V
    obtain ⟨h1, h2, h3, h4, h5, h6, h7, h8⟩ := v1
    refine ⟨I5, rfl, ⟨⟨h1, h2, h3, h4, h5, h6, ?_, fun x hx => ?_⟩, v2, by rw [K 1 (by omega)]; exact v3, by rw [K 1 (by omega)]; exact v4, fun z => by rw [K 1 (by omega)]; exact v5 z, f2.1, f2.2, TAt_kp v8 K ?_, CAt_kp v9 K (by omega), PAt_kp v10 K (by omega), fun z => GAt_kp (v11 z) K (by omega)⟩, KC_kp K (by omega)⟩
    · show (sT S ++ by4 a ++ by4 b ++ by4 c ++ by4 d ++ by4 e).length ≤ 900
      rw [List.length_append, List.length_append, List.length_append, List.length_append, List.length_append, l4, l4, l4, l4, l4]; omega
    · have hx : x ∈ sT S ++ by4 a ++ by4 b ++ by4 c ++ by4 d ++ by4 e := hx
      simp only [List.mem_append] at hx
      rcases hx with ((((q | q) | q) | q) | q) | q
      · exact h8 x q
      all_goals exact by4_lt _ x q
    · rcases v2 with ⟨z, -⟩ | ⟨z, -⟩ <;> subst z <;> omega
end

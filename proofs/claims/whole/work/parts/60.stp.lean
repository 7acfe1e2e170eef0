/-! store -/
section
variable {t u : Nat} {I J : Nat → Nat → Int} {S : St}
theorem k_store (V : CInv S t u I) (n : Int) : ∃ t' u' I', q_E (103, 0, [vr 1, vi n], []) (qk t u I J) = some (vi (ac_store S n).1, qk t' u' I' J) ∧ CInv (ac_store S n).2 t' u' I' ∧ KC I I' := by
  have v6 := V.2.2.2.2.2.1
  have v7 := V.2.2.2.2.2.2.1
  have hl := V.1.2.2.2.2.2.2.1
  have hb := V.1.2.2.2.2.2.2.2
  have hv2 := V.2.1
  unfold ac_store
  by_cases h : 0 ≤ n ∧ n ≤ ((sT S).length : Int)
  · simp only [if_pos h]
    obtain ⟨h1, h2⟩ := h
    obtain ⟨n, rfl⟩ : ∃ m : Nat, n = (m : Int) := ⟨n.toNat, by omega⟩
    simp only [Int.toNat_natCast]
    have hu : TId u := by
      rcases hv2 with ⟨-, z⟩ | ⟨-, z⟩
      · subst z; exact TId_248
      · subst z; exact TId_7
    have ht : t = 7 ∨ t = 248 := hv2.elim (fun z => Or.inl z.1) (fun z => Or.inr z.1)
    have htu : (t + 16 < u ∨ u + 16 < t) ∧ (u = 7 ∨ u = 248) := by omega
    have K0 : ∀ a, a ≠ 1 → uI I 1 10 0 a = I a := fun a h => uI_o1 h
    obtain ⟨I2, R, F⟩ := c_read (t := t) (u := u) (J := J) (I := uI I 1 10 0) (b := fun i => (sT S).getD i 0) (n := n) hu (by rw [uI_ne (Or.inl (by omega)), v6]; omega) (by omega) (fun i hi => ⟨hb _ (gD_mem (by omega)), by rw [uI_o1 (by omega)]; exact v7 i (by omega)⟩)
    have k18 : kd u = 18 := hu.1
    cases hr : rRead (fun i => (sT S).getD i 0) n (fun _ => []) with
    | inr f =>
      rw [hr] at R
      obtain ⟨r1, r2, r3⟩ := R
      simp only
      simp (disch := omega) only [↓reduceIte, lt_TI, lt_FI, le_TI, le_FI, eq_TI, eq_FI, lt_TN, lt_FN, le_TN, le_FN, eq_TN, eq_FN, and_self, and_true, true_and, and_false, false_and, or_true, true_or, or_false, false_or, not_true_eq_false, not_false_eq_true, wr_of, uI_at, uC_at, q_bi_s, q_bl_s, q_br_s, q_bv_s, Int.toNat_natCast, tn_1, tn_m, tn_n, Int.toNat_zero, Int.toNat_one, e103_0, v6, e160_0, e103_25, r1, e103_39, k20, e103_42, r2, e103_53, e103_61, e103_78]
      have E : ∀ a, a ≠ 1 → a ≠ 3 → uI (uI (uI (uI I2 1 11 (f.1 : Int)) 1 12 (f.2 : Int)) 3 1 0) 1 10 4 a = I2 a := fun a h1 h2 => by rw [uI_o1 h1, uI_o1 h2, uI_o1 h1, uI_o1 h1]
      have E2 : ∀ a, a ≠ 1 → a ≠ 3 → (a < 2 ∨ a = 4 ∨ 6 < a) → (a < u ∨ u + 16 < a) → uI (uI (uI (uI I2 1 11 (f.1 : Int)) 1 12 (f.2 : Int)) 3 1 0) 1 10 4 a = I a := fun a h1 h2 h3 h4 => by rw [E a h1 h2, F.1 a h2 h3 h4, uI_o1 h1]
      obtain ⟨v1, v2, v3, v4, v5, v6, v7, v8, v9, v10, v11⟩ := V
      obtain ⟨s1, s2, s3, s4, s5, s6, s7, s8⟩ := v1
      have Kw : Kp 24 231 I (uI (uI (uI (uI I2 1 11 (f.1 : Int)) 1 12 (f.2 : Int)) 3 1 0) 1 10 4) → False → True := fun _ _ => trivial
      refine ⟨t, u, _, rfl, ⟨⟨s1, s2, s3, s4, s5, s6, Nat.zero_le _, fun b hb => (by cases hb)⟩, v2, by simp (disch := omega) only [↓reduceIte, lt_TI, lt_FI, le_TI, le_FI, eq_TI, eq_FI, lt_TN, lt_FN, le_TN, le_FN, eq_TN, eq_FN, and_self, and_true, true_and, and_false, false_and, or_true, true_or, or_false, false_or, not_true_eq_false, not_false_eq_true, wr_of, uI_at, uC_at, q_bi_s, q_bl_s, q_br_s, q_bv_s, Int.toNat_natCast, tn_1, tn_m, tn_n, Int.toNat_zero, Int.toNat_one], by simp (disch := omega) only [↓reduceIte, lt_TI, lt_FI, le_TI, le_FI, eq_TI, eq_FI, lt_TN, lt_FN, le_TN, le_FN, eq_TN, eq_FN, and_self, and_true, true_and, and_false, false_and, or_true, true_or, or_false, false_or, not_true_eq_false, not_false_eq_true, wr_of, uI_at, uC_at, q_bi_s, q_bl_s, q_br_s, q_bv_s, Int.toNat_natCast, tn_1, tn_m, tn_n, Int.toNat_zero, Int.toNat_one], fun _ => by simp (disch := omega) only [↓reduceIte, lt_TI, lt_FI, le_TI, le_FI, eq_TI, eq_FI, lt_TN, lt_FN, le_TN, le_FN, eq_TN, eq_FN, and_self, and_true, true_and, and_false, false_and, or_true, true_or, or_false, false_or, not_true_eq_false, not_false_eq_true, wr_of, uI_at, uC_at, q_bi_s, q_bl_s, q_br_s, q_bv_s, Int.toNat_natCast, tn_1, tn_m, tn_n, Int.toNat_zero, Int.toNat_one], by simp (disch := omega) only [↓reduceIte, lt_TI, lt_FI, le_TI, le_FI, eq_TI, eq_FI, lt_TN, lt_FN, le_TN, le_FN, eq_TN, eq_FN, and_self, and_true, true_and, and_false, false_and, or_true, true_or, or_false, false_or, not_true_eq_false, not_false_eq_true, wr_of, uI_at, uC_at, q_bi_s, q_bl_s, q_br_s, q_bv_s, Int.toNat_natCast, tn_1, tn_m, tn_n, Int.toNat_zero, Int.toNat_one] <;> rfl, fun i hi => (by cases hi), TAt_rw v8 (fun a h1 h2 => E2 a (by omega) (by omega) (by omega) (by omega)), CAt_w v9 (fun a h1 h2 => E2 a (by omega) (by omega) (by omega) (by omega)), ?_, fun z => ?_⟩, fun a ha => E2 a (by omega) (by omega) (by omega) (by omega)⟩
      · obtain ⟨o, p1, p2, p3, p4, p5, p6, p7, p8⟩ := v10
        refine ⟨o, p1, by rw [E2 34 (by omega) (by omega) (by omega) (by omega)]; exact p2, by rw [E2 34 (by omega) (by omega) (by omega) (by omega)]; exact p3, by rw [E2 34 (by omega) (by omega) (by omega) (by omega)]; exact p4, p5, p6, fun i hi => ?_, fun i hi => (by
          have hi : i < (sIm S).length := hi
          exact CAt_w (p8 i hi) (fun a h1 h2 => E2 a (by omega) (by omega) (by omega) (by omega)))⟩
        have : (o + i) % 16 < 16 := Nat.mod_lt _ (by omega)
        exact CAt_w (p7 i hi) (fun a h1 h2 => E2 a (by omega) (by omega) (by omega) (by omega))
      · obtain ⟨g1, g2, g3⟩ := v11 z
        exact ⟨by rw [E2 227 (by omega) (by omega) (by omega) (by omega)]; exact g1, fun i hi => by rw [E2 228 (by omega) (by omega) (by omega) (by omega)]; exact g2 i hi, by rw [E2 227 (by omega) (by omega) (by omega) (by omega)]; exact g3⟩
    | inl s =>
      rw [hr] at R
      obtain ⟨r1, r2⟩ := R
      obtain ⟨T1, T2⟩ := rRead_ok hr
      simp only
      generalize hI3 : uI (uI (uI (uI I2 1 11 0) 1 12 (I2 3 2)) 3 1 0) 1 10 0 = I3
      have E : ∀ a, a ≠ 1 → a ≠ 3 → I3 a = I2 a := fun a h1 h2 => by rw [← hI3, uI_o1 h1, uI_o1 h2, uI_o1 h1, uI_o1 h1]
      have E2 : ∀ a, a ≠ 1 → a ≠ 3 → (a < 2 ∨ a = 4 ∨ 6 < a) → (a < u ∨ u + 16 < a) → I3 a = I a := fun a h1 h2 h3 h4 => by rw [E a h1 h2, F.1 a h2 h3 h4, uI_o1 h1]
      have A3 : TAt I3 u s.1 := TAt_rw r2 (fun a h1 h2 => E a (by omega) (by omega))
      have r0 := A3.1.2.2.1
      have kc := A3.1.2.1.1
      obtain ⟨I4, b1, b2, b3⟩ := c_ccopy (t := u) (u := t) (J := J) CId_24 A3.2.1 (by omega)
      have P4 : PAt I4 (sUn S) (sIm S) := by
        obtain ⟨o, p1, p2, p3, p4, p5, p6, p7, p8⟩ := V.2.2.2.2.2.2.2.2.2.1
        have e34 : I4 34 = I 34 := by rw [b3 34 (by omega), E2 34 (by omega) (by omega) (by omega) (by omega)]
        refine ⟨o, p1, by rw [e34]; exact p2, by rw [e34]; exact p3, by rw [e34]; exact p4, p5, p6, fun i hi => ?_, fun i hi => CAt_w (p8 i hi) (fun a h1 h2 => by rw [b3 a (by omega), E2 a (by omega) (by omega) (by omega) (by omega)])⟩
        have : (o + i) % 16 < 16 := Nat.mod_lt _ (by omega)
        exact CAt_w (p7 i hi) (fun a h1 h2 => by rw [b3 a (by omega), E2 a (by omega) (by omega) (by omega) (by omega)])
      obtain ⟨I5, c1, c2, c3⟩ := c_forget (t := u) (u := t) (J := J) P4
      have A5 : TAt I5 u s.1 := TAt_rw A3 (fun a h1 h2 => by rw [c3 a (by omega), b3 a (by omega)])
      obtain ⟨I6, d1, d2, d3⟩ := c_work (t := u) (u := t) (J := J) A5 T1
      have A6 : TAt I6 u s.1 := TAt_rw A5 (fun a h1 h2 => d3 a (by omega))
      have k9 := A6.2.2.2.2.1
      have i3a : I3 1 10 = 0 := by rw [← hI3]; simp (disch := omega) only [↓reduceIte, lt_TI, lt_FI, le_TI, le_FI, eq_TI, eq_FI, lt_TN, lt_FN, le_TN, le_FN, eq_TN, eq_FN, and_self, and_true, true_and, and_false, false_and, or_true, true_or, or_false, false_or, not_true_eq_false, not_false_eq_true, wr_of, uI_at, uC_at, q_bi_s, q_bl_s, q_br_s, q_bv_s, Int.toNat_natCast, tn_1, tn_m, tn_n, Int.toNat_zero, Int.toNat_one]
      have i3b : I3 1 11 = 0 := by rw [← hI3]; simp (disch := omega) only [↓reduceIte, lt_TI, lt_FI, le_TI, le_FI, eq_TI, eq_FI, lt_TN, lt_FN, le_TN, le_FN, eq_TN, eq_FN, and_self, and_true, true_and, and_false, false_and, or_true, true_or, or_false, false_or, not_true_eq_false, not_false_eq_true, wr_of, uI_at, uC_at, q_bi_s, q_bl_s, q_br_s, q_bv_s, Int.toNat_natCast, tn_1, tn_m, tn_n, Int.toNat_zero, Int.toNat_one]
      have i3c : I3 3 1 = 0 := by rw [← hI3]; simp (disch := omega) only [↓reduceIte, lt_TI, lt_FI, le_TI, le_FI, eq_TI, eq_FI, lt_TN, lt_FN, le_TN, le_FN, eq_TN, eq_FN, and_self, and_true, true_and, and_false, false_and, or_true, true_or, or_false, false_or, not_true_eq_false, not_false_eq_true, wr_of, uI_at, uC_at, q_bi_s, q_bl_s, q_br_s, q_bv_s, Int.toNat_natCast, tn_1, tn_m, tn_n, Int.toNat_zero, Int.toNat_one]
      have e6 : ∀ a, (a < 24 ∨ 236 < a) → I6 a = I3 a := fun a h => by rw [d3 a (by omega), c3 a (by omega), b3 a (by omega)]
      simp (disch := omega) only [↓reduceIte, lt_TI, lt_FI, le_TI, le_FI, eq_TI, eq_FI, lt_TN, lt_FN, le_TN, le_FN, eq_TN, eq_FN, and_self, and_true, true_and, and_false, false_and, or_true, true_or, or_false, false_or, not_true_eq_false, not_false_eq_true, wr_of, uI_at, uC_at, q_bi_s, q_bl_s, q_br_s, q_bv_s, Int.toNat_natCast, tn_1, tn_m, tn_n, Int.toNat_zero, Int.toNat_one, e103_0, v6, e160_0, e103_25, r1, e103_39, k20, e103_42, e103_53, e103_61, e103_78, e43_0, sR_43, e103_95, sR_19, hI3, e103_98, k18, r0, b1, e103_112, c1, e103_119, d1, e103_134, k9]
      refine ⟨u, t, I6, rfl, ⟨⟨Or.inl ⟨T1, T2⟩, ⟨fun c => ?_, fun c hc => T1.2.2.2.2.2.2.1 c hc, Nat.zero_le _⟩, fun s hs => (by cases hs), fun s hs => (by cases hs), Nat.zero_le _, Nat.zero_le _, Nat.zero_le _, fun b hb => (by cases hb)⟩, ?_, ?_, ?_, fun z => absurd z (show ¬ (0 : Int) = 4 by decide), ?_, fun i hi => (by cases hi), A6, ?_, ?_, fun _ => d2⟩, fun a ha => ?_⟩
      · obtain ⟨x1, x2, x3, x4⟩ := T1.2.2.2.2.2.1 c
        exact ⟨x1, x2, by show (tB s.1 c).1.sum + (tB s.1 c).2 ≤ 60; omega⟩
      · rcases hv2 with ⟨z1, z2⟩ | ⟨z1, z2⟩
        · exact Or.inr ⟨z2, z1⟩
        · exact Or.inl ⟨z2, z1⟩
      · rw [e6 1 (by omega)]; exact i3a
      · rw [e6 1 (by omega)]; exact i3b
      · rw [e6 3 (by omega)]; exact i3c
      · exact CAt_w b2 (fun a h1 h2 => by rw [d3 a (by omega), c3 a (by omega)])
      · exact PAt_kp c2 d3 (by omega)
      · rw [e6 a (by omega), E2 a (by omega) (by omega) (by omega) (by omega)]
  · simp only [if_neg h]
    refine ⟨t, u, uI I 1 10 2, ?_, CInv_trS V (by decide), KC_q QC_rf⟩
    rcases Classical.em (n < 0) with z | z <;> simp (disch := omega) only [↓reduceIte, lt_TI, lt_FI, le_TI, le_FI, eq_TI, eq_FI, lt_TN, lt_FN, le_TN, le_FN, eq_TN, eq_FN, and_self, and_true, true_and, and_false, false_and, or_true, true_or, or_false, false_or, not_true_eq_false, not_false_eq_true, wr_of, uI_at, uC_at, q_bi_s, q_bl_s, q_br_s, q_bv_s, Int.toNat_natCast, tn_1, tn_m, tn_n, Int.toNat_zero, Int.toNat_one, e103_0, v6, e160_0, e103_25]
end

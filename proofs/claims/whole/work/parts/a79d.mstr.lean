/-! THE MODEL'S STORE -/
section
variable {t u : Nat} {I J : Nat → Nat → Int} {S : St}
theorem m_zero1 {x1 : Int} {I0 : Nat → Nat → Int} : ∀ (r i : Nat) (I1 : Nat → Nat → Int), i + r = 71 → (∀ j, j < i → I1 269 j = 0) → (∀ a, a ≠ 269 → I1 a = I0 a) → ∃ I', q_E (201, 44, [vr 265, vi x1, vi (i : Int)], []) (qk t u I1 J) = q_E (201, 65, [vr 265, vi x1, vi 0], []) (qk t u I' J) ∧ (∀ j, j < 71 → I' 269 j = 0) ∧ ∀ a, a ≠ 269 → I' a = I0 a := by
  intro r
  induction r with
  | zero =>
    intro i I1 hi hz ho
    rw [e201_44, if_neg (by omega)]
    exact ⟨I1, rfl, fun j hj => hz j (by omega), ho⟩
  | succ r ih =>
    intro i I1 hi hz ho
    rw [e201_44, if_pos (by omega), if_pos (by omega), wr_of (by omega) (by omega), Int.toNat_natCast]
    exact ih (i + 1) _ (by omega) (fun j hj => by
      by_cases z : j = i
      · rw [uI_at, if_pos ⟨rfl, z⟩]
      · rw [uI_ne (Or.inr z)]; exact hz j (by omega)) (fun a ha => by rw [uI_o1 ha]; exact ho a ha)
theorem m_zero2 {x1 : Int} {I0 : Nat → Nat → Int} : ∀ (r i : Nat) (I1 : Nat → Nat → Int), i + r = 245 → (∀ j, j < i → I1 271 j = 0) → (∀ a, a ≠ 271 → I1 a = I0 a) → ∃ I', q_E (201, 65, [vr 265, vi x1, vi (i : Int)], []) (qk t u I1 J) = q_bv (q_E (188, 0, [vr 265, vu, vu, vu], []) (qk t u (uI (uI I' 265 3 x1) 265 5 0) J)) (fun M1 => q_E (201, 99, [vr 265, vi x1, vi 245], []) M1) ∧ (∀ j, j < 245 → I' 271 j = 0) ∧ ∀ a, a ≠ 271 → I' a = I0 a := by
  intro r
  induction r with
  | zero =>
    intro i I1 hi hz ho
    rw [e201_65, if_neg (by omega), show (i : Int) = 245 by omega]
    exact ⟨I1, rfl, fun j hj => hz j (by omega), ho⟩
  | succ r ih =>
    intro i I1 hi hz ho
    rw [e201_65, if_pos (by omega), if_pos (by omega), wr_of (by omega) (by omega), Int.toNat_natCast]
    exact ih (i + 1) _ (by omega) (fun j hj => by
      by_cases z : j = i
      · rw [uI_at, if_pos ⟨rfl, z⟩]
      · rw [uI_ne (Or.inr z)]; exact hz j (by omega)) (fun a ha => by rw [uI_o1 ha]; exact ho a ha)
/-- the text's start: all rows are empty -/
theorem m_start {n : Nat} (h : n ≤ (sT S).length) (hl : (sT S).length ≤ 900) (hb : ∀ x ∈ sT S, x < 256) (ht : ∀ i, i < (sT S).length → I 266 i = ((sT S).getD i 0 : Int)) : ∃ I', q_E (201, 44, [vr 265, vi (n : Int), vi 0], []) (qk t u (uI (uI (uI (uI (A0 I) 265 2 0) 265 9 0) 265 13 0) 265 24 0) J) = q_E (201, 99, [vr 265, vi (n : Int), vi 245], []) (qk t u I' J) ∧ RdM I' (fun i => (sT S).getD i 0) n (T0, (fun _ => []), tok (fun i => (sT S).getD i 0) n 0) ∧ (∀ a, a ≠ 265 → a ≠ 267 → a ≠ 269 → a ≠ 271 → I' a = I a) ∧ I' 265 2 = 0 ∧ I' 265 11 = 0 ∧ I' 265 14 = I 265 14 ∧ I' 265 22 = I 265 22 ∧ I' 265 23 = I 265 23 := by
  generalize hI0 : uI (uI (uI (uI (A0 I) 265 2 0) 265 9 0) 265 13 0) 265 24 0 = I0
  have o0 : ∀ a, a ≠ 265 → I0 a = I a := fun a h => by rw [← hI0, uI_o1 h, uI_o1 h, uI_o1 h, uI_o1 h]; unfold A0; rw [uI_o1 h, uI_o1 h]
  have k0 : ∀ j, j = 14 ∨ j = 22 ∨ j = 23 → I0 265 j = I 265 j := fun j hj => by
    rw [← hI0, uI_ne (Or.inr (by omega)), uI_ne (Or.inr (by omega)), uI_ne (Or.inr (by omega)), uI_ne (Or.inr (by omega))]
    unfold A0
    rw [uI_ne (Or.inr (by omega)), uI_ne (Or.inr (by omega))]
  have k2 : I0 265 2 = 0 := by rw [← hI0, uI_ne (Or.inr (by omega)), uI_ne (Or.inr (by omega)), uI_ne (Or.inr (by omega)), uI_at, if_pos ⟨rfl, rfl⟩]
  have k9 : I0 265 9 = 0 := by rw [← hI0, uI_ne (Or.inr (by omega)), uI_ne (Or.inr (by omega)), uI_at, if_pos ⟨rfl, rfl⟩]
  have k13 : I0 265 13 = 0 := by rw [← hI0, uI_ne (Or.inr (by omega)), uI_at, if_pos ⟨rfl, rfl⟩]
  have k24 : I0 265 24 = 0 := by rw [← hI0, uI_at, if_pos ⟨rfl, rfl⟩]
  have k11 : I0 265 11 = 0 := by
    rw [← hI0, uI_ne (Or.inr (by omega)), uI_ne (Or.inr (by omega)), uI_ne (Or.inr (by omega)), uI_ne (Or.inr (by omega))]
    exact if_pos ⟨rfl, rfl⟩
  obtain ⟨I1, x1, x2, x3⟩ := m_zero1 (t := t) (u := u) (J := J) (x1 := (n : Int)) (I0 := I0) 71 0 I0 rfl (fun j hj => by omega) (fun _ _ => rfl)
  obtain ⟨I2, y1, y2, y3⟩ := m_zero2 (t := t) (u := u) (J := J) (x1 := (n : Int)) (I0 := I1) 245 0 I1 rfl (fun j hj => by omega) (fun _ _ => rfl)
  rw [Int.natCast_zero] at x1 y1
  have o2 : ∀ a, a ≠ 265 → a ≠ 269 → a ≠ 271 → I2 a = I a := fun a h1 h2 h3 => by rw [y3 a h3, x3 a h2, o0 a h1]
  have p2 : I2 265 = I0 265 := by rw [y3 265 (by omega), x3 265 (by omega)]
  have z269 : ∀ j, j < 71 → I2 269 j = 0 := fun j hj => by rw [y3 269 (by omega)]; exact x2 j hj
  have B : MB (uI (uI I2 265 3 (n : Int)) 265 5 0) (fun i => (sT S).getD i 0) n := ⟨by simp (disch := omega) only [↓reduceIte, lt_TI, lt_FI, le_TI, le_FI, eq_TI, eq_FI, lt_TN, lt_FN, le_TN, le_FN, eq_TN, eq_FN, and_self, and_true, true_and, and_false, false_and, or_true, true_or, or_false, false_or, not_true_eq_false, not_false_eq_true, wr_of, uI_at, uC_at, q_bi_s, q_bl_s, q_br_s, q_bv_s, Int.toNat_natCast, tn_1, tn_m, tn_n, Int.toNat_zero, Int.toNat_one], by omega, fun i hi => ⟨hb _ (gD_mem (by omega)), by rw [uI_o1 (by omega), uI_o1 (by omega), o2 266 (by omega) (by omega) (by omega)]; exact ht i (by omega)⟩⟩
  obtain ⟨I3, w1, w2, w3⟩ := m_next (t := t) (u := u) (J := J) (e := 0) B (by simp (disch := omega) only [↓reduceIte, lt_TI, lt_FI, le_TI, le_FI, eq_TI, eq_FI, lt_TN, lt_FN, le_TN, le_FN, eq_TN, eq_FN, and_self, and_true, true_and, and_false, false_and, or_true, true_or, or_false, false_or, not_true_eq_false, not_false_eq_true, wr_of, uI_at, uC_at, q_bi_s, q_bl_s, q_br_s, q_bv_s, Int.toNat_natCast, tn_1, tn_m, tn_n, Int.toNat_zero, Int.toNat_one] <;> rfl) (Nat.zero_le _)
  have e3 : ∀ a, a ≠ 265 → a ≠ 267 → I3 a = I2 a := fun a h1 h2 => by rw [w3.1 a h1 h2, uI_o1 h1, uI_o1 h1]
  have e3k : ∀ j, j ≠ 3 → (j < 4 ∨ 8 < j) → I3 265 j = I0 265 j := fun j h1 h2 => by rw [w3.2 j h2, uI_ne (Or.inr (by omega)), uI_ne (Or.inr h1), p2]
  have t0 : ∀ j, j < 71 → I3 269 j = 0 := fun j hj => by rw [e3 269 (by omega) (by omega)]; exact z269 j hj
  have t1 : ∀ j, j < 245 → I3 271 j = 0 := fun j hj => by rw [e3 271 (by omega) (by omega)]; exact y2 j hj
  refine ⟨I3, ?_, ⟨⟨t0 0 (by omega), t0 1 (by omega), t0 2 (by omega), t0 3 (by omega), t0 4 (by omega), fun c hc => (by cases hc), fun i hi => (by cases hi), fun i hi => (by cases hi)⟩, ⟨fun c hc => ⟨fun i hi => ?_, ?_⟩, ?_⟩, ⟨fun c hc => (by cases hc), fun c h1 h2 => t0 _ (by omega)⟩, w2, ?_, ?_, ?_⟩, fun a h1 h2 h3 h4 => by rw [e3 a h1 h2, o2 a h1 h3 h4], ?_, ?_, ?_, ?_, ?_⟩
  · rw [x1, y1, w1, q_bv_s]
  · rw [t1 _ (by omega)]; rfl
  · rw [t1 _ (by omega)]; rfl
  · exact t1 _ (by omega)
  · rw [e3k 13 (by omega) (by omega)]; exact k13
  · rw [e3k 9 (by omega) (by omega)]; exact k9
  · rw [e3k 24 (by omega) (by omega)]; exact k24
  · rw [e3k 2 (by omega) (by omega)]; exact k2
  · rw [e3k 11 (by omega) (by omega)]; exact k11
  · rw [e3k 14 (by omega) (by omega)]; exact k0 14 (by omega)
  · rw [e3k 22 (by omega) (by omega)]; exact k0 22 (by omega)
  · rw [e3k 23 (by omega) (by omega)]; exact k0 23 (by omega)
theorem A268 : AId 268 71 := ⟨rfl, rfl, by omega⟩
theorem m_store (V : MInv S I) (n : Int) : ∃ I', q_E (201, 0, [vr 265, vi n, vu], []) (qk t u I J) = some (vi (ac_store S n).1, qk t u I' J) ∧ MInv (ac_store S n).2 I' ∧ KM I I' := by
  have V0 := V
  obtain ⟨⟨w1, w2, w3, w4, w5⟩, v2, v3, v4, v5, v6, v7, v8, v9, v10⟩ := V
  obtain ⟨s1, s2, s3, s4, s5, s6, s7, s8⟩ := w1
  have a2 : (A0 I) 265 2 = ((sT S).length : Int) := by unfold A0; rw [uI_ne (Or.inr (by omega)), uI_ne (Or.inr (by omega))]; exact v5
  unfold ac_store
  by_cases h : 0 ≤ n ∧ n ≤ ((sT S).length : Int)
  · simp only [if_pos h]
    obtain ⟨h1, h2⟩ := h
    obtain ⟨n, rfl⟩ : ∃ m : Nat, n = (m : Int) := ⟨n.toNat, by omega⟩
    simp only [Int.toNat_natCast]
    obtain ⟨I1, x1, x2, x3, x4, x5, x6, x7, x8⟩ := m_start (t := t) (u := u) (I := I) (J := J) (S := S) (n := n) (by omega) s7 s8 v6
    obtain ⟨I2, y1, y2, y3⟩ := m_readAll (t := t) (u := u) (J := J) x2
    have e0 : q_E (201, 0, [vr 265, vi (n : Int), vu], []) (qk t u I J) = q_E (201, 186, [vr 265, vu, vu], []) (qk t u I2 J) := by
      rw [e201_0, e177_0, q_bv_s, e201_4]
      show q_bi (q_E (180, 0, [vi (n : Int), vi 0, vi ((A0 I) 265 2)], []) (qk t u (A0 I) J)) _ = _
      rw [a2, n_ok h1 h2, q_bi_s, e201_13, if_neg (by decide), x1, y1]
    rw [e0, e201_186]
    have o2 : ∀ a, a ≠ 265 → a ≠ 267 → a ≠ 269 → a ≠ 271 → I2 a = I a := fun a h1 h2 h3 h4 => by rw [y3.1 a h1 h2 h3 h4, x3 a h1 h2 h3 h4]
    have k2 : I2 265 2 = 0 := by rw [y3.2 2 (by omega)]; exact x4
    have k11 : I2 265 11 = 0 := by rw [y3.2 11 (by omega)]; exact x5
    have k14 : I2 265 14 = I 265 14 := by rw [y3.2 14 (by omega)]; exact x6
    have k22 : I2 265 22 = I 265 22 := by rw [y3.2 22 (by omega)]; exact x7
    have k23 : I2 265 23 = I 265 23 := by rw [y3.2 23 (by omega)]; exact x8
    cases hr : rRead (fun i => (sT S).getD i 0) n (fun _ => []) with
    | inr f =>
      rw [hr] at y2
      have y2 : BD I2 f := y2
      simp only
      rw [y2.1, if_neg (by decide), e178_0, q_bi_s, e201_198]
      have f1 : ∀ a, a ≠ 265 → a ≠ 267 → a ≠ 269 → a ≠ 271 → uI I2 265 11 4 a = I a := fun a h1 h2 h3 h4 => by rw [uI_o1 h1]; exact o2 a h1 h2 h3 h4
      refine ⟨_, rfl, ⟨⟨⟨s1, s2, s3, s4, s5, s6, Nat.zero_le _, fun b hb => (by cases hb)⟩, ?_, MT_rw w3 (f1 268 (by omega) (by omega) (by omega) (by omega)), SnA_rw w4 (f1 270 (by omega) (by omega) (by omega) (by omega)), SnA_rw w5 (f1 272 (by omega) (by omega) (by omega) (by omega))⟩, ?_, ?_, fun _ => ?_, ?_, fun i hi => (by cases hi), ?_, fun i hi => SnA_rw (v8 i hi) (f1 273 (by omega) (by omega) (by omega) (by omega)), ?_, fun i hi => SnA_rw (v10 i hi) (f1 274 (by omega) (by omega) (by omega) (by omega))⟩, fun a ha => f1 a (by omega) (by omega) (by omega) (by omega)⟩
      · rw [uI_ne (Or.inr (by omega)), k14]; exact w2
      · exact if_pos ⟨rfl, rfl⟩
      · rw [uI_ne (Or.inr (by omega))]; exact y2.2.1
      · rw [uI_ne (Or.inr (by omega))]; exact y2.2.2
      · rw [uI_ne (Or.inr (by omega))]; exact k2
      · rw [uI_ne (Or.inr (by omega)), k22]; exact v7
      · rw [uI_ne (Or.inr (by omega)), k23]; exact v9
    | inl s =>
      rw [hr] at y2
      obtain ⟨F, B, N, K, g, g9, g24⟩ : RdM I2 (fun i => (sT S).getD i 0) n s := y2
      obtain ⟨T1, T2⟩ := rRead_ok hr
      simp only
      obtain ⟨I3, c1, c2, c3⟩ := c_mcopy (t := t) (u := u) (I := I2) (J := J) (p := 0) (s := 0) (n := 71) A269 A268 (by omega) (by omega) (by omega)
      obtain ⟨I4, d1, d2, d3⟩ := c_mcopy (t := t) (u := u) (I := I3) (J := J) (p := 0) (s := 0) (n := 245) A271 A270 (by omega) (by omega) (by omega)
      obtain ⟨I5, f1, f2, f3⟩ := c_mcopy (t := t) (u := u) (I := I4) (J := J) (p := 0) (s := 0) (n := 245) A271 A272 (by omega) (by omega) (by omega)
      rw [Int.natCast_zero, show ((71 : Nat) : Int) = 71 from rfl] at c1
      rw [Int.natCast_zero, show ((245 : Nat) : Int) = 245 from rfl] at d1 f1
      have q268 : ∀ j, j < 71 → I5 268 j = I2 269 j := fun j hj => by
        rw [FrA_o f3 (by omega), FrA_o d3 (by omega)]
        have := c2 j hj
        rwa [Nat.zero_add] at this
      have q270 : ∀ j, j < 245 → I5 270 (0 + j) = I2 271 (0 + j) := fun j hj => by
        rw [FrA_o f3 (by omega), d2 j hj, FrA_o c3 (by omega)]
      have q272 : ∀ j, j < 245 → I5 272 (0 + j) = I2 271 (0 + j) := fun j hj => by
        rw [f2 j hj, FrA_o d3 (by omega), FrA_o c3 (by omega)]
      have oc : ∀ a, a ≠ 268 → a ≠ 270 → a ≠ 272 → I5 a = I2 a := fun a h1 h2 h3 => by rw [FrA_o f3 h3, FrA_o d3 h2, FrA_o c3 h1]
      obtain ⟨u0, u1, u2, u3, u4, u5, u6, u7⟩ := F
      have tC4 : tC s.1 ≤ 4 := T1.2.2.2.1
      have tU4 : tU s.1 ≤ 4 := T1.2.2.2.2.2.2.2.1
      have tE6 : tE s.1 ≤ 6 := T1.2.2.2.2.2.2.2.2.2.2.1
      rw [if_pos g, c1, q_bv_s, e201_214, d1, q_bv_s, e201_230, f1, q_bv_s, e201_246]
      have h2 : uI (uI (uI I5 265 14 1) 265 22 0) 265 23 0 268 2 = (tC s.1 : Int) := by
        rw [uI_ne (Or.inl (by omega)), uI_ne (Or.inl (by omega)), uI_ne (Or.inl (by omega)), q268 2 (by omega)]; exact u2
      rw [h2]
      generalize hI6 : uI (uI (uI I5 265 14 1) 265 22 0) 265 23 0 = I6
      have o6 : ∀ a, a ≠ 265 → I6 a = I5 a := fun a h => by rw [← hI6, uI_o1 h, uI_o1 h, uI_o1 h]
      have k6 : ∀ j, j ≠ 14 → j ≠ 22 → j ≠ 23 → I6 265 j = I2 265 j := fun j h1 h2 h3 => by
        rw [← hI6, uI_ne (Or.inr h3), uI_ne (Or.inr h2), uI_ne (Or.inr h1), oc 265 (by omega) (by omega) (by omega)]
      have r6 : ∀ j, j < 71 → I6 268 j = I2 269 j := fun j hj => by rw [o6 268 (by omega)]; exact q268 j hj
      refine ⟨I6, rfl, ⟨⟨⟨Or.inl ⟨T1, T2⟩, ⟨fun c => ?_, fun c hc => T1.2.2.2.2.2.2.1 c hc, Nat.zero_le _⟩, fun s hs => (by cases hs), fun s hs => (by cases hs), Nat.zero_le _, Nat.zero_le _, Nat.zero_le _, fun b hb => (by cases hb)⟩, ?_, ⟨?_, ?_, ?_, ?_, ?_, fun c hc => ?_, fun i hi => ?_, fun i hi => ?_⟩, ?_, ?_⟩, ?_, ?_, fun z => absurd z (show ¬ (0 : Int) = 4 by decide), ?_, fun i hi => (by cases hi), ?_, fun i hi => (by cases hi), ?_, fun i hi => (by cases hi)⟩, fun a ha => ?_⟩
      · obtain ⟨z1, z2, z3, z4⟩ := T1.2.2.2.2.2.1 c
        exact ⟨z1, z2, by show (tB s.1 c).1.sum + (tB s.1 c).2 ≤ 60; omega⟩
      · show I6 265 14 = if 0 < tC s.1 then 1 else 0
        rw [if_pos T2, ← hI6, uI_ne (Or.inr (by omega)), uI_ne (Or.inr (by omega)), uI_at, if_pos ⟨rfl, rfl⟩]
      · rw [r6 0 (by omega)]; exact u0
      · rw [r6 1 (by omega)]; exact u1
      · rw [r6 2 (by omega)]; exact u2
      · rw [r6 3 (by omega)]; exact u3
      · rw [r6 4 (by omega)]; exact u4
      · have hc : c < tC s.1 := hc
        rw [r6 _ (by omega)]; exact u5 c hc
      · have hi : i < tU s.1 := hi
        rw [r6 _ (by omega), r6 _ (by omega)]; exact u6 i hi
      · have hi : i < tE s.1 := hi
        rw [r6 _ (by omega), r6 _ (by omega), r6 _ (by omega)]; exact u7 i hi
      · exact SnA_cp B (fun i hi => by rw [o6 270 (by omega)]; exact q270 i hi)
      · exact SnA_cp B (fun i hi => by rw [o6 272 (by omega)]; exact q272 i hi)
      · rw [k6 11 (by omega) (by omega) (by omega)]; exact k11
      · rw [k6 9 (by omega) (by omega) (by omega)]; exact g9
      · rw [k6 2 (by omega) (by omega) (by omega)]; exact k2
      · rw [← hI6, uI_ne (Or.inr (by omega)), uI_at, if_pos ⟨rfl, rfl⟩]; rfl
      · rw [← hI6, uI_at, if_pos ⟨rfl, rfl⟩]; rfl
      · rw [o6 a (by omega), oc a (by omega) (by omega) (by omega), o2 a (by omega) (by omega) (by omega) (by omega)]
  · simp only [if_neg h]
    refine ⟨uI (A0 I) 265 11 2, ?_, MInv_trS V0 (QM_no QF_rf) (by decide), QM_km (QM_no QF_rf)⟩
    rw [e201_0, e177_0, q_bv_s, e201_4]
    show q_bi (q_E (180, 0, [vi n, vi 0, vi ((A0 I) 265 2)], []) (qk t u (A0 I) J)) _ = _
    rw [a2, n_no (by omega), q_bi_s, e201_13, if_pos rfl, e178_0, q_bi_s, e201_21]
end

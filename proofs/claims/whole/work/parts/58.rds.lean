/-! Reader: what was seen, lines, the whole text; store -/
section
variable {t u : Nat} {I J : Nat → Nat → Int} {b : Nat → Nat} {n : Nat} {k : Tk} {T : Tt} {nm : Nat → List Nat}
theorem c_sawNight (A : TAt I u T) (hE : tE T ≤ 6) (c m : Nat) : q_E (95, 0, [vr u, vi (c : Int), vi (m : Int), vu], []) (qk t u I J) = some (vi (if saw T c m = true then 1 else 0), qk t u I J) := by
  obtain ⟨⟨k1, k2, k3, k4, ⟨l1, l2, l3, l4, l5, l6⟩, k6⟩, h2, h3, h4, h5, h6, h7, h8, h9, h10⟩ := A
  obtain ⟨m1, m2⟩ := k4 3 (by omega)
  obtain ⟨n1, n2⟩ := k4 4 (by omega)
  have loop : ∀ r i : Nat, i + r = tE T → (∀ j, j < i → ¬ (tEc T j = c ∧ tEn T j = m)) → q_E (95, 2, [vr u, vi (c : Int), vi (m : Int), vi (i : Int)], []) (qk t u I J) = some (vi (if saw T c m = true then 1 else 0), qk t u I J) := by
    intro r
    induction r with
    | zero =>
      intro i hi hne
      have e : ¬ saw T c m = true := fun z => by
        obtain ⟨j, hj, w⟩ := List.any_eq_true.mp z
        exact hne j (by have := List.mem_range.mp hj; omega) (of_decide_eq_true w)
      rw [if_neg e, e95_2]
      simp (disch := omega) only [↓reduceIte, lt_TI, lt_FI, le_TI, le_FI, eq_TI, eq_FI, lt_TN, lt_FN, le_TN, le_FN, eq_TN, eq_FN, and_self, and_true, true_and, and_false, false_and, or_true, true_or, or_false, false_or, not_true_eq_false, not_false_eq_true, wr_of, uI_at, uC_at, q_bi_s, q_bl_s, q_br_s, q_bv_s, Int.toNat_natCast, tn_1, tn_m, tn_n, Int.toNat_zero, Int.toNat_one, k1, h7]
    | succ r ih =>
      intro i hi hne
      obtain ⟨v1, v2, -⟩ := h10 i (by omega)
      have go : ¬ (tEc T i = c ∧ tEn T i = m) → q_E (95, 2, [vr u, vi (c : Int), vi (m : Int), vi ((i : Int) + 1)], []) (qk t u I J) = some (vi (if saw T c m = true then 1 else 0), qk t u I J) := fun z => ih (i + 1) (by omega) (fun j hj => by
        by_cases y : j = i
        · rw [y]; exact z
        · exact hne j (by omega))
      rw [e95_2]
      by_cases q1 : tEc T i = c
      · by_cases q2 : tEn T i = m
        · have e : saw T c m = true := List.any_eq_true.mpr ⟨i, List.mem_range.mpr (by omega), decide_eq_true ⟨q1, q2⟩⟩
          rw [if_pos e]
          simp (disch := omega) only [↓reduceIte, lt_TI, lt_FI, le_TI, le_FI, eq_TI, eq_FI, lt_TN, lt_FN, le_TN, le_FN, eq_TN, eq_FN, and_self, and_true, true_and, and_false, false_and, or_true, true_or, or_false, false_or, not_true_eq_false, not_false_eq_true, wr_of, uI_at, uC_at, q_bi_s, q_bl_s, q_br_s, q_bv_s, Int.toNat_natCast, tn_1, tn_m, tn_n, Int.toNat_zero, Int.toNat_one, k1, h7, m1, m2, l4, v1, n1, n2, l5, v2]
        · simp (disch := omega) only [↓reduceIte, lt_TI, lt_FI, le_TI, le_FI, eq_TI, eq_FI, lt_TN, lt_FN, le_TN, le_FN, eq_TN, eq_FN, and_self, and_true, true_and, and_false, false_and, or_true, true_or, or_false, false_or, not_true_eq_false, not_false_eq_true, wr_of, uI_at, uC_at, q_bi_s, q_bl_s, q_br_s, q_bv_s, Int.toNat_natCast, tn_1, tn_m, tn_n, Int.toNat_zero, Int.toNat_one, k1, h7, m1, m2, l4, v1, n1, n2, l5, v2]
          exact go (fun z => q2 z.2)
      · simp (disch := omega) only [↓reduceIte, lt_TI, lt_FI, le_TI, le_FI, eq_TI, eq_FI, lt_TN, lt_FN, le_TN, le_FN, eq_TN, eq_FN, and_self, and_true, true_and, and_false, false_and, or_true, true_or, or_false, false_or, not_true_eq_false, not_false_eq_true, wr_of, uI_at, uC_at, q_bi_s, q_bl_s, q_br_s, q_bv_s, Int.toNat_natCast, tn_1, tn_m, tn_n, Int.toNat_zero, Int.toNat_one, k1, h7, m1, m2, l4, v1]
        exact go (fun z => q1 z.1)
  rw [e95_0]
  exact loop (tE T) 0 (by omega) (fun j hj => by omega)
theorem rNamed_lt {c : Nat} (hn : rNamed b T nm k = Sum.inl c) : c < tC T := by
  unfold rNamed at hn
  split at hn
  · split at hn
    · rw [← Sum.inl.inj hn]; assumption
    · cases hn
  · cases hn
theorem c_readSeen (A : TAt I u T) (H : KT I b n k) (N : NAt I b n (tC T) nm) (p : TOk T) (h6 : tE T < 6) : ∃ v I', q_E (51, 0, [vr 2, vu], []) (qk t u I J) = some (vi v, qk t u I' J) ∧ RE I I' u b n v (rSeen b n T nm k) ∧ RF u I I' := by
  have hu : u = 7 ∨ u = 248 := A.1.2.2.2.2.2
  have k18 := A.1.1
  have C4 := p.2.2.2.1
  have E6 := p.2.2.2.2.2.2.2.2.2.2.1
  have k11 := A.2.2.2.2.2.2.1
  obtain ⟨w1, w2⟩ := c_readNamed (t := t) (J := J) A H N C4
  unfold rSeen
  cases hn : rNamed b T nm k with
  | inr f =>
    obtain ⟨I1, a1, a2, a3, a4⟩ := w2 f hn
    clear w1 w2
    simp only [sb_r]
    simp (disch := omega) only [↓reduceIte, lt_TI, lt_FI, le_TI, le_FI, eq_TI, eq_FI, lt_TN, lt_FN, le_TN, le_FN, eq_TN, eq_FN, and_self, and_true, true_and, and_false, false_and, or_true, true_or, or_false, false_or, not_true_eq_false, not_false_eq_true, wr_of, uI_at, uC_at, q_bi_s, q_bl_s, q_br_s, q_bv_s, Int.toNat_natCast, tn_1, tn_m, tn_n, Int.toNat_zero, Int.toNat_one, e51_0, a1, e51_4]
    exact ⟨_, I1, rfl, ⟨rfl, a2, a3⟩, RF_rw a4⟩
  | inl c =>
    obtain ⟨I1, a1, a2, a3, a4, a5⟩ := w1 c hn
    clear w1 w2
    simp only [sb_l]
    have hc := rNamed_lt hn
    obtain ⟨I2, b1, b2, b3⟩ := c_next (t := t) (u := u) (J := J) a3
    obtain ⟨x1, x2⟩ := c_readWord (t := t) (u := u) (J := J) b2 (s := 10) (by omega)
    simp only [Nat.reduceAdd] at x1 x2
    generalize tok b n k.2.2 = k1 at b2 x1 x2 ⊢
    unfold rWord
    by_cases q1 : isWd b k1 1010 = true
    · obtain ⟨I3, c1, c2, c3⟩ := x1 q1
      clear x1 x2
      simp only [if_pos q1, sb_l]
      have R3 : RW I I3 := RW_tr a4 (RW_tr (RW_ks b3) (RW_ks c3))
      have A3 : TAt I3 u T := TAt_rw A (fun a h1 h2 => R3.1 a (by omega) (by omega))
      have k45 : I3 2 5 = (c : Int) := by rw [c3.1 2 (by omega), b3.1 2 (by omega)]; exact a2
      have k46 : I3 2 6 = I 2 6 := by rw [c3.1 2 (by omega), b3.1 2 (by omega)]; exact a5 6 (by omega)
      generalize tok b n k1.2.2 = k2 at c2 ⊢
      have hp2 := c2.2.2.2.2.1
      have h32 := c2.2.2.2.1
      -- from the night on
      have rest : ¬ (k2.1 = 2 ∧ saw T c (tvl b k2) = true) → ∃ v I', q_E (51, 65, [vr 2, vu], []) (qk t u I3 J) = some (vi v, qk t u I' J) ∧ RE I I' u b n v (sb (rWhole b n 0 99 k2) fun m => sb (if isWd b m.2 1011 = true then Sum.inl (tok b n m.2.2.2) else Sum.inr (1, m.2.2.1)) fun k4 => sb (rWhole b n 0 60 k4) fun h => Sum.inl (wSe T c m.1 h.1, nm, h.2)) ∧ RF u I I' := by
        intro _
        obtain ⟨v1, v2, v3⟩ := c_readWhole (t := t) (u := u) (J := J) c2 (lo := 0) (hi := 99) (by omega) (by omega)
        rw [show ((0 : Nat) : Int) = 0 from rfl, show ((99 : Nat) : Int) = 99 from rfl] at v1 v2 v3
        unfold rWhole
        by_cases q2 : k2.1 = 2
        · by_cases q3 : tvl b k2 < 0 ∨ 99 < tvl b k2
          · obtain ⟨I4, d1, d2, d3, d4⟩ := v2 q2 q3
            clear v1 v2 v3
            simp only [if_pos q2, if_pos q3, sb_r]
            simp (disch := omega) only [↓reduceIte, lt_TI, lt_FI, le_TI, le_FI, eq_TI, eq_FI, lt_TN, lt_FN, le_TN, le_FN, eq_TN, eq_FN, and_self, and_true, true_and, and_false, false_and, or_true, true_or, or_false, false_or, not_true_eq_false, not_false_eq_true, wr_of, uI_at, uC_at, q_bi_s, q_bl_s, q_br_s, q_bv_s, Int.toNat_natCast, tn_1, tn_m, tn_n, Int.toNat_zero, Int.toNat_one, e51_65, d1, e51_72]
            exact ⟨_, I4, rfl, ⟨rfl, d2, d3⟩, RF_rw (RW_tr R3 d4)⟩
          · obtain ⟨I4, d1, d2, d3, d4, d5⟩ := v1 q2 q3
            clear v1 v2 v3
            simp only [if_pos q2, if_neg q3, sb_l]
            have m99 : tvl b k2 ≤ 99 := by omega
            obtain ⟨y1, y2⟩ := c_readWord (t := t) (u := u) (J := J) d2 (s := 11) (by omega)
            simp only [Nat.reduceAdd] at y1 y2
            generalize tok b n k2.2.2 = k3 at d2 y1 y2 ⊢
            by_cases q4 : isWd b k3 1011 = true
            · obtain ⟨I5, f1, f2, f3⟩ := y1 q4
              clear y1 y2
              simp only [if_pos q4, sb_l]
              obtain ⟨v1, v2, v3⟩ := c_readWhole (t := t) (u := u) (J := J) f2 (lo := 0) (hi := 60) (by omega) (by omega)
              rw [show ((0 : Nat) : Int) = 0 from rfl, show ((60 : Nat) : Int) = 60 from rfl] at v1 v2 v3
              generalize tok b n k3.2.2 = k4 at f2 v1 v2 v3 ⊢
              have R5 : RW I I5 := RW_tr R3 (RW_tr d5 (RW_ks f3))
              by_cases q5 : k4.1 = 2
              · by_cases q6 : tvl b k4 < 0 ∨ 60 < tvl b k4
                · obtain ⟨I6, g1, g2, g3, g4⟩ := v2 q5 q6
                  clear v1 v2 v3
                  simp only [if_pos q5, if_pos q6, sb_r]
                  simp (disch := omega) only [↓reduceIte, lt_TI, lt_FI, le_TI, le_FI, eq_TI, eq_FI, lt_TN, lt_FN, le_TN, le_FN, eq_TN, eq_FN, and_self, and_true, true_and, and_false, false_and, or_true, true_or, or_false, false_or, not_true_eq_false, not_false_eq_true, wr_of, uI_at, uC_at, q_bi_s, q_bl_s, q_br_s, q_bv_s, Int.toNat_natCast, tn_1, tn_m, tn_n, Int.toNat_zero, Int.toNat_one, e51_65, d1, e51_72, d3, e51_82, f1, e51_88, g1, e51_98, e51_101]
                  exact ⟨_, I6, rfl, ⟨rfl, g2, g3⟩, RF_rw (RW_tr R5 g4)⟩
                · obtain ⟨I6, g1, g2, g3, g4, g5⟩ := v1 q5 q6
                  clear v1 v2 v3
                  simp only [if_pos q5, if_neg q6, sb_l]
                  have R6 : RW I I6 := RW_tr R5 g5
                  obtain ⟨n1, n2⟩ := A.1.2.2.2.1 3 (by omega)
                  obtain ⟨m1, m2⟩ := A.1.2.2.2.1 4 (by omega)
                  obtain ⟨o1, o2⟩ := A.1.2.2.2.1 5 (by omega)
                  obtain ⟨l1, l2, l3, l4, l5, l6⟩ := A.1.2.2.2.2.1
                  have k116 : I6 u 11 = (tE T : Int) := by rw [R6.1 u (by omega) (by omega)]; exact k11
                  have k456 : I6 2 5 = (c : Int) := by rw [g4 5 (by omega), f3.1 2 (by omega), d4 5 (by omega)]; exact k45
                  simp (disch := omega) only [↓reduceIte, lt_TI, lt_FI, le_TI, le_FI, eq_TI, eq_FI, lt_TN, lt_FN, le_TN, le_FN, eq_TN, eq_FN, and_self, and_true, true_and, and_false, false_and, or_true, true_or, or_false, false_or, not_true_eq_false, not_false_eq_true, wr_of, uI_at, uC_at, q_bi_s, q_bl_s, q_br_s, q_bv_s, Int.toNat_natCast, tn_1, tn_m, tn_n, Int.toNat_zero, Int.toNat_one, e51_65, d1, e51_72, d3, e51_82, f1, e51_88, g1, e51_98, k18, k116, n1, n2, l4, k456, e51_134, m1, m2, l5, e51_150, o1, o2, l6, g3, e51_169, e51_182]
                  have E : ∀ a, a ≠ u → a ≠ u + 11 + 3 → a ≠ u + 11 + 4 → a ≠ u + 11 + 5 → uI (uI (uI (uI I6 (u + 11 + 3) (tE T) (c : Int)) (u + 11 + 4) (tE T) (tvl b k2 : Int)) (u + 11 + 5) (tE T) (tvl b k4 : Int)) u 11 ((tE T : Int) + 1) a = I6 a := fun a h1 h2 h3 h4 => by rw [uI_o1 h1, uI_o1 h4, uI_o1 h3, uI_o1 h2]
                  refine ⟨_, _, rfl, ⟨rfl, ⟨?_, KT_w g2 (E 3 (by omega) (by omega) (by omega) (by omega)) (E 4 (by omega) (by omega) (by omega) (by omega)), NAt_w N (by rw [E 5 (by omega) (by omega) (by omega) (by omega), R6.1 5 (by omega) (by omega)]) (by rw [E 6 (by omega) (by omega) (by omega) (by omega), R6.1 6 (by omega) (by omega)])⟩, by rw [E 2 (by omega) (by omega) (by omega) (by omega), g4 6 (by omega), f3.1 2 (by omega), d4 6 (by omega)]; exact k46⟩, RF_tr (RF_rw R6) ⟨fun a _ _ h => E a (by omega) (by omega) (by omega) (by omega), by rw [E 3 (by omega) (by omega) (by omega) (by omega)], by rw [E 3 (by omega) (by omega) (by omega) (by omega)]⟩⟩
                  obtain ⟨g1', g2', g3', g4', g5', g6', g7', g8', g9', g10'⟩ := A
                  have U : ∀ a, a ≠ u → a ≠ u + 11 + 3 → a ≠ u + 11 + 4 → a ≠ u + 11 + 5 → a ≠ 3 → a ≠ 2 → uI (uI (uI (uI I6 (u + 11 + 3) (tE T) (c : Int)) (u + 11 + 4) (tE T) (tvl b k2 : Int)) (u + 11 + 5) (tE T) (tvl b k4 : Int)) u 11 ((tE T : Int) + 1) a = I a := fun a h1 h2 h3 h4 h5 h6 => by rw [E a h1 h2 h3 h4, R6.1 a h5 h6]
                  have Uu : ∀ j, j ≠ 11 → uI (uI (uI (uI I6 (u + 11 + 3) (tE T) (c : Int)) (u + 11 + 4) (tE T) (tvl b k2 : Int)) (u + 11 + 5) (tE T) (tvl b k4 : Int)) u 11 ((tE T : Int) + 1) u j = I u j := fun j h => by rw [uI_ne (Or.inr h), uI_ne (Or.inl (by omega)), uI_ne (Or.inl (by omega)), uI_ne (Or.inl (by omega)), R6.1 u (by omega) (by omega)]
                  refine ⟨g1', CAt_w g2' (fun a h1 h2 => U a (by omega) (by omega) (by omega) (by omega) (by omega) (by omega)), by rw [Uu 7 (by omega)]; exact g3', by rw [Uu 8 (by omega)]; exact g4', by rw [Uu 9 (by omega)]; exact g5', by rw [Uu 10 (by omega)]; exact g6', if_pos ⟨rfl, rfl⟩, fun i hi => by rw [U _ (by omega) (by omega) (by omega) (by omega) (by omega) (by omega)]; exact g8' i hi, fun i hi => by rw [U _ (by omega) (by omega) (by omega) (by omega) (by omega) (by omega), U _ (by omega) (by omega) (by omega) (by omega) (by omega) (by omega)]; exact g9' i hi, fun i hi => ?_⟩
                  have hi : i < tE T + 1 := hi
                  show _ = ((updF (tEc T) (tE T) c i : Nat) : Int) ∧ _ = ((updF (tEn T) (tE T) (tvl b k2) i : Nat) : Int) ∧ _ = ((updF (tEh T) (tE T) (tvl b k4) i : Nat) : Int)
                  unfold updF
                  by_cases w : i = tE T
                  · subst w
                    rw [if_pos rfl, if_pos rfl, if_pos rfl]
                    exact ⟨by rw [uI_ne (Or.inl (by omega)), uI_ne (Or.inl (by omega)), uI_ne (Or.inl (by omega))]; exact if_pos ⟨rfl, rfl⟩, by rw [uI_ne (Or.inl (by omega)), uI_ne (Or.inl (by omega))]; exact if_pos ⟨rfl, rfl⟩, by rw [uI_ne (Or.inl (by omega))]; exact if_pos ⟨rfl, rfl⟩⟩
                  · rw [if_neg w, if_neg w, if_neg w]
                    obtain ⟨z1, z2, z3⟩ := g10' i (by omega)
                    exact ⟨by rw [uI_ne (Or.inl (by omega)), uI_ne (Or.inl (by omega)), uI_ne (Or.inl (by omega)), uI_ne (Or.inr w), R6.1 _ (by omega) (by omega)]; exact z1, by rw [uI_ne (Or.inl (by omega)), uI_ne (Or.inl (by omega)), uI_ne (Or.inr w), uI_ne (Or.inl (by omega)), R6.1 _ (by omega) (by omega)]; exact z2, by rw [uI_ne (Or.inl (by omega)), uI_ne (Or.inr w), uI_ne (Or.inl (by omega)), uI_ne (Or.inl (by omega)), R6.1 _ (by omega) (by omega)]; exact z3⟩
              · obtain ⟨I6, g1, g2, g3, g4⟩ := v3 q5
                clear v1 v2 v3
                simp only [if_neg q5, sb_r]
                simp (disch := omega) only [↓reduceIte, lt_TI, lt_FI, le_TI, le_FI, eq_TI, eq_FI, lt_TN, lt_FN, le_TN, le_FN, eq_TN, eq_FN, and_self, and_true, true_and, and_false, false_and, or_true, true_or, or_false, false_or, not_true_eq_false, not_false_eq_true, wr_of, uI_at, uC_at, q_bi_s, q_bl_s, q_br_s, q_bv_s, Int.toNat_natCast, tn_1, tn_m, tn_n, Int.toNat_zero, Int.toNat_one, e51_65, d1, e51_72, d3, e51_82, f1, e51_88, g1, e51_98, e51_101]
                exact ⟨_, I6, rfl, ⟨rfl, g2, g3⟩, RF_rw (RW_tr R5 g4)⟩
            · obtain ⟨I5, f1, f2, f3, f4⟩ := y2 q4
              clear y1 y2
              simp only [if_neg q4, sb_r]
              simp (disch := omega) only [↓reduceIte, lt_TI, lt_FI, le_TI, le_FI, eq_TI, eq_FI, lt_TN, lt_FN, le_TN, le_FN, eq_TN, eq_FN, and_self, and_true, true_and, and_false, false_and, or_true, true_or, or_false, false_or, not_true_eq_false, not_false_eq_true, wr_of, uI_at, uC_at, q_bi_s, q_bl_s, q_br_s, q_bv_s, Int.toNat_natCast, tn_1, tn_m, tn_n, Int.toNat_zero, Int.toNat_one, e51_65, d1, e51_72, d3, e51_82, f1, e51_88, e51_101]
              exact ⟨_, I5, rfl, ⟨rfl, f2, f3⟩, RF_rw (RW_tr R3 (RW_tr d5 f4))⟩
        · obtain ⟨I4, d1, d2, d3, d4⟩ := v3 q2
          clear v1 v2 v3
          simp only [if_neg q2, sb_r]
          simp (disch := omega) only [↓reduceIte, lt_TI, lt_FI, le_TI, le_FI, eq_TI, eq_FI, lt_TN, lt_FN, le_TN, le_FN, eq_TN, eq_FN, and_self, and_true, true_and, and_false, false_and, or_true, true_or, or_false, false_or, not_true_eq_false, not_false_eq_true, wr_of, uI_at, uC_at, q_bi_s, q_bl_s, q_br_s, q_bv_s, Int.toNat_natCast, tn_1, tn_m, tn_n, Int.toNat_zero, Int.toNat_one, e51_65, d1, e51_72]
          exact ⟨_, I4, rfl, ⟨rfl, d2, d3⟩, RF_rw (RW_tr R3 d4)⟩
      by_cases q2 : k2.1 = 2
      · have ew := c_whole (t := t) (u := u) (J := J) c2 q2
        have es := c_sawNight (t := t) (u := u) (J := J) A3 E6 c (tvl b k2)
        rw [q2] at h32
        by_cases q3 : saw T c (tvl b k2) = true
        · clear rest
          rw [if_pos q3] at es
          simp only [if_pos (show k2.1 = 2 ∧ saw T c (tvl b k2) = true from ⟨q2, q3⟩)]
          simp (disch := omega) only [↓reduceIte, lt_TI, lt_FI, le_TI, le_FI, eq_TI, eq_FI, lt_TN, lt_FN, le_TN, le_FN, eq_TN, eq_FN, and_self, and_true, true_and, and_false, false_and, or_true, true_or, or_false, false_or, not_true_eq_false, not_false_eq_true, wr_of, uI_at, uC_at, q_bi_s, q_bl_s, q_br_s, q_bv_s, Int.toNat_natCast, tn_1, tn_m, tn_n, Int.toNat_zero, Int.toNat_one, e51_0, a1, e51_4, b1, e51_16, c1, e51_22, h32, ew, k45, e51_53, k18, es, e51_56, e44_0, e51_64]
          exact ⟨_, _, rfl, ⟨rfl, by simp (disch := omega) only [↓reduceIte, lt_TI, lt_FI, le_TI, le_FI, eq_TI, eq_FI, lt_TN, lt_FN, le_TN, le_FN, eq_TN, eq_FN, and_self, and_true, true_and, and_false, false_and, or_true, true_or, or_false, false_or, not_true_eq_false, not_false_eq_true, wr_of, uI_at, uC_at, q_bi_s, q_bl_s, q_br_s, q_bv_s, Int.toNat_natCast, tn_1, tn_m, tn_n, Int.toNat_zero, Int.toNat_one] <;> rfl, by simp (disch := omega) only [↓reduceIte, lt_TI, lt_FI, le_TI, le_FI, eq_TI, eq_FI, lt_TN, lt_FN, le_TN, le_FN, eq_TN, eq_FN, and_self, and_true, true_and, and_false, false_and, or_true, true_or, or_false, false_or, not_true_eq_false, not_false_eq_true, wr_of, uI_at, uC_at, q_bi_s, q_bl_s, q_br_s, q_bv_s, Int.toNat_natCast, tn_1, tn_m, tn_n, Int.toNat_zero, Int.toNat_one, hp2]⟩, RF_rw (RW_tr R3 RW_4)⟩
        · rw [if_neg q3] at es
          obtain ⟨v, I', r1, r2, r3⟩ := rest (fun z => q3 z.2)
          clear rest
          simp only [if_neg (show ¬ (k2.1 = 2 ∧ saw T c (tvl b k2) = true) from fun z => q3 z.2)]
          simp (disch := omega) only [↓reduceIte, lt_TI, lt_FI, le_TI, le_FI, eq_TI, eq_FI, lt_TN, lt_FN, le_TN, le_FN, eq_TN, eq_FN, and_self, and_true, true_and, and_false, false_and, or_true, true_or, or_false, false_or, not_true_eq_false, not_false_eq_true, wr_of, uI_at, uC_at, q_bi_s, q_bl_s, q_br_s, q_bv_s, Int.toNat_natCast, tn_1, tn_m, tn_n, Int.toNat_zero, Int.toNat_one, e51_0, a1, e51_4, b1, e51_16, c1, e51_22, h32, ew, k45, e51_53, k18, es, e51_56]
          exact ⟨v, I', r1, r2, r3⟩
      · obtain ⟨v, I', r1, r2, r3⟩ := rest (fun z => q2 z.1)
        clear rest
        simp only [if_neg (show ¬ (k2.1 = 2 ∧ saw T c (tvl b k2) = true) from fun z => q2 z.1)]
        simp (disch := omega) only [↓reduceIte, lt_TI, lt_FI, le_TI, le_FI, eq_TI, eq_FI, lt_TN, lt_FN, le_TN, le_FN, eq_TN, eq_FN, and_self, and_true, true_and, and_false, false_and, or_true, true_or, or_false, false_or, not_true_eq_false, not_false_eq_true, wr_of, uI_at, uC_at, q_bi_s, q_bl_s, q_br_s, q_bv_s, Int.toNat_natCast, tn_1, tn_m, tn_n, Int.toNat_zero, Int.toNat_one, e51_0, a1, e51_4, b1, e51_16, c1, e51_22, h32]
        exact ⟨v, I', r1, r2, r3⟩
    · obtain ⟨I3, c1, c2, c3, c4⟩ := x2 q1
      clear x1 x2
      simp only [if_neg q1, sb_r]
      simp (disch := omega) only [↓reduceIte, lt_TI, lt_FI, le_TI, le_FI, eq_TI, eq_FI, lt_TN, lt_FN, le_TN, le_FN, eq_TN, eq_FN, and_self, and_true, true_and, and_false, false_and, or_true, true_or, or_false, false_or, not_true_eq_false, not_false_eq_true, wr_of, uI_at, uC_at, q_bi_s, q_bl_s, q_br_s, q_bv_s, Int.toNat_natCast, tn_1, tn_m, tn_n, Int.toNat_zero, Int.toNat_one, e51_0, a1, e51_4, b1, e51_16, c1, e51_22]
      exact ⟨_, I3, rfl, ⟨rfl, c2, c3⟩, RF_rw (RW_tr a4 (RW_tr (RW_ks b3) c4))⟩
/-- a line that isn't the store's opens -/
theorem c_opens (A : TAt I u T) (H : KT I b n k) (r : Bool) : (∀ k', rOpen b n r T k = Sum.inl k' → ∃ I', q_E (46, 0, [vr 2, vi (if r = true then 1 else 0)], []) (qk t u I J) = some (vi 1, qk t u I' J) ∧ KT I' b n k' ∧ KS I I' ∧ tH T ≠ 0) ∧ (∀ f, rOpen b n r T k = Sum.inr f → ∃ I', q_E (46, 0, [vr 2, vi (if r = true then 1 else 0)], []) (qk t u I J) = some (vi 0, qk t u I' J) ∧ I' 2 6 = (f.1 : Int) ∧ I' 3 2 = (f.2 : Int) ∧ RW I I') := by
  have k18 := A.1.1
  have k7 := A.2.2.1
  have hp := H.2.2.2.2.1
  unfold rOpen
  cases r with
  | true =>
    by_cases q : tH T = 0
    · simp only [if_true, if_pos q]
      refine ⟨fun k' h => (by cases h), fun f h => ?_⟩
      rw [← Sum.inr.inj h]
      rw [q] at k7
      simp (disch := omega) only [↓reduceIte, lt_TI, lt_FI, le_TI, le_FI, eq_TI, eq_FI, lt_TN, lt_FN, le_TN, le_FN, eq_TN, eq_FN, and_self, and_true, true_and, and_false, false_and, or_true, true_or, or_false, false_or, not_true_eq_false, not_false_eq_true, wr_of, uI_at, uC_at, q_bi_s, q_bl_s, q_br_s, q_bv_s, Int.toNat_natCast, tn_1, tn_m, tn_n, Int.toNat_zero, Int.toNat_one, e46_0, k18, k7, Int.natCast_zero, e44_0, e46_26]
      exact ⟨_, rfl, by simp (disch := omega) only [↓reduceIte, lt_TI, lt_FI, le_TI, le_FI, eq_TI, eq_FI, lt_TN, lt_FN, le_TN, le_FN, eq_TN, eq_FN, and_self, and_true, true_and, and_false, false_and, or_true, true_or, or_false, false_or, not_true_eq_false, not_false_eq_true, wr_of, uI_at, uC_at, q_bi_s, q_bl_s, q_br_s, q_bv_s, Int.toNat_natCast, tn_1, tn_m, tn_n, Int.toNat_zero, Int.toNat_one] <;> rfl, by simp (disch := omega) only [↓reduceIte, lt_TI, lt_FI, le_TI, le_FI, eq_TI, eq_FI, lt_TN, lt_FN, le_TN, le_FN, eq_TN, eq_FN, and_self, and_true, true_and, and_false, false_and, or_true, true_or, or_false, false_or, not_true_eq_false, not_false_eq_true, wr_of, uI_at, uC_at, q_bi_s, q_bl_s, q_br_s, q_bv_s, Int.toNat_natCast, tn_1, tn_m, tn_n, Int.toNat_zero, Int.toNat_one, hp], RW_4⟩
    · simp only [if_true, if_neg q]
      refine ⟨fun k' h => ?_, fun f h => (by cases h)⟩
      rw [← Sum.inl.inj h]
      obtain ⟨I1, a1, a2, a3⟩ := c_next (t := t) (u := u) (J := J) H
      simp (disch := omega) only [↓reduceIte, lt_TI, lt_FI, le_TI, le_FI, eq_TI, eq_FI, lt_TN, lt_FN, le_TN, le_FN, eq_TN, eq_FN, and_self, and_true, true_and, and_false, false_and, or_true, true_or, or_false, false_or, not_true_eq_false, not_false_eq_true, wr_of, uI_at, uC_at, q_bi_s, q_bl_s, q_br_s, q_bv_s, Int.toNat_natCast, tn_1, tn_m, tn_n, Int.toNat_zero, Int.toNat_one, e46_0, k18, k7, a1, e46_34]
      exact ⟨I1, rfl, a2, a3, q⟩
  | false =>
    simp only [Bool.false_eq_true, if_false]
    refine ⟨fun k' h => (by cases h), fun f h => ?_⟩
    rw [← Sum.inr.inj h]
    simp (disch := omega) only [↓reduceIte, lt_TI, lt_FI, le_TI, le_FI, eq_TI, eq_FI, lt_TN, lt_FN, le_TN, le_FN, eq_TN, eq_FN, and_self, and_true, true_and, and_false, false_and, or_true, true_or, or_false, false_or, not_true_eq_false, not_false_eq_true, wr_of, uI_at, uC_at, q_bi_s, q_bl_s, q_br_s, q_bv_s, Int.toNat_natCast, tn_1, tn_m, tn_n, Int.toNat_zero, Int.toNat_one, e46_0, e44_0, e46_9]
    exact ⟨_, rfl, by simp (disch := omega) only [↓reduceIte, lt_TI, lt_FI, le_TI, le_FI, eq_TI, eq_FI, lt_TN, lt_FN, le_TN, le_FN, eq_TN, eq_FN, and_self, and_true, true_and, and_false, false_and, or_true, true_or, or_false, false_or, not_true_eq_false, not_false_eq_true, wr_of, uI_at, uC_at, q_bi_s, q_bl_s, q_br_s, q_bv_s, Int.toNat_natCast, tn_1, tn_m, tn_n, Int.toNat_zero, Int.toNat_one] <;> rfl, by simp (disch := omega) only [↓reduceIte, lt_TI, lt_FI, le_TI, le_FI, eq_TI, eq_FI, lt_TN, lt_FN, le_TN, le_FN, eq_TN, eq_FN, and_self, and_true, true_and, and_false, false_and, or_true, true_or, or_false, false_or, not_true_eq_false, not_false_eq_true, wr_of, uI_at, uC_at, q_bi_s, q_bl_s, q_br_s, q_bv_s, Int.toNat_natCast, tn_1, tn_m, tn_n, Int.toNat_zero, Int.toNat_one, hp], RW_4⟩
theorem RE_pre {I0 I1 I' : Nat → Nat → Int} {v : Int} {R : Sum PSt Flt} (h : RE I1 I' u b n v R) (e : I1 2 6 = I0 2 6) : RE I0 I' u b n v R := by
  cases R with
  | inl s => exact ⟨h.1, h.2.1, h.2.2.trans e⟩
  | inr f => exact h
theorem RE_v {I0 I' : Nat → Nat → Int} {v : Int} {R : Sum PSt Flt} (h : RE I0 I' u b n v R) : v = 0 ∨ v = 1 := by
  cases R with
  | inl s => exact Or.inr h.1
  | inr f => exact Or.inl h.1
theorem RA_ks {I1 : Nat → Nat → Int} (A : TAt I u T) (N : NAt I b n (tC T) nm) (h : KS I I1) : TAt I1 u T ∧ NAt I1 b n (tC T) nm := by
  have hu : u = 7 ∨ u = 248 := A.1.2.2.2.2.2
  exact ⟨TAt_rw A (fun a h1 h2 => h.1 a (by omega)), NAt_w N (h.1 5 (by omega)) (h.1 6 (by omega))⟩
theorem c_readLine (A : TAt I u T) (H : KT I b n k) (N : NAt I b n (tC T) nm) (p : PTk T) : ∃ v I', q_E (45, 0, [vr 2], []) (qk t u I J) = some (vi v, qk t u I' J) ∧ RE I I' u b n v (rLine b n (T, nm, k)) ∧ RF u I I' := by
  have hu : u = 7 ∨ u = 248 := A.1.2.2.2.2.2
  have k18 := A.1.1
  have k7 := A.2.2.1
  have k9 := A.2.2.2.2.1
  have k11 := A.2.2.2.2.2.2.1
  have hp := H.2.2.2.2.1
  have e0 := c_isWord (t := t) (u := u) (J := J) H (i := 0) (by omega)
  have e3 := c_isWord (t := t) (u := u) (J := J) H (i := 3) (by omega)
  have e4 := c_isWord (t := t) (u := u) (J := J) H (i := 4) (by omega)
  have e5 := c_isWord (t := t) (u := u) (J := J) H (i := 5) (by omega)
  simp only [Nat.reduceAdd] at e0 e3 e4 e5
  unfold rLine
  by_cases q0 : isWd b k 1000 = true
  · rw [if_pos q0] at e0
    simp only [if_pos q0]
    by_cases z : tH T = 0
    · simp only [if_pos z]
      obtain ⟨v, I', a1, a2, a3⟩ := c_readStore (t := t) (J := J) A H N
      rw [z] at k7
      have vv := RE_v a2
      rcases vv with w | w <;> subst w <;> simp (disch := omega) only [↓reduceIte, lt_TI, lt_FI, le_TI, le_FI, eq_TI, eq_FI, lt_TN, lt_FN, le_TN, le_FN, eq_TN, eq_FN, and_self, and_true, true_and, and_false, false_and, or_true, true_or, or_false, false_or, not_true_eq_false, not_false_eq_true, wr_of, uI_at, uC_at, q_bi_s, q_bl_s, q_br_s, q_bv_s, Int.toNat_natCast, tn_1, tn_m, tn_n, Int.toNat_zero, Int.toNat_one, e45_0, e0, e45_9, k18, k7, Int.natCast_zero, a1, e45_26, e45_34] <;> exact ⟨_, I', rfl, a2, a3⟩
    · simp only [if_neg z]
      simp (disch := omega) only [↓reduceIte, lt_TI, lt_FI, le_TI, le_FI, eq_TI, eq_FI, lt_TN, lt_FN, le_TN, le_FN, eq_TN, eq_FN, and_self, and_true, true_and, and_false, false_and, or_true, true_or, or_false, false_or, not_true_eq_false, not_false_eq_true, wr_of, uI_at, uC_at, q_bi_s, q_bl_s, q_br_s, q_bv_s, Int.toNat_natCast, tn_1, tn_m, tn_n, Int.toNat_zero, Int.toNat_one, e45_0, e0, e45_9, k18, k7, e44_0, e45_34]
      exact ⟨_, _, rfl, ⟨rfl, by simp (disch := omega) only [↓reduceIte, lt_TI, lt_FI, le_TI, le_FI, eq_TI, eq_FI, lt_TN, lt_FN, le_TN, le_FN, eq_TN, eq_FN, and_self, and_true, true_and, and_false, false_and, or_true, true_or, or_false, false_or, not_true_eq_false, not_false_eq_true, wr_of, uI_at, uC_at, q_bi_s, q_bl_s, q_br_s, q_bv_s, Int.toNat_natCast, tn_1, tn_m, tn_n, Int.toNat_zero, Int.toNat_one] <;> rfl, by simp (disch := omega) only [↓reduceIte, lt_TI, lt_FI, le_TI, le_FI, eq_TI, eq_FI, lt_TN, lt_FN, le_TN, le_FN, eq_TN, eq_FN, and_self, and_true, true_and, and_false, false_and, or_true, true_or, or_false, false_or, not_true_eq_false, not_false_eq_true, wr_of, uI_at, uC_at, q_bi_s, q_bl_s, q_br_s, q_bv_s, Int.toNat_natCast, tn_1, tn_m, tn_n, Int.toNat_zero, Int.toNat_one, hp]⟩, RF_rw RW_4⟩
  · rw [if_neg q0] at e0
    simp only [if_neg q0]
    by_cases q3 : isWd b k 1003 = true
    · rw [if_pos q3] at e3
      simp only [if_pos q3]
      obtain ⟨w1, w2⟩ := c_opens (t := t) (J := J) A H (decide (tC T < 4))
      have ej : q_E (45, 44, [vr 2], [vi 1]) (qk t u I J) = (q_bi (q_E (46, 0, [vr 2, vi (if decide (tC T < 4) = true then 1 else 0)], []) (qk t u I J)) fun z M1 => q_E (45, 67, [vr 2], [vi z]) M1) := by
        clear w1 w2
        by_cases y : tC T < 4
        · rw [decide_eq_true y]; simp (disch := omega) only [↓reduceIte, lt_TI, lt_FI, le_TI, le_FI, eq_TI, eq_FI, lt_TN, lt_FN, le_TN, le_FN, eq_TN, eq_FN, and_self, and_true, true_and, and_false, false_and, or_true, true_or, or_false, false_or, not_true_eq_false, not_false_eq_true, wr_of, uI_at, uC_at, q_bi_s, q_bl_s, q_br_s, q_bv_s, Int.toNat_natCast, tn_1, tn_m, tn_n, Int.toNat_zero, Int.toNat_one, e45_44, k18, k9]
        · rw [decide_eq_false y]; simp (disch := omega) only [↓reduceIte, lt_TI, lt_FI, le_TI, le_FI, eq_TI, eq_FI, lt_TN, lt_FN, le_TN, le_FN, eq_TN, eq_FN, and_self, and_true, true_and, and_false, false_and, or_true, true_or, or_false, false_or, not_true_eq_false, not_false_eq_true, wr_of, uI_at, uC_at, q_bi_s, q_bl_s, q_br_s, q_bv_s, Int.toNat_natCast, tn_1, tn_m, tn_n, Int.toNat_zero, Int.toNat_one, e45_44, k18, k9, Bool.false_eq_true]
      cases hr : rOpen b n (decide (tC T < 4)) T k with
      | inr f =>
        obtain ⟨I1, a1, a2, a3, a4⟩ := w2 f hr
        clear w1 w2
        rw [a1, q_bi_s] at ej
        simp only [sb_r]
        simp (disch := omega) only [↓reduceIte, lt_TI, lt_FI, le_TI, le_FI, eq_TI, eq_FI, lt_TN, lt_FN, le_TN, le_FN, eq_TN, eq_FN, and_self, and_true, true_and, and_false, false_and, or_true, true_or, or_false, false_or, not_true_eq_false, not_false_eq_true, wr_of, uI_at, uC_at, q_bi_s, q_bl_s, q_br_s, q_bv_s, Int.toNat_natCast, tn_1, tn_m, tn_n, Int.toNat_zero, Int.toNat_one, e45_0, e0, e45_9, e3, ej, e45_67, e45_81]
        exact ⟨_, I1, rfl, ⟨rfl, a2, a3⟩, RF_rw a4⟩
      | inl k' =>
        obtain ⟨I1, a1, a2, a3, a4⟩ := w1 k' hr
        clear w1 w2
        rw [a1, q_bi_s] at ej
        simp only [sb_l]
        have y : tC T < 4 := by
          by_cases y : tC T < 4
          · exact y
          · rw [decide_eq_false y] at hr; cases hr
        obtain ⟨A1, N1⟩ := RA_ks A N a3
        obtain ⟨v, I2, b1, b2, b3⟩ := c_readCellar (t := t) (J := J) A1 a2 N1 y (PTk_h p a4)
        have b2' := RE_pre b2 (show I1 2 6 = I 2 6 by rw [a3.1 2 (by omega)])
        rcases RE_v b2 with w | w <;> subst w <;> simp (disch := omega) only [↓reduceIte, lt_TI, lt_FI, le_TI, le_FI, eq_TI, eq_FI, lt_TN, lt_FN, le_TN, le_FN, eq_TN, eq_FN, and_self, and_true, true_and, and_false, false_and, or_true, true_or, or_false, false_or, not_true_eq_false, not_false_eq_true, wr_of, uI_at, uC_at, q_bi_s, q_bl_s, q_br_s, q_bv_s, Int.toNat_natCast, tn_1, tn_m, tn_n, Int.toNat_zero, Int.toNat_one, e45_0, e0, e45_9, e3, ej, e45_67, b1, e45_74, e45_81] <;> exact ⟨_, I2, rfl, b2', RF_tr (RF_rw (RW_ks a3)) b3⟩
    · rw [if_neg q3] at e3
      simp only [if_neg q3]
      by_cases q4 : isWd b k 1004 = true
      · rw [if_pos q4] at e4
        simp only [if_pos q4]
        obtain ⟨w1, w2⟩ := c_opens (t := t) (J := J) A H true
        simp only [if_true] at w1 w2
        cases hr : rOpen b n true T k with
        | inr f =>
          obtain ⟨I1, a1, a2, a3, a4⟩ := w2 f hr
          clear w1 w2
          simp only [sb_r]
          simp (disch := omega) only [↓reduceIte, lt_TI, lt_FI, le_TI, le_FI, eq_TI, eq_FI, lt_TN, lt_FN, le_TN, le_FN, eq_TN, eq_FN, and_self, and_true, true_and, and_false, false_and, or_true, true_or, or_false, false_or, not_true_eq_false, not_false_eq_true, wr_of, uI_at, uC_at, q_bi_s, q_bl_s, q_br_s, q_bv_s, Int.toNat_natCast, tn_1, tn_m, tn_n, Int.toNat_zero, Int.toNat_one, e45_0, e0, e45_9, e3, e45_44, e4, e45_92, a1, e45_100, e45_114]
          exact ⟨_, I1, rfl, ⟨rfl, a2, a3⟩, RF_rw a4⟩
        | inl k' =>
          obtain ⟨I1, a1, a2, a3, a4⟩ := w1 k' hr
          clear w1 w2
          simp only [sb_l]
          obtain ⟨A1, N1⟩ := RA_ks A N a3
          obtain ⟨v, I2, b1, b2, b3⟩ := c_readUnsure (t := t) (J := J) A1 a2 N1 (PTk_h p a4)
          have b2' := RE_pre b2 (show I1 2 6 = I 2 6 by rw [a3.1 2 (by omega)])
          rcases RE_v b2 with w | w <;> subst w <;> simp (disch := omega) only [↓reduceIte, lt_TI, lt_FI, le_TI, le_FI, eq_TI, eq_FI, lt_TN, lt_FN, le_TN, le_FN, eq_TN, eq_FN, and_self, and_true, true_and, and_false, false_and, or_true, true_or, or_false, false_or, not_true_eq_false, not_false_eq_true, wr_of, uI_at, uC_at, q_bi_s, q_bl_s, q_br_s, q_bv_s, Int.toNat_natCast, tn_1, tn_m, tn_n, Int.toNat_zero, Int.toNat_one, e45_0, e0, e45_9, e3, e45_44, e4, e45_92, a1, e45_100, b1, e45_107, e45_114] <;> exact ⟨_, I2, rfl, b2', RF_tr (RF_rw (RW_ks a3)) b3⟩
      · rw [if_neg q4] at e4
        simp only [if_neg q4]
        by_cases q5 : isWd b k 1005 = true
        · rw [if_pos q5] at e5
          simp only [if_pos q5]
          obtain ⟨w1, w2⟩ := c_opens (t := t) (J := J) A H (decide (tE T < 6))
          have ej : q_E (45, 125, [vr 2], [vi 1]) (qk t u I J) = (q_bi (q_E (46, 0, [vr 2, vi (if decide (tE T < 6) = true then 1 else 0)], []) (qk t u I J)) fun z M1 => q_E (45, 149, [vr 2], [vi z]) M1) := by
            clear w1 w2
            by_cases y : tE T < 6
            · rw [decide_eq_true y]; simp (disch := omega) only [↓reduceIte, lt_TI, lt_FI, le_TI, le_FI, eq_TI, eq_FI, lt_TN, lt_FN, le_TN, le_FN, eq_TN, eq_FN, and_self, and_true, true_and, and_false, false_and, or_true, true_or, or_false, false_or, not_true_eq_false, not_false_eq_true, wr_of, uI_at, uC_at, q_bi_s, q_bl_s, q_br_s, q_bv_s, Int.toNat_natCast, tn_1, tn_m, tn_n, Int.toNat_zero, Int.toNat_one, e45_125, k18, k11]
            · rw [decide_eq_false y]; simp (disch := omega) only [↓reduceIte, lt_TI, lt_FI, le_TI, le_FI, eq_TI, eq_FI, lt_TN, lt_FN, le_TN, le_FN, eq_TN, eq_FN, and_self, and_true, true_and, and_false, false_and, or_true, true_or, or_false, false_or, not_true_eq_false, not_false_eq_true, wr_of, uI_at, uC_at, q_bi_s, q_bl_s, q_br_s, q_bv_s, Int.toNat_natCast, tn_1, tn_m, tn_n, Int.toNat_zero, Int.toNat_one, e45_125, k18, k11, Bool.false_eq_true]
          cases hr : rOpen b n (decide (tE T < 6)) T k with
          | inr f =>
            obtain ⟨I1, a1, a2, a3, a4⟩ := w2 f hr
            clear w1 w2
            rw [a1, q_bi_s] at ej
            simp only [sb_r]
            simp (disch := omega) only [↓reduceIte, lt_TI, lt_FI, le_TI, le_FI, eq_TI, eq_FI, lt_TN, lt_FN, le_TN, le_FN, eq_TN, eq_FN, and_self, and_true, true_and, and_false, false_and, or_true, true_or, or_false, false_or, not_true_eq_false, not_false_eq_true, wr_of, uI_at, uC_at, q_bi_s, q_bl_s, q_br_s, q_bv_s, Int.toNat_natCast, tn_1, tn_m, tn_n, Int.toNat_zero, Int.toNat_one, e45_0, e0, e45_9, e3, e45_44, e4, e45_92, e5, ej, e45_149, e45_163]
            exact ⟨_, I1, rfl, ⟨rfl, a2, a3⟩, RF_rw a4⟩
          | inl k' =>
            obtain ⟨I1, a1, a2, a3, a4⟩ := w1 k' hr
            clear w1 w2
            rw [a1, q_bi_s] at ej
            simp only [sb_l]
            have y : tE T < 6 := by
              by_cases y : tE T < 6
              · exact y
              · rw [decide_eq_false y] at hr; cases hr
            obtain ⟨A1, N1⟩ := RA_ks A N a3
            obtain ⟨v, I2, b1, b2, b3⟩ := c_readSeen (t := t) (J := J) A1 a2 N1 (PTk_h p a4) y
            have b2' := RE_pre b2 (show I1 2 6 = I 2 6 by rw [a3.1 2 (by omega)])
            rcases RE_v b2 with w | w <;> subst w <;> simp (disch := omega) only [↓reduceIte, lt_TI, lt_FI, le_TI, le_FI, eq_TI, eq_FI, lt_TN, lt_FN, le_TN, le_FN, eq_TN, eq_FN, and_self, and_true, true_and, and_false, false_and, or_true, true_or, or_false, false_or, not_true_eq_false, not_false_eq_true, wr_of, uI_at, uC_at, q_bi_s, q_bl_s, q_br_s, q_bv_s, Int.toNat_natCast, tn_1, tn_m, tn_n, Int.toNat_zero, Int.toNat_one, e45_0, e0, e45_9, e3, e45_44, e4, e45_92, e5, ej, e45_149, b1, e45_156, e45_163] <;> exact ⟨_, I2, rfl, b2', RF_tr (RF_rw (RW_ks a3)) b3⟩
        · rw [if_neg q5] at e5
          simp only [if_neg q5]
          simp (disch := omega) only [↓reduceIte, lt_TI, lt_FI, le_TI, le_FI, eq_TI, eq_FI, lt_TN, lt_FN, le_TN, le_FN, eq_TN, eq_FN, and_self, and_true, true_and, and_false, false_and, or_true, true_or, or_false, false_or, not_true_eq_false, not_false_eq_true, wr_of, uI_at, uC_at, q_bi_s, q_bl_s, q_br_s, q_bv_s, Int.toNat_natCast, tn_1, tn_m, tn_n, Int.toNat_zero, Int.toNat_one, e45_0, e0, e45_9, e3, e45_44, e4, e45_92, e5, e45_125, e44_0, e45_170]
          exact ⟨_, _, rfl, ⟨rfl, by simp (disch := omega) only [↓reduceIte, lt_TI, lt_FI, le_TI, le_FI, eq_TI, eq_FI, lt_TN, lt_FN, le_TN, le_FN, eq_TN, eq_FN, and_self, and_true, true_and, and_false, false_and, or_true, true_or, or_false, false_or, not_true_eq_false, not_false_eq_true, wr_of, uI_at, uC_at, q_bi_s, q_bl_s, q_br_s, q_bv_s, Int.toNat_natCast, tn_1, tn_m, tn_n, Int.toNat_zero, Int.toNat_one] <;> rfl, by simp (disch := omega) only [↓reduceIte, lt_TI, lt_FI, le_TI, le_FI, eq_TI, eq_FI, lt_TN, lt_FN, le_TN, le_FN, eq_TN, eq_FN, and_self, and_true, true_and, and_false, false_and, or_true, true_or, or_false, false_or, not_true_eq_false, not_false_eq_true, wr_of, uI_at, uC_at, q_bi_s, q_bl_s, q_br_s, q_bv_s, Int.toNat_natCast, tn_1, tn_m, tn_n, Int.toNat_zero, Int.toNat_one, hp]⟩, RF_rw RW_4⟩
end

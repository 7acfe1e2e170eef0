/-! the class's queries by chance; what is told -/
section
variable {t u : Nat} {I J : Nat → Nat → Int} {S : St}
theorem bn_ext (x y : Nat) : ∀ (n : Nat) (f g : Nat → Nat), (∀ a, f a = g a) → bn x y n f = bn x y n g
  | 0, f, g, h => h 0
  | n + 1, f, g, h => by
    unfold bn
    rw [bn_ext x y n f g h, bn_ext x y n _ _ (fun a => h (a + 1))]
theorem k_odds (V : CInv S t u I) (c n m : Int) (l : Bool) : ∃ I', q_E (147, 0, [vr 1, vi c, vi n, vi m, vi (if l = true then 1 else 0)], []) (qk t u I J) = some (vl (sp_odds S c n m l).1, qk t u I' J) ∧ QC (sp_odds S c n m l).2 I I' := by
  obtain ⟨V2, e9, k18⟩ := CInv_qi V 0
  have ht := V2.2.2.1
  unfold sp_odds
  by_cases hc : isCl S c
  · simp only [if_pos hc]
    obtain ⟨hc1, hc2⟩ := hc
    obtain ⟨c, rfl⟩ : ∃ m : Nat, c = (m : Int) := ⟨c.toNat, by omega⟩
    have hm : c < tC (sTo S) := by omega
    have T := SOk_T V.1 hm
    have r1 := r_cell_ok (u := u) (J := J) k18 e9 hc1 hc2
    by_cases hn : 0 ≤ n ∧ n ≤ 8
    · by_cases hk : 0 ≤ m ∧ m ≤ 60
      · simp only [if_pos (show 0 ≤ n ∧ n ≤ 8 ∧ 0 ≤ m ∧ m ≤ 60 from ⟨hn.1, hn.2, hk⟩)]
        obtain ⟨hn1, hn2⟩ := hn
        obtain ⟨hk1, hk2⟩ := hk
        obtain ⟨n, rfl⟩ : ∃ o : Nat, n = (o : Int) := ⟨n.toNat, by omega⟩
        obtain ⟨m, rfl⟩ : ∃ o : Nat, m = (o : Int) := ⟨m.toNat, by omega⟩
        simp only [Int.toNat_natCast]
        obtain ⟨I1, a1, a2, a3⟩ := c_begin (u := u) (J := J) V2 hm WId_232 (Or.inl rfl)
        have k8 : I1 t 8 = (tS (sTo S) : Int) := (QI_kp V2 a3 (by omega) (by omega)).2.1.2.2.2.1
        obtain ⟨I2, b1, b2⟩ := c_odds (t := t) (u := u) (J := J) (T.2.2.2.2.1 c hm) T.1 T.2.1 (s := tS (sTo S)) (n := n) (many := m) T.2.2.1 (by omega) (by omega) (V.1.2.1.1 c) ⟨_, _, _, a2, by omega, by omega, by omega⟩
        have p := c_power (t := t) (u := u) (I := I2) (J := J) (b := 100) (e := n) (by omega) (by omega)
        have h10 := p100 (n := n) (by omega)
        have bd := bn_le (100 - tS (sTo S)) (tS (sTo S)) n (fun a => if m ≤ (nti (tL (sTo S) c) (tH (sTo S)) a ((sNw S).1 c)).1.length then 1 else 0) (M := 1) (fun a => by show (if _ then 1 else 0) ≤ 1; split <;> omega)
        rw [show 100 - tS (sTo S) + tS (sTo S) = 100 by have := T.2.2.1; omega] at bd
        have l0 := c_lowest (t := t) (u := u) (I := I2) (J := J) (up := bn (100 - tS (sTo S)) (tS (sTo S)) n (fun a => if m ≤ (nti (tL (sTo S) c) (tH (sTo S)) a ((sNw S).1 c)).1.length then 1 else 0)) (down := 100 ^ n) (by omega) (by omega) (Nat.pow_pos (by omega)) (l := l)
        simp (disch := omega) only [↓reduceIte, lt_TI, lt_FI, le_TI, le_FI, eq_TI, eq_FI, lt_TN, lt_FN, le_TN, le_FN, eq_TN, eq_FN, and_self, and_true, true_and, and_false, false_and, or_true, true_or, or_false, false_or, not_true_eq_false, not_false_eq_true, wr_of, uI_at, uC_at, q_bi_s, q_bl_s, q_br_s, q_bv_s, Int.toNat_natCast, tn_1, tn_m, tn_n, Int.toNat_zero, Int.toNat_one, r1, e147_0, e147_5, e147_15, e147_25, r_num_ok, uI_uI, a1, e147_41, k18, k8, b1, e147_57]
        rw [show vi (100 : Int) = vi ((100 : Nat) : Int) from rfl, p]
        simp (disch := omega) only [↓reduceIte, lt_TI, lt_FI, le_TI, le_FI, eq_TI, eq_FI, lt_TN, lt_FN, le_TN, le_FN, eq_TN, eq_FN, and_self, and_true, true_and, and_false, false_and, or_true, true_or, or_false, false_or, not_true_eq_false, not_false_eq_true, wr_of, uI_at, uC_at, q_bi_s, q_bl_s, q_br_s, q_bv_s, Int.toNat_natCast, tn_1, tn_m, tn_n, Int.toNat_zero, Int.toNat_one, e147_63, l0, e147_68]
        exact ⟨I2, rfl, QC_kp (Kp_tr a3 b2 (lo := 232) (hi := 236) (by omega) (by omega) (by omega) (by omega)) (by omega) (by omega)⟩
      · simp only [if_neg (show ¬ (0 ≤ n ∧ n ≤ 8 ∧ 0 ≤ m ∧ m ≤ 60) from fun z => hk z.2.2)]
        simp (disch := omega) only [↓reduceIte, lt_TI, lt_FI, le_TI, le_FI, eq_TI, eq_FI, lt_TN, lt_FN, le_TN, le_FN, eq_TN, eq_FN, and_self, and_true, true_and, and_false, false_and, or_true, true_or, or_false, false_or, not_true_eq_false, not_false_eq_true, wr_of, uI_at, uC_at, q_bi_s, q_bl_s, q_br_s, q_bv_s, Int.toNat_natCast, tn_1, tn_m, tn_n, Int.toNat_zero, Int.toNat_one, r1, e147_0, e147_5, e147_15, e147_25, r_num_ok, r_num_no, uI_uI]
        exact ⟨_, rfl, QC_rf⟩
    · simp only [if_neg (show ¬ (0 ≤ n ∧ n ≤ 8 ∧ 0 ≤ m ∧ m ≤ 60) from fun z => hn ⟨z.1, z.2.1⟩)]
      simp (disch := omega) only [↓reduceIte, lt_TI, lt_FI, le_TI, le_FI, eq_TI, eq_FI, lt_TN, lt_FN, le_TN, le_FN, eq_TN, eq_FN, and_self, and_true, true_and, and_false, false_and, or_true, true_or, or_false, false_or, not_true_eq_false, not_false_eq_true, wr_of, uI_at, uC_at, q_bi_s, q_bl_s, q_br_s, q_bv_s, Int.toNat_natCast, tn_1, tn_m, tn_n, Int.toNat_zero, Int.toNat_one, r1, e147_0, e147_5, e147_15, e147_25, r_num_no, uI_uI]
      exact ⟨_, rfl, QC_rf⟩
  · simp only [if_neg hc]
    have r1 := r_cell_no (c := c) (u := u) (J := J) k18 e9 (by omega)
    simp (disch := omega) only [↓reduceIte, lt_TI, lt_FI, le_TI, le_FI, eq_TI, eq_FI, lt_TN, lt_FN, le_TN, le_FN, eq_TN, eq_FN, and_self, and_true, true_and, and_false, false_and, or_true, true_or, or_false, false_or, not_true_eq_false, not_false_eq_true, wr_of, uI_at, uC_at, q_bi_s, q_bl_s, q_br_s, q_bv_s, Int.toNat_natCast, tn_1, tn_m, tn_n, Int.toNat_zero, Int.toNat_one, r1, e147_0, e147_5]
    exact ⟨_, rfl, QC_rf⟩
theorem k_mean (V : CInv S t u I) (c n : Int) (l : Bool) : ∃ I', q_E (148, 0, [vr 1, vi c, vi n, vi (if l = true then 1 else 0)], []) (qk t u I J) = some (vl (sp_mean S c n l).1, qk t u I' J) ∧ QC (sp_mean S c n l).2 I I' := by
  obtain ⟨V2, e9, k18⟩ := CInv_qi V 0
  have ht := V2.2.2.1
  unfold sp_mean
  by_cases hc : isCl S c
  · simp only [if_pos hc]
    obtain ⟨hc1, hc2⟩ := hc
    obtain ⟨c, rfl⟩ : ∃ m : Nat, c = (m : Int) := ⟨c.toNat, by omega⟩
    have hm : c < tC (sTo S) := by omega
    have T := SOk_T V.1 hm
    have r1 := r_cell_ok (u := u) (J := J) k18 e9 hc1 hc2
    by_cases hn : 0 ≤ n ∧ n ≤ 8
    · simp only [if_pos hn]
      obtain ⟨hn1, hn2⟩ := hn
      obtain ⟨n, rfl⟩ : ∃ o : Nat, n = (o : Int) := ⟨n.toNat, by omega⟩
      simp only [Int.toNat_natCast]
      obtain ⟨I1, a1, a2, a3⟩ := c_begin (u := u) (J := J) V2 hm WId_232 (Or.inl rfl)
      have k8 : I1 t 8 = (tS (sTo S) : Int) := (QI_kp V2 a3 (by omega) (by omega)).2.1.2.2.2.1
      obtain ⟨I2, b1, b2⟩ := c_mean (t := t) (u := u) (J := J) (T.2.2.2.2.1 c hm) T.1 T.2.1 (s := tS (sTo S)) (n := n) T.2.2.1 (by omega) (V.1.2.1.1 c) ⟨_, _, _, a2, by omega, by omega, by omega⟩
      have p := c_power (t := t) (u := u) (I := I2) (J := J) (b := 100) (e := n) (by omega) (by omega)
      have h10 := p100 (n := n) (by omega)
      have bd := bn_le (100 - tS (sTo S)) (tS (sTo S)) n (fun a => (nti (tL (sTo S) c) (tH (sTo S)) a ((sNw S).1 c)).1.length) (M := 60) (fun a => HOk_len (nti_ok T.1 (V.1.2.1.1 c) a))
      rw [show 100 - tS (sTo S) + tS (sTo S) = 100 by have := T.2.2.1; omega] at bd
      have l0 := c_lowest (t := t) (u := u) (I := I2) (J := J) (up := bn (100 - tS (sTo S)) (tS (sTo S)) n (fun a => (nti (tL (sTo S) c) (tH (sTo S)) a ((sNw S).1 c)).1.length)) (down := 100 ^ n) (by omega) (by omega) (Nat.pow_pos (by omega)) (l := l)
      simp (disch := omega) only [↓reduceIte, lt_TI, lt_FI, le_TI, le_FI, eq_TI, eq_FI, lt_TN, lt_FN, le_TN, le_FN, eq_TN, eq_FN, and_self, and_true, true_and, and_false, false_and, or_true, true_or, or_false, false_or, not_true_eq_false, not_false_eq_true, wr_of, uI_at, uC_at, q_bi_s, q_bl_s, q_br_s, q_bv_s, Int.toNat_natCast, tn_1, tn_m, tn_n, Int.toNat_zero, Int.toNat_one, r1, e148_0, e148_5, e148_15, r_num_ok, uI_uI, a1, e148_31, k18, k8, b1, e148_46]
      rw [show vi (100 : Int) = vi ((100 : Nat) : Int) from rfl, p]
      simp (disch := omega) only [↓reduceIte, lt_TI, lt_FI, le_TI, le_FI, eq_TI, eq_FI, lt_TN, lt_FN, le_TN, le_FN, eq_TN, eq_FN, and_self, and_true, true_and, and_false, false_and, or_true, true_or, or_false, false_or, not_true_eq_false, not_false_eq_true, wr_of, uI_at, uC_at, q_bi_s, q_bl_s, q_br_s, q_bv_s, Int.toNat_natCast, tn_1, tn_m, tn_n, Int.toNat_zero, Int.toNat_one, e148_52, l0, e148_56]
      exact ⟨I2, rfl, QC_kp (Kp_tr a3 b2 (lo := 232) (hi := 236) (by omega) (by omega) (by omega) (by omega)) (by omega) (by omega)⟩
    · simp only [if_neg hn]
      simp (disch := omega) only [↓reduceIte, lt_TI, lt_FI, le_TI, le_FI, eq_TI, eq_FI, lt_TN, lt_FN, le_TN, le_FN, eq_TN, eq_FN, and_self, and_true, true_and, and_false, false_and, or_true, true_or, or_false, false_or, not_true_eq_false, not_false_eq_true, wr_of, uI_at, uC_at, q_bi_s, q_bl_s, q_br_s, q_bv_s, Int.toNat_natCast, tn_1, tn_m, tn_n, Int.toNat_zero, Int.toNat_one, r1, e148_0, e148_5, e148_15, r_num_no, uI_uI]
      exact ⟨_, rfl, QC_rf⟩
  · simp only [if_neg hc]
    have r1 := r_cell_no (c := c) (u := u) (J := J) k18 e9 (by omega)
    simp (disch := omega) only [↓reduceIte, lt_TI, lt_FI, le_TI, le_FI, eq_TI, eq_FI, lt_TN, lt_FN, le_TN, le_FN, eq_TN, eq_FN, and_self, and_true, true_and, and_false, false_and, or_true, true_or, or_false, false_or, not_true_eq_false, not_false_eq_true, wr_of, uI_at, uC_at, q_bi_s, q_bl_s, q_br_s, q_bv_s, Int.toNat_natCast, tn_1, tn_m, tn_n, Int.toNat_zero, Int.toNat_one, r1, e148_0, e148_5]
    exact ⟨_, rfl, QC_rf⟩
theorem drw_b (sl seed : Nat) (h : seed ≤ 65536) : ∀ n, (drw sl seed n).1 ≤ 65536 ∧ (drw sl seed n).2 ≤ n
  | 0 => ⟨h, Nat.le_refl _⟩
  | n + 1 => by
    have := drw_b sl seed h n
    unfold drw
    exact ⟨by show (75 * (drw sl seed n).1 + 74) % 65537 ≤ 65536; have := Nat.mod_lt (75 * (drw sl seed n).1 + 74) (show 0 < 65537 by omega); omega, by show (drw sl seed n).2 + (if _ then 1 else 0) ≤ n + 1; split <;> omega⟩
theorem k_drawn (V : CInv S t u I) (c s n : Int) : ∃ I', q_E (149, 0, [vr 1, vi c, vi s, vi n, vu, vu], []) (qk t u I J) = some (vi (sp_drawn S c s n).1, qk t u I' J) ∧ QC (sp_drawn S c s n).2 I I' := by
  obtain ⟨V2, e9, k18⟩ := CInv_qi V 0
  have ht := V2.2.2.1
  unfold sp_drawn
  by_cases hc : isCl S c
  · simp only [if_pos hc]
    obtain ⟨hc1, hc2⟩ := hc
    obtain ⟨c, rfl⟩ : ∃ m : Nat, c = (m : Int) := ⟨c.toNat, by omega⟩
    have hm : c < tC (sTo S) := by omega
    have T := SOk_T V.1 hm
    have r1 := r_cell_ok (u := u) (J := J) k18 e9 hc1 hc2
    by_cases hs : 0 ≤ s ∧ s ≤ 65536
    · by_cases hn : 0 ≤ n ∧ n ≤ 200
      · simp only [if_pos (show 0 ≤ s ∧ s ≤ 65536 ∧ 0 ≤ n ∧ n ≤ 200 from ⟨hs.1, hs.2, hn⟩)]
        obtain ⟨hn1, hn2⟩ := hn
        obtain ⟨hs1, hs2⟩ := hs
        obtain ⟨n, rfl⟩ : ∃ o : Nat, n = (o : Int) := ⟨n.toNat, by omega⟩
        obtain ⟨s, rfl⟩ : ∃ o : Nat, s = (o : Int) := ⟨s.toNat, by omega⟩
        simp only [Int.toNat_natCast]
        obtain ⟨I1, a1, a2, a3⟩ := c_begin (u := u) (J := J) V2 hm WId_232 (Or.inl rfl)
        have loop : ∀ (r i : Nat) (I1 : Nat → Nat → Int), i + r = n → I1 t 8 = (tS (sTo S) : Int) → WWk I1 232 (tL (sTo S) c) (tH (sTo S)) (ahd S c (drw (tS (sTo S)) s i).2) i → ∃ I', q_E (149, 47, [vr 1, vu, vu, vi (n : Int), vi ((drw (tS (sTo S)) s i).1 : Int), vi (i : Int)], []) (qk t u I1 J) = some (vi ((ahd S c (drw (tS (sTo S)) s n).2).1.length : Int), qk t u I' J) ∧ Kp 232 236 I1 I' := by
          intro r
          induction r with
          | zero =>
            intro i I1 hi k8 A
            obtain ⟨y, sm, nm, ⟨w, HA, -⟩, -⟩ := A
            have ei : i = n := by omega
            subst ei
            rw [e149_47]
            simp (disch := omega) only [↓reduceIte, lt_TI, lt_FI, le_TI, le_FI, eq_TI, eq_FI, lt_TN, lt_FN, le_TN, le_FN, eq_TN, eq_FN, and_self, and_true, true_and, and_false, false_and, or_true, true_or, or_false, false_or, not_true_eq_false, not_false_eq_true, wr_of, uI_at, uC_at, q_bi_s, q_bl_s, q_br_s, q_bv_s, Int.toNat_natCast, tn_1, tn_m, tn_n, Int.toNat_zero, Int.toNat_one, HA.2.1]
            exact ⟨I1, rfl, Kp_rf⟩
          | succ r ih =>
            intro i I1 hi k8 A
            obtain ⟨d1, d2⟩ := drw_b (tS (sTo S)) s (by omega) i
            have e1 : Int.tmod (75 * ((drw (tS (sTo S)) s i).1 : Int) + 74) 65537 = (((75 * (drw (tS (sTo S)) s i).1 + 74) % 65537 : Nat) : Int) := (Int.ofNat_tmod (75 * (drw (tS (sTo S)) s i).1 + 74) 65537).symm
            have e2 : Int.tmod (((75 * (drw (tS (sTo S)) s i).1 + 74) % 65537 : Nat) : Int) 100 = (((75 * (drw (tS (sTo S)) s i).1 + 74) % 65537 % 100 : Nat) : Int) := (Int.ofNat_tmod ((75 * (drw (tS (sTo S)) s i).1 + 74) % 65537) 100).symm
            have ed : drw (tS (sTo S)) s (i + 1) = ((75 * (drw (tS (sTo S)) s i).1 + 74) % 65537, (drw (tS (sTo S)) s i).2 + if tS (sTo S) ≤ (75 * (drw (tS (sTo S)) s i).1 + 74) % 65537 % 100 then 1 else 0) := rfl
            have ihi := ih (i + 1)
            rw [ed] at ihi
            rw [e149_47]
            by_cases q : tS (sTo S) ≤ (75 * (drw (tS (sTo S)) s i).1 + 74) % 65537 % 100
            · obtain ⟨z, I2, b1, b2, b3⟩ := c_wstepk (t := t) (u := u) (J := J) (T.2.2.2.2.1 c hm) T.1 T.2.1 A (ahd_ok V.1 hm _) (by omega)
              obtain ⟨I3, c1, c2⟩ := ihi I2 (by omega) (by rw [b3 t (by omega)]; exact k8) (by rw [if_pos q]; exact b2)
              refine ⟨I3, ?_, Kp_tr b3 c2 (by omega) (by omega) (by omega) (by omega)⟩
              rw [← c1]
              simp (disch := omega) only [↓reduceIte, lt_TI, lt_FI, le_TI, le_FI, eq_TI, eq_FI, lt_TN, lt_FN, le_TN, le_FN, eq_TN, eq_FN, and_self, and_true, true_and, and_false, false_and, or_true, true_or, or_false, false_or, not_true_eq_false, not_false_eq_true, wr_of, uI_at, uC_at, q_bi_s, q_bl_s, q_br_s, q_bv_s, Int.toNat_natCast, tn_1, tn_m, tn_n, Int.toNat_zero, Int.toNat_one, k18, k8, e1, e2, b1, e149_89]
              rfl
            · have A2 : WWk I1 232 (tL (sTo S) c) (tH (sTo S)) (ahd S c (drw (tS (sTo S)) s i).2) (i + 1) := by
                obtain ⟨y, sm, nm, w, x1, x2, x3⟩ := A
                exact ⟨y, sm, nm, w, by omega, x2, by omega⟩
              obtain ⟨I3, c1, c2⟩ := ihi I1 (by omega) k8 (by rw [if_neg q]; exact A2)
              refine ⟨I3, ?_, c2⟩
              rw [← c1]
              simp (disch := omega) only [↓reduceIte, lt_TI, lt_FI, le_TI, le_FI, eq_TI, eq_FI, lt_TN, lt_FN, le_TN, le_FN, eq_TN, eq_FN, and_self, and_true, true_and, and_false, false_and, or_true, true_or, or_false, false_or, not_true_eq_false, not_false_eq_true, wr_of, uI_at, uC_at, q_bi_s, q_bl_s, q_br_s, q_bv_s, Int.toNat_natCast, tn_1, tn_m, tn_n, Int.toNat_zero, Int.toNat_one, k18, k8, e1, e2]
              rfl
        have k8 : I1 t 8 = (tS (sTo S) : Int) := (QI_kp V2 a3 (by omega) (by omega)).2.1.2.2.2.1
        obtain ⟨I2, b1, b2⟩ := loop n 0 I1 (by omega) k8 ⟨_, _, _, a2, by omega, by omega, by omega⟩
        simp (disch := omega) only [↓reduceIte, lt_TI, lt_FI, le_TI, le_FI, eq_TI, eq_FI, lt_TN, lt_FN, le_TN, le_FN, eq_TN, eq_FN, and_self, and_true, true_and, and_false, false_and, or_true, true_or, or_false, false_or, not_true_eq_false, not_false_eq_true, wr_of, uI_at, uC_at, q_bi_s, q_bl_s, q_br_s, q_bv_s, Int.toNat_natCast, tn_1, tn_m, tn_n, Int.toNat_zero, Int.toNat_one, r1, e149_0, e149_5, e149_16, e149_27, r_num_ok, uI_uI, a1, e149_41]
        exact ⟨I2, b1, QC_kp (Kp_tr a3 b2 (lo := 232) (hi := 236) (by omega) (by omega) (by omega) (by omega)) (by omega) (by omega)⟩
      · simp only [if_neg (show ¬ (0 ≤ s ∧ s ≤ 65536 ∧ 0 ≤ n ∧ n ≤ 200) from fun z => hn z.2.2)]
        simp (disch := omega) only [↓reduceIte, lt_TI, lt_FI, le_TI, le_FI, eq_TI, eq_FI, lt_TN, lt_FN, le_TN, le_FN, eq_TN, eq_FN, and_self, and_true, true_and, and_false, false_and, or_true, true_or, or_false, false_or, not_true_eq_false, not_false_eq_true, wr_of, uI_at, uC_at, q_bi_s, q_bl_s, q_br_s, q_bv_s, Int.toNat_natCast, tn_1, tn_m, tn_n, Int.toNat_zero, Int.toNat_one, r1, e149_0, e149_5, e149_16, e149_27, r_num_ok, r_num_no, uI_uI]
        exact ⟨_, rfl, QC_rf⟩
    · simp only [if_neg (show ¬ (0 ≤ s ∧ s ≤ 65536 ∧ 0 ≤ n ∧ n ≤ 200) from fun z => hs ⟨z.1, z.2.1⟩)]
      simp (disch := omega) only [↓reduceIte, lt_TI, lt_FI, le_TI, le_FI, eq_TI, eq_FI, lt_TN, lt_FN, le_TN, le_FN, eq_TN, eq_FN, and_self, and_true, true_and, and_false, false_and, or_true, true_or, or_false, false_or, not_true_eq_false, not_false_eq_true, wr_of, uI_at, uC_at, q_bi_s, q_bl_s, q_br_s, q_bv_s, Int.toNat_natCast, tn_1, tn_m, tn_n, Int.toNat_zero, Int.toNat_one, r1, e149_0, e149_5, e149_16, e149_27, r_num_no, uI_uI]
      exact ⟨_, rfl, QC_rf⟩
  · simp only [if_neg hc]
    have r1 := r_cell_no (c := c) (u := u) (J := J) k18 e9 (by omega)
    simp (disch := omega) only [↓reduceIte, lt_TI, lt_FI, le_TI, le_FI, eq_TI, eq_FI, lt_TN, lt_FN, le_TN, le_FN, eq_TN, eq_FN, and_self, and_true, true_and, and_false, false_and, or_true, true_or, or_false, false_or, not_true_eq_false, not_false_eq_true, wr_of, uI_at, uC_at, q_bi_s, q_bl_s, q_br_s, q_bv_s, Int.toNat_natCast, tn_1, tn_m, tn_n, Int.toNat_zero, Int.toNat_one, r1, e149_0, e149_5]
    exact ⟨_, rfl, QC_rf⟩
/-- the first calls told: no trouble is told of them -/
def stB (S : St) (c : Nat) : Bool := decide (ahd S c 1 = (sNw S).1 c)
def ledP (S : St) (i : Int) (c : Nat) : Bool := stB S c && decide (((List.range c).countP (stB S) : Int) = i)
def sp_led (S : St) (i : Int) : Option Nat := if fsti (ledP S i) (tC (sTo S)) < tC (sTo S) then some (fsti (ledP S i) (tC (sTo S))) else none
def sp_size (S : St) (w : Int) : Int := if w = 0 then (tH (sTo S) : Int) else if w = 1 then (tS (sTo S) : Int) else if w = 2 then (tC (sTo S) : Int) else if w = 3 then (tU (sTo S) : Int) else if w = 4 then (tE (sTo S) : Int) else if w = 5 then ((sNw S).2 : Int) else if w = 6 then ((sto ((sNw S).1 0) + sto ((sNw S).1 1) + sto ((sNw S).1 2) + sto ((sNw S).1 3) : Nat) : Int) else if w = 7 then ((sUn S).length : Int) else if w = 8 then ((sIm S).length : Int) else if w = 9 then ((sT S).length : Int) else -1
theorem c_stays0 {c : Nat} (V : QI S t I) (hc : c < tC (sTo S)) : ∃ I', q_E (169, 0, [vr 1, vi (c : Int)], []) (qk t u I J) = some (vi (if stB S c = true then 1 else 0), qk t u I' J) ∧ Kp 232 236 I I' := by
  obtain ⟨I', a1, a2⟩ := c_stays (u := u) (J := J) V hc
  refine ⟨I', ?_, a2⟩
  rw [a1]
  unfold stB
  by_cases q : ahd S c 1 = (sNw S).1 c
  · rw [if_pos q, if_pos (decide_eq_true q)]
  · rw [if_neg q, if_neg (fun z => q (of_decide_eq_true z))]
theorem CInv_q0 (V : CInv S t u I) : QI S t I := by
  obtain ⟨v1, v2, v3, v4, v5, v6, v7, v8, v9, v10, v11⟩ := V
  exact ⟨v1, v8, v2.elim (fun z => Or.inl z.1) (fun z => Or.inr z.1), v9, v10, v11⟩
theorem k_led (V : CInv S t u I) (i : Int) : ∃ I', q_E (157, 0, [vr 1, vi i, vu, vu], []) (qk t u I J) = some (match sp_led S i with | some c => vi (c : Int) | none => vu, qk t u I' J) ∧ Kp 232 236 I I' := by
  obtain ⟨V2, e9, k18⟩ := CInv_qi V 0
  have h4 := tC_4 V.1
  have ht := V2.2.2.1
  have loop : ∀ (r c : Nat) (I1 : Nat → Nat → Int), c + r = tC (sTo S) → QI S t I1 → (∀ a, a < c → ledP S i a = false) → ∃ I', q_E (157, 4, [vr 1, vi i, vi ((List.range c).countP (stB S) : Int), vi (c : Int)], []) (qk t u I1 J) = some (match sp_led S i with | some c => vi (c : Int) | none => vu, qk t u I' J) ∧ Kp 232 236 I1 I' := by
    intro r
    induction r with
    | zero =>
      intro c I1 hc Q hne
      have e : fsti (ledP S i) (tC (sTo S)) = tC (sTo S) := fsti_eq (Nat.le_refl _) (fun a ha => hne a (by omega)) (fun z => by omega)
      have el : sp_led S i = none := by unfold sp_led; rw [e, if_neg (by omega)]
      have k9 : I1 t 9 = (tC (sTo S) : Int) := Q.2.1.2.2.2.2.1
      rw [e157_4, el]
      simp (disch := omega) only [↓reduceIte, lt_TI, lt_FI, le_TI, le_FI, eq_TI, eq_FI, lt_TN, lt_FN, le_TN, le_FN, eq_TN, eq_FN, and_self, and_true, true_and, and_false, false_and, or_true, true_or, or_false, false_or, not_true_eq_false, not_false_eq_true, wr_of, uI_at, uC_at, q_bi_s, q_bl_s, q_br_s, q_bv_s, Int.toNat_natCast, tn_1, tn_m, tn_n, Int.toNat_zero, Int.toNat_one, k18, k9]
      exact ⟨I1, rfl, Kp_rf⟩
    | succ r ih =>
      intro c I1 hc Q hne
      have k9 : I1 t 9 = (tC (sTo S) : Int) := Q.2.1.2.2.2.2.1
      obtain ⟨I2, a1, a2⟩ := c_stays0 (u := u) (J := J) (c := c) Q (by omega)
      have cb := cr_le (stB S) c
      rw [e157_4]
      simp (disch := omega) only [↓reduceIte, lt_TI, lt_FI, le_TI, le_FI, eq_TI, eq_FI, lt_TN, lt_FN, le_TN, le_FN, eq_TN, eq_FN, and_self, and_true, true_and, and_false, false_and, or_true, true_or, or_false, false_or, not_true_eq_false, not_false_eq_true, wr_of, uI_at, uC_at, q_bi_s, q_bl_s, q_br_s, q_bv_s, Int.toNat_natCast, tn_1, tn_m, tn_n, Int.toNat_zero, Int.toNat_one, k18, k9, a1]
      rw [e157_20]
      have nxt : ledP S i c = false → ∃ I', q_E (157, 4, [vr 1, vi i, vi (((List.range c).countP (stB S) + if stB S c = true then 1 else 0 : Nat) : Int), vi ((c : Int) + 1)], []) (qk t u I2 J) = some (match sp_led S i with | some c => vi (c : Int) | none => vu, qk t u I' J) ∧ Kp 232 236 I1 I' := fun z => by
        obtain ⟨I3, b1, b2⟩ := ih (c + 1) I2 (by omega) (QI_kp Q a2 (by omega) (by omega)) (fun a ha => by
          by_cases y : a = c
          · rw [y]; exact z
          · exact hne a (by omega))
        rw [cr_s] at b1
        exact ⟨I3, b1, Kp_tr a2 b2 (by omega) (by omega) (by omega) (by omega)⟩
      cases q : stB S c with
      | false =>
        have := nxt (by unfold ledP; rw [q]; rfl)
        rw [q] at this
        simp (disch := omega) only [↓reduceIte, lt_TI, lt_FI, le_TI, le_FI, eq_TI, eq_FI, lt_TN, lt_FN, le_TN, le_FN, eq_TN, eq_FN, and_self, and_true, true_and, and_false, false_and, or_true, true_or, or_false, false_or, not_true_eq_false, not_false_eq_true, wr_of, uI_at, uC_at, q_bi_s, q_bl_s, q_br_s, q_bv_s, Int.toNat_natCast, tn_1, tn_m, tn_n, Int.toNat_zero, Int.toNat_one, Bool.false_eq_true]
        exact this
      | true =>
        by_cases y : ((List.range c).countP (stB S) : Int) = i
        · have hp : ledP S i c = true := by unfold ledP; rw [q, decide_eq_true y]; rfl
          have e : fsti (ledP S i) (tC (sTo S)) = c := fsti_eq (by omega) hne (fun _ => hp)
          have el : sp_led S i = some c := by unfold sp_led; rw [e, if_pos (by omega)]
          rw [el]
          simp (disch := omega) only [↓reduceIte, lt_TI, lt_FI, le_TI, le_FI, eq_TI, eq_FI, lt_TN, lt_FN, le_TN, le_FN, eq_TN, eq_FN, and_self, and_true, true_and, and_false, false_and, or_true, true_or, or_false, false_or, not_true_eq_false, not_false_eq_true, wr_of, uI_at, uC_at, q_bi_s, q_bl_s, q_br_s, q_bv_s, Int.toNat_natCast, tn_1, tn_m, tn_n, Int.toNat_zero, Int.toNat_one, y]
          exact ⟨I2, rfl, a2⟩
        · have := nxt (by unfold ledP; rw [decide_eq_false y, Bool.and_false])
          rw [q] at this
          simp (disch := omega) only [↓reduceIte, lt_TI, lt_FI, le_TI, le_FI, eq_TI, eq_FI, lt_TN, lt_FN, le_TN, le_FN, eq_TN, eq_FN, and_self, and_true, true_and, and_false, false_and, or_true, true_or, or_false, false_or, not_true_eq_false, not_false_eq_true, wr_of, uI_at, uC_at, q_bi_s, q_bl_s, q_br_s, q_bv_s, Int.toNat_natCast, tn_1, tn_m, tn_n, Int.toNat_zero, Int.toNat_one]
          exact this
  obtain ⟨I2, a1, a2⟩ := loop (tC (sTo S)) 0 I (by omega) (CInv_q0 V) (fun a ha => by omega)
  rw [e157_0]
  exact ⟨I2, a1, a2⟩
theorem k_size (V : CInv S t u I) (w : Int) : q_E (158, 0, [vr 1, vi w], []) (qk t u I J) = some (vi (sp_size S w), qk t u I J) := by
  obtain ⟨V2, e9, k18⟩ := CInv_qi V 0
  obtain ⟨v1, v2, v3, v4, v5, v6, v7, v8, v9, v10, v11⟩ := V
  obtain ⟨x1, x2, x3, x4, x5, x6, x7, -⟩ := v8
  obtain ⟨o, p1, p2, p3, p4, -⟩ := v10
  have c5 := v9.2.1
  have c6 := c_allStones (t := t) (u := u) (J := J) v9 (fun c _ => (v1.2.1.1 c).2.2)
  unfold sp_size
  rw [e158_0]
  by_cases w0 : w = 0
  · subst w0; simp (disch := omega) only [↓reduceIte, lt_TI, lt_FI, le_TI, le_FI, eq_TI, eq_FI, lt_TN, lt_FN, le_TN, le_FN, eq_TN, eq_FN, and_self, and_true, true_and, and_false, false_and, or_true, true_or, or_false, false_or, not_true_eq_false, not_false_eq_true, wr_of, uI_at, uC_at, q_bi_s, q_bl_s, q_br_s, q_bv_s, Int.toNat_natCast, tn_1, tn_m, tn_n, Int.toNat_zero, Int.toNat_one, k18, x3]
  by_cases w1 : w = 1
  · subst w1; simp (disch := omega) only [↓reduceIte, lt_TI, lt_FI, le_TI, le_FI, eq_TI, eq_FI, lt_TN, lt_FN, le_TN, le_FN, eq_TN, eq_FN, and_self, and_true, true_and, and_false, false_and, or_true, true_or, or_false, false_or, not_true_eq_false, not_false_eq_true, wr_of, uI_at, uC_at, q_bi_s, q_bl_s, q_br_s, q_bv_s, Int.toNat_natCast, tn_1, tn_m, tn_n, Int.toNat_zero, Int.toNat_one, k18, x4]
  by_cases w2 : w = 2
  · subst w2; simp (disch := omega) only [↓reduceIte, lt_TI, lt_FI, le_TI, le_FI, eq_TI, eq_FI, lt_TN, lt_FN, le_TN, le_FN, eq_TN, eq_FN, and_self, and_true, true_and, and_false, false_and, or_true, true_or, or_false, false_or, not_true_eq_false, not_false_eq_true, wr_of, uI_at, uC_at, q_bi_s, q_bl_s, q_br_s, q_bv_s, Int.toNat_natCast, tn_1, tn_m, tn_n, Int.toNat_zero, Int.toNat_one, k18, x5]
  by_cases w3 : w = 3
  · subst w3; simp (disch := omega) only [↓reduceIte, lt_TI, lt_FI, le_TI, le_FI, eq_TI, eq_FI, lt_TN, lt_FN, le_TN, le_FN, eq_TN, eq_FN, and_self, and_true, true_and, and_false, false_and, or_true, true_or, or_false, false_or, not_true_eq_false, not_false_eq_true, wr_of, uI_at, uC_at, q_bi_s, q_bl_s, q_br_s, q_bv_s, Int.toNat_natCast, tn_1, tn_m, tn_n, Int.toNat_zero, Int.toNat_one, k18, x6]
  by_cases w4 : w = 4
  · subst w4; simp (disch := omega) only [↓reduceIte, lt_TI, lt_FI, le_TI, le_FI, eq_TI, eq_FI, lt_TN, lt_FN, le_TN, le_FN, eq_TN, eq_FN, and_self, and_true, true_and, and_false, false_and, or_true, true_or, or_false, false_or, not_true_eq_false, not_false_eq_true, wr_of, uI_at, uC_at, q_bi_s, q_bl_s, q_br_s, q_bv_s, Int.toNat_natCast, tn_1, tn_m, tn_n, Int.toNat_zero, Int.toNat_one, k18, x7]
  by_cases w5 : w = 5
  · subst w5; simp (disch := omega) only [↓reduceIte, lt_TI, lt_FI, le_TI, le_FI, eq_TI, eq_FI, lt_TN, lt_FN, le_TN, le_FN, eq_TN, eq_FN, and_self, and_true, true_and, and_false, false_and, or_true, true_or, or_false, false_or, not_true_eq_false, not_false_eq_true, wr_of, uI_at, uC_at, q_bi_s, q_bl_s, q_br_s, q_bv_s, Int.toNat_natCast, tn_1, tn_m, tn_n, Int.toNat_zero, Int.toNat_one, c5]
  by_cases w6 : w = 6
  · subst w6; simp (disch := omega) only [↓reduceIte, lt_TI, lt_FI, le_TI, le_FI, eq_TI, eq_FI, lt_TN, lt_FN, le_TN, le_FN, eq_TN, eq_FN, and_self, and_true, true_and, and_false, false_and, or_true, true_or, or_false, false_or, not_true_eq_false, not_false_eq_true, wr_of, uI_at, uC_at, q_bi_s, q_bl_s, q_br_s, q_bv_s, Int.toNat_natCast, tn_1, tn_m, tn_n, Int.toNat_zero, Int.toNat_one, c6, e158_111]
  by_cases w7 : w = 7
  · subst w7; simp (disch := omega) only [↓reduceIte, lt_TI, lt_FI, le_TI, le_FI, eq_TI, eq_FI, lt_TN, lt_FN, le_TN, le_FN, eq_TN, eq_FN, and_self, and_true, true_and, and_false, false_and, or_true, true_or, or_false, false_or, not_true_eq_false, not_false_eq_true, wr_of, uI_at, uC_at, q_bi_s, q_bl_s, q_br_s, q_bv_s, Int.toNat_natCast, tn_1, tn_m, tn_n, Int.toNat_zero, Int.toNat_one, p3]
  by_cases w8 : w = 8
  · subst w8; simp (disch := omega) only [↓reduceIte, lt_TI, lt_FI, le_TI, le_FI, eq_TI, eq_FI, lt_TN, lt_FN, le_TN, le_FN, eq_TN, eq_FN, and_self, and_true, true_and, and_false, false_and, or_true, true_or, or_false, false_or, not_true_eq_false, not_false_eq_true, wr_of, uI_at, uC_at, q_bi_s, q_bl_s, q_br_s, q_bv_s, Int.toNat_natCast, tn_1, tn_m, tn_n, Int.toNat_zero, Int.toNat_one, p4]
  by_cases w9 : w = 9
  · subst w9; simp (disch := omega) only [↓reduceIte, lt_TI, lt_FI, le_TI, le_FI, eq_TI, eq_FI, lt_TN, lt_FN, le_TN, le_FN, eq_TN, eq_FN, and_self, and_true, true_and, and_false, false_and, or_true, true_or, or_false, false_or, not_true_eq_false, not_false_eq_true, wr_of, uI_at, uC_at, q_bi_s, q_bl_s, q_br_s, q_bv_s, Int.toNat_natCast, tn_1, tn_m, tn_n, Int.toNat_zero, Int.toNat_one, v6]
  · simp (disch := omega) only [↓reduceIte, lt_TI, lt_FI, le_TI, le_FI, eq_TI, eq_FI, lt_TN, lt_FN, le_TN, le_FN, eq_TN, eq_FN, and_self, and_true, true_and, and_false, false_and, or_true, true_or, or_false, false_or, not_true_eq_false, not_false_eq_true, wr_of, uI_at, uC_at, q_bi_s, q_bl_s, q_br_s, q_bv_s, Int.toNat_natCast, tn_1, tn_m, tn_n, Int.toNat_zero, Int.toNat_one]
theorem k_trouble (V : CInv S t u I) : q_E (159, 0, [vr 1], []) (qk t u I J) = some (vi (sTr S), qk t u I J) := by
  rw [e159_0, V.2.2.1]
theorem k_fault (V : CInv S t u I) : q_E (104, 0, [vr 1], []) (qk t u I J) = some (vi (sF S), qk t u I J) := by
  rw [e104_0, V.2.2.2.1]
theorem k_where (V : CInv S t u I) : q_E (105, 0, [vr 1], []) (qk t u I J) = some (vi (if sTr S = 4 then sP S else -1), qk t u I J) := by
  rw [e105_0, V.2.2.1]
  by_cases q : sTr S = 4
  · rw [if_pos q, if_pos q, V.2.2.2.2.1 q]
  · rw [if_neg q, if_neg q]
end

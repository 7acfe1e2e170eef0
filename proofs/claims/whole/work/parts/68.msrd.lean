/-! the model's source -/
section
variable {t u : Nat} {I J : Nat → Nat → Int} {S : St}
theorem m_source_l {c : Nat} (hc : c < 4) {L : List Nat} (H : LA I 272 (61 * c) L) (S : SD L) (P : PS L) (hl : L.length ≤ 60) (hs : L.sum ≤ 60) (k x3 x4 f0 : Int) : ∀ (r h : Nat) (fd : Int), h + r = 60 → ((fd = f0 ∧ ∀ i, i < h → nwL L i = true → ((List.range i).countP (nwL L) : Int) ≠ k) ∨ (∃ f : Nat, f < h ∧ fd = (f : Int) ∧ nwL L f = true ∧ ((List.range f).countP (nwL L) : Int) = k)) → ∃ fd' : Int, ((fd' = f0 ∧ ∀ i, i < 60 → nwL L i = true → ((List.range i).countP (nwL L) : Int) ≠ k) ∨ (∃ f : Nat, f < 60 ∧ fd' = (f : Int) ∧ nwL L f = true ∧ ((List.range f).countP (nwL L) : Int) = k)) ∧ q_E (251, 59, [vr 265, vi (c : Int), vi k, vi x3, vi x4, vi fd, vi ((List.range h).countP (nwL L) : Int), vi (h : Int)], []) (qk t u I J) = q_E (251, 59, [vr 265, vi (c : Int), vi k, vi x3, vi x4, vi fd', vi ((List.range 60).countP (nwL L) : Int), vi ((60 : Nat) : Int)], []) (qk t u I J) := by
  intro r
  induction r with
  | zero =>
    intro h fd hh Q
    have : h = 60 := by omega
    subst this
    exact ⟨fd, Q, rfl⟩
  | succ r ih =>
    intro h fd hh Q
    have b1 := m_isNew (t := t) (u := u) (J := J) hc H S P hl hs (i := h) (by omega)
    have cb := cr_le (nwL L) h
    have cs := cr_s (nwL L) h
    by_cases w : nwL L h = true
    · rw [if_pos w] at b1 cs
      by_cases q : ((List.range h).countP (nwL L) : Int) = k
      · obtain ⟨fd', Q', e⟩ := ih (h + 1) (h : Int) (by omega) (Or.inr ⟨h, by omega, rfl, w, q⟩)
        rw [cs] at e
        refine ⟨fd', Q', ?_⟩
        rw [← e, e251_59]
        simp (disch := omega) only [↓reduceIte, lt_TI, lt_FI, le_TI, le_FI, eq_TI, eq_FI, lt_TN, lt_FN, le_TN, le_FN, eq_TN, eq_FN, and_self, and_true, true_and, and_false, false_and, or_true, true_or, or_false, false_or, not_true_eq_false, not_false_eq_true, wr_of, uI_at, uC_at, q_bi_s, q_bl_s, q_br_s, q_bv_s, Int.toNat_natCast, tn_1, tn_m, tn_n, Int.toNat_zero, Int.toNat_one, b1, e251_73]
        rfl
      · obtain ⟨fd', Q', e⟩ := ih (h + 1) fd (by omega) (Q.elim (fun z => Or.inl ⟨z.1, fun i hi hw => by
          by_cases y : i = h
          · rw [y]; exact q
          · exact z.2 i (by omega) hw⟩) (fun ⟨f, f1, f2⟩ => Or.inr ⟨f, by omega, f2⟩))
        rw [cs] at e
        refine ⟨fd', Q', ?_⟩
        rw [← e, e251_59]
        simp (disch := omega) only [↓reduceIte, lt_TI, lt_FI, le_TI, le_FI, eq_TI, eq_FI, lt_TN, lt_FN, le_TN, le_FN, eq_TN, eq_FN, and_self, and_true, true_and, and_false, false_and, or_true, true_or, or_false, false_or, not_true_eq_false, not_false_eq_true, wr_of, uI_at, uC_at, q_bi_s, q_bl_s, q_br_s, q_bv_s, Int.toNat_natCast, tn_1, tn_m, tn_n, Int.toNat_zero, Int.toNat_one, b1, e251_73]
        rfl
    · rw [if_neg w] at b1 cs
      obtain ⟨fd', Q', e⟩ := ih (h + 1) fd (by omega) (Q.elim (fun z => Or.inl ⟨z.1, fun i hi hw => by
          by_cases y : i = h
          · rw [y] at hw; exact absurd hw w
          · exact z.2 i (by omega) hw⟩) (fun ⟨f, f1, f2⟩ => Or.inr ⟨f, by omega, f2⟩))
      rw [cs, Nat.add_zero] at e
      refine ⟨fd', Q', ?_⟩
      rw [← e, e251_59]
      simp (disch := omega) only [↓reduceIte, lt_TI, lt_FI, le_TI, le_FI, eq_TI, eq_FI, lt_TN, lt_FN, le_TN, le_FN, eq_TN, eq_FN, and_self, and_true, true_and, and_false, false_and, or_true, true_or, or_false, false_or, not_true_eq_false, not_false_eq_true, wr_of, uI_at, uC_at, q_bi_s, q_bl_s, q_br_s, q_bv_s, Int.toNat_natCast, tn_1, tn_m, tn_n, Int.toNat_zero, Int.toNat_one, b1, e251_73]
      rfl
theorem m_source (V : MInv S I) (c k i : Int) : ∃ I', q_E (251, 0, [vr 265, vi c, vi k, vi i, vu, vu, vu, vu], []) (qk t u I J) = some (vi (sp_source S c k i).1, qk t u I' J) ∧ QM (sp_source S c k i).2 I I' := by
  have A := MInv_A V
  have h4 := tC_4 V.1.1
  unfold sp_source
  by_cases hc : isCl S c
  · obtain ⟨m, rfl⟩ : ∃ m : Nat, c = (m : Int) := ⟨c.toNat, by omega⟩
    have r1 := m_cell_ok (t := t) (u := u) (J := J) A hc
    have hm : m < tC (sTo S) := by omega
    obtain ⟨H, ok⟩ := MQs_row A (show m < 4 by omega)
    obtain ⟨G, -⟩ := MQs_row V.1 (show m < 4 by omega)
    obtain ⟨o1, o2, o3⟩ := id ok
    have hl := HOk_len ok
    simp only [Int.toNat_natCast]
    have v0 := G.1 0 (by omega)
    rw [Nat.add_zero] at v0
    by_cases q : ((sNw S).1 m).1 = []
    · rw [q, List.getD_nil, Int.natCast_zero] at v0
      have es : srcN ((sNw S).1 m).1 = 1 := if_pos q
      have nw : ∀ i, nwL ((sNw S).1 m).1 i = false := fun i => nwL_0 (by rw [q]; exact Nat.zero_le _)
      simp only [es]
      by_cases hk : k = 0
      · subst hk
        obtain ⟨fd, Q, e⟩ := m_source_l (t := t) (u := u) (J := J) (show m < 4 by omega) H.1 o1 o2 hl (by omega) 0 i 1 0 60 0 0 (by omega) (Or.inl ⟨rfl, fun i hi => by omega⟩)
        have ef : fd = 0 := Q.elim (fun z => z.1) (fun ⟨f, f1, f2, f3, f4⟩ => by rw [nw f] at f3; exact absurd f3 (by decide))
        subst ef
        rw [Int.natCast_zero, show (List.range 0).countP (nwL ((sNw S).1 m).1) = 0 from rfl, Int.natCast_zero] at e
        have cb := cr_le (nwL ((sNw S).1 m).1) 60
        rw [if_pos (show isCl S (m : Int) ∧ (0 : Int) ≤ 0 ∧ (0 : Int) < ((1 : Nat) : Int) from ⟨hc, by omega, by omega⟩)]
        have sh : ∀ j, srcH ((sNw S).1 m).1 0 j = 0 := fun j => by
          unfold srcH
          rw [if_neg]
          rw [q]
          exact Nat.not_lt_zero _
        by_cases hi : 0 ≤ i ∧ i ≤ 59
        · rw [if_pos hi]
          obtain ⟨hi1, hi2⟩ := hi
          show ∃ I', _ = some (vi ((srcH ((sNw S).1 m).1 (0 : Int).toNat i.toNat : Nat) : Int), _) ∧ _
          rw [show (0 : Int).toNat = 0 from rfl, sh]
          simp (disch := omega) only [↓reduceIte, lt_TI, lt_FI, le_TI, le_FI, eq_TI, eq_FI, lt_TN, lt_FN, le_TN, le_FN, eq_TN, eq_FN, and_self, and_true, true_and, and_false, false_and, or_true, true_or, or_false, false_or, not_true_eq_false, not_false_eq_true, wr_of, uI_at, uC_at, q_bi_s, q_bl_s, q_br_s, q_bv_s, Int.toNat_natCast, tn_1, tn_m, tn_n, Int.toNat_zero, Int.toNat_one, r1, e177_0, tn_61, v0, e251_0, e251_4, e251_73, e251_108, e251_116, e251_9, e251_124, e251_139, e251_17]
          rw [e, e251_59]
          simp (disch := omega) only [↓reduceIte, lt_TI, lt_FI, le_TI, le_FI, eq_TI, eq_FI, lt_TN, lt_FN, le_TN, le_FN, eq_TN, eq_FN, and_self, and_true, true_and, and_false, false_and, or_true, true_or, or_false, false_or, not_true_eq_false, not_false_eq_true, wr_of, uI_at, uC_at, q_bi_s, q_bl_s, q_br_s, q_bv_s, Int.toNat_natCast, tn_1, tn_m, tn_n, Int.toNat_zero, Int.toNat_one, n_ok, e251_0, e251_4, e251_73, e251_108, e251_116, e251_9, e251_124, e251_139, e251_17]
          exact ⟨_, rfl, QM_ok QF_rf⟩
        · rw [if_neg hi]
          simp (disch := omega) only [↓reduceIte, lt_TI, lt_FI, le_TI, le_FI, eq_TI, eq_FI, lt_TN, lt_FN, le_TN, le_FN, eq_TN, eq_FN, and_self, and_true, true_and, and_false, false_and, or_true, true_or, or_false, false_or, not_true_eq_false, not_false_eq_true, wr_of, uI_at, uC_at, q_bi_s, q_bl_s, q_br_s, q_bv_s, Int.toNat_natCast, tn_1, tn_m, tn_n, Int.toNat_zero, Int.toNat_one, r1, e177_0, tn_61, v0, e251_0, e251_4, e251_73, e251_108, e251_116, e251_9, e251_124, e251_139, e251_17]
          rw [e, e251_59]
          simp (disch := omega) only [↓reduceIte, lt_TI, lt_FI, le_TI, le_FI, eq_TI, eq_FI, lt_TN, lt_FN, le_TN, le_FN, eq_TN, eq_FN, and_self, and_true, true_and, and_false, false_and, or_true, true_or, or_false, false_or, not_true_eq_false, not_false_eq_true, wr_of, uI_at, uC_at, q_bi_s, q_bl_s, q_br_s, q_bv_s, Int.toNat_natCast, tn_1, tn_m, tn_n, Int.toNat_zero, Int.toNat_one, n_no, e178_0, e251_0, e251_4, e251_73, e251_108, e251_116, e251_9, e251_124, e251_139, e251_17]
          exact ⟨_, rfl, QM_no QF_rf⟩
      · obtain ⟨fd, Q, e⟩ := m_source_l (t := t) (u := u) (J := J) (show m < 4 by omega) H.1 o1 o2 hl (by omega) k i 1 (-1) 60 0 (-1) (by omega) (Or.inl ⟨rfl, fun i hi => by omega⟩)
        have ef : fd = -1 := Q.elim (fun z => z.1) (fun ⟨f, f1, f2, f3, f4⟩ => by rw [nw f] at f3; exact absurd f3 (by decide))
        subst ef
        rw [Int.natCast_zero, show (List.range 0).countP (nwL ((sNw S).1 m).1) = 0 from rfl, Int.natCast_zero] at e
        have cb := cr_le (nwL ((sNw S).1 m).1) 60
        rw [if_neg (show ¬ (isCl S (m : Int) ∧ 0 ≤ k ∧ k < ((1 : Nat) : Int)) from fun z => hk (by omega))]
        simp (disch := omega) only [↓reduceIte, lt_TI, lt_FI, le_TI, le_FI, eq_TI, eq_FI, lt_TN, lt_FN, le_TN, le_FN, eq_TN, eq_FN, and_self, and_true, true_and, and_false, false_and, or_true, true_or, or_false, false_or, not_true_eq_false, not_false_eq_true, wr_of, uI_at, uC_at, q_bi_s, q_bl_s, q_br_s, q_bv_s, Int.toNat_natCast, tn_1, tn_m, tn_n, Int.toNat_zero, Int.toNat_one, r1, e177_0, tn_61, v0, e251_0, e251_4, e251_73, e251_108, e251_116, e251_9, e251_124, e251_139, e251_17]
        rw [e, e251_59]
        simp (disch := omega) only [↓reduceIte, lt_TI, lt_FI, le_TI, le_FI, eq_TI, eq_FI, lt_TN, lt_FN, le_TN, le_FN, eq_TN, eq_FN, and_self, and_true, true_and, and_false, false_and, or_true, true_or, or_false, false_or, not_true_eq_false, not_false_eq_true, wr_of, uI_at, uC_at, q_bi_s, q_bl_s, q_br_s, q_bv_s, Int.toNat_natCast, tn_1, tn_m, tn_n, Int.toNat_zero, Int.toNat_one, e178_0, e251_0, e251_4, e251_73, e251_108, e251_116, e251_9, e251_124, e251_139, e251_17]
        exact ⟨_, rfl, QM_no QF_rf⟩
    · have hl0 : 0 < ((sNw S).1 m).1.length := by cases e : ((sNw S).1 m).1 with | nil => exact absurd e q | cons a l => simp
      have g0 := PS_gD o2 hl0
      have gb := gD_sum (l := ((sNw S).1 m).1) 0
      obtain ⟨fd, Q, e⟩ := m_source_l (t := t) (u := u) (J := J) (show m < 4 by omega) H.1 o1 o2 hl (by omega) k i 0 (-1) 60 0 (-1) (by omega) (Or.inl ⟨rfl, fun i hi => by omega⟩)
      rw [Int.natCast_zero, show (List.range 0).countP (nwL ((sNw S).1 m).1) = 0 from rfl, Int.natCast_zero] at e
      have cb := cr_le (nwL ((sNw S).1 m).1) 60
      have tot : (List.range 60).countP (nwL ((sNw S).1 m).1) = srcN ((sNw S).1 m).1 := by rw [nwL_60 60 hl, nwL_all o1 o2 q]
      by_cases hk : 0 ≤ k ∧ k < (srcN ((sNw S).1 m).1 : Int)
      · rw [if_pos (show isCl S (m : Int) ∧ 0 ≤ k ∧ k < (srcN ((sNw S).1 m).1 : Int) from ⟨hc, hk⟩)]
        obtain ⟨hk1, hk2⟩ := hk
        obtain ⟨k, rfl⟩ : ∃ o : Nat, k = (o : Int) := ⟨k.toNat, by omega⟩
        simp only [Int.toNat_natCast]
        obtain ⟨j, j1, j2, j3⟩ := cr_ivt (nwL ((sNw S).1 m).1) k 60 (by omega)
        rcases Q with ⟨-, z⟩ | ⟨f, f1, f2, f3, f4⟩
        · exact absurd (by rw [j3]) (z j j1 j2)
        · subst f2
          by_cases hi : 0 ≤ i ∧ i ≤ 59
          · rw [if_pos hi]
            obtain ⟨hi1, hi2⟩ := hi
            obtain ⟨i, rfl⟩ : ∃ o : Nat, i = (o : Int) := ⟨i.toNat, by omega⟩
            simp only [Int.toNat_natCast]
            obtain ⟨I1, x1, x2, x3⟩ := m_laySource (t := t) (u := u) (J := J) (show m < 4 by omega) H.1 o1 o2 hl (by omega) f3
            have v := x2 i (by omega)
            rw [lsr_eq o1 o2 f3 (show (List.range f).countP (nwL ((sNw S).1 m).1) = k by omega)] at v
            simp (disch := omega) only [↓reduceIte, lt_TI, lt_FI, le_TI, le_FI, eq_TI, eq_FI, lt_TN, lt_FN, le_TN, le_FN, eq_TN, eq_FN, and_self, and_true, true_and, and_false, false_and, or_true, true_or, or_false, false_or, not_true_eq_false, not_false_eq_true, wr_of, uI_at, uC_at, q_bi_s, q_bl_s, q_br_s, q_bv_s, Int.toNat_natCast, tn_1, tn_m, tn_n, Int.toNat_zero, Int.toNat_one, r1, e177_0, tn_61, v0, e251_0, e251_4, e251_73, e251_108, e251_116, e251_9, e251_124, e251_139, e251_17]
            rw [e, e251_59]
            simp (disch := omega) only [↓reduceIte, lt_TI, lt_FI, le_TI, le_FI, eq_TI, eq_FI, lt_TN, lt_FN, le_TN, le_FN, eq_TN, eq_FN, and_self, and_true, true_and, and_false, false_and, or_true, true_or, or_false, false_or, not_true_eq_false, not_false_eq_true, wr_of, uI_at, uC_at, q_bi_s, q_bl_s, q_br_s, q_bv_s, Int.toNat_natCast, tn_1, tn_m, tn_n, Int.toNat_zero, Int.toNat_one, n_ok, x1, v, e251_0, e251_4, e251_73, e251_108, e251_116, e251_9, e251_124, e251_139, e251_17]
            exact ⟨_, rfl, QM_ok (QF_fr QF_rf x3 (by omega) (by omega))⟩
          · rw [if_neg hi]
            simp (disch := omega) only [↓reduceIte, lt_TI, lt_FI, le_TI, le_FI, eq_TI, eq_FI, lt_TN, lt_FN, le_TN, le_FN, eq_TN, eq_FN, and_self, and_true, true_and, and_false, false_and, or_true, true_or, or_false, false_or, not_true_eq_false, not_false_eq_true, wr_of, uI_at, uC_at, q_bi_s, q_bl_s, q_br_s, q_bv_s, Int.toNat_natCast, tn_1, tn_m, tn_n, Int.toNat_zero, Int.toNat_one, r1, e177_0, tn_61, v0, e251_0, e251_4, e251_73, e251_108, e251_116, e251_9, e251_124, e251_139, e251_17]
            rw [e, e251_59]
            simp (disch := omega) only [↓reduceIte, lt_TI, lt_FI, le_TI, le_FI, eq_TI, eq_FI, lt_TN, lt_FN, le_TN, le_FN, eq_TN, eq_FN, and_self, and_true, true_and, and_false, false_and, or_true, true_or, or_false, false_or, not_true_eq_false, not_false_eq_true, wr_of, uI_at, uC_at, q_bi_s, q_bl_s, q_br_s, q_bv_s, Int.toNat_natCast, tn_1, tn_m, tn_n, Int.toNat_zero, Int.toNat_one, n_no, e178_0, e251_0, e251_4, e251_73, e251_108, e251_116, e251_9, e251_124, e251_139, e251_17]
            exact ⟨_, rfl, QM_no QF_rf⟩
      · rw [if_neg (show ¬ (isCl S (m : Int) ∧ 0 ≤ k ∧ k < (srcN ((sNw S).1 m).1 : Int)) from fun z => hk z.2)]
        rcases Q with ⟨z, -⟩ | ⟨f, f1, f2, f3, f4⟩
        · subst z
          simp (disch := omega) only [↓reduceIte, lt_TI, lt_FI, le_TI, le_FI, eq_TI, eq_FI, lt_TN, lt_FN, le_TN, le_FN, eq_TN, eq_FN, and_self, and_true, true_and, and_false, false_and, or_true, true_or, or_false, false_or, not_true_eq_false, not_false_eq_true, wr_of, uI_at, uC_at, q_bi_s, q_bl_s, q_br_s, q_bv_s, Int.toNat_natCast, tn_1, tn_m, tn_n, Int.toNat_zero, Int.toNat_one, r1, e177_0, tn_61, v0, e251_0, e251_4, e251_73, e251_108, e251_116, e251_9, e251_124, e251_139, e251_17]
          rw [e, e251_59]
          simp (disch := omega) only [↓reduceIte, lt_TI, lt_FI, le_TI, le_FI, eq_TI, eq_FI, lt_TN, lt_FN, le_TN, le_FN, eq_TN, eq_FN, and_self, and_true, true_and, and_false, false_and, or_true, true_or, or_false, false_or, not_true_eq_false, not_false_eq_true, wr_of, uI_at, uC_at, q_bi_s, q_bl_s, q_br_s, q_bv_s, Int.toNat_natCast, tn_1, tn_m, tn_n, Int.toNat_zero, Int.toNat_one, e178_0, e251_0, e251_4, e251_73, e251_108, e251_116, e251_9, e251_124, e251_139, e251_17]
          exact ⟨_, rfl, QM_no QF_rf⟩
        · exfalso
          have m1 := cr_s (nwL ((sNw S).1 m).1) f
          rw [if_pos f3] at m1
          have m2 := cr_mono (nwL ((sNw S).1 m).1) (show f + 1 ≤ 60 by omega)
          exact hk (by omega)
  · rw [if_neg (show ¬ (isCl S c ∧ 0 ≤ k ∧ k < (srcN (rw1 S c.toNat) : Int)) from fun z => hc z.1)]
    have r1 := m_cell_no (t := t) (u := u) (J := J) A hc
    simp (disch := omega) only [↓reduceIte, lt_TI, lt_FI, le_TI, le_FI, eq_TI, eq_FI, lt_TN, lt_FN, le_TN, le_FN, eq_TN, eq_FN, and_self, and_true, true_and, and_false, false_and, or_true, true_or, or_false, false_or, not_true_eq_false, not_false_eq_true, wr_of, uI_at, uC_at, q_bi_s, q_bl_s, q_br_s, q_bv_s, Int.toNat_natCast, tn_1, tn_m, tn_n, Int.toNat_zero, Int.toNat_one, r1, e177_0, e178_0, e251_0, e251_4, e251_73, e251_108, e251_116, e251_9, e251_124, e251_139, e251_17]
    exact ⟨_, rfl, QM_no QF_rf⟩
end

/-! THE MODEL'S NIGHTS: a row of heaps with what is held behind it -/
def mRw (I : Nat → Nat → Int) (a p : Nat) (x : Hp) : Prop := LA I a p x.1 ∧ I a (p + 60) = (x.2 : Int)
theorem mRw_fr {a lo hi p b : Nat} {I I1 : Nat → Nat → Int} {x : Hp} (H : mRw I b p x) (h : FrA a lo hi I I1) (q : b ≠ a ∨ p + 61 ≤ lo ∨ hi ≤ p) : mRw I1 b p x := ⟨LA_fr H.1 h (by omega), by rw [h b (p + 60) (fun z => by omega)]; exact H.2⟩
theorem mRw_rw {b p : Nat} {I I1 : Nat → Nat → Int} {x : Hp} (H : mRw I b p x) (h : I1 b = I b) : mRw I1 b p x := ⟨fun i hi => by rw [h]; exact H.1 i hi, by rw [h]; exact H.2⟩
theorem PS_ext {L M : List Nat} (p1 : PS L) (p2 : PS M) (h1 : L.length ≤ 60) (h2 : M.length ≤ 60) (e : ∀ i, i < 60 → L.getD i 0 = M.getD i 0) : L = M := by
  have hl : L.length = M.length := by
    rcases Nat.lt_trichotomy L.length M.length with z | z | z
    · have a := e L.length (by omega)
      have b := PS_gD p2 z
      rw [gD_ge (Nat.le_refl _)] at a; omega
    · exact z
    · have a := e M.length (by omega)
      have b := PS_gD p1 z
      rw [gD_ge (l := M) (Nat.le_refl _)] at a; omega
  exact gD_ext hl (fun i hi => e i (by omega))
section
variable {t u : Nat} {I J : Nat → Nat → Int} {a p N : Nat}
theorem c_bank (A : AId a N) (hp : p + 61 ≤ N) (ha : a ≠ 268) {hold : Nat} (hh : 2 ≤ hold) (hh2 : hold ≤ 9) {r : Nat} (hr : r < hold) : ∀ (q : Nat) (xs : List Nat) (I1 : Nat → Nat → Int), I1 268 0 = (hold : Int) → LA I1 a p xs → PS xs → xs.sum + (q * hold + r) ≤ 60 → ∃ I', q_E (219, 41, [vr 265, vr a, vi (p : Int), vu, vi ((q * hold + r : Nat) : Int)], []) (qk t u I1 J) = q_E (219, 108, [vr 265, vr a, vi (p : Int), vu, vi (r : Int)], []) (qk t u I' J) ∧ LA I' a p (xs ++ List.replicate q hold) ∧ I' a (p + 60) = (r : Int) ∧ FrA a p (p + 61) I1 I' := by
  obtain ⟨a1, a2, a3⟩ := id A
  intro q
  induction q with
  | zero =>
    intro xs I1 h0 H P hs
    rw [e219_41, Nat.zero_mul, Nat.zero_add]
    simp (disch := omega) only [↓reduceIte, lt_TI, lt_FI, le_TI, le_FI, eq_TI, eq_FI, lt_TN, lt_FN, le_TN, le_FN, eq_TN, eq_FN, and_self, and_true, true_and, and_false, false_and, or_true, true_or, or_false, false_or, not_true_eq_false, not_false_eq_true, wr_of, uI_at, uC_at, q_bi_s, q_bl_s, q_br_s, q_bv_s, Int.toNat_natCast, tn_1, tn_m, tn_n, Int.toNat_zero, Int.toNat_one, h0, a1, a2, tn_60]
    exact ⟨_, rfl, by rw [show List.replicate 0 hold = ([] : List Nat) from rfl, List.append_nil]; exact LA_fr H (FrA_uI FrA_rf (Nat.le_refl _) (by omega) : FrA a (p + 60) (p + 61) I1 _) (by omega), if_pos ⟨rfl, rfl⟩, FrA_uI FrA_rf (by omega) (by omega)⟩
  | succ q ih =>
    intro xs I1 h0 H P hs
    have hl := len_sum P
    have e1 : (q + 1) * hold + r = (q * hold + r) + hold := by rw [Nat.succ_mul]; omega
    rw [e1] at hs ⊢
    have b : 0 ≤ q * hold := Nat.zero_le _
    generalize hm : q * hold + r = m at hs ⊢
    obtain ⟨I2, x1, x2, x3⟩ := c_layOn (t := t) (u := u) (J := J) A (by omega) H P (by omega) (z := hold) (by omega) (by omega)
    rw [e219_41]
    simp (disch := omega) only [↓reduceIte, lt_TI, lt_FI, le_TI, le_FI, eq_TI, eq_FI, lt_TN, lt_FN, le_TN, le_FN, eq_TN, eq_FN, and_self, and_true, true_and, and_false, false_and, or_true, true_or, or_false, false_or, not_true_eq_false, not_false_eq_true, wr_of, uI_at, uC_at, q_bi_s, q_bl_s, q_br_s, q_bv_s, Int.toNat_natCast, tn_1, tn_m, tn_n, Int.toNat_zero, Int.toNat_one, h0, x1, e219_63]
    have k : I2 268 0 = (hold : Int) := by rw [FrA_o x3 (fun z => ha z.symm)]; exact h0
    obtain ⟨I3, y1, y2, y3, y4⟩ := ih (xs ++ [hold]) I2 k x2 (fun a ha => by
      rcases List.mem_append.mp ha with q | q
      · exact P a q
      · rw [List.mem_singleton.mp q]; omega) (by rw [List.sum_append_nat]; simp only [List.sum_cons, List.sum_nil]; omega)
    refine ⟨I3, ?_, ?_, y3, FrA_tr x3 y4 (by omega) (by omega) (by omega) (by omega)⟩
    · rw [← y1, hm, k, show (((m + hold : Nat) : Int) - (hold : Int)) = (m : Int) by omega]
      simp (disch := omega) only [↓reduceIte, lt_TI, lt_FI, le_TI, le_FI, eq_TI, eq_FI, lt_TN, lt_FN, le_TN, le_FN, eq_TN, eq_FN, and_self, and_true, true_and, and_false, false_and, or_true, true_or, or_false, false_or, not_true_eq_false, not_false_eq_true, wr_of, uI_at, uC_at, q_bi_s, q_bl_s, q_br_s, q_bv_s, Int.toNat_natCast, tn_1, tn_m, tn_n, Int.toNat_zero, Int.toNat_one]
    · rw [List.replicate_succ, show xs ++ hold :: List.replicate q hold = xs ++ [hold] ++ List.replicate q hold by simp]; exact y2
theorem c_nightOf (A : AId a N) (hp : p + 61 ≤ N) (ha : a ≠ 268) {x : Hp} (H : mRw I a p x) (ok : HOk x) {law hold : Nat} (hh : 2 ≤ hold) (hh2 : hold ≤ 9) (hl : law ≤ 3) (h0 : I 268 0 = (hold : Int)) : ∃ I', q_E (219, 0, [vr 265, vr a, vi (p : Int), vi (law : Int), vu], []) (qk t u I J) = some (vu, qk t u I' J) ∧ mRw I' a p (nt law hold x) ∧ FrA a p (p + 61) I I' := by
  obtain ⟨a1, a2, a3⟩ := id A
  obtain ⟨S, P, hs⟩ := ok
  have len := len_sum P
  have v0 := H.1 0 (by omega)
  rw [Nat.add_zero] at v0
  by_cases e : x.1 = []
  · rw [e, List.getD_nil, Int.natCast_zero] at v0
    rw [e219_0]
    simp (disch := omega) only [↓reduceIte, lt_TI, lt_FI, le_TI, le_FI, eq_TI, eq_FI, lt_TN, lt_FN, le_TN, le_FN, eq_TN, eq_FN, and_self, and_true, true_and, and_false, false_and, or_true, true_or, or_false, false_or, not_true_eq_false, not_false_eq_true, wr_of, uI_at, uC_at, q_bi_s, q_bl_s, q_br_s, q_bv_s, Int.toNat_natCast, tn_1, tn_m, tn_n, Int.toNat_zero, Int.toNat_one, a1, a2, v0]
    exact ⟨I, rfl, by unfold nt; rw [if_pos e]; exact H, FrA_rf⟩
  · have hl0 : 0 < x.1.length := by cases q : x.1 with | nil => exact absurd q e | cons a l => simp
    have g0 := PS_gD P hl0
    have hd := dec_sum P
    have hc := dcH_sum (l := x.1)
    have v60 := H.2
    have srt : ∀ (ys zs : List Nat) (I1 : Nat → Nat → Int) (k : Nat), LA I1 a p ys → I1 a (p + 60) = (k : Int) → ys.length ≤ 60 → ys.sum ≤ 60 → SD zs → PS zs → zs.Perm (pos ys) → FrA a p (p + 61) I I1 → ∃ I', q_E (213, 0, [vr a, vi (p : Int), vu, vu, vu], []) (qk t u I1 J) = some (vu, qk t u I' J) ∧ mRw I' a p (zs, k) ∧ FrA a p (p + 61) I I' := by
      intro ys zs I1 k h1 h2 h3 h4 h5 h6 h7 h8
      obtain ⟨I2, x1, x2, x3⟩ := c_sortOf (t := t) (u := u) (J := J) A (by omega) h1 h3 (fun i => by have := gD_sum (l := ys) i; omega) h5 h6 h7
      exact ⟨I2, x1, ⟨x2, by rw [x3 a (p + 60) (fun z => by omega)]; exact h2⟩, FrA_tr h8 x3 (by omega) (by omega) (by omega) (by omega)⟩
    have hm : law = 0 ∨ law = 1 ∨ law = 2 ∨ law = 3 := by omega
    unfold nt
    rw [if_neg e]
    rcases hm with rfl | rfl | rfl | rfl
    · rw [if_pos rfl]
      obtain ⟨I1, x1, x2, x3⟩ := c_takenOf (t := t) (u := u) (J := J) A (by omega) H.1 S P (by omega)
      have dl := len_sum (pos_ps (x.1.map (fun a => a - 1)))
      rw [show pos (x.1.map (fun a => a - 1)) = dec x.1 from rfl] at dl
      have ed : dec x.1 = pos (dec x.1) := (pos_id (pos_ps _)).symm
      obtain ⟨I2, y1, y2, y3⟩ := c_layOn (t := t) (u := u) (J := J) A (by omega) x2 (pos_ps _) (by omega) (z := x.1.length) hl0 (by omega)
      obtain ⟨I3, z1, z2, z3⟩ := srt (dec x.1 ++ [x.1.length]) (ins x.1.length (dec x.1)) I2 x.2 y2 (by rw [y3 a (p + 60) (fun z => by omega), x3 a (p + 60) (fun z => by omega)]; exact v60) (by rw [List.length_append]; simp only [List.length_singleton]; omega) (by rw [List.sum_append_nat]; simp only [List.sum_cons, List.sum_nil]; omega) (ins_sd _ _ (dec_sd S)) (ins_ps hl0 (pos_ps _)) (by
        rw [pos_id (fun a ha => by
          rcases List.mem_append.mp ha with q | q
          · exact pos_ps _ a q
          · rw [List.mem_singleton.mp q]; omega : PS (dec x.1 ++ [x.1.length]))]
        exact (ins_perm _ _).trans (List.perm_append_comm (l₁ := [x.1.length]))) (FrA_tr x3 y3 (by omega) (by omega) (by omega) (by omega))
      rw [e219_0, Int.natCast_zero]
      simp (disch := omega) only [↓reduceIte, lt_TI, lt_FI, le_TI, le_FI, eq_TI, eq_FI, lt_TN, lt_FN, le_TN, le_FN, eq_TN, eq_FN, and_self, and_true, true_and, and_false, false_and, or_true, true_or, or_false, false_or, not_true_eq_false, not_false_eq_true, wr_of, uI_at, uC_at, q_bi_s, q_bl_s, q_br_s, q_bv_s, Int.toNat_natCast, tn_1, tn_m, tn_n, Int.toNat_zero, Int.toNat_one, a1, a2, v0, x1, e219_105, y1, e219_108_10, z1, e219_113_10]
      exact ⟨I3, rfl, z2, z3⟩
    · rw [if_neg (by omega), if_pos rfl]
      obtain ⟨I1, x1, x2, x3⟩ := c_takenOf (t := t) (u := u) (J := J) A (by omega) H.1 S P (by omega)
      have eq := Nat.div_add_mod (x.2 + x.1.length) hold
      have mr := Nat.mod_lt (x.2 + x.1.length) (show 0 < hold by omega)
      rw [Nat.mul_comm] at eq
      generalize (x.2 + x.1.length) / hold = q at eq ⊢
      generalize (x.2 + x.1.length) % hold = r at eq mr ⊢
      have k : I1 268 0 = (hold : Int) := by rw [FrA_o x3 (fun z => ha z.symm)]; exact h0
      obtain ⟨I2, y1, y2, y3, y4⟩ := c_bank (t := t) (u := u) (J := J) A hp ha hh hh2 mr q (dec x.1) I1 k x2 (pos_ps _) (by omega)
      rw [eq] at y1
      have ps : PS (dec x.1 ++ List.replicate q hold) := fun a ha => by
          rcases List.mem_append.mp ha with z | z
          · exact pos_ps _ a z
          · rw [(List.mem_replicate.mp z).2]; omega
      have sm : (dec x.1 ++ List.replicate q hold).sum ≤ 60 := by rw [List.sum_append_nat, List.sum_replicate_nat]; omega
      have ln := len_sum ps
      obtain ⟨I3, z1, z2, z3⟩ := srt (dec x.1 ++ List.replicate q hold) (insR q hold (dec x.1)) I2 r y2 y3 (by omega) sm (insR_sd _ _ _ (dec_sd S)) (insR_ps (by omega) _ (pos_ps _)) (by
        rw [pos_id ps]
        exact (insR_perm _ _ _).trans (List.perm_append_comm)) (FrA_tr x3 y4 (by omega) (by omega) (by omega) (by omega))
      rw [e219_0, Int.natCast_one]
      simp (disch := omega) only [↓reduceIte, lt_TI, lt_FI, le_TI, le_FI, eq_TI, eq_FI, lt_TN, lt_FN, le_TN, le_FN, eq_TN, eq_FN, and_self, and_true, true_and, and_false, false_and, or_true, true_or, or_false, false_or, not_true_eq_false, not_false_eq_true, wr_of, uI_at, uC_at, q_bi_s, q_bl_s, q_br_s, q_bv_s, Int.toNat_natCast, tn_1, tn_m, tn_n, Int.toNat_zero, Int.toNat_one, a1, a2, v0, v60, tn_60, x1, e219_38]
      rw [← Int.natCast_add, y1, e219_108_9]
      simp (disch := omega) only [↓reduceIte, lt_TI, lt_FI, le_TI, le_FI, eq_TI, eq_FI, lt_TN, lt_FN, le_TN, le_FN, eq_TN, eq_FN, and_self, and_true, true_and, and_false, false_and, or_true, true_or, or_false, false_or, not_true_eq_false, not_false_eq_true, wr_of, uI_at, uC_at, q_bi_s, q_bl_s, q_br_s, q_bv_s, Int.toNat_natCast, tn_1, tn_m, tn_n, Int.toNat_zero, Int.toNat_one, z1, e219_113_9]
      exact ⟨I3, rfl, z2, z3⟩
    · rw [if_neg (by omega), if_neg (by omega), if_pos rfl]
      obtain ⟨I1, x1, x2, x3⟩ := c_takenH (t := t) (u := u) (J := J) A (by omega) H.1 S P (by omega)
      have cp := crn_pos P e
      have ds : (pos (dcH x.1)).sum + crn x.1 = x.1.sum := by rw [pos_sum]; exact hc
      have dl := len_sum (pos_ps (dcH x.1))
      obtain ⟨I2, y1, y2, y3⟩ := c_layOn (t := t) (u := u) (J := J) A (by omega) x2 (pos_ps _) (by omega) (z := crn x.1) cp (by omega)
      obtain ⟨I3, z1, z2, z3⟩ := srt (pos (dcH x.1) ++ [crn x.1]) (ins (crn x.1) (pos (dcH x.1))) I2 x.2 y2 (by rw [y3 a (p + 60) (fun z => by omega), x3 a (p + 60) (fun z => by omega)]; exact v60) (by rw [List.length_append]; simp only [List.length_singleton]; omega) (by rw [List.sum_append_nat]; simp only [List.sum_cons, List.sum_nil]; omega) (ins_sd _ _ (pos_sd (dcH_sd S))) (ins_ps cp (pos_ps _)) (by
        rw [pos_id (fun a ha => by
          rcases List.mem_append.mp ha with q | q
          · exact pos_ps _ a q
          · rw [List.mem_singleton.mp q]; omega : PS (pos (dcH x.1) ++ [crn x.1]))]
        exact (ins_perm _ _).trans (List.perm_append_comm (l₁ := [crn x.1]))) (FrA_tr x3 y3 (by omega) (by omega) (by omega) (by omega))
      rw [e219_0, show ((2 : Nat) : Int) = 2 from rfl]
      simp (disch := omega) only [↓reduceIte, lt_TI, lt_FI, le_TI, le_FI, eq_TI, eq_FI, lt_TN, lt_FN, le_TN, le_FN, eq_TN, eq_FN, and_self, and_true, true_and, and_false, false_and, or_true, true_or, or_false, false_or, not_true_eq_false, not_false_eq_true, wr_of, uI_at, uC_at, q_bi_s, q_bl_s, q_br_s, q_bv_s, Int.toNat_natCast, tn_1, tn_m, tn_n, Int.toNat_zero, Int.toNat_one, a1, a2, v0, x1, e219_105, y1, e219_108_10, z1, e219_113_10]
      exact ⟨I3, rfl, z2, z3⟩
    · rw [if_neg (by omega), if_neg (by omega), if_neg (by omega)]
      obtain ⟨I1, x1, x2, x3⟩ := c_giveOf (t := t) (u := u) (J := J) A (by omega) H.1 S P (by omega) e
      have gs := giv_sum (x.1.getD 0 0) x.1.tail
      have ts := tail_sum (l := x.1)
      have gp := giv_ps (a := x.1.getD 0 0) (PS_tail P)
      have gl := len_sum gp
      obtain ⟨I3, z1, z2, z3⟩ := srt (giv (x.1.getD 0 0) x.1.tail) (giv (x.1.getD 0 0) x.1.tail) I1 x.2 x2 (by rw [x3 a (p + 60) (fun z => by omega)]; exact v60) (by omega) (by omega) (giv_sd (SD_tail S) (PS_tail P)) gp (by rw [pos_id gp]) (FrA_tr FrA_rf x3 (lo := p) (hi := p + 60) (by omega) (by omega) (by omega) (by omega))
      rw [e219_0, show ((3 : Nat) : Int) = 3 from rfl]
      simp (disch := omega) only [↓reduceIte, lt_TI, lt_FI, le_TI, le_FI, eq_TI, eq_FI, lt_TN, lt_FN, le_TN, le_FN, eq_TN, eq_FN, and_self, and_true, true_and, and_false, false_and, or_true, true_or, or_false, false_or, not_true_eq_false, not_false_eq_true, wr_of, uI_at, uC_at, q_bi_s, q_bl_s, q_br_s, q_bv_s, Int.toNat_natCast, tn_1, tn_m, tn_n, Int.toNat_zero, Int.toNat_one, a1, a2, v0, x1, e219_18, e219_108_10, z1, e219_113_10]
      exact ⟨I3, rfl, z2, z3⟩
/-- places copied -/
theorem c_mcopy {b s n N2 : Nat} (A : AId a N) (B : AId b N2) (hab : a ≠ b) (hp : p + n ≤ N) (hs : s + n ≤ N2) : ∃ I', q_E (182, 0, [vr a, vi (p : Int), vr b, vi (s : Int), vi (n : Int), vu], []) (qk t u I J) = some (vu, qk t u I' J) ∧ (∀ i, i < n → I' b (s + i) = I a (p + i)) ∧ FrA b s (s + n) I I' := by
  obtain ⟨a1, a2, a3⟩ := id A
  obtain ⟨b1, b2, b3⟩ := id B
  have loop : ∀ (r i : Nat) (I1 : Nat → Nat → Int), i + r = n → (∀ j, j < i → I1 b (s + j) = I a (p + j)) → FrA b s (s + n) I I1 → ∃ I', q_E (182, 3, [vr a, vi (p : Int), vr b, vi (s : Int), vi (n : Int), vi (i : Int)], []) (qk t u I1 J) = some (vu, qk t u I' J) ∧ (∀ i, i < n → I' b (s + i) = I a (p + i)) ∧ FrA b s (s + n) I I' := by
    intro r
    induction r with
    | zero =>
      intro i I1 hi h F
      rw [e182_3]
      simp (disch := omega) only [↓reduceIte, lt_TI, lt_FI, le_TI, le_FI, eq_TI, eq_FI, lt_TN, lt_FN, le_TN, le_FN, eq_TN, eq_FN, and_self, and_true, true_and, and_false, false_and, or_true, true_or, or_false, false_or, not_true_eq_false, not_false_eq_true, wr_of, uI_at, uC_at, q_bi_s, q_bl_s, q_br_s, q_bv_s, Int.toNat_natCast, tn_1, tn_m, tn_n, Int.toNat_zero, Int.toNat_one]
      exact ⟨I1, rfl, fun j hj => h j (by omega), F⟩
    | succ r ih =>
      intro i I1 hi h F
      rw [e182_3]
      simp (disch := omega) only [↓reduceIte, lt_TI, lt_FI, le_TI, le_FI, eq_TI, eq_FI, lt_TN, lt_FN, le_TN, le_FN, eq_TN, eq_FN, and_self, and_true, true_and, and_false, false_and, or_true, true_or, or_false, false_or, not_true_eq_false, not_false_eq_true, wr_of, uI_at, uC_at, q_bi_s, q_bl_s, q_br_s, q_bv_s, Int.toNat_natCast, tn_1, tn_m, tn_n, Int.toNat_zero, Int.toNat_one, a1, a2, b1, b2, tn_a]
      exact ih (i + 1) _ (by omega) (fun j hj => by
        by_cases q : j = i
        · subst q; rw [uI_at, if_pos ⟨rfl, rfl⟩]; exact F a (p + j) (fun z => hab z.1)
        · rw [uI_ne (Or.inr (by omega))]; exact h j (by omega)) (FrA_uI F (by omega) (by omega))
  rw [e182_0]
  exact loop n 0 I (by omega) (fun j hj => by omega) FrA_rf
theorem c_msame {b s n N2 : Nat} (A : AId a N) (B : AId b N2) (hp : p + n ≤ N) (hs : s + n ≤ N2) : ((∀ i, i < n → I a (p + i) = I b (s + i)) → q_E (222, 0, [vr a, vi (p : Int), vr b, vi (s : Int), vi (n : Int), vu], []) (qk t u I J) = some (vi 1, qk t u I J)) ∧ ((∃ i, i < n ∧ I a (p + i) ≠ I b (s + i)) → q_E (222, 0, [vr a, vi (p : Int), vr b, vi (s : Int), vi (n : Int), vu], []) (qk t u I J) = some (vi 0, qk t u I J)) := by
  obtain ⟨a1, a2, a3⟩ := id A
  obtain ⟨b1, b2, b3⟩ := id B
  constructor
  · intro h
    have loop : ∀ (r i : Nat), i + r = n → q_E (222, 3, [vr a, vi (p : Int), vr b, vi (s : Int), vi (n : Int), vi (i : Int)], []) (qk t u I J) = some (vi 1, qk t u I J) := by
      intro r
      induction r with
      | zero => intro i hi; rw [e222_3]; simp (disch := omega) only [↓reduceIte, lt_TI, lt_FI, le_TI, le_FI, eq_TI, eq_FI, lt_TN, lt_FN, le_TN, le_FN, eq_TN, eq_FN, and_self, and_true, true_and, and_false, false_and, or_true, true_or, or_false, false_or, not_true_eq_false, not_false_eq_true, wr_of, uI_at, uC_at, q_bi_s, q_bl_s, q_br_s, q_bv_s, Int.toNat_natCast, tn_1, tn_m, tn_n, Int.toNat_zero, Int.toNat_one]
      | succ r ih =>
        intro i hi
        have e := h i (by omega)
        rw [e222_3]
        simp (disch := omega) only [↓reduceIte, lt_TI, lt_FI, le_TI, le_FI, eq_TI, eq_FI, lt_TN, lt_FN, le_TN, le_FN, eq_TN, eq_FN, and_self, and_true, true_and, and_false, false_and, or_true, true_or, or_false, false_or, not_true_eq_false, not_false_eq_true, wr_of, uI_at, uC_at, q_bi_s, q_bl_s, q_br_s, q_bv_s, Int.toNat_natCast, tn_1, tn_m, tn_n, Int.toNat_zero, Int.toNat_one, a1, a2, b1, b2, tn_a, e]
        exact ih (i + 1) (by omega)
    rw [e222_0]
    exact loop n 0 (by omega)
  · rintro ⟨k, hk, ne⟩
    have loop : ∀ (r i : Nat), i + r = k → q_E (222, 3, [vr a, vi (p : Int), vr b, vi (s : Int), vi (n : Int), vi (i : Int)], []) (qk t u I J) = some (vi 0, qk t u I J) := by
      intro r
      induction r with
      | zero =>
        intro i hi
        have : i = k := by omega
        subst this
        rw [e222_3]
        simp (disch := omega) only [↓reduceIte, lt_TI, lt_FI, le_TI, le_FI, eq_TI, eq_FI, lt_TN, lt_FN, le_TN, le_FN, eq_TN, eq_FN, and_self, and_true, true_and, and_false, false_and, or_true, true_or, or_false, false_or, not_true_eq_false, not_false_eq_true, wr_of, uI_at, uC_at, q_bi_s, q_bl_s, q_br_s, q_bv_s, Int.toNat_natCast, tn_1, tn_m, tn_n, Int.toNat_zero, Int.toNat_one, a1, a2, b1, b2, tn_a]

      | succ r ih =>
        intro i hi
        rw [e222_3]
        simp (disch := omega) only [↓reduceIte, lt_TI, lt_FI, le_TI, le_FI, eq_TI, eq_FI, lt_TN, lt_FN, le_TN, le_FN, eq_TN, eq_FN, and_self, and_true, true_and, and_false, false_and, or_true, true_or, or_false, false_or, not_true_eq_false, not_false_eq_true, wr_of, uI_at, uC_at, q_bi_s, q_bl_s, q_br_s, q_bv_s, Int.toNat_natCast, tn_1, tn_m, tn_n, Int.toNat_zero, Int.toNat_one, a1, a2, b1, b2, tn_a]
        split
        · exact ih (i + 1) (by omega)
        · rfl
    rw [e222_0]
    exact loop k 0 (by omega)
theorem c_sameR {b s N2 : Nat} (A : AId a N) (B : AId b N2) (hp : p + 61 ≤ N) (hs : s + 61 ≤ N2) {x y : Hp} (H : mRw I a p x) (G : mRw I b s y) (o1 : HOk x) (o2 : HOk y) : q_E (222, 0, [vr a, vi (p : Int), vr b, vi (s : Int), vi 61, vu], []) (qk t u I J) = some (vi (if x = y then 1 else 0), qk t u I J) := by
  have k := c_msame (t := t) (u := u) (I := I) (J := J) (n := 61) A B hp hs
  by_cases q : x = y
  · rw [if_pos q]
    subst q
    refine k.1 (fun i hi => ?_)
    by_cases z : i < 60
    · rw [H.1 i z, G.1 i z]
    · rw [show i = 60 by omega, H.2, G.2]
  · rw [if_neg q]
    refine k.2 ?_
    refine Classical.byContradiction fun h => q ?_
    have e : ∀ i, i < 61 → I a (p + i) = I b (s + i) := fun i hi => Classical.byContradiction fun z => h ⟨i, hi, z⟩
    have e1 : x.1 = y.1 := PS_ext o1.2.1 o2.2.1 (HOk_len o1) (HOk_len o2) (fun i hi => by
      have := e i (by omega)
      rw [H.1 i hi, G.1 i hi] at this; omega)
    have e2 := e 60 (by omega)
    rw [H.2, G.2] at e2
    exact Prod.ext e1 (by omega)
theorem c_sameL {b s N2 : Nat} (A : AId a N) (B : AId b N2) (hp : p + 60 ≤ N) (hs : s + 60 ≤ N2) {x y : List Nat} (H : LA I a p x) (G : LA I b s y) (o1 : PS x) (o2 : PS y) (l1 : x.length ≤ 60) (l2 : y.length ≤ 60) : q_E (222, 0, [vr a, vi (p : Int), vr b, vi (s : Int), vi 60, vu], []) (qk t u I J) = some (vi (if x = y then 1 else 0), qk t u I J) := by
  have k := c_msame (t := t) (u := u) (I := I) (J := J) (n := 60) A B hp hs
  by_cases q : x = y
  · rw [if_pos q]
    subst q
    refine k.1 (fun i hi => ?_)
    rw [H i hi, G i hi]
  · rw [if_neg q]
    refine k.2 ?_
    refine Classical.byContradiction fun h => q ?_
    have e : ∀ i, i < 60 → I a (p + i) = I b (s + i) := fun i hi => Classical.byContradiction fun z => h ⟨i, hi, z⟩
    exact PS_ext o1 o2 l1 l2 (fun i hi => by
      have := e i (by omega)
      rw [H i hi, G i hi] at this; omega)
end

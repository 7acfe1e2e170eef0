/-! THE MODEL READS: faults, names, numbers -/
def Wm (I : Nat → Nat → Int) (f p : Int) : Nat → Nat → Int := uI (uI (uI I 265 13 1) 265 9 f) 265 10 p
def BD (I : Nat → Nat → Int) (f : Flt) : Prop := I 265 13 = 1 ∧ I 265 9 = (f.1 : Int) ∧ I 265 10 = (f.2 : Int)
def NW (I I' : Nat → Nat → Int) : Prop := (∀ a, a ≠ 265 → a ≠ 267 → I' a = I a) ∧ ∀ k, k < 4 ∨ (10 < k ∧ k ≠ 13) → I' 265 k = I 265 k
theorem NW_rf {I : Nat → Nat → Int} : NW I I := ⟨fun _ _ _ => rfl, fun _ _ => rfl⟩
theorem NW_tr {I I1 I2 : Nat → Nat → Int} (a : NW I I1) (b : NW I1 I2) : NW I I2 := ⟨fun c h1 h2 => (b.1 c h1 h2).trans (a.1 c h1 h2), fun k h => (b.2 k h).trans (a.2 k h)⟩
theorem NW_nf {I I1 : Nat → Nat → Int} (a : NF I I1) : NW I I1 := ⟨a.1, fun k h => a.2 k (by omega)⟩
theorem NW_w {I : Nat → Nat → Int} {f p : Int} : NW I (Wm I f p) := ⟨fun a h1 _ => by unfold Wm; rw [uI_o1 h1, uI_o1 h1, uI_o1 h1], fun k h => by unfold Wm; rw [uI_ne (Or.inr (by omega)), uI_ne (Or.inr (by omega)), uI_ne (Or.inr (by omega))]⟩
theorem Wm_13 {I : Nat → Nat → Int} {f p : Int} : Wm I f p 265 13 = 1 := by
  unfold Wm; rw [uI_ne (Or.inr (by omega)), uI_ne (Or.inr (by omega)), uI_at, if_pos ⟨rfl, rfl⟩]
theorem BD_w {I : Nat → Nat → Int} {f : Flt} : BD (Wm I (f.1 : Int) (f.2 : Int)) f := ⟨Wm_13, by unfold Wm; rw [uI_ne (Or.inr (by omega)), uI_at, if_pos ⟨rfl, rfl⟩], by unfold Wm; rw [uI_at, if_pos ⟨rfl, rfl⟩]⟩
theorem tn_35 (n : Nat) : (35 + (n : Int)).toNat = 35 + n := by omega
theorem tn_39 (n m : Nat) : (39 + 8 * (n : Int) + (m : Int)).toNat = 39 + 8 * n + m := by omega
/-- the names as laid down -/
def NM (I : Nat → Nat → Int) (m : Nat) (nm : Nat → List Nat) : Prop := (∀ c, c < m → I 269 (35 + c) = ((nm c).length : Int) ∧ 0 < (nm c).length ∧ (nm c).length ≤ 8 ∧ ∀ i, i < (nm c).length → I 269 (39 + 8 * c + i) = ((nm c).getD i 0 : Int)) ∧ ∀ c, m ≤ c → c < 4 → I 269 (35 + c) = 0
theorem NM_rw {I I1 : Nat → Nat → Int} {m : Nat} {nm : Nat → List Nat} (N : NM I m nm) (h : I1 269 = I 269) : NM I1 m nm := by
  unfold NM; rw [h]; exact N
section
variable {t u : Nat} {I J : Nat → Nat → Int} {b : Nat → Nat} {n : Nat} {k : Tk}
theorem m_wrong (g : I 265 13 = 0) (f p : Int) : q_E (189, 0, [vr 265, vi f, vi p], []) (qk t u I J) = some (vu, qk t u (Wm I f p) J) := by
  rw [e189_0, if_pos g]; rfl
theorem m_wrong_b (g : I 265 13 = 1) (f p : Int) : q_E (189, 0, [vr 265, vi f, vi p], []) (qk t u I J) = some (vu, qk t u I J) := by
  rw [e189_0, g, if_neg (by decide)]
theorem m_pass (K : MK I b n k) (g : I 265 13 = 0) : ∃ I', q_E (197, 0, [vr 265], []) (qk t u I J) = some (vu, qk t u I' J) ∧ MK I' b n (tok b n k.2.2) ∧ NF I I' := by
  obtain ⟨I1, x1, x2, x3⟩ := m_nextk (t := t) (u := u) (J := J) K
  rw [e197_0, if_pos g, x1, q_bv_s, e197_11_9]
  exact ⟨I1, rfl, x2, x3⟩
theorem m_pass_b (g : I 265 13 = 1) : q_E (197, 0, [vr 265], []) (qk t u I J) = some (vu, qk t u I J) := by
  rw [e197_0, g, if_neg (by decide), e197_11_9]
theorem m_must_y (K : MK I b n k) (g : I 265 13 = 0) {i : Nat} (hi : i < 12) (h : isWd b k (1000 + i) = true) : ∃ I', q_E (192, 0, [vr 265, vr (1000 + i)], []) (qk t u I J) = some (vu, qk t u I' J) ∧ MK I' b n (tok b n k.2.2) ∧ NF I I' := by
  have w := m_isWord (t := t) (u := u) (J := J) K g hi
  rw [if_pos h] at w
  obtain ⟨I1, x1, x2, x3⟩ := m_nextk (t := t) (u := u) (J := J) K
  rw [e192_0, if_pos g, e191_0, w, q_bi_s, e191_5, if_neg (by decide), x1, q_bv_s, e191_14, q_bi_s, e192_12, if_neg (by decide), e192_24_9]
  exact ⟨I1, rfl, x2, x3⟩
theorem m_must_n (K : MK I b n k) (g : I 265 13 = 0) {i : Nat} (hi : i < 12) (h : ¬ isWd b k (1000 + i) = true) : q_E (192, 0, [vr 265, vr (1000 + i)], []) (qk t u I J) = some (vu, qk t u (Wm I 1 (k.2.1 : Int)) J) := by
  have w := m_isWord (t := t) (u := u) (J := J) K g hi
  rw [if_neg h] at w
  rw [e192_0, if_pos g, e191_0, w, q_bi_s, e191_5, if_pos rfl, q_bi_s, e192_12, if_pos rfl, K.2.2.1, m_wrong g, q_bv_s, e192_24_9]
theorem m_must_b (g : I 265 13 = 1) {s : Nat} : q_E (192, 0, [vr 265, vr s], []) (qk t u I J) = some (vu, qk t u I J) := by
  rw [e192_0, g, if_neg (by decide), e192_24_9]
theorem m_mustName (K : MK I b n k) (g : I 265 13 = 0) : q_E (193, 0, [vr 265], []) (qk t u I J) = some (vu, qk t u (if isNm b k = true then I else Wm I 1 (k.2.1 : Int)) J) := by
  have w0 : q_E (190, 0, [vr 265, vr 1000, vu, vu], []) (qk t u I J) = _ := m_isWord (t := t) (u := u) (J := J) K g (i := 0) (by omega)
  have w3 : q_E (190, 0, [vr 265, vr 1003, vu, vu], []) (qk t u I J) = _ := m_isWord (t := t) (u := u) (J := J) K g (i := 3) (by omega)
  have w4 : q_E (190, 0, [vr 265, vr 1004, vu, vu], []) (qk t u I J) = _ := m_isWord (t := t) (u := u) (J := J) K g (i := 4) (by omega)
  have w5 : q_E (190, 0, [vr 265, vr 1005, vu, vu], []) (qk t u I J) = _ := m_isWord (t := t) (u := u) (J := J) K g (i := 5) (by omega)
  have k4 := K.2.2.1
  have wr1 := m_wrong (t := t) (u := u) (J := J) g 1 (k.2.1 : Int)
  rw [e193_0, K.2.1]
  unfold isNm
  by_cases q1 : k.1 = 1
  · rw [if_pos (tkM_2.mpr q1), w0, q_bi_s, e193_14, decide_eq_true q1, Bool.true_and]
    show _ = some (vu, qk t u (if (!isWd b k (1000 + 0) && (!isWd b k (1000 + 3) && (!isWd b k (1000 + 4) && !isWd b k (1000 + 5)))) = true then I else Wm I 1 (k.2.1 : Int)) J)
    cases z0 : isWd b k (1000 + 0) with
    | true => rw [if_pos (show true = true from rfl), if_neg (show ¬ (1 : Int) = 0 by decide), k4, wr1, q_bv_s, e193_53_9]; rfl
    | false =>
      rw [if_neg (show ¬ false = true by decide), if_pos (show (0 : Int) = 0 from rfl), w3, q_bi_s, e193_23]
      cases z3 : isWd b k (1000 + 3) with
      | true => rw [if_pos (show true = true from rfl), if_neg (show ¬ (1 : Int) = 0 by decide), k4, wr1, q_bv_s, e193_53_9]; rfl
      | false =>
        rw [if_neg (show ¬ false = true by decide), if_pos (show (0 : Int) = 0 from rfl), w4, q_bi_s, e193_32]
        cases z4 : isWd b k (1000 + 4) with
        | true => rw [if_pos (show true = true from rfl), if_neg (show ¬ (1 : Int) = 0 by decide), k4, wr1, q_bv_s, e193_53_9]; rfl
        | false =>
          rw [if_neg (show ¬ false = true by decide), if_pos (show (0 : Int) = 0 from rfl), w5, q_bi_s, e193_41]
          cases z5 : isWd b k (1000 + 5) with
          | true => rw [if_pos (show true = true from rfl), if_neg (show ¬ (1 : Int) = 0 by decide), k4, wr1, q_bv_s, e193_53_9]; rfl
          | false => rw [if_neg (show ¬ false = true by decide), if_pos (show (0 : Int) = 0 from rfl), e193_53_9]; rfl
  · rw [if_neg (fun z => q1 (tkM_2.mp z)), k4, wr1, q_bv_s, e193_53_9, decide_eq_false q1, Bool.false_and]
    rfl
theorem m_mustName_b (g : I 265 13 = 1) : q_E (193, 0, [vr 265], []) (qk t u I J) = some (vu, qk t u I J) := by
  rw [e193_0]
  by_cases q1 : I 265 6 = 2
  · rw [if_pos q1, m_isWord_b g, q_bi_s, e193_14, if_pos rfl, m_isWord_b g, q_bi_s, e193_23, if_pos rfl, m_isWord_b g, q_bi_s, e193_32, if_pos rfl, m_isWord_b g, q_bi_s, e193_41, if_pos rfl, e193_53_9]
  · rw [if_neg q1, m_wrong_b g, q_bv_s, e193_53_9]
theorem m_find {T : Tt} {nm : Nat → List Nat} (K : MK I b n k) (h1 : k.1 = 1) (N : NM I (tC T) nm) (h4 : tC T ≤ 4) : q_E (194, 0, [vr 265, vu, vu, vu], []) (qk t u I J) = some (vi (if fnd b T nm k < tC T then (fnd b T nm k : Int) else -1), qk t u I J) := by
  obtain ⟨l8, lp, ln⟩ := MK_1 K h1
  obtain ⟨B, k6, k4, k5, kx, kw, kv⟩ := K
  obtain ⟨w8, wl⟩ := kw h1
  have l0 : ∀ (c j : Nat), c < 4 → q_E (194, 43, [vr 265, vi (c : Int), vi 0, vi (j : Int)], []) (qk t u I J) = q_E (194, 2, [vr 265, vi ((c : Int) + 1), vu, vu], []) (qk t u I J) := by
    intro c j hc
    rw [e194_43, wr_of (z := (c : Int) + 1) (by omega) (by omega), if_pos (show (0 : Int) = 0 from rfl), if_pos (show (0 : Int) = 0 from rfl)]
    split <;> rfl
  have no : ∀ c, c < 4 → ¬ (c < tC T ∧ nm c = wrd b k.2.1 k.2.2) → q_E (194, 2, [vr 265, vi (c : Int), vu, vu], []) (qk t u I J) = q_E (194, 2, [vr 265, vi ((c : Int) + 1), vu, vu], []) (qk t u I J) := by
    intro c hc h
    by_cases q : c < tC T
    · obtain ⟨n1, n2, n3, n4⟩ := N.1 c q
      have z0 := l0 c 0 hc
      rw [Int.natCast_zero] at z0
      by_cases y : (nm c).length = k.2.2 - k.2.1
      · have loop : ∀ X, q_E (194, 2, [vr 265, vi ((c : Int) + 1), vu, vu], []) (qk t u I J) = X → ∀ r j : Nat, j + r = k.2.2 - k.2.1 → (∀ a, a < j → (nm c).getD a 0 = b (k.2.1 + a)) → q_E (194, 43, [vr 265, vi (c : Int), vi 1, vi (j : Int)], []) (qk t u I J) = X := by
          intro X hX r
          induction r with
          | zero =>
            intro j hj he
            refine absurd ⟨q, gD_ext (by rw [wrd_len]; exact y) (fun a ha => ?_)⟩ h
            rw [wrd_at b (by omega)]
            exact he a (by omega)
          | succ r ih =>
            intro j hj he
            have v := n4 j (by omega)
            have w := wl j (by omega)
            rw [e194_43, w8]
            simp (disch := omega) only [↓reduceIte, lt_TI, lt_FI, le_TI, le_FI, eq_TI, eq_FI, lt_TN, lt_FN, le_TN, le_FN, eq_TN, eq_FN, and_self, and_true, true_and, and_false, false_and, or_true, true_or, or_false, false_or, not_true_eq_false, not_false_eq_true, wr_of, uI_at, uC_at, q_bi_s, q_bl_s, q_br_s, q_bv_s, Int.toNat_natCast, tn_1, tn_m, tn_n, Int.toNat_zero, Int.toNat_one, tn_39, v, w]
            by_cases e : (nm c).getD j 0 = b (k.2.1 + j)
            · rw [if_pos (show ((nm c).getD j 0 : Int) = (b (k.2.1 + j) : Int) by omega)]
              exact ih (j + 1) (by omega) (fun a ha => by
                by_cases z : a = j
                · rw [z]; exact e
                · exact he a (by omega))
            · rw [if_neg (show ¬ ((nm c).getD j 0 : Int) = (b (k.2.1 + j) : Int) by omega)]
              exact (l0 c (j + 1) hc).trans hX
        rw [e194_2]
        simp (disch := omega) only [↓reduceIte, lt_TI, lt_FI, le_TI, le_FI, eq_TI, eq_FI, lt_TN, lt_FN, le_TN, le_FN, eq_TN, eq_FN, and_self, and_true, true_and, and_false, false_and, or_true, true_or, or_false, false_or, not_true_eq_false, not_false_eq_true, wr_of, uI_at, uC_at, q_bi_s, q_bl_s, q_br_s, q_bv_s, Int.toNat_natCast, tn_1, tn_m, tn_n, Int.toNat_zero, Int.toNat_one, tn_35, n1, w8]
        exact loop _ rfl (k.2.2 - k.2.1) 0 (by omega) (fun a ha => by omega)
      · rw [e194_2]
        simp (disch := omega) only [↓reduceIte, lt_TI, lt_FI, le_TI, le_FI, eq_TI, eq_FI, lt_TN, lt_FN, le_TN, le_FN, eq_TN, eq_FN, and_self, and_true, true_and, and_false, false_and, or_true, true_or, or_false, false_or, not_true_eq_false, not_false_eq_true, wr_of, uI_at, uC_at, q_bi_s, q_bl_s, q_br_s, q_bv_s, Int.toNat_natCast, tn_1, tn_m, tn_n, Int.toNat_zero, Int.toNat_one, tn_35, n1, w8]
        exact z0
    · have n0 := N.2 c (by omega) hc
      have z0 := l0 c 0 hc
      rw [Int.natCast_zero] at z0
      rw [e194_2]
      simp (disch := omega) only [↓reduceIte, lt_TI, lt_FI, le_TI, le_FI, eq_TI, eq_FI, lt_TN, lt_FN, le_TN, le_FN, eq_TN, eq_FN, and_self, and_true, true_and, and_false, false_and, or_true, true_or, or_false, false_or, not_true_eq_false, not_false_eq_true, wr_of, uI_at, uC_at, q_bi_s, q_bl_s, q_br_s, q_bv_s, Int.toNat_natCast, tn_1, tn_m, tn_n, Int.toNat_zero, Int.toNat_one, tn_35, n0]
      exact z0
  have yes : ∀ c, c < 4 → c < tC T → nm c = wrd b k.2.1 k.2.2 → q_E (194, 2, [vr 265, vi (c : Int), vu, vu], []) (qk t u I J) = some (vi (c : Int), qk t u I J) := by
    intro c hc q e
    obtain ⟨n1, n2, n3, n4⟩ := N.1 c q
    have le : (nm c).length = k.2.2 - k.2.1 := by rw [e, wrd_len]
    have loop : ∀ r j : Nat, j + r = k.2.2 - k.2.1 → q_E (194, 43, [vr 265, vi (c : Int), vi 1, vi (j : Int)], []) (qk t u I J) = some (vi (c : Int), qk t u I J) := by
      intro r
      induction r with
      | zero =>
        intro j hj
        rw [e194_43, w8]
        simp (disch := omega) only [↓reduceIte, lt_TI, lt_FI, le_TI, le_FI, eq_TI, eq_FI, lt_TN, lt_FN, le_TN, le_FN, eq_TN, eq_FN, and_self, and_true, true_and, and_false, false_and, or_true, true_or, or_false, false_or, not_true_eq_false, not_false_eq_true, wr_of, uI_at, uC_at, q_bi_s, q_bl_s, q_br_s, q_bv_s, Int.toNat_natCast, tn_1, tn_m, tn_n, Int.toNat_zero, Int.toNat_one]
      | succ r ih =>
        intro j hj
        have v := n4 j (by omega)
        have w := wl j (by omega)
        have e2 : (nm c).getD j 0 = b (k.2.1 + j) := by rw [e, wrd_at b (by omega)]
        rw [e2] at v
        rw [e194_43, w8]
        simp (disch := omega) only [↓reduceIte, lt_TI, lt_FI, le_TI, le_FI, eq_TI, eq_FI, lt_TN, lt_FN, le_TN, le_FN, eq_TN, eq_FN, and_self, and_true, true_and, and_false, false_and, or_true, true_or, or_false, false_or, not_true_eq_false, not_false_eq_true, wr_of, uI_at, uC_at, q_bi_s, q_bl_s, q_br_s, q_bv_s, Int.toNat_natCast, tn_1, tn_m, tn_n, Int.toNat_zero, Int.toNat_one, tn_39, v, w]
        exact ih (j + 1) (by omega)
    rw [e194_2]
    simp (disch := omega) only [↓reduceIte, lt_TI, lt_FI, le_TI, le_FI, eq_TI, eq_FI, lt_TN, lt_FN, le_TN, le_FN, eq_TN, eq_FN, and_self, and_true, true_and, and_false, false_and, or_true, true_or, or_false, false_or, not_true_eq_false, not_false_eq_true, wr_of, uI_at, uC_at, q_bi_s, q_bl_s, q_br_s, q_bv_s, Int.toNat_natCast, tn_1, tn_m, tn_n, Int.toNat_zero, Int.toNat_one, tn_35, n1, w8]
    exact loop (k.2.2 - k.2.1) 0 (by omega)
  have top : ∀ r c : Nat, c + r = 4 → (∀ a, a < c → ¬ (a < tC T ∧ nm a = wrd b k.2.1 k.2.2)) → q_E (194, 2, [vr 265, vi (c : Int), vu, vu], []) (qk t u I J) = some (vi (if fnd b T nm k < tC T then (fnd b T nm k : Int) else -1), qk t u I J) := by
    intro r
    induction r with
    | zero =>
      intro c hc hne
      have e : fnd b T nm k = tC T := fsti_eq (Nat.le_refl _) (fun i hi => decide_eq_false (fun z => hne i (by omega) ⟨hi, z⟩)) (fun z => by omega)
      rw [e, if_neg (by omega), e194_2]
      simp (disch := omega) only [↓reduceIte, lt_TI, lt_FI, le_TI, le_FI, eq_TI, eq_FI, lt_TN, lt_FN, le_TN, le_FN, eq_TN, eq_FN, and_self, and_true, true_and, and_false, false_and, or_true, true_or, or_false, false_or, not_true_eq_false, not_false_eq_true, wr_of, uI_at, uC_at, q_bi_s, q_bl_s, q_br_s, q_bv_s, Int.toNat_natCast, tn_1, tn_m, tn_n, Int.toNat_zero, Int.toNat_one]
    | succ r ih =>
      intro c hc hne
      by_cases q : c < tC T ∧ nm c = wrd b k.2.1 k.2.2
      · have e : fnd b T nm k = c := fsti_eq (by omega) (fun i hi => decide_eq_false (fun z => hne i (by omega) ⟨by omega, z⟩)) (fun _ => decide_eq_true q.2)
        rw [e, if_pos q.1]
        exact yes c (by omega) q.1 q.2
      · rw [no c (by omega) q]
        exact ih (c + 1) (by omega) (fun a ha => by
          by_cases z : a = c
          · rw [z]; exact q
          · exact hne a (by omega))
  rw [e194_0]
  exact top 4 0 (by omega) (fun a ha => by omega)
/-- a cellar told ahead -/
theorem m_cellarHere {T : Tt} {nm : Nat → List Nat} (K : MK I b n k) (g : I 265 13 = 0) (N : NM I (tC T) nm) (h4 : tC T ≤ 4) : q_E (196, 0, [vr 265, vu], []) (qk t u I J) = (match rNamed b T nm k with | Sum.inl c => some (vi (c : Int), qk t u I J) | Sum.inr f => some (vi 0, qk t u (Wm I (f.1 : Int) (f.2 : Int)) J)) := by
  have mn := m_mustName (t := t) (u := u) (J := J) K g
  unfold rNamed
  rw [e196_0, if_pos g, mn, q_bv_s, e196_13]
  by_cases q : isNm b k = true
  · rw [if_pos q, if_pos q, if_pos g, m_find K (isNm_1 q) N h4, q_bi_s, e196_26]
    by_cases y : fnd b T nm k < tC T
    · rw [if_pos y, if_pos y, if_neg (show ¬ (fnd b T nm k : Int) < 0 by omega), e196_40, if_pos g]
    · rw [if_neg y, if_neg y, if_pos (show (-1 : Int) < 0 by decide), K.2.2.1, m_wrong g, q_bv_s, e196_40, Wm_13, if_neg (by decide)]
      rfl
  · rw [if_neg q, if_neg q, Wm_13, if_neg (by decide)]
    rfl
theorem m_cellarHere_b (g : I 265 13 = 1) : q_E (196, 0, [vr 265, vu], []) (qk t u I J) = some (vi 0, qk t u I J) := by
  rw [e196_0, g, if_neg (by decide)]
/-- a number -/
theorem m_numH (K : MK I b n k) (g : I 265 13 = 0) {lo hi : Nat} {l h : Int} (el : l = (lo : Int)) (eh : h = (hi : Int)) : q_E (198, 0, [vr 265, vi l, vi h], []) (qk t u I J) = (match rWhole b n lo hi k with | Sum.inl x => some (vi (x.1 : Int), qk t u I J) | Sum.inr f => some (vi l, qk t u (Wm I (f.1 : Int) (f.2 : Int)) J)) := by
  subst el eh
  unfold rWhole
  rw [e198_0, if_pos g, K.2.1]
  by_cases q : k.1 = 2
  · have v := K.2.2.2.2.2.2 q
    rw [if_pos (tkM_3.mpr q), if_pos q, v]
    by_cases y : tvl b k < lo ∨ hi < tvl b k
    · rw [if_pos y, n_no (by omega), q_bi_s, e198_38, if_pos rfl, K.2.2.1, m_wrong g, q_bv_s, e198_50_9, Wm_13, if_neg (by decide)]
      rfl
    · rw [if_neg y, n_ok (by omega) (by omega), q_bi_s, e198_38, if_neg (by decide), e198_50_9, if_pos g, v]
  · rw [if_neg (fun z => q (tkM_3.mp z)), if_neg q, K.2.2.1, m_wrong g, q_bv_s, e198_26, e198_50_9, Wm_13, if_neg (by decide)]
    rfl
theorem m_numH_b (g : I 265 13 = 1) {l h : Int} : q_E (198, 0, [vr 265, vi l, vi h], []) (qk t u I J) = some (vi l, qk t u I J) := by
  rw [e198_0, g, if_neg (by decide)]
theorem rWhole_t {lo hi : Nat} {x : Nat × Tk} (h : rWhole b n lo hi k = Sum.inl x) : x = (tvl b k, tok b n k.2.2) ∧ k.1 = 2 := by
  unfold rWhole at h
  split at h
  · rename_i q
    split at h
    · cases h
    · exact ⟨(Sum.inl.inj h).symm, q⟩
  · cases h
theorem m_num (K : MK I b n k) (g : I 265 13 = 0) {lo hi : Nat} {l h : Int} (el : l = (lo : Int)) (eh : h = (hi : Int)) : ∃ I', (match rWhole b n lo hi k with | Sum.inl x => q_E (199, 0, [vr 265, vi l, vi h, vu], []) (qk t u I J) = some (vi (x.1 : Int), qk t u I' J) ∧ MK I' b n x.2 ∧ NF I I' | Sum.inr f => q_E (199, 0, [vr 265, vi l, vi h, vu], []) (qk t u I J) = some (vi l, qk t u I' J) ∧ BD I' f ∧ NW I I') := by
  have w := m_numH (t := t) (u := u) (J := J) K g el eh
  rw [e199_0, w]
  cases hr : rWhole b n lo hi k with
  | inl x =>
    obtain ⟨I1, x1, x2, x3⟩ := m_pass (t := t) (u := u) (J := J) K g
    simp only
    rw [q_bi_s, e199_6, x1, q_bv_s, e199_11]
    rw [(rWhole_t hr).1]
    exact ⟨I1, rfl, x2, x3⟩
  | inr f =>
    simp only
    rw [q_bi_s, e199_6, m_pass_b Wm_13, q_bv_s, e199_11]
    exact ⟨_, rfl, BD_w, NW_w⟩
theorem m_num_b (g : I 265 13 = 1) {l h : Int} : q_E (199, 0, [vr 265, vi l, vi h, vu], []) (qk t u I J) = some (vi l, qk t u I J) := by
  rw [e199_0, m_numH_b g, q_bi_s, e199_6, m_pass_b g, q_bv_s, e199_11]
theorem m_after (K : MK I b n k) (g : I 265 13 = 0) {i : Nat} (hi12 : i < 12) {lo hi : Nat} {l h : Int} (el : l = (lo : Int)) (eh : h = (hi : Int)) : ∃ I', (match sb (rWord b n (1000 + i) k) (fun k1 => rWhole b n lo hi k1) with | Sum.inl x => q_E (200, 0, [vr 265, vr (1000 + i), vi l, vi h], []) (qk t u I J) = some (vi (x.1 : Int), qk t u I' J) ∧ MK I' b n x.2 ∧ NF I I' | Sum.inr f => q_E (200, 0, [vr 265, vr (1000 + i), vi l, vi h], []) (qk t u I J) = some (vi l, qk t u I' J) ∧ BD I' f ∧ NW I I') := by
  rw [e200_0]
  unfold rWord
  by_cases q : isWd b k (1000 + i) = true
  · rw [if_pos q, sb_l]
    obtain ⟨I1, x1, x2, x3⟩ := m_must_y (t := t) (u := u) (J := J) K g hi12 q
    rw [x1, q_bv_s, e200_5]
    have g1 : I1 265 13 = 0 := by rw [x3.2 13 (by omega)]; exact g
    obtain ⟨I2, y⟩ := m_num (t := t) (u := u) (J := J) x2 g1 el eh
    refine ⟨I2, ?_⟩
    cases hr : rWhole b n lo hi (tok b n k.2.2) with
    | inl x =>
      rw [hr] at y
      obtain ⟨y1, y2, y3⟩ := y
      simp only
      rw [y1, q_bi_s, e200_11]
      exact ⟨rfl, y2, NF_tr x3 y3⟩
    | inr f =>
      rw [hr] at y
      obtain ⟨y1, y2, y3⟩ := y
      simp only
      rw [y1, q_bi_s, e200_11]
      exact ⟨rfl, y2, NW_tr (NW_nf x3) y3⟩
  · rw [if_neg q, sb_r]
    simp only
    rw [m_must_n K g hi12 q, q_bv_s, e200_5, m_num_b Wm_13, q_bi_s, e200_11]
    exact ⟨_, rfl, BD_w (f := (1, k.2.1)), NW_w⟩
theorem m_after_b (g : I 265 13 = 1) {s : Nat} {l h : Int} : q_E (200, 0, [vr 265, vr s, vi l, vi h], []) (qk t u I J) = some (vi l, qk t u I J) := by
  rw [e200_0, m_must_b g, q_bv_s, e200_5, m_num_b g, q_bi_s, e200_11]
end

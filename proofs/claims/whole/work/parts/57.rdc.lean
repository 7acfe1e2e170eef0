/-! Reader: a cellar's line, an unsure one's -/
def RH (h : Nat) (I I' : Nat → Nat → Int) : Prop := (∀ a, a ≠ 3 → a ≠ 2 → a ≠ h → a ≠ h + 1 → I' a = I a) ∧ I' 3 1 = I 3 1 ∧ I' 3 4 = I 3 4
theorem RH_rw {h : Nat} {I I' : Nat → Nat → Int} (H : RW I I') : RH h I I' := ⟨fun a h1 h2 _ _ => H.1 a h1 h2, H.2⟩
theorem RH_tr {h : Nat} {I I1 I2 : Nat → Nat → Int} (a : RH h I I1) (b : RH h I1 I2) : RH h I I2 := ⟨fun c h1 h2 h3 h4 => (b.1 c h1 h2 h3 h4).trans (a.1 c h1 h2 h3 h4), b.2.1.trans a.2.1, b.2.2.trans a.2.2⟩
theorem RH_kp {h : Nat} {I I' : Nat → Nat → Int} (K : Kp h (h + 1) I I') (h2 : 4 < h) : RH h I I' := ⟨fun a _ _ h3 h4 => K a (by omega), by rw [K 3 (by omega)], by rw [K 3 (by omega)]⟩
theorem HAt_w {I I' : Nat → Nat → Int} {h : Nat} {xs : List Nat} {k : Nat} (H : HAt I h xs k) (h0 : I' h = I h) (h1 : I' (h + 1) = I (h + 1)) : HAt I' h xs k := ⟨H.1, by rw [h0]; exact H.2.1, by rw [h0]; exact H.2.2.1, H.2.2.2.1, fun i hi => by rw [h1]; exact H.2.2.2.2 i hi⟩
section
variable {t u : Nat} {I J : Nat → Nat → Int} {b : Nat → Nat} {n : Nat} {k : Tk} {T : Tt} {nm : Nat → List Nat}
theorem c_rHp {h : Nat} (hh : 6 < h) : ∀ (f i : Nat) (xs : List Nat) (k : Tk) (I1 : Nat → Nat → Int), i + f = 9 → xs.length ≤ i → HAt I1 h xs 0 → KT I1 b n k → SD xs → PS xs → xs.sum ≤ 40 → ∃ v I', q_E (49, 19, [vr 2, vr h, vi (i : Int), vu], []) (qk t u I1 J) = some (vi v, qk t u I' J) ∧ (match rHp b n f xs k with | Sum.inl r => v = 1 ∧ HAt I' h r.1 0 ∧ KT I' b n r.2 ∧ I' 2 = I1 2 | Sum.inr e => v = 0 ∧ I' 2 6 = (e.1 : Int) ∧ I' 3 2 = (e.2 : Int)) ∧ RH h I1 I' := by
  intro f
  induction f with
  | zero =>
    intro i xs k I1 hi hl H K S P hs
    unfold rHp
    simp (disch := omega) only [↓reduceIte, lt_TI, lt_FI, le_TI, le_FI, eq_TI, eq_FI, lt_TN, lt_FN, le_TN, le_FN, eq_TN, eq_FN, and_self, and_true, true_and, and_false, false_and, or_true, true_or, or_false, false_or, not_true_eq_false, not_false_eq_true, wr_of, uI_at, uC_at, q_bi_s, q_bl_s, q_br_s, q_bv_s, Int.toNat_natCast, tn_1, tn_m, tn_n, Int.toNat_zero, Int.toNat_one, e49_19]
    exact ⟨_, I1, rfl, ⟨rfl, H, K, rfl⟩, RH_rw RW_rf⟩
  | succ f ih =>
    intro i xs k I1 hi hl H K S P hs
    have h3 := K.2.2.2.1
    have hp := K.2.2.2.2.1
    have H0 := H.1.1
    have H1 := H.2.1
    unfold rHp
    by_cases q : k.1 = 2
    · have e := c_whole (t := t) (u := u) (J := J) K q
      have lv := (KT_2 K q).2.2
      simp only [if_pos q]
      rw [q] at h3
      have s1 := c_inHeaps (t := t) (u := u) (J := J) H (by omega)
      by_cases g : tvl b k < 1 ∨ 30 < tvl b k ∨ 40 < xs.sum + tvl b k
      · simp only [if_pos g]
        refine ⟨0, uI I1 2 6 4, ?_, ⟨rfl, by simp (disch := omega) only [↓reduceIte, lt_TI, lt_FI, le_TI, le_FI, eq_TI, eq_FI, lt_TN, lt_FN, le_TN, le_FN, eq_TN, eq_FN, and_self, and_true, true_and, and_false, false_and, or_true, true_or, or_false, false_or, not_true_eq_false, not_false_eq_true, wr_of, uI_at, uC_at, q_bi_s, q_bl_s, q_br_s, q_bv_s, Int.toNat_natCast, tn_1, tn_m, tn_n, Int.toNat_zero, Int.toNat_one] <;> rfl, by simp (disch := omega) only [↓reduceIte, lt_TI, lt_FI, le_TI, le_FI, eq_TI, eq_FI, lt_TN, lt_FN, le_TN, le_FN, eq_TN, eq_FN, and_self, and_true, true_and, and_false, false_and, or_true, true_or, or_false, false_or, not_true_eq_false, not_false_eq_true, wr_of, uI_at, uC_at, q_bi_s, q_bl_s, q_br_s, q_bv_s, Int.toNat_natCast, tn_1, tn_m, tn_n, Int.toNat_zero, Int.toNat_one, hp]⟩, RH_rw RW_4⟩
        by_cases g1 : tvl b k < 1
        · simp (disch := omega) only [↓reduceIte, lt_TI, lt_FI, le_TI, le_FI, eq_TI, eq_FI, lt_TN, lt_FN, le_TN, le_FN, eq_TN, eq_FN, and_self, and_true, true_and, and_false, false_and, or_true, true_or, or_false, false_or, not_true_eq_false, not_false_eq_true, wr_of, uI_at, uC_at, q_bi_s, q_bl_s, q_br_s, q_bv_s, Int.toNat_natCast, tn_1, tn_m, tn_n, Int.toNat_zero, Int.toNat_one, e49_19, h3, e, e49_43, e44_0, e49_71]
        · by_cases g2 : 30 < tvl b k
          · simp (disch := omega) only [↓reduceIte, lt_TI, lt_FI, le_TI, le_FI, eq_TI, eq_FI, lt_TN, lt_FN, le_TN, le_FN, eq_TN, eq_FN, and_self, and_true, true_and, and_false, false_and, or_true, true_or, or_false, false_or, not_true_eq_false, not_false_eq_true, wr_of, uI_at, uC_at, q_bi_s, q_bl_s, q_br_s, q_bv_s, Int.toNat_natCast, tn_1, tn_m, tn_n, Int.toNat_zero, Int.toNat_one, e49_19, h3, e, e49_43, e44_0, e49_71]
          · simp (disch := omega) only [↓reduceIte, lt_TI, lt_FI, le_TI, le_FI, eq_TI, eq_FI, lt_TN, lt_FN, le_TN, le_FN, eq_TN, eq_FN, and_self, and_true, true_and, and_false, false_and, or_true, true_or, or_false, false_or, not_true_eq_false, not_false_eq_true, wr_of, uI_at, uC_at, q_bi_s, q_bl_s, q_br_s, q_bv_s, Int.toNat_natCast, tn_1, tn_m, tn_n, Int.toNat_zero, Int.toNat_one, e49_19, h3, e, e49_43, H0, s1, e49_59, e44_0, e49_71]
      · simp only [if_neg g]
        by_cases g2 : 8 ≤ xs.length
        · simp only [if_pos g2]
          simp (disch := omega) only [↓reduceIte, lt_TI, lt_FI, le_TI, le_FI, eq_TI, eq_FI, lt_TN, lt_FN, le_TN, le_FN, eq_TN, eq_FN, and_self, and_true, true_and, and_false, false_and, or_true, true_or, or_false, false_or, not_true_eq_false, not_false_eq_true, wr_of, uI_at, uC_at, q_bi_s, q_bl_s, q_br_s, q_bv_s, Int.toNat_natCast, tn_1, tn_m, tn_n, Int.toNat_zero, Int.toNat_one, e49_19, h3, e, e49_43, H0, s1, e49_59, H1, e44_0, e49_86]
          exact ⟨_, _, rfl, ⟨rfl, by simp (disch := omega) only [↓reduceIte, lt_TI, lt_FI, le_TI, le_FI, eq_TI, eq_FI, lt_TN, lt_FN, le_TN, le_FN, eq_TN, eq_FN, and_self, and_true, true_and, and_false, false_and, or_true, true_or, or_false, false_or, not_true_eq_false, not_false_eq_true, wr_of, uI_at, uC_at, q_bi_s, q_bl_s, q_br_s, q_bv_s, Int.toNat_natCast, tn_1, tn_m, tn_n, Int.toNat_zero, Int.toNat_one] <;> rfl, by simp (disch := omega) only [↓reduceIte, lt_TI, lt_FI, le_TI, le_FI, eq_TI, eq_FI, lt_TN, lt_FN, le_TN, le_FN, eq_TN, eq_FN, and_self, and_true, true_and, and_false, false_and, or_true, true_or, or_false, false_or, not_true_eq_false, not_false_eq_true, wr_of, uI_at, uC_at, q_bi_s, q_bl_s, q_br_s, q_bv_s, Int.toNat_natCast, tn_1, tn_m, tn_n, Int.toNat_zero, Int.toNat_one, hp]⟩, RH_rw RW_4⟩
        · simp only [if_neg g2]
          obtain ⟨I2, a1, a2, a3⟩ := c_lay (t := t) (u := u) (J := J) H S (z := tvl b k) (by omega) (by omega) (by omega)
          have K2 : KT I2 b n k := KT_w K (a3 3 (by omega)) (a3 4 (by omega))
          obtain ⟨I3, b1, b2, b3⟩ := c_next (t := t) (u := u) (J := J) K2
          obtain ⟨v, I4, c1, c2, c3⟩ := ih (i + 1) (ins (tvl b k) xs) (tok b n k.2.2) I3 (by omega) (by rw [ins_len]; omega) (HAt_kp a2 b3.1 (by omega)) b2 (ins_sd _ _ S) (ins_ps (by omega) P) (by rw [ins_sum]; omega)
          rw [e49_19]
          simp (disch := omega) only [↓reduceIte, lt_TI, lt_FI, le_TI, le_FI, eq_TI, eq_FI, lt_TN, lt_FN, le_TN, le_FN, eq_TN, eq_FN, and_self, and_true, true_and, and_false, false_and, or_true, true_or, or_false, false_or, not_true_eq_false, not_false_eq_true, wr_of, uI_at, uC_at, q_bi_s, q_bl_s, q_br_s, q_bv_s, Int.toNat_natCast, tn_1, tn_m, tn_n, Int.toNat_zero, Int.toNat_one, h3, e, e49_43, H0, s1, e49_59, H1, a1, e49_92, b1, e49_99]
          refine ⟨v, I4, c1, ?_, RH_tr (RH_kp a3 (by omega)) (RH_tr (RH_rw (RW_ks b3)) c3)⟩
          cases hr : rHp b n f (ins (tvl b k) xs) (tok b n k.2.2) with
          | inl r => rw [hr] at c2; exact ⟨c2.1, c2.2.1, c2.2.2.1, by rw [c2.2.2.2, b3.1 2 (by omega), a3 2 (by omega)]⟩
          | inr e => rw [hr] at c2; exact c2
    · simp only [if_neg q]
      simp (disch := omega) only [↓reduceIte, lt_TI, lt_FI, le_TI, le_FI, eq_TI, eq_FI, lt_TN, lt_FN, le_TN, le_FN, eq_TN, eq_FN, and_self, and_true, true_and, and_false, false_and, or_true, true_or, or_false, false_or, not_true_eq_false, not_false_eq_true, wr_of, uI_at, uC_at, q_bi_s, q_bl_s, q_br_s, q_bv_s, Int.toNat_natCast, tn_1, tn_m, tn_n, Int.toNat_zero, Int.toNat_one, e49_19, h3]
      exact ⟨_, I1, rfl, ⟨rfl, H, K, rfl⟩, RH_rw RW_rf⟩
theorem c_rHeaps {h : Nat} (hh : 6 < h) (H : HAt I h [] 0) (K : KT I b n k) : ∃ v I', q_E (49, 0, [vr 2, vr h, vu, vu], []) (qk t u I J) = some (vi v, qk t u I' J) ∧ (match rHeaps b n k with | Sum.inl r => v = 1 ∧ HAt I' h r.1 0 ∧ KT I' b n r.2 ∧ I' 2 = I 2 | Sum.inr e => v = 0 ∧ I' 2 6 = (e.1 : Int) ∧ I' 3 2 = (e.2 : Int)) ∧ RH h I I' := by
  have h3 := K.2.2.2.1
  have hp := K.2.2.2.2.1
  unfold rHeaps
  by_cases q : k.1 = 2
  · simp only [if_pos q]
    obtain ⟨v, I', a1, a2⟩ := c_rHp (t := t) (u := u) (J := J) hh 9 0 [] k I (by omega) (Nat.le_refl _) H K List.Pairwise.nil (fun a ha => by cases ha) (Nat.zero_le _)
    rw [q] at h3
    rw [Int.natCast_zero] at a1
    simp (disch := omega) only [↓reduceIte, lt_TI, lt_FI, le_TI, le_FI, eq_TI, eq_FI, lt_TN, lt_FN, le_TN, le_FN, eq_TN, eq_FN, and_self, and_true, true_and, and_false, false_and, or_true, true_or, or_false, false_or, not_true_eq_false, not_false_eq_true, wr_of, uI_at, uC_at, q_bi_s, q_bl_s, q_br_s, q_bv_s, Int.toNat_natCast, tn_1, tn_m, tn_n, Int.toNat_zero, Int.toNat_one, e49_0, h3]
    exact ⟨v, I', a1, a2⟩
  · simp only [if_neg q]
    simp (disch := omega) only [↓reduceIte, lt_TI, lt_FI, le_TI, le_FI, eq_TI, eq_FI, lt_TN, lt_FN, le_TN, le_FN, eq_TN, eq_FN, and_self, and_true, true_and, and_false, false_and, or_true, true_or, or_false, false_or, not_true_eq_false, not_false_eq_true, wr_of, uI_at, uC_at, q_bi_s, q_bl_s, q_br_s, q_bv_s, Int.toNat_natCast, tn_1, tn_m, tn_n, Int.toNat_zero, Int.toNat_one, e49_0, h3, e44_0, e49_16]
    exact ⟨_, _, rfl, ⟨rfl, by simp (disch := omega) only [↓reduceIte, lt_TI, lt_FI, le_TI, le_FI, eq_TI, eq_FI, lt_TN, lt_FN, le_TN, le_FN, eq_TN, eq_FN, and_self, and_true, true_and, and_false, false_and, or_true, true_or, or_false, false_or, not_true_eq_false, not_false_eq_true, wr_of, uI_at, uC_at, q_bi_s, q_bl_s, q_br_s, q_bv_s, Int.toNat_natCast, tn_1, tn_m, tn_n, Int.toNat_zero, Int.toNat_one] <;> rfl, by simp (disch := omega) only [↓reduceIte, lt_TI, lt_FI, le_TI, le_FI, eq_TI, eq_FI, lt_TN, lt_FN, le_TN, le_FN, eq_TN, eq_FN, and_self, and_true, true_and, and_false, false_and, or_true, true_or, or_false, false_or, not_true_eq_false, not_false_eq_true, wr_of, uI_at, uC_at, q_bi_s, q_bl_s, q_br_s, q_bv_s, Int.toNat_natCast, tn_1, tn_m, tn_n, Int.toNat_zero, Int.toNat_one, hp]⟩, RH_rw RW_4⟩
theorem c_readCellar (A : TAt I u T) (H : KT I b n k) (N : NAt I b n (tC T) nm) (h4 : tC T < 4) (p : TOk T) : ∃ v I', q_E (48, 0, [vr 2, vu, vu], []) (qk t u I J) = some (vi v, qk t u I' J) ∧ RE I I' u b n v (rCellar b n T nm k) ∧ RF u I I' := by
  have hu : u = 7 ∨ u = 248 := A.1.2.2.2.2.2
  have k18 := A.1.1
  have k9 := A.2.2.2.2.1
  have hp := H.2.2.2.2.1
  have hq := H.2.2.2.2.2.1
  have hr := H.2.2.2.2.2.2
  have hn := H.2.1
  have e := c_isName (t := t) (u := u) (J := J) H
  unfold rCellar
  by_cases q : isNm b k = true
  · rw [if_pos q] at e
    simp only [if_pos q]
    have g := c_findNamed (t := t) (J := J) A H N (isNm_1 q) (by omega)
    by_cases y : fnd b T nm k < tC T
    · rw [if_pos y] at g
      simp only [if_pos y]
      simp (disch := omega) only [↓reduceIte, lt_TI, lt_FI, le_TI, le_FI, eq_TI, eq_FI, lt_TN, lt_FN, le_TN, le_FN, eq_TN, eq_FN, and_self, and_true, true_and, and_false, false_and, or_true, true_or, or_false, false_or, not_true_eq_false, not_false_eq_true, wr_of, uI_at, uC_at, q_bi_s, q_bl_s, q_br_s, q_bv_s, Int.toNat_natCast, tn_1, tn_m, tn_n, Int.toNat_zero, Int.toNat_one, e48_0, k18, e, k9, e48_12, g, e48_30, e44_0, e48_39]
      exact ⟨_, _, rfl, ⟨rfl, by simp (disch := omega) only [↓reduceIte, lt_TI, lt_FI, le_TI, le_FI, eq_TI, eq_FI, lt_TN, lt_FN, le_TN, le_FN, eq_TN, eq_FN, and_self, and_true, true_and, and_false, false_and, or_true, true_or, or_false, false_or, not_true_eq_false, not_false_eq_true, wr_of, uI_at, uC_at, q_bi_s, q_bl_s, q_br_s, q_bv_s, Int.toNat_natCast, tn_1, tn_m, tn_n, Int.toNat_zero, Int.toNat_one] <;> rfl, by simp (disch := omega) only [↓reduceIte, lt_TI, lt_FI, le_TI, le_FI, eq_TI, eq_FI, lt_TN, lt_FN, le_TN, le_FN, eq_TN, eq_FN, and_self, and_true, true_and, and_false, false_and, or_true, true_or, or_false, false_or, not_true_eq_false, not_false_eq_true, wr_of, uI_at, uC_at, q_bi_s, q_bl_s, q_br_s, q_bv_s, Int.toNat_natCast, tn_1, tn_m, tn_n, Int.toNat_zero, Int.toNat_one, hp]⟩, RF_rw RW_4⟩
    · rw [if_neg y] at g
      simp only [if_neg y]
      have k6 : kd 6 = 1 := rfl
      have l6 : ln 6 = 4 := rfl
      generalize hI1 : uI (uI I 5 (tC T) (k.2.1 : Int)) 6 (tC T) ((k.2.2 : Int) - (k.2.1 : Int)) = I1
      have F1 : ∀ a, a ≠ 5 → a ≠ 6 → I1 a = I a := fun a h1 h2 => by rw [← hI1, uI_o1 h2, uI_o1 h1]
      have R1 : RF u I I1 := ⟨fun a _ h2 _ => F1 a (by omega) (by omega), by rw [F1 3 (by omega) (by omega)], by rw [F1 3 (by omega) (by omega)]⟩
      have H1 : KT I1 b n k := KT_w H (F1 3 (by omega) (by omega)) (F1 4 (by omega) (by omega))
      obtain ⟨I2, a1, a2, a3⟩ := c_next (t := t) (u := u) (J := J) H1
      have lw := c_lawHere (t := t) (u := u) (J := J) a2
      have hp2 := a2.2.2.2.2.1
      have wl := lawN_le b (tok b n k.2.2)
      by_cases z : lawN b (tok b n k.2.2) = 4
      · rw [if_pos z] at lw
        simp only [if_pos z]
        simp (disch := omega) only [↓reduceIte, lt_TI, lt_FI, le_TI, le_FI, eq_TI, eq_FI, lt_TN, lt_FN, le_TN, le_FN, eq_TN, eq_FN, and_self, and_true, true_and, and_false, false_and, or_true, true_or, or_false, false_or, not_true_eq_false, not_false_eq_true, wr_of, uI_at, uC_at, q_bi_s, q_bl_s, q_br_s, q_bv_s, Int.toNat_natCast, tn_1, tn_m, tn_n, Int.toNat_zero, Int.toNat_one, e48_0, k18, e, k9, e48_12, g, e48_30, hp, e89_0, hq, e48_65, k6, l6, hI1, a1, e48_73, lw, e48_77, e44_0, e48_88]
        exact ⟨_, _, rfl, ⟨rfl, by simp (disch := omega) only [↓reduceIte, lt_TI, lt_FI, le_TI, le_FI, eq_TI, eq_FI, lt_TN, lt_FN, le_TN, le_FN, eq_TN, eq_FN, and_self, and_true, true_and, and_false, false_and, or_true, true_or, or_false, false_or, not_true_eq_false, not_false_eq_true, wr_of, uI_at, uC_at, q_bi_s, q_bl_s, q_br_s, q_bv_s, Int.toNat_natCast, tn_1, tn_m, tn_n, Int.toNat_zero, Int.toNat_one] <;> rfl, by simp (disch := omega) only [↓reduceIte, lt_TI, lt_FI, le_TI, le_FI, eq_TI, eq_FI, lt_TN, lt_FN, le_TN, le_FN, eq_TN, eq_FN, and_self, and_true, true_and, and_false, false_and, or_true, true_or, or_false, false_or, not_true_eq_false, not_false_eq_true, wr_of, uI_at, uC_at, q_bi_s, q_bl_s, q_br_s, q_bv_s, Int.toNat_natCast, tn_1, tn_m, tn_n, Int.toNat_zero, Int.toNat_one, hp2]⟩, RF_tr R1 (RF_rw (RW_tr (RW_ks a3) RW_4))⟩
      · rw [if_neg z] at lw
        simp only [if_neg z]
        obtain ⟨n1, n2⟩ := A.1.2.2.2.1 0 (by omega)
        have l1 := A.1.2.2.2.2.1.1
        obtain ⟨j1, j2, j3, j4, j5, j6, j7⟩ := A.1.2.1
        have jr := A.1.2.2.1
        obtain ⟨d1, d2⟩ := j7 (tC T) h4
        have e0 : u + 1 + 2 + 2 * tC T = u + 3 + 2 * tC T := by omega
        -- the law is told
        have K3 : KT (uI I2 (u + 11) (tC T) (lawN b (tok b n k.2.2) : Int)) b n (tok b n k.2.2) := KT_w a2 (uI_o1 (by omega)) (uI_o1 (by omega))
        obtain ⟨I4, b1, b2, b3⟩ := c_next (t := t) (u := u) (J := J) K3
        have F4 : ∀ a, a ≠ 3 → a ≠ 5 → a ≠ 6 → a ≠ u + 11 → I4 a = I a := fun a h1 h2 h3 h4 => by
          rw [b3.1 a (by omega), uI_o1 h4, a3.1 a (by omega), F1 a h2 h3]
        have r0 : HAt I (u + 1 + 2 + 2 * tC T) (tB T (tC T)).1 (tB T (tC T)).2 := A.2.1.2.2 (tC T) h4
        rw [p.2.2.2.2.2.2.1 (tC T) (Nat.le_refl _)] at r0
        have r4 : HAt I4 (u + 1 + 2 + 2 * tC T) [] 0 := HAt_w r0 (F4 _ (by omega) (by omega) (by omega) (by omega)) (F4 _ (by omega) (by omega) (by omega) (by omega))
        obtain ⟨v, I5, c1, c2, c3⟩ := c_rHeaps (t := t) (u := u) (J := J) (by omega) r4 b2
        have F5 : ∀ a, a ≠ 3 → a ≠ 2 → a ≠ 5 → a ≠ 6 → a ≠ u + 11 → a ≠ u + 1 + 2 + 2 * tC T → a ≠ u + 1 + 2 + 2 * tC T + 1 → I5 a = I a := fun a h1 h2 h3 h4 h5 h6 h7 => by
          rw [c3.1 a h1 h2 h6 h7, F4 a h1 h3 h4 h5]
        have R5 : RF u I I5 := ⟨fun a h1 h2 h3 => F5 a h1 (by omega) (by omega) (by omega) (by omega) (by omega) (by omega), by rw [c3.2.1, b3.2.1, uI_ne (Or.inl (by omega)), a3.2.1, F1 3 (by omega) (by omega)], by rw [c3.2.2, b3.2.2, uI_ne (Or.inl (by omega)), a3.2.2, F1 3 (by omega) (by omega)]⟩
        have k95 : I5 u 9 = (tC T : Int) := by rw [F5 u (by omega) (by omega) (by omega) (by omega) (by omega) (by omega) (by omega)]; exact k9
        cases hr5 : rHeaps b n (tok b n (tok b n k.2.2).2.2) with
        | inr e5 =>
          rw [hr5] at c2
          obtain ⟨c21, c22, c23⟩ := c2
          subst c21
          simp only [sb_r]
          simp (disch := omega) only [↓reduceIte, lt_TI, lt_FI, le_TI, le_FI, eq_TI, eq_FI, lt_TN, lt_FN, le_TN, le_FN, eq_TN, eq_FN, and_self, and_true, true_and, and_false, false_and, or_true, true_or, or_false, false_or, not_true_eq_false, not_false_eq_true, wr_of, uI_at, uC_at, q_bi_s, q_bl_s, q_br_s, q_bv_s, Int.toNat_natCast, tn_1, tn_m, tn_n, Int.toNat_zero, Int.toNat_one, e48_0, k18, e, k9, e48_12, g, e48_30, hp, e89_0, hq, e48_65, k6, l6, hI1, a1, e48_73, lw, e48_77, n1, n2, Nat.add_zero, l1, b1, e48_106, j1, jr, j4, j5, j6, d2, c1, e48_122]
          exact ⟨_, I5, rfl, ⟨rfl, c22, c23⟩, R5⟩
        | inl r =>
          rw [hr5] at c2
          obtain ⟨c21, c22, c23, c24⟩ := c2
          subst c21
          simp only [sb_l]
          simp (disch := omega) only [↓reduceIte, lt_TI, lt_FI, le_TI, le_FI, eq_TI, eq_FI, lt_TN, lt_FN, le_TN, le_FN, eq_TN, eq_FN, and_self, and_true, true_and, and_false, false_and, or_true, true_or, or_false, false_or, not_true_eq_false, not_false_eq_true, wr_of, uI_at, uC_at, q_bi_s, q_bl_s, q_br_s, q_bv_s, Int.toNat_natCast, tn_1, tn_m, tn_n, Int.toNat_zero, Int.toNat_one, e48_0, k18, e, k9, e48_12, g, e48_30, hp, e89_0, hq, e48_65, k6, l6, hI1, a1, e48_73, lw, e48_77, n1, n2, Nat.add_zero, l1, b1, e48_106, j1, jr, j4, j5, j6, d2, c1, e48_122, k95]
          refine ⟨_, _, rfl, ⟨rfl, ⟨?_, KT_w c23 (uI_o1 (by omega)) (uI_o1 (by omega)), ?_⟩, by rw [uI_ne (Or.inl (by omega)), c24, b3.1 2 (by omega), uI_ne (Or.inl (by omega)), a3.1 2 (by omega), F1 2 (by omega) (by omega)]⟩, RF_tr R5 ⟨fun a _ _ h => uI_o1 (by omega), uI_ne (Or.inl (by omega)), uI_ne (Or.inl (by omega))⟩⟩
          · obtain ⟨g1, g2, g3, g4, g5, g6, g7, g8, g9, g10⟩ := A
            have U : ∀ a, a ≠ u → uI I5 u 9 ((tC T : Int) + 1) a = I5 a := fun a h => uI_o1 h
            have Uu : ∀ j, j ≠ 9 → uI I5 u 9 ((tC T : Int) + 1) u j = I u j := fun j h => by rw [uI_ne (Or.inr h), F5 u (by omega) (by omega) (by omega) (by omega) (by omega) (by omega) (by omega)]
            refine ⟨g1, ⟨g2.1, by rw [U _ (by omega), F5 _ (by omega) (by omega) (by omega) (by omega) (by omega) (by omega) (by omega)]; exact g2.2.1, fun c hc => ?_⟩, by rw [Uu 7 (by omega)]; exact g3, by rw [Uu 8 (by omega)]; exact g4, ?_, by rw [Uu 10 (by omega)]; exact g6, by rw [Uu 11 (by omega)]; exact g7, fun i hi => ?_, fun i hi => ?_, fun i hi => ?_⟩
            · show HAt _ (u + 1 + 2 + 2 * c) (updF (tB T) (tC T) (r.1, 0) c).1 (updF (tB T) (tC T) (r.1, 0) c).2
              unfold updF
              by_cases w : c = tC T
              · subst w
                simp only [if_true]
                exact HAt_w c22 (uI_o1 (by omega)) (uI_o1 (by omega))
              · simp only [if_neg w]
                exact HAt_w (g2.2.2 c hc) (by rw [U _ (by omega), F5 _ (by omega) (by omega) (by omega) (by omega) (by omega) (by omega) (by omega)]) (by rw [U _ (by omega), F5 _ (by omega) (by omega) (by omega) (by omega) (by omega) (by omega) (by omega)])
            · exact if_pos ⟨rfl, rfl⟩
            · have hi : i < tC T + 1 := hi
              show _ = ((updF (tL T) (tC T) (lawN b (tok b n k.2.2)) i : Nat) : Int)
              unfold updF
              rw [U _ (by omega), c3.1 _ (by omega) (by omega) (by omega) (by omega), b3.1 _ (by omega)]
              by_cases w : i = tC T
              · subst w
                rw [if_pos rfl]; exact if_pos ⟨rfl, rfl⟩
              · rw [if_neg w, uI_ne (Or.inr w), a3.1 _ (by omega), F1 _ (by omega) (by omega)]; exact g8 i (by omega)
            · rw [U _ (by omega), U _ (by omega), F5 _ (by omega) (by omega) (by omega) (by omega) (by omega) (by omega) (by omega), F5 _ (by omega) (by omega) (by omega) (by omega) (by omega) (by omega) (by omega)]; exact g9 i hi
            · rw [U _ (by omega), U _ (by omega), U _ (by omega), F5 _ (by omega) (by omega) (by omega) (by omega) (by omega) (by omega) (by omega), F5 _ (by omega) (by omega) (by omega) (by omega) (by omega) (by omega) (by omega), F5 _ (by omega) (by omega) (by omega) (by omega) (by omega) (by omega) (by omega)]; exact g10 i hi
          · intro c hc
            have hc : c < tC T + 1 := hc
            have F55 : uI I5 u 9 ((tC T : Int) + 1) 5 = uI I 5 (tC T) (k.2.1 : Int) 5 := by rw [uI_o1 (by omega), c3.1 5 (by omega) (by omega) (by omega) (by omega), b3.1 5 (by omega), uI_o1 (by omega), a3.1 5 (by omega), ← hI1, uI_o1 (by omega)]
            have F56 : uI I5 u 9 ((tC T : Int) + 1) 6 = uI (uI I 5 (tC T) (k.2.1 : Int)) 6 (tC T) ((k.2.2 : Int) - (k.2.1 : Int)) 6 := by rw [uI_o1 (by omega), c3.1 6 (by omega) (by omega) (by omega) (by omega), b3.1 6 (by omega), uI_o1 (by omega), a3.1 6 (by omega), hI1]
            rw [F55, F56]
            show ∃ f l : Nat, _ ∧ _ ∧ _ ∧ _ = updF nm (tC T) (wrd b k.2.1 k.2.2) c
            unfold updF
            by_cases w : c = tC T
            · subst w
              rw [if_pos rfl]
              exact ⟨k.2.1, k.2.2 - k.2.1, if_pos ⟨rfl, rfl⟩, by rw [uI_at, if_pos ⟨rfl, rfl⟩]; omega, by omega, by rw [show k.2.1 + (k.2.2 - k.2.1) = k.2.2 by omega]⟩
            · rw [if_neg w]
              obtain ⟨f, l, x1, x2, x3⟩ := N c (by omega)
              exact ⟨f, l, by rw [uI_ne (Or.inr w)]; exact x1, by rw [uI_ne (Or.inr w), uI_ne (Or.inl (by omega))]; exact x2, x3⟩
  · rw [if_neg q] at e
    simp only [if_neg q]
    simp (disch := omega) only [↓reduceIte, lt_TI, lt_FI, le_TI, le_FI, eq_TI, eq_FI, lt_TN, lt_FN, le_TN, le_FN, eq_TN, eq_FN, and_self, and_true, true_and, and_false, false_and, or_true, true_or, or_false, false_or, not_true_eq_false, not_false_eq_true, wr_of, uI_at, uC_at, q_bi_s, q_bl_s, q_br_s, q_bv_s, Int.toNat_natCast, tn_1, tn_m, tn_n, Int.toNat_zero, Int.toNat_one, e48_0, k18, e, e48_12, e44_0, e48_25]
    exact ⟨_, _, rfl, ⟨rfl, by simp (disch := omega) only [↓reduceIte, lt_TI, lt_FI, le_TI, le_FI, eq_TI, eq_FI, lt_TN, lt_FN, le_TN, le_FN, eq_TN, eq_FN, and_self, and_true, true_and, and_false, false_and, or_true, true_or, or_false, false_or, not_true_eq_false, not_false_eq_true, wr_of, uI_at, uC_at, q_bi_s, q_bl_s, q_br_s, q_bv_s, Int.toNat_natCast, tn_1, tn_m, tn_n, Int.toNat_zero, Int.toNat_one] <;> rfl, by simp (disch := omega) only [↓reduceIte, lt_TI, lt_FI, le_TI, le_FI, eq_TI, eq_FI, lt_TN, lt_FN, le_TN, le_FN, eq_TN, eq_FN, and_self, and_true, true_and, and_false, false_and, or_true, true_or, or_false, false_or, not_true_eq_false, not_false_eq_true, wr_of, uI_at, uC_at, q_bi_s, q_bl_s, q_br_s, q_bv_s, Int.toNat_natCast, tn_1, tn_m, tn_n, Int.toNat_zero, Int.toNat_one, hp]⟩, RF_rw RW_4⟩
theorem c_readUnsure (A : TAt I u T) (H : KT I b n k) (N : NAt I b n (tC T) nm) (p : TOk T) : ∃ v I', q_E (50, 0, [vr 2], []) (qk t u I J) = some (vi v, qk t u I' J) ∧ RE I I' u b n v (rUnsure b n T nm k) ∧ RF u I I' := by
  have hu : u = 7 ∨ u = 248 := A.1.2.2.2.2.2
  have k18 := A.1.1
  have k10 := A.2.2.2.2.2.1
  have U4 := p.2.2.2.2.2.2.2.1
  have C4 := p.2.2.2.1
  obtain ⟨w1, w2⟩ := c_readNamed (t := t) (J := J) A H N C4
  unfold rUnsure
  cases hn : rNamed b T nm k with
  | inr f =>
    obtain ⟨I1, a1, a2, a3, a4⟩ := w2 f hn
    clear w1 w2
    simp only [sb_r]
    simp (disch := omega) only [↓reduceIte, lt_TI, lt_FI, le_TI, le_FI, eq_TI, eq_FI, lt_TN, lt_FN, le_TN, le_FN, eq_TN, eq_FN, and_self, and_true, true_and, and_false, false_and, or_true, true_or, or_false, false_or, not_true_eq_false, not_false_eq_true, wr_of, uI_at, uC_at, q_bi_s, q_bl_s, q_br_s, q_bv_s, Int.toNat_natCast, tn_1, tn_m, tn_n, Int.toNat_zero, Int.toNat_one, e50_0, a1, e50_4]
    exact ⟨_, I1, rfl, ⟨rfl, a2, a3⟩, RF_rw a4⟩
  | inl c =>
    obtain ⟨I1, a1, a2, a3, a4, a5⟩ := w1 c hn
    clear w1 w2
    simp only [sb_l]
    have hc : c < tC T := by
      unfold rNamed at hn
      split at hn
      · split at hn
        · rw [← Sum.inl.inj hn]; assumption
        · cases hn
      · cases hn
    have hp := a3.2.2.2.2.1
    have A1 : TAt I1 u T := TAt_rw A (fun a h1 h2 => a4.1 a (by omega) (by omega))
    have up := c_unsurePlace (t := t) (u := u) (J := J) A1 U4 c
    have k101 : I1 u 10 = (tU T : Int) := by rw [a4.1 u (by omega) (by omega)]; exact k10
    by_cases y : upl T c < tU T
    · rw [if_pos y] at up
      simp only [if_pos y]
      simp (disch := omega) only [↓reduceIte, lt_TI, lt_FI, le_TI, le_FI, eq_TI, eq_FI, lt_TN, lt_FN, le_TN, le_FN, eq_TN, eq_FN, and_self, and_true, true_and, and_false, false_and, or_true, true_or, or_false, false_or, not_true_eq_false, not_false_eq_true, wr_of, uI_at, uC_at, q_bi_s, q_bl_s, q_br_s, q_bv_s, Int.toNat_natCast, tn_1, tn_m, tn_n, Int.toNat_zero, Int.toNat_one, e50_0, a1, e50_4, k18, a2, up, e50_20, e50_35, e44_0, e50_40]
      exact ⟨_, _, rfl, ⟨rfl, by simp (disch := omega) only [↓reduceIte, lt_TI, lt_FI, le_TI, le_FI, eq_TI, eq_FI, lt_TN, lt_FN, le_TN, le_FN, eq_TN, eq_FN, and_self, and_true, true_and, and_false, false_and, or_true, true_or, or_false, false_or, not_true_eq_false, not_false_eq_true, wr_of, uI_at, uC_at, q_bi_s, q_bl_s, q_br_s, q_bv_s, Int.toNat_natCast, tn_1, tn_m, tn_n, Int.toNat_zero, Int.toNat_one] <;> rfl, by simp (disch := omega) only [↓reduceIte, lt_TI, lt_FI, le_TI, le_FI, eq_TI, eq_FI, lt_TN, lt_FN, le_TN, le_FN, eq_TN, eq_FN, and_self, and_true, true_and, and_false, false_and, or_true, true_or, or_false, false_or, not_true_eq_false, not_false_eq_true, wr_of, uI_at, uC_at, q_bi_s, q_bl_s, q_br_s, q_bv_s, Int.toNat_natCast, tn_1, tn_m, tn_n, Int.toNat_zero, Int.toNat_one, hp]⟩, RF_rw (RW_tr a4 RW_4)⟩
    · rw [if_neg y] at up
      simp only [if_neg y]
      have u4 : tU T < 4 := by
        rcases Nat.lt_or_ge (tU T) 4 with z | z
        · exact z
        · exact absurd (un_4 p (by omega) hc) y
      obtain ⟨I2, b1, b2, b3⟩ := c_next (t := t) (u := u) (J := J) a3
      obtain ⟨v1, v2, v3⟩ := c_readWhole (t := t) (u := u) (J := J) b2 (lo := 1) (hi := 9) (by omega) (by omega)
      rw [show ((1 : Nat) : Int) = 1 from rfl, show ((9 : Nat) : Int) = 9 from rfl] at v1 v2 v3
      generalize tok b n k.2.2 = k2 at b2 v1 v2 v3 ⊢
      unfold rWhole
      by_cases q2 : k2.1 = 2
      · by_cases q3 : tvl b k2 < 1 ∨ 9 < tvl b k2
        · obtain ⟨I3, c1, c2, c3, c4⟩ := v2 q2 q3
          clear v1 v2 v3
          simp only [if_pos q2, if_pos q3, sb_r]
          simp (disch := omega) only [↓reduceIte, lt_TI, lt_FI, le_TI, le_FI, eq_TI, eq_FI, lt_TN, lt_FN, le_TN, le_FN, eq_TN, eq_FN, and_self, and_true, true_and, and_false, false_and, or_true, true_or, or_false, false_or, not_true_eq_false, not_false_eq_true, wr_of, uI_at, uC_at, q_bi_s, q_bl_s, q_br_s, q_bv_s, Int.toNat_natCast, tn_1, tn_m, tn_n, Int.toNat_zero, Int.toNat_one, e50_0, a1, e50_4, k18, a2, up, e50_20, k101, b1, e50_48, c1, e50_55]
          exact ⟨_, I3, rfl, ⟨rfl, c2, c3⟩, RF_rw (RW_tr a4 (RW_tr (RW_ks b3) c4))⟩
        · obtain ⟨I3, c1, c2, c3, c4, c5⟩ := v1 q2 q3
          clear v1 v2 v3
          simp only [if_pos q2, if_neg q3, sb_l]
          have R3 : RW I I3 := RW_tr a4 (RW_tr (RW_ks b3) c5)
          obtain ⟨n1, n2⟩ := A.1.2.2.2.1 1 (by omega)
          obtain ⟨m1, m2⟩ := A.1.2.2.2.1 2 (by omega)
          obtain ⟨l1, l2, l3, -⟩ := A.1.2.2.2.2.1
          have k103 : I3 u 10 = (tU T : Int) := by rw [R3.1 u (by omega) (by omega)]; exact k10
          have k45 : I3 2 5 = (c : Int) := by rw [c4 5 (by omega), b3.1 2 (by omega)]; exact a2
          simp (disch := omega) only [↓reduceIte, lt_TI, lt_FI, le_TI, le_FI, eq_TI, eq_FI, lt_TN, lt_FN, le_TN, le_FN, eq_TN, eq_FN, and_self, and_true, true_and, and_false, false_and, or_true, true_or, or_false, false_or, not_true_eq_false, not_false_eq_true, wr_of, uI_at, uC_at, q_bi_s, q_bl_s, q_br_s, q_bv_s, Int.toNat_natCast, tn_1, tn_m, tn_n, Int.toNat_zero, Int.toNat_one, e50_0, a1, e50_4, k18, a2, up, e50_20, k101, b1, e50_48, c1, e50_55, n1, n2, l2, k103, k45, e50_79, m1, m2, l3, c3, e50_98, e50_111]
          have E : ∀ a, a ≠ u → a ≠ u + 11 + 1 → a ≠ u + 11 + 2 → uI (uI (uI I3 (u + 11 + 1) (tU T) (c : Int)) (u + 11 + 2) (tU T) (tvl b k2 : Int)) u 10 ((tU T : Int) + 1) a = I3 a := fun a h1 h2 h3 => by rw [uI_o1 h1, uI_o1 h3, uI_o1 h2]
          refine ⟨_, _, rfl, ⟨rfl, ⟨?_, KT_w c2 (E 3 (by omega) (by omega) (by omega)) (E 4 (by omega) (by omega) (by omega)), NAt_w N (by rw [E 5 (by omega) (by omega) (by omega), R3.1 5 (by omega) (by omega)]) (by rw [E 6 (by omega) (by omega) (by omega), R3.1 6 (by omega) (by omega)])⟩, by rw [E 2 (by omega) (by omega) (by omega), c4 6 (by omega), b3.1 2 (by omega), a5 6 (by omega)]⟩, RF_tr (RF_rw R3) ⟨fun a _ _ h => E a (by omega) (by omega) (by omega), by rw [E 3 (by omega) (by omega) (by omega)], by rw [E 3 (by omega) (by omega) (by omega)]⟩⟩
          obtain ⟨g1, g2, g3, g4, g5, g6, g7, g8, g9, g10⟩ := A
          have U : ∀ a, a ≠ u → a ≠ u + 11 + 1 → a ≠ u + 11 + 2 → a ≠ 3 → a ≠ 2 → uI (uI (uI I3 (u + 11 + 1) (tU T) (c : Int)) (u + 11 + 2) (tU T) (tvl b k2 : Int)) u 10 ((tU T : Int) + 1) a = I a := fun a h1 h2 h3 h4 h5 => by rw [E a h1 h2 h3, R3.1 a h4 h5]
          have Uu : ∀ j, j ≠ 10 → uI (uI (uI I3 (u + 11 + 1) (tU T) (c : Int)) (u + 11 + 2) (tU T) (tvl b k2 : Int)) u 10 ((tU T : Int) + 1) u j = I u j := fun j h => by rw [uI_ne (Or.inr h), uI_ne (Or.inl (by omega)), uI_ne (Or.inl (by omega)), R3.1 u (by omega) (by omega)]
          refine ⟨g1, CAt_w g2 (fun a h1 h2 => U a (by omega) (by omega) (by omega) (by omega) (by omega)), by rw [Uu 7 (by omega)]; exact g3, by rw [Uu 8 (by omega)]; exact g4, by rw [Uu 9 (by omega)]; exact g5, if_pos ⟨rfl, rfl⟩, by rw [Uu 11 (by omega)]; exact g7, fun i hi => by rw [U _ (by omega) (by omega) (by omega) (by omega) (by omega)]; exact g8 i hi, fun i hi => ?_, fun i hi => by rw [U _ (by omega) (by omega) (by omega) (by omega) (by omega), U _ (by omega) (by omega) (by omega) (by omega) (by omega), U _ (by omega) (by omega) (by omega) (by omega) (by omega)]; exact g10 i hi⟩
          have hi : i < tU T + 1 := hi
          show _ = ((updF (tUc T) (tU T) c i : Nat) : Int) ∧ _ = ((updF (tUs T) (tU T) (tvl b k2) i : Nat) : Int)
          unfold updF
          by_cases w : i = tU T
          · subst w
            rw [if_pos rfl, if_pos rfl]
            exact ⟨by rw [uI_ne (Or.inl (by omega)), uI_ne (Or.inl (by omega))]; exact if_pos ⟨rfl, rfl⟩, by rw [uI_ne (Or.inl (by omega))]; exact if_pos ⟨rfl, rfl⟩⟩
          · rw [if_neg w, if_neg w]
            obtain ⟨x1, x2⟩ := g9 i (by omega)
            exact ⟨by rw [uI_ne (Or.inl (by omega)), uI_ne (Or.inl (by omega)), uI_ne (Or.inr w), R3.1 _ (by omega) (by omega)]; exact x1, by rw [uI_ne (Or.inl (by omega)), uI_ne (Or.inr w), uI_ne (Or.inl (by omega)), R3.1 _ (by omega) (by omega)]; exact x2⟩
      · obtain ⟨I3, c1, c2, c3, c4⟩ := v3 q2
        clear v1 v2 v3
        simp only [if_neg q2, sb_r]
        simp (disch := omega) only [↓reduceIte, lt_TI, lt_FI, le_TI, le_FI, eq_TI, eq_FI, lt_TN, lt_FN, le_TN, le_FN, eq_TN, eq_FN, and_self, and_true, true_and, and_false, false_and, or_true, true_or, or_false, false_or, not_true_eq_false, not_false_eq_true, wr_of, uI_at, uC_at, q_bi_s, q_bl_s, q_br_s, q_bv_s, Int.toNat_natCast, tn_1, tn_m, tn_n, Int.toNat_zero, Int.toNat_one, e50_0, a1, e50_4, k18, a2, up, e50_20, k101, b1, e50_48, c1, e50_55]
        exact ⟨_, I3, rfl, ⟨rfl, c2, c3⟩, RF_rw (RW_tr a4 (RW_tr (RW_ks b3) c4))⟩
end

/-! THE MODEL READS: a cellar -/
/-- what a new name may change -/
def NN (I I' : Nat → Nat → Int) (C : Nat) : Prop := (∀ a, a ≠ 265 → a ≠ 267 → a ≠ 269 → I' a = I a) ∧ (∀ k, k < 4 ∨ 8 < k → I' 265 k = I 265 k) ∧ ∀ j, j ≠ 35 + C → (j < 39 + 8 * C ∨ 39 + 8 * C + 8 ≤ j) → I' 269 j = I 269 j
section
variable {t u : Nat} {I J : Nat → Nat → Int} {b : Nat → Nat} {n : Nat} {k : Tk} {T : Tt} {nm : Nat → List Nat}
theorem m_newName_y (K : MK I b n k) (g : I 265 13 = 0) (N : NM I (tC T) nm) (hC : tC T < 4) (h1 : isNm b k = true) (h2 : ¬ fnd b T nm k < tC T) : ∃ I', q_E (195, 0, [vr 265, vi (tC T : Int), vu], []) (qk t u I J) = some (vu, qk t u I' J) ∧ MK I' b n (tok b n k.2.2) ∧ (I' 269 (35 + tC T) = ((k.2.2 - k.2.1 : Nat) : Int) ∧ ∀ i, i < k.2.2 - k.2.1 → I' 269 (39 + 8 * tC T + i) = (b (k.2.1 + i) : Int)) ∧ NN I I' (tC T) := by
  have q1 := isNm_1 h1
  have mn := m_mustName (t := t) (u := u) (J := J) K g
  rw [if_pos h1] at mn
  have fd := m_find (t := t) (u := u) (J := J) K q1 N (by omega)
  rw [if_neg h2] at fd
  obtain ⟨l8, lp, ln⟩ := MK_1 K q1
  obtain ⟨w8, wl⟩ := K.2.2.2.2.2.1 q1
  have loop : ∀ (r i : Nat) (I1 : Nat → Nat → Int), i + r = k.2.2 - k.2.1 → FrA 269 (39 + 8 * tC T) (39 + 8 * tC T + 8) I I1 → (∀ a, a < i → I1 269 (39 + 8 * tC T + a) = (b (k.2.1 + a) : Int)) → ∃ I', q_E (195, 45, [vr 265, vi (tC T : Int), vi (i : Int)], []) (qk t u I1 J) = some (vu, qk t u I' J) ∧ MK I' b n (tok b n k.2.2) ∧ (I' 269 (35 + tC T) = ((k.2.2 - k.2.1 : Nat) : Int) ∧ ∀ i, i < k.2.2 - k.2.1 → I' 269 (39 + 8 * tC T + i) = (b (k.2.1 + i) : Int)) ∧ NN I I' (tC T) := by
    intro r
    induction r with
    | zero =>
      intro i I1 hi Fr hl
      have v8 : I1 265 8 = ((k.2.2 - k.2.1 : Nat) : Int) := by rw [Fr 265 8 (fun z => by omega)]; exact w8
      have K1 : MK (uI I1 269 (35 + tC T) ((k.2.2 - k.2.1 : Nat) : Int)) b n k := MK_r (MK_fr K Fr (Or.inl rfl)) (Or.inl rfl)
      obtain ⟨I2, x1, x2, x3⟩ := m_nextk (t := t) (u := u) (J := J) K1
      rw [e195_45, v8, if_neg (by omega), wr_of (z := 35 + (tC T : Int)) (by omega) (by omega), if_pos (by omega), tn_35, x1, q_bv_s, e195_96]
      refine ⟨I2, rfl, x2, ⟨?_, fun a ha => ?_⟩, ⟨fun a z1 z2 z3 => ?_, fun j hj => ?_, fun j z1 z2 => ?_⟩⟩
      · rw [x3.1 269 (by omega) (by omega), uI_at, if_pos ⟨rfl, rfl⟩]
      · rw [x3.1 269 (by omega) (by omega), uI_ne (Or.inr (by omega))]; exact hl a (by omega)
      · rw [x3.1 a z1 z2, uI_o1 z3]; exact FrA_o Fr z3
      · rw [x3.2 j hj, uI_ne (Or.inl (by omega))]; exact Fr 265 j (fun z => by omega)
      · rw [x3.1 269 (by omega) (by omega), uI_ne (Or.inr z1)]; exact Fr 269 j (fun z => by omega)
    | succ r ih =>
      intro i I1 hi Fr hl
      have v8 : I1 265 8 = ((k.2.2 - k.2.1 : Nat) : Int) := by rw [Fr 265 8 (fun z => by omega)]; exact w8
      have v7 : I1 267 i = (b (k.2.1 + i) : Int) := by rw [FrA_o Fr (by omega)]; exact wl i (by omega)
      rw [e195_45, v8]
      simp (disch := omega) only [↓reduceIte, lt_TI, lt_FI, le_TI, le_FI, eq_TI, eq_FI, lt_TN, lt_FN, le_TN, le_FN, eq_TN, eq_FN, and_self, and_true, true_and, and_false, false_and, or_true, true_or, or_false, false_or, not_true_eq_false, not_false_eq_true, wr_of, uI_at, uC_at, q_bi_s, q_bl_s, q_br_s, q_bv_s, Int.toNat_natCast, tn_1, tn_m, tn_n, Int.toNat_zero, Int.toNat_one, tn_39, v7]
      exact ih (i + 1) _ (by omega) (FrA_uI Fr (by omega) (by omega)) (fun a ha => by
        by_cases z : a = i
        · subst z; rw [uI_at, if_pos ⟨rfl, rfl⟩]
        · rw [uI_ne (Or.inr (by omega))]; exact hl a (by omega))
  rw [e195_0, if_pos g, mn, q_bv_s, e195_12, if_pos g, fd, q_bi_s, e195_23, if_pos (by decide), e195_35, if_pos g]
  exact loop (k.2.2 - k.2.1) 0 I (by omega) FrA_rf (fun a ha => by omega)
theorem m_newName_n (K : MK I b n k) (g : I 265 13 = 0) (N : NM I (tC T) nm) (hC : tC T < 4) (h : ¬ (isNm b k = true ∧ ¬ fnd b T nm k < tC T)) : q_E (195, 0, [vr 265, vi (tC T : Int), vu], []) (qk t u I J) = some (vu, qk t u (Wm I (if isNm b k = true then 3 else 1) (k.2.1 : Int)) J) := by
  have mn := m_mustName (t := t) (u := u) (J := J) K g
  by_cases h1 : isNm b k = true
  · rw [if_pos h1] at mn ⊢
    have h2 : fnd b T nm k < tC T := Classical.byContradiction fun z => h ⟨h1, z⟩
    have fd := m_find (t := t) (u := u) (J := J) K (isNm_1 h1) N (by omega)
    rw [if_pos h2] at fd
    rw [e195_0, if_pos g, mn, q_bv_s, e195_12, if_pos g, fd, q_bi_s, e195_23, if_neg (by omega), K.2.2.1, m_wrong g, q_bv_s, e195_35, Wm_13, if_neg (by decide)]
  · rw [if_neg h1] at mn ⊢
    rw [e195_0, if_pos g, mn, q_bv_s, e195_12, Wm_13, if_neg (by decide), e195_35, Wm_13, if_neg (by decide)]
theorem m_cel_177b (g : I 265 13 = 1) (x1 x2 x3 x4 x5 : Int) : q_E (205, 177, [vr 265, vi x1, vi x2, vi x3, vi x4, vi x5], []) (qk t u I J) = some (vu, qk t u I J) := by
  rw [e205_177, g, if_neg (by decide), e205_202, g, if_neg (by decide)]
theorem m_cel_153b (g : I 265 13 = 1) (x1 x2 x3 x4 x5 : Int) : q_E (205, 153, [vr 265, vi x1, vi x2, vi x3, vi x4, vi x5], []) (qk t u I J) = some (vu, qk t u I J) := by
  rw [e205_153, m_pass_b g, q_bv_s, e205_157, g, if_neg (by decide), m_cel_177b g]
theorem m_cel_131b (g : I 265 13 = 1) (x1 x2 x3 x4 x5 : Int) : q_E (205, 131, [vr 265, vi x1, vi x2, vi x3, vi x4, vi x5], []) (qk t u I J) = some (vu, qk t u I J) := by
  rw [e205_131, g, if_neg (by decide), m_cel_153b g]
theorem m_cel_96b (g : I 265 13 = 1) (x1 x2 x3 x4 : Int) : q_E (205, 96, [vr 265, vi x1, vi x2, vi x3, vi x4, vu], []) (qk t u I J) = some (vu, qk t u I J) := by
  rw [e205_96, m_numH_b g, q_bi_s, e205_103, g, if_neg (by decide), m_cel_131b g]
theorem m_cel_87b (g : I 265 13 = 1) (x1 x2 : Int) : q_E (205, 87, [vr 265, vi x1, vi x2, vu, vu, vu], []) (qk t u I J) = some (vu, qk t u I J) := by
  rw [e205_87, m_pass_b g, q_bv_s, e205_91, m_cel_96b g]
theorem m_cel_20b (g : I 265 13 = 1) (x1 : Int) : q_E (205, 20, [vr 265, vi x1, vu, vu, vu, vu], []) (qk t u I J) = some (vu, qk t u I J) := by
  rw [e205_20, m_isWord_b g, q_bi_s, e205_26, if_pos rfl, m_isWord_b g, q_bi_s, e205_39, if_pos rfl, m_isWord_b g, q_bi_s, e205_52, if_pos rfl, m_isWord_b g, q_bi_s, e205_65, if_pos rfl, m_wrong_b g, q_bv_s, m_cel_87b g]
theorem m_cellarLine_b (g : I 265 13 = 1) : q_E (205, 0, [vr 265, vu, vu, vu, vu, vu], []) (qk t u I J) = some (vu, qk t u I J) := by
  rw [e205_0, g, if_neg (by decide)]
/-- the law's word -/
theorem m_law (K : MK I b n k) (g : I 265 13 = 0) {C : Nat} : (lawN b k = 4 → q_E (205, 20, [vr 265, vi (C : Int), vu, vu, vu, vu], []) (qk t u I J) = some (vu, qk t u (Wm I 1 (k.2.1 : Int)) J)) ∧ (lawN b k ≠ 4 → q_E (205, 20, [vr 265, vi (C : Int), vu, vu, vu, vu], []) (qk t u I J) = q_E (205, 87, [vr 265, vi (C : Int), vi (lawN b k : Int), vu, vu, vu], []) (qk t u I J)) := by
  have w6 : q_E (190, 0, [vr 265, vr 1006, vu, vu], []) (qk t u I J) = some (vi (if isWd b k 1006 = true then 1 else 0), qk t u I J) := m_isWord (t := t) (u := u) (J := J) K g (i := 6) (by omega)
  have w7 : q_E (190, 0, [vr 265, vr 1007, vu, vu], []) (qk t u I J) = some (vi (if isWd b k 1007 = true then 1 else 0), qk t u I J) := m_isWord (t := t) (u := u) (J := J) K g (i := 7) (by omega)
  have w8 : q_E (190, 0, [vr 265, vr 1008, vu, vu], []) (qk t u I J) = some (vi (if isWd b k 1008 = true then 1 else 0), qk t u I J) := m_isWord (t := t) (u := u) (J := J) K g (i := 8) (by omega)
  have w9 : q_E (190, 0, [vr 265, vr 1009, vu, vu], []) (qk t u I J) = some (vi (if isWd b k 1009 = true then 1 else 0), qk t u I J) := m_isWord (t := t) (u := u) (J := J) K g (i := 9) (by omega)
  rw [e205_20, w6, q_bi_s, e205_26]
  unfold lawN
  cases z6 : isWd b k 1006 with
  | true =>
    rw [if_pos (show true = true from rfl), if_pos (show true = true from rfl), if_neg (show ¬ (1 : Int) = 0 by decide)]
    exact ⟨fun z => absurd z (by decide), fun _ => rfl⟩
  | false =>
    rw [if_neg (show ¬ false = true by decide), if_neg (show ¬ false = true by decide), if_pos (show (0 : Int) = 0 from rfl), w7, q_bi_s, e205_39]
    cases z7 : isWd b k 1007 with
    | true =>
      rw [if_pos (show true = true from rfl), if_pos (show true = true from rfl), if_neg (show ¬ (1 : Int) = 0 by decide)]
      exact ⟨fun z => absurd z (by decide), fun _ => rfl⟩
    | false =>
      rw [if_neg (show ¬ false = true by decide), if_neg (show ¬ false = true by decide), if_pos (show (0 : Int) = 0 from rfl), w8, q_bi_s, e205_52]
      cases z8 : isWd b k 1008 with
      | true =>
        rw [if_pos (show true = true from rfl), if_pos (show true = true from rfl), if_neg (show ¬ (1 : Int) = 0 by decide)]
        exact ⟨fun z => absurd z (by decide), fun _ => rfl⟩
      | false =>
        rw [if_neg (show ¬ false = true by decide), if_neg (show ¬ false = true by decide), if_pos (show (0 : Int) = 0 from rfl), w9, q_bi_s, e205_65]
        cases z9 : isWd b k 1009 with
        | true =>
          rw [if_pos (show true = true from rfl), if_pos (show true = true from rfl), if_neg (show ¬ (1 : Int) = 0 by decide)]
          exact ⟨fun z => absurd z (by decide), fun _ => rfl⟩
        | false =>
          rw [if_neg (show ¬ false = true by decide), if_neg (show ¬ false = true by decide), if_pos (show (0 : Int) = 0 from rfl), K.2.2.1, m_wrong g, q_bv_s, m_cel_87b Wm_13]
          exact ⟨fun _ => rfl, fun z => absurd rfl z⟩
/-- what the reading of heaps may change -/
def HF (C : Nat) (I I' : Nat → Nat → Int) : Prop := (∀ a, a ≠ 265 → a ≠ 267 → a ≠ 271 → I' a = I a) ∧ (∀ j, j < 4 ∨ 8 < j → I' 265 j = I 265 j) ∧ ∀ j, (j < 61 * C ∨ 61 * C + 60 ≤ j) → I' 271 j = I 271 j
theorem HF_rf {C : Nat} {I : Nat → Nat → Int} : HF C I I := ⟨fun _ _ _ _ => rfl, fun _ _ => rfl, fun _ _ => rfl⟩
theorem HF_tr {C : Nat} {I I1 I2 : Nat → Nat → Int} (a : HF C I I1) (b : HF C I1 I2) : HF C I I2 := ⟨fun c h1 h2 h3 => (b.1 c h1 h2 h3).trans (a.1 c h1 h2 h3), fun k h => (b.2.1 k h).trans (a.2.1 k h), fun k h => (b.2.2 k h).trans (a.2.2 k h)⟩
theorem HF_nf {C : Nat} {I I1 : Nat → Nat → Int} (a : NF I I1) : HF C I I1 := ⟨fun c h1 h2 _ => a.1 c h1 h2, a.2, fun j _ => by rw [a.1 271 (by omega) (by omega)]⟩
theorem HF_fr {C : Nat} {I I1 : Nat → Nat → Int} (a : FrA 271 (61 * C) (61 * C + 60) I I1) : HF C I I1 := ⟨fun c _ _ h => FrA_o a h, fun j _ => a 265 j (fun z => by omega), fun j h => a 271 j (fun z => by omega)⟩
theorem RFm_hf {C : Nat} {I I1 : Nat → Nat → Int} (a : HF C I I1) : RFm I I1 := ⟨fun c h1 h2 _ h4 => a.1 c h1 h2 h4, fun j h => a.2.1 j (by omega)⟩
theorem LA_nf {I I1 : Nat → Nat → Int} {a p : Nat} {L : List Nat} (H : LA I a p L) (h : NF I I1) (q : a ≠ 265 ∧ a ≠ 267) : LA I1 a p L := fun i hi => by rw [h.1 a q.1 q.2]; exact H i hi
theorem m_heapsL {C law : Nat} (hC : C < 4) : ∀ (f : Nat) (xs ys : List Nat) (k : Tk) (I1 : Nat → Nat → Int), 1 ≤ f → f + ys.length = 9 → xs.Perm ys → SD xs → PS xs → xs.sum ≤ 40 → k.1 = 2 → MK I1 b n k → I1 265 13 = 0 → LA I1 271 (61 * C) ys → ∃ I', (match rHp b n f xs k with | Sum.inl r => q_E (205, 96, [vr 265, vi (C : Int), vi (law : Int), vi (ys.length : Int), vi (ys.sum : Int), vu], []) (qk t u I1 J) = q_E (205, 221, [vr 265, vi (C : Int), vi (law : Int), vu, vu, vu], []) (qk t u I' J) ∧ MK I' b n r.2 ∧ LA I' 271 (61 * C) r.1 ∧ HF C I1 I' | Sum.inr e => q_E (205, 96, [vr 265, vi (C : Int), vi (law : Int), vi (ys.length : Int), vi (ys.sum : Int), vu], []) (qk t u I1 J) = some (vu, qk t u I' J) ∧ BD I' e ∧ RFm I1 I') := by
  intro f
  induction f with
  | zero => intro xs ys k I1 h; omega
  | succ f ih =>
    intro xs ys k I1 h1 hf pm sd ps hs q K g H
    have es : ys.sum = xs.sum := (perm_sum pm).symm
    have el : ys.length = xs.length := pm.length_eq.symm
    have t9 := MK_2 K q
    have num := m_numH (t := t) (u := u) (J := J) K g (lo := 1) (hi := 30) (l := 1) (h := 30) rfl rfl
    unfold rHp
    rw [if_pos q, e205_96, num]
    unfold rWhole
    rw [if_pos q]
    by_cases y : tvl b k < 1 ∨ 30 < tvl b k
    · rw [if_pos y, if_pos (by omega)]
      simp only
      rw [q_bi_s, e205_103, Wm_13, if_neg (by decide), m_cel_131b Wm_13]
      exact ⟨_, rfl, BD_w (f := (4, k.2.1)), RFm_nw NW_w⟩
    · rw [if_neg y]
      simp only
      rw [q_bi_s, e205_103, if_pos g, wr_of (z := (ys.sum : Int) + (tvl b k : Int)) (by omega) (by omega)]
      by_cases z : 40 < xs.sum + tvl b k
      · rw [if_pos (by omega), if_pos (by omega), K.2.2.1, m_wrong g, q_bv_s, m_cel_131b Wm_13]
        exact ⟨_, rfl, BD_w (f := (4, k.2.1)), RFm_nw NW_w⟩
      · rw [if_neg (show ¬ (tvl b k < 1 ∨ 30 < tvl b k ∨ 40 < xs.sum + tvl b k) by omega), if_neg (show ¬ (40 : Int) < (ys.sum : Int) + (tvl b k : Int) by omega), e205_131, if_pos g]
        by_cases w : 8 ≤ xs.length
        · rw [if_pos w, if_pos (show (ys.length : Int) = 8 by omega), K.2.2.1, m_wrong g, q_bv_s, m_cel_153b Wm_13]
          exact ⟨_, rfl, BD_w (f := (5, k.2.1)), RFm_nw NW_w⟩
        · rw [if_neg w, if_neg (show ¬ (ys.length : Int) = 8 by omega), e205_153]
          obtain ⟨I2, x1, x2, x3⟩ := m_pass (t := t) (u := u) (J := J) K g
          have g2 : I2 265 13 = 0 := by rw [x3.2 13 (by omega)]; exact g
          have H2 : LA I2 271 (61 * C) ys := LA_nf H x3 (by omega)
          have H3 := LA_app H2 (tvl b k)
          have K3 : MK (uI I2 271 (61 * C + ys.length) (tvl b k : Int)) b n (tok b n k.2.2) := MK_r x2 (Or.inr rfl)
          have g3 : (uI I2 271 (61 * C + ys.length) (tvl b k : Int)) 265 13 = 0 := by rw [uI_ne (Or.inl (by omega))]; exact g2
          have F3 : HF C I1 (uI I2 271 (61 * C + ys.length) (tvl b k : Int)) := HF_tr (HF_nf x3) (HF_fr (FrA_uI FrA_rf (by omega) (by omega)))
          have pm3 : (ins (tvl b k) xs).Perm (ys ++ [tvl b k]) := (ins_perm _ _).trans (((List.perm_cons _).mpr pm).trans (List.perm_append_comm (l₁ := [tvl b k])))
          have sd3 := ins_sd (tvl b k) xs sd
          have ps3 : PS (ins (tvl b k) xs) := ins_ps (by omega) ps
          have hs3 : (ins (tvl b k) xs).sum ≤ 40 := by rw [ins_sum]; omega
          have ll : (ys ++ [tvl b k]).length = ys.length + 1 := by rw [List.length_append]; rfl
          have ls : (ys ++ [tvl b k]).sum = ys.sum + tvl b k := by rw [List.sum_append_nat]; simp
          have e6 : ∀ Y : Int, (uI I2 271 (61 * C + ys.length) (tvl b k : Int)) 265 6 = tkM (tok b n k.2.2).1 := fun _ => K3.2.1
          rw [x1, q_bv_s, e205_157, if_pos g2, wr_of (z := 61 * (C : Int)) (by omega) (by omega), wr_of (z := 61 * (C : Int) + (ys.length : Int)) (by omega) (by omega), if_pos (by omega), tn_61a, e205_177, if_pos g3, e6 0, wr_of (z := (ys.length : Int) + 1) (by omega) (by omega), wr_of (z := (ys.sum : Int) + (tvl b k : Int)) (by omega) (by omega)]
          generalize uI I2 271 (61 * C + ys.length) (tvl b k : Int) = I3 at H3 K3 g3 F3 ⊢
          by_cases v : (tok b n k.2.2).1 = 2
          · rw [if_pos (tkM_3.mpr v)]
            obtain ⟨I4, y4⟩ := ih (ins (tvl b k) xs) (ys ++ [tvl b k]) (tok b n k.2.2) I3 (by omega) (by omega) pm3 sd3 ps3 hs3 v K3 g3 H3
            rw [ll, ls] at y4
            refine ⟨I4, ?_⟩
            rw [← Int.natCast_add, show (ys.length : Int) + 1 = ((ys.length + 1 : Nat) : Int) by omega]
            cases hr : rHp b n f (ins (tvl b k) xs) (tok b n k.2.2) with
            | inl r =>
              rw [hr] at y4
              exact ⟨y4.1, y4.2.1, y4.2.2.1, HF_tr F3 y4.2.2.2⟩
            | inr e =>
              rw [hr] at y4
              exact ⟨y4.1, y4.2.1, RFm_tr (RFm_hf F3) y4.2.2⟩
          · rw [if_neg (fun z => v (tkM_3.mp z))]
            have hr : rHp b n f (ins (tvl b k) xs) (tok b n k.2.2) = Sum.inl (ins (tvl b k) xs, tok b n k.2.2) := by
              cases f with
              | zero => rfl
              | succ f => unfold rHp; rw [if_neg v]
            rw [hr]
            have ps4 : PS (ys ++ [tvl b k]) := fun a ha => ps3 a (pm3.mem_iff.mpr ha)
            obtain ⟨I4, y1, y2, y3⟩ := c_sortOf (t := t) (u := u) (J := J) A271 (p := 61 * C) (by omega) H3 (by omega) (fun i => by have := gD_sum (l := ys ++ [tvl b k]) i; omega) sd3 ps3 (by rw [pos_id ps4]; exact pm3)
            rw [c_61] at y1
            rw [e205_202, if_pos g3, wr_of (z := 61 * (C : Int)) (by omega) (by omega), y1, q_bv_s]
            exact ⟨I4, rfl, MK_fr K3 y3 (Or.inr rfl), y2, HF_tr F3 (HF_fr y3)⟩
theorem rHeaps_ok {r : List Nat × Tk} (h : rHeaps b n k = Sum.inl r) : SD r.1 ∧ PS r.1 ∧ r.1.sum ≤ 40 := by
  unfold rHeaps at h
  split at h
  · exact rHp_ok 9 [] k r List.Pairwise.nil (fun a ha => by cases ha) (Nat.zero_le _) h
  · cases h
theorem m_cellarLine (R : RdM I b n (T, nm, k)) (p : TOk T) (hC : tC T < 4) : ∃ I', q_E (205, 0, [vr 265, vu, vu, vu, vu, vu], []) (qk t u I J) = some (vu, qk t u I' J) ∧ RP I' b n (rCellar b n T nm k) ∧ RFm I I' := by
  obtain ⟨F, B, N, K, g, g9, g24⟩ := R
  simp only at F B N K g24
  have f2 := F.2.2.1
  unfold rCellar
  rw [e205_0, if_pos g, f2]
  by_cases h1 : isNm b k = true
  · rw [if_pos h1]
    by_cases h2 : fnd b T nm k < tC T
    · rw [if_pos h2, m_newName_n K g N hC (fun z => z.2 h2), if_pos h1, q_bv_s, m_cel_20b Wm_13]
      exact ⟨_, rfl, BD_w (f := (3, k.2.1)), RFm_nw NW_w⟩
    · rw [if_neg h2]
      obtain ⟨I1, x1, x2, ⟨x3, x4⟩, x5, x6, x7⟩ := m_newName_y (t := t) (u := u) (J := J) K g N hC h1 h2
      obtain ⟨l8, lp, ln⟩ := MK_1 K (isNm_1 h1)
      have R1 : RFm I I1 := ⟨fun a z1 z2 z3 _ => x5 a z1 z2 z3, fun j h => x6 j (by omega)⟩
      have g1 : I1 265 13 = 0 := by rw [x6 13 (by omega)]; exact g
      rw [x1, q_bv_s]
      obtain ⟨lw4, lwn⟩ := m_law (t := t) (u := u) (J := J) x2 g1 (C := tC T)
      by_cases w : lawN b (tok b n k.2.2) = 4
      · rw [if_pos w, lw4 w]
        exact ⟨_, rfl, BD_w (f := (1, (tok b n k.2.2).2.1)), RFm_tr R1 (RFm_nw NW_w)⟩
      · rw [if_neg w, lwn w, e205_87]
        have lw := lawN_le b (tok b n k.2.2)
        obtain ⟨I2, y1, y2, y3⟩ := m_pass (t := t) (u := u) (J := J) x2 g1
        have g2 : I2 265 13 = 0 := by rw [y3.2 13 (by omega)]; exact g1
        rw [y1, q_bv_s, e205_91]
        generalize hk3 : tok b n (tok b n k.2.2).2.2 = k3 at y2 ⊢
        by_cases v : k3.1 = 2
        · have B0 : LA I2 271 (61 * tC T) [] := fun i hi => by
            have b1 := (B.1 (tC T) hC).1 i hi
            rw [Nat.zero_add] at b1
            rw [y3.1 271 (by omega) (by omega), x5 271 (by omega) (by omega) (by omega), b1]
            have e : tB T (tC T) = ([], 0) := p.2.2.2.2.2.2.1 (tC T) (Nat.le_refl _)
            show (((tB T (tC T)).1.getD i 0 : Nat) : Int) = _
            rw [e]
          obtain ⟨I3, z⟩ := m_heapsL (t := t) (u := u) (J := J) (b := b) (n := n) (law := lawN b (tok b n k.2.2)) hC 9 [] [] k3 I2 (by omega) rfl (List.Perm.refl _) List.Pairwise.nil (fun a ha => by cases ha) (Nat.zero_le _) v y2 g2 B0
          have e0 : rHeaps b n k3 = rHp b n 9 [] k3 := if_pos v
          cases hr : rHp b n 9 [] k3 with
          | inr e =>
            rw [hr] at z e0
            obtain ⟨z1, z2, z3⟩ := z
            rw [e0, sb_r]
            exact ⟨I3, z1, z2, RFm_tr R1 (RFm_tr (RFm_nf y3) z3)⟩
          | inl r =>
            rw [hr] at z e0
            obtain ⟨z1, z2, z3, z4⟩ := z
            obtain ⟨o1, o2, o3⟩ := rHeaps_ok e0
            rw [e0, sb_l]
            have z1 : q_E (205, 96, [vr 265, vi (tC T : Int), vi (lawN b (tok b n k.2.2) : Int), vi 0, vi 0, vu], []) (qk t u I2 J) = _ := z1
            have g3 : I3 265 13 = 0 := by rw [z4.2.1 13 (by omega)]; exact g2
            have e269 : I3 269 = I1 269 := by rw [z4.1 269 (by omega) (by omega) (by omega), y3.1 269 (by omega) (by omega)]
            have k2' : (uI I3 269 (5 + tC T) (lawN b (tok b n k.2.2) : Int)) 269 2 = (tC T : Int) := by rw [uI_ne (Or.inr (by omega)), e269, x7 2 (by omega) (by omega)]; exact f2
            rw [z1, e205_221, wr_of (z := 5 + (tC T : Int)) (by omega) (by omega), if_pos (by omega), tn_5, k2', wr_of (by omega) (by omega)]
            generalize hI4 : uI (uI I3 269 (5 + tC T) (lawN b (tok b n k.2.2) : Int)) 269 2 ((tC T : Int) + 1) = I4
            have e4 : ∀ j, I4 269 j = if j = 2 then (tC T : Int) + 1 else if j = 5 + tC T then (lawN b (tok b n k.2.2) : Int) else I1 269 j := by
              intro j
              rw [← hI4, uI_at, uI_at, e269]
              simp only [true_and]
            have o4 : ∀ a, a ≠ 269 → I4 a = I3 a := fun a h => by rw [← hI4, uI_o1 h, uI_o1 h]
            have o9 : ∀ j, j ≠ 2 → j ≠ 5 + tC T → I4 269 j = I1 269 j := fun j h1 h2 => by rw [e4, if_neg h1, if_neg h2]
            have oo : ∀ j, j ≠ 2 → j ≠ 5 + tC T → j < 35 → I4 269 j = I 269 j := fun j h1 h2 h3 => by rw [o9 j h1 h2, x7 j (by omega) (by omega)]
            have er : ∀ j, 8 < j → I4 265 j = I 265 j := fun j hj => by rw [o4 265 (by omega), z4.2.1 j (by omega), y3.2 j (by omega), x6 j (by omega)]
            have r0 : ∀ j, (j < 61 * tC T ∨ 61 * tC T + 60 ≤ j) → I4 271 j = I 271 j := fun j hj => by rw [o4 271 (by omega), z4.2.2 j hj, y3.1 271 (by omega) (by omega), x5 271 (by omega) (by omega) (by omega)]
            obtain ⟨f0, f1, f2, f3, f4', f5, f6, f7⟩ := F
            have hu4 : tU T ≤ 4 := p.2.2.2.2.2.2.2.1
            have hE6 : tE T ≤ 6 := p.2.2.2.2.2.2.2.2.2.2.1
            refine ⟨I4, rfl, ⟨⟨?_, ?_, ?_, ?_, ?_, fun c hc => ?_, fun i hi => ?_, fun i hi => ?_⟩, ⟨fun c hc => ?_, ?_⟩, ⟨fun c hc => ?_, fun c h1 h2 => ?_⟩, ?_, ?_, ?_, ?_⟩, ?_⟩
            · rw [oo 0 (by omega) (by omega) (by omega)]; exact f0
            · rw [oo 1 (by omega) (by omega) (by omega)]; exact f1
            · exact (e4 2).trans (if_pos rfl)
            · rw [oo 3 (by omega) (by omega) (by omega)]; exact f3
            · rw [oo 4 (by omega) (by omega) (by omega)]; exact f4'
            · have hc : c < tC T + 1 := hc
              show I4 269 (5 + c) = ((updF (tL T) (tC T) (lawN b (tok b n k.2.2)) c : Nat) : Int)
              unfold updF
              by_cases z : c = tC T
              · subst z
                rw [if_pos rfl, e4, if_neg (by omega), if_pos rfl]
              · rw [if_neg z, oo _ (by omega) (by omega) (by omega)]
                exact f5 c (by omega)
            · have hi : i < tU T := hi
              rw [oo _ (by omega) (by omega) (by omega), oo _ (by omega) (by omega) (by omega)]
              exact f6 i hi
            · have hi : i < tE T := hi
              rw [oo _ (by omega) (by omega) (by omega), oo _ (by omega) (by omega) (by omega), oo _ (by omega) (by omega) (by omega)]
              exact f7 i hi
            · show mRw I4 271 (0 + 61 * c) (updF (tB T) (tC T) (r.1, 0) c)
              rw [Nat.zero_add]
              unfold updF
              have bc := B.1 c hc
              rw [Nat.zero_add] at bc
              by_cases z : c = tC T
              · subst z
                rw [if_pos rfl]
                refine ⟨fun i hi => by rw [o4 271 (by omega)]; exact z3 i hi, ?_⟩
                rw [r0 _ (by omega), bc.2]
                have e : tB T (tC T) = ([], 0) := p.2.2.2.2.2.2.1 (tC T) (Nat.le_refl _)
                show (((tB T (tC T)).2 : Nat) : Int) = _
                rw [e]
              · rw [if_neg z]
                exact ⟨fun i hi => by rw [r0 _ (by omega)]; exact bc.1 i hi, by rw [r0 _ (by omega)]; exact bc.2⟩
            · show I4 271 (0 + 244) = _
              rw [r0 _ (by omega)]; exact B.2
            · have hc : c < tC T + 1 := hc
              show I4 269 (35 + c) = ((updF nm (tC T) (wrd b k.2.1 k.2.2) c).length : Int) ∧ 0 < (updF nm (tC T) (wrd b k.2.1 k.2.2) c).length ∧ (updF nm (tC T) (wrd b k.2.1 k.2.2) c).length ≤ 8 ∧ ∀ i, i < (updF nm (tC T) (wrd b k.2.1 k.2.2) c).length → I4 269 (39 + 8 * c + i) = ((updF nm (tC T) (wrd b k.2.1 k.2.2) c).getD i 0 : Int)
              unfold updF
              by_cases z : c = tC T
              · subst z
                rw [if_pos rfl, wrd_len]
                exact ⟨by rw [o9 _ (by omega) (by omega)]; exact x3, by omega, l8, fun i hi => by rw [o9 _ (by omega) (by omega), wrd_at b hi]; exact x4 i hi⟩
              · rw [if_neg z]
                obtain ⟨a1, a2, a3, a4⟩ := N.1 c (by omega)
                exact ⟨by rw [o9 _ (by omega) (by omega), x7 _ (by omega) (by omega)]; exact a1, a2, a3, fun i hi => by rw [o9 _ (by omega) (by omega), x7 _ (by omega) (by omega)]; exact a4 i hi⟩
            · have h1 : tC T + 1 ≤ c := h1
              rw [o9 _ (by omega) (by omega), x7 _ (by omega) (by omega)]
              exact N.2 c (by omega) h2
            · exact MK_w z2 (fun j _ => by rw [o4 265 (by omega)]) (o4 266 (by omega)) (o4 267 (by omega))
            · rw [o4 265 (by omega)]; exact g3
            · rw [er 9 (by omega)]; exact g9
            · rw [er 24 (by omega)]; exact g24
            · refine RFm_tr R1 (RFm_tr (RFm_nf y3) (RFm_tr (RFm_hf z4) ?_))
              rw [← hI4]
              exact RFm_tr (RFm_r (Or.inl rfl)) (RFm_r (Or.inl rfl))
        · have num := m_numH (t := t) (u := u) (J := J) y2 g2 (lo := 1) (hi := 30) (l := 1) (h := 30) rfl rfl
          have e0 : rHeaps b n k3 = Sum.inr (1, k3.2.1) := if_neg v
          have e1 : rWhole b n 1 30 k3 = Sum.inr (1, k3.2.1) := if_neg v
          rw [e1] at num
          rw [e0, sb_r, e205_96, num, q_bi_s, e205_103, Wm_13, if_neg (by decide), m_cel_131b Wm_13]
          exact ⟨_, rfl, BD_w (f := (1, k3.2.1)), RFm_tr R1 (RFm_tr (RFm_nf y3) (RFm_nw NW_w))⟩
  · rw [if_neg h1, m_newName_n K g N hC (fun z => h1 z.1), if_neg h1, q_bv_s, m_cel_20b Wm_13]
    exact ⟨_, rfl, BD_w (f := (1, k.2.1)), RFm_nw NW_w⟩
end

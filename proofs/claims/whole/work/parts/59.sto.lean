/-! a whole text; store -/
theorem sb_inv {α β : Type} {x : Sum α Flt} {f : α → Sum β Flt} {y : β} (h : sb x f = Sum.inl y) : ∃ a, x = Sum.inl a ∧ f a = Sum.inl y := by
  cases x with
  | inl a => exact ⟨a, rfl, h⟩
  | inr e => cases h
theorem sb_invr {α β : Type} {x : Sum α Flt} {f : α → Sum β Flt} {e : Flt} (h : sb x f = Sum.inr e) : x = Sum.inr e ∨ ∃ a, x = Sum.inl a ∧ f a = Sum.inr e := by
  cases x with
  | inl a => exact Or.inr ⟨a, rfl, h⟩
  | inr e' =>
    have h : (Sum.inr e' : Sum β Flt) = Sum.inr e := h
    exact Or.inl (by rw [Sum.inr.inj h])
theorem rWord_f {b : Nat → Nat} {n s : Nat} {k : Tk} {e : Flt} (h : rWord b n s k = Sum.inr e) : 1 ≤ e.1 := by
  unfold rWord at h
  split at h
  · cases h
  · rw [← Sum.inr.inj h]; show 1 ≤ 1; omega
theorem rWhole_f {b : Nat → Nat} {n lo hi : Nat} {k : Tk} {e : Flt} (h : rWhole b n lo hi k = Sum.inr e) : 1 ≤ e.1 := by
  unfold rWhole at h
  split at h
  · split at h
    · rw [← Sum.inr.inj h]; show 1 ≤ 4; omega
    · cases h
  · rw [← Sum.inr.inj h]; show 1 ≤ 1; omega
theorem rNamed_f {b : Nat → Nat} {T : Tt} {nm : Nat → List Nat} {k : Tk} {e : Flt} (h : rNamed b T nm k = Sum.inr e) : 1 ≤ e.1 := by
  unfold rNamed at h
  split at h
  · split at h
    · cases h
    · rw [← Sum.inr.inj h]; show 1 ≤ 2; omega
  · rw [← Sum.inr.inj h]; show 1 ≤ 1; omega
theorem rOpen_f {b : Nat → Nat} {n : Nat} {r : Bool} {T : Tt} {k : Tk} {e : Flt} (h : rOpen b n r T k = Sum.inr e) : 1 ≤ e.1 := by
  unfold rOpen at h
  split at h
  · split at h
    · rw [← Sum.inr.inj h]; show 1 ≤ 6; omega
    · cases h
  · rw [← Sum.inr.inj h]; show 1 ≤ 5; omega
theorem rHp_f {b : Nat → Nat} {n : Nat} : ∀ (f : Nat) (xs : List Nat) (k : Tk) {e : Flt}, rHp b n f xs k = Sum.inr e → 1 ≤ e.1
  | 0, _, _, _, h => by cases h
  | f + 1, xs, k, e, h => by
    unfold rHp at h
    split at h
    · split at h
      · rw [← Sum.inr.inj h]; show 1 ≤ 4; omega
      · split at h
        · rw [← Sum.inr.inj h]; show 1 ≤ 5; omega
        · exact rHp_f f _ _ h
    · cases h
theorem rLine_f {b : Nat → Nat} {n : Nat} {s : PSt} {e : Flt} (h : rLine b n s = Sum.inr e) : 1 ≤ e.1 := by
  unfold rLine at h
  split at h
  · split at h
    · rcases sb_invr h with h | ⟨x, -, h⟩
      · unfold rStore at h
        rcases sb_invr h with h | ⟨x, -, h⟩
        · exact rWord_f h
        · rcases sb_invr h with h | ⟨x, -, h⟩
          · exact rWhole_f h
          · rcases sb_invr h with h | ⟨x, -, h⟩
            · exact rWord_f h
            · rcases sb_invr h with h | ⟨x, -, h⟩
              · exact rWhole_f h
              · cases h
      · cases h
    · rw [← Sum.inr.inj h]; show 1 ≤ 3; omega
  · split at h
    · rcases sb_invr h with h | ⟨x, -, h⟩
      · exact rOpen_f h
      · unfold rCellar at h
        split at h
        · split at h
          · rw [← Sum.inr.inj h]; show 1 ≤ 3; omega
          · split at h
            · rw [← Sum.inr.inj h]; show 1 ≤ 1; omega
            · rcases sb_invr h with h | ⟨x, -, h⟩
              · unfold rHeaps at h
                split at h
                · exact rHp_f _ _ _ h
                · rw [← Sum.inr.inj h]; show 1 ≤ 1; omega
              · cases h
        · rw [← Sum.inr.inj h]; show 1 ≤ 1; omega
    · split at h
      · rcases sb_invr h with h | ⟨x, -, h⟩
        · exact rOpen_f h
        · unfold rUnsure at h
          rcases sb_invr h with h | ⟨x, -, h⟩
          · exact rNamed_f h
          · split at h
            · rw [← Sum.inr.inj h]; show 1 ≤ 3; omega
            · rcases sb_invr h with h | ⟨x, -, h⟩
              · exact rWhole_f h
              · cases h
      · split at h
        · rcases sb_invr h with h | ⟨x, -, h⟩
          · exact rOpen_f h
          · unfold rSeen at h
            rcases sb_invr h with h | ⟨x, -, h⟩
            · exact rNamed_f h
            · rcases sb_invr h with h | ⟨x, -, h⟩
              · exact rWord_f h
              · split at h
                · rw [← Sum.inr.inj h]; show 1 ≤ 3; omega
                · rcases sb_invr h with h | ⟨x, -, h⟩
                  · exact rWhole_f h
                  · rcases sb_invr h with h | ⟨x, -, h⟩
                    · exact rWord_f h
                    · rcases sb_invr h with h | ⟨x, -, h⟩
                      · exact rWhole_f h
                      · cases h
        · rw [← Sum.inr.inj h]; show 1 ≤ 1; omega
theorem rWhole_ok {b : Nat → Nat} {n lo hi : Nat} {k : Tk} {r : Nat × Tk} (h : rWhole b n lo hi k = Sum.inl r) : lo ≤ r.1 ∧ r.1 ≤ hi := by
  unfold rWhole at h
  split at h
  · split at h
    · cases h
    · rename_i q
      rw [← Sum.inl.inj h]
      exact ⟨by show lo ≤ tvl b k; omega, by show tvl b k ≤ hi; omega⟩
  · cases h
theorem rLine_ok {b : Nat → Nat} {n : Nat} {s r : PSt} (p : PTk s.1) (h : rLine b n s = Sum.inl r) : PTk r.1 := by
  obtain ⟨T, nm, k⟩ := s
  unfold rLine at h
  simp only at h p
  have op : ∀ {rm : Bool} {k' : Tk}, rOpen b n rm T k = Sum.inl k' → tH T ≠ 0 ∧ rm = true := fun {rm k'} w => by
    unfold rOpen at w
    cases rm with
    | true =>
      simp only [if_true] at w
      split at w
      · cases w
      · rename_i q; exact ⟨q, rfl⟩
    | false => simp only [Bool.false_eq_true, if_false] at w; cases w
  split at h
  · split at h
    · rename_i z
      obtain ⟨x, hx, h⟩ := sb_inv h
      rw [← Sum.inl.inj h]
      unfold rStore at hx
      obtain ⟨k1, -, hx⟩ := sb_inv hx
      obtain ⟨h1, h2, hx⟩ := sb_inv hx
      obtain ⟨k3, -, hx⟩ := sb_inv hx
      obtain ⟨s1, s2, hx⟩ := sb_inv hx
      rw [← Sum.inl.inj hx]
      have a := rWhole_ok h2
      have c := rWhole_ok s2
      exact PTk_HS p z a.1 a.2 c.2
    · cases h
  · split at h
    · obtain ⟨k', hk, h⟩ := sb_inv h
      obtain ⟨o1, o2⟩ := op hk
      have T1 := PTk_h p o1
      have c4 := of_decide_eq_true o2
      unfold rCellar at h
      split at h
      · split at h
        · cases h
        · split at h
          · cases h
          · rename_i lw
            obtain ⟨x, hx, h⟩ := sb_inv h
            rw [← Sum.inl.inj h]
            unfold rHeaps at hx
            split at hx
            · obtain ⟨y1, y2, y3⟩ := rHp_ok 9 [] _ x List.Pairwise.nil (fun a ha => by cases ha) (Nat.zero_le _) hx
              have := lawN_le b (tok b n k'.2.2)
              exact Or.inl (PTk_Cl T1 c4 (by omega) y1 y2 y3)
            · cases hx
      · cases h
    · split at h
      · obtain ⟨k', hk, h⟩ := sb_inv h
        obtain ⟨o1, o2⟩ := op hk
        have T1 := PTk_h p o1
        unfold rUnsure at h
        obtain ⟨c, hc, h⟩ := sb_inv h
        split at h
        · cases h
        · rename_i up
          obtain ⟨x, hx, h⟩ := sb_inv h
          rw [← Sum.inl.inj h]
          have a := rWhole_ok hx
          have cl := rNamed_lt hc
          have u4 : tU T < 4 := by
            rcases Nat.lt_or_ge (tU T) 4 with z | z
            · exact z
            · exact absurd (un_4 T1 (by have := T1.2.2.2.2.2.2.2.1; omega) cl) up
          exact Or.inl (PTk_Un T1 u4 cl up a.1 a.2)
      · split at h
        · obtain ⟨k', hk, h⟩ := sb_inv h
          obtain ⟨o1, o2⟩ := op hk
          have T1 := PTk_h p o1
          unfold rSeen at h
          obtain ⟨c, hc, h⟩ := sb_inv h
          obtain ⟨k2, -, h⟩ := sb_inv h
          split at h
          · cases h
          · obtain ⟨m, hm, h⟩ := sb_inv h
            obtain ⟨k4, -, h⟩ := sb_inv h
            obtain ⟨hh, hhh, h⟩ := sb_inv h
            rw [← Sum.inl.inj h]
            exact Or.inl (PTk_Se T1 (of_decide_eq_true o2) (rNamed_lt hc) (rWhole_ok hm).2 (rWhole_ok hhh).2)
        · cases h
theorem rLoop_ok {b : Nat → Nat} {n : Nat} : ∀ (f : Nat) {s r : PSt}, PTk s.1 → rLoop b n f s = Sum.inl r → PTk r.1
  | 0, s, r, p, h => by
    unfold rLoop at h
    rw [← Sum.inl.inj h]; exact p
  | f + 1, s, r, p, h => by
    unfold rLoop at h
    split at h
    · obtain ⟨s', hs, h⟩ := sb_inv h
      have p' : PTk s'.1 := rLine_ok (s := (s.1, s.2.1, tok b n s.2.2.2.2)) p hs
      exact rLoop_ok f p' h
    · rw [← Sum.inl.inj h]; exact p
theorem rRead_ok {b : Nat → Nat} {n : Nat} {nm : Nat → List Nat} {r : PSt} (h : rRead b n nm = Sum.inl r) : TOk r.1 ∧ 0 < tC r.1 := by
  unfold rRead at h
  obtain ⟨s, hs, h⟩ := sb_inv h
  obtain ⟨s', hs', h⟩ := sb_inv h
  have p := rLoop_ok 900 (rLine_ok (s := (T0, nm, tok b n 0)) PTk_0 hs) hs'
  split at h
  · split at h
    · cases h
    · rename_i q
      rw [← Sum.inl.inj h]
      rcases p with p | p
      · exact ⟨p, by omega⟩
      · exact absurd p.2.2.1 q
  · cases h
def ac_store (S : St) (n : Int) : Int × St := if 0 ≤ n ∧ n ≤ ((sT S).length : Int) then (match rRead (fun i => (sT S).getD i 0) n.toNat (fun _ => []) with
  | Sum.inr f => (-1, ([], (4, (f.1 : Int), (f.2 : Int)), S.2.2))
  | Sum.inl s => ((tC s.1 : Int), ([], (0, 0, sP S), s.1, (tB s.1, 0), [], []))) else (-1, trS S 2)
theorem q_R_w {t u t' u' a k : Nat} (h : ¬ (a = 1 ∧ k = 9)) (g : ¬ (a = 2 ∧ k = 3)) : q_R t u a k = q_R t' u' a k := by
  by_cases h1 : a = 1
  · subst h1
    have hk : Nat.beq k 9 = false := by
      cases e : Nat.beq k 9 with
      | false => rfl
      | true => exact absurd ⟨rfl, Nat.eq_of_beq_eq_true e⟩ h
    unfold q_R
    simp only [hk, cond_false]
    rfl
  · by_cases h4 : a = 2
    · subst h4
      have hk : Nat.beq k 3 = false := by
        cases e : Nat.beq k 3 with
        | false => rfl
        | true => exact absurd ⟨rfl, Nat.eq_of_beq_eq_true e⟩ g
      unfold q_R
      simp only [hk, cond_false]
      rfl
    · have e1 : Nat.beq a 1 = false := by
        cases e : Nat.beq a 1 with
        | false => rfl
        | true => exact absurd (Nat.eq_of_beq_eq_true e) h1
      have e4 : Nat.beq a 2 = false := by
        cases e : Nat.beq a 2 with
        | false => rfl
        | true => exact absurd (Nat.eq_of_beq_eq_true e) h4
      unfold q_R
      simp only [e1, e4, cond_false]
theorem sR_43 (t u x : Nat) (I J : Nat → Nat → Int) : sR (qk t u I J) 2 3 x = qk t x I J := by
  unfold sR qk
  simp only
  congr 3
  funext a k
  by_cases h : a = 2 ∧ k = 3
  · rw [if_pos h, h.1, h.2]; rfl
  · rw [if_neg h]
    by_cases g : a = 1 ∧ k = 9
    · rw [g.1, g.2]; rfl
    · exact q_R_w g h
theorem sR_19 (t u x : Nat) (I J : Nat → Nat → Int) : sR (qk t u I J) 1 9 x = qk x u I J := by
  unfold sR qk
  simp only
  congr 3
  funext a k
  by_cases h : a = 1 ∧ k = 9
  · rw [if_pos h, h.1, h.2]; rfl
  · rw [if_neg h]
    by_cases g : a = 2 ∧ k = 3
    · rw [g.1, g.2]; rfl
    · exact q_R_w h g
section
variable {t u : Nat} {I J : Nat → Nat → Int} {S : St}
theorem c_tclear (A : TId u) : ∃ I', q_E (93, 0, [vr u], []) (qk t u I J) = some (vu, qk t u I' J) ∧ TAt I' u T0 ∧ Kp u (u + 16) I I' := by
  obtain ⟨k1, k2, k3, k4, k5, k6⟩ := id A
  obtain ⟨I1, a1, a2, a3⟩ := c_cclear (t := t) (u := u) (I := I) (J := J) k2
  have kc := k2.1
  simp (disch := omega) only [↓reduceIte, lt_TI, lt_FI, le_TI, le_FI, eq_TI, eq_FI, lt_TN, lt_FN, le_TN, le_FN, eq_TN, eq_FN, and_self, and_true, true_and, and_false, false_and, or_true, true_or, or_false, false_or, not_true_eq_false, not_false_eq_true, wr_of, uI_at, uC_at, q_bi_s, q_bl_s, q_br_s, q_bv_s, Int.toNat_natCast, tn_1, tn_m, tn_n, Int.toNat_zero, Int.toNat_one, e93_0, k1, k3, kc, a1, e93_7]
  have U : ∀ a, a ≠ u → uI (uI (uI (uI (uI I1 u 7 0) u 8 0) u 9 0) u 10 0) u 11 0 a = I1 a := fun a h => by rw [uI_o1 h, uI_o1 h, uI_o1 h, uI_o1 h, uI_o1 h]
  refine ⟨_, rfl, ⟨A, CAt_w a2 (fun a h1 h2 => U a (by omega)), by simp (disch := omega) only [↓reduceIte, lt_TI, lt_FI, le_TI, le_FI, eq_TI, eq_FI, lt_TN, lt_FN, le_TN, le_FN, eq_TN, eq_FN, and_self, and_true, true_and, and_false, false_and, or_true, true_or, or_false, false_or, not_true_eq_false, not_false_eq_true, wr_of, uI_at, uC_at, q_bi_s, q_bl_s, q_br_s, q_bv_s, Int.toNat_natCast, tn_1, tn_m, tn_n, Int.toNat_zero, Int.toNat_one] <;> rfl, by simp (disch := omega) only [↓reduceIte, lt_TI, lt_FI, le_TI, le_FI, eq_TI, eq_FI, lt_TN, lt_FN, le_TN, le_FN, eq_TN, eq_FN, and_self, and_true, true_and, and_false, false_and, or_true, true_or, or_false, false_or, not_true_eq_false, not_false_eq_true, wr_of, uI_at, uC_at, q_bi_s, q_bl_s, q_br_s, q_bv_s, Int.toNat_natCast, tn_1, tn_m, tn_n, Int.toNat_zero, Int.toNat_one] <;> rfl, by simp (disch := omega) only [↓reduceIte, lt_TI, lt_FI, le_TI, le_FI, eq_TI, eq_FI, lt_TN, lt_FN, le_TN, le_FN, eq_TN, eq_FN, and_self, and_true, true_and, and_false, false_and, or_true, true_or, or_false, false_or, not_true_eq_false, not_false_eq_true, wr_of, uI_at, uC_at, q_bi_s, q_bl_s, q_br_s, q_bv_s, Int.toNat_natCast, tn_1, tn_m, tn_n, Int.toNat_zero, Int.toNat_one] <;> rfl, by simp (disch := omega) only [↓reduceIte, lt_TI, lt_FI, le_TI, le_FI, eq_TI, eq_FI, lt_TN, lt_FN, le_TN, le_FN, eq_TN, eq_FN, and_self, and_true, true_and, and_false, false_and, or_true, true_or, or_false, false_or, not_true_eq_false, not_false_eq_true, wr_of, uI_at, uC_at, q_bi_s, q_bl_s, q_br_s, q_bv_s, Int.toNat_natCast, tn_1, tn_m, tn_n, Int.toNat_zero, Int.toNat_one] <;> rfl, by simp (disch := omega) only [↓reduceIte, lt_TI, lt_FI, le_TI, le_FI, eq_TI, eq_FI, lt_TN, lt_FN, le_TN, le_FN, eq_TN, eq_FN, and_self, and_true, true_and, and_false, false_and, or_true, true_or, or_false, false_or, not_true_eq_false, not_false_eq_true, wr_of, uI_at, uC_at, q_bi_s, q_bl_s, q_br_s, q_bv_s, Int.toNat_natCast, tn_1, tn_m, tn_n, Int.toNat_zero, Int.toNat_one] <;> rfl, fun i hi => (by cases hi), fun i hi => (by cases hi), fun i hi => (by cases hi)⟩, fun a ha => by rw [U a (by omega), a3 a (by omega)]⟩
/-- what reading leaves alone -/
def RR (u : Nat) (I I' : Nat → Nat → Int) : Prop := (∀ a, a ≠ 3 → (a < 2 ∨ a = 4 ∨ 6 < a) → (a < u ∨ u + 16 < a) → I' a = I a) ∧ I' 3 1 = I 3 1
theorem RR_rf {u : Nat} {I I' : Nat → Nat → Int} (h : RF u I I') : RR u I I' := ⟨h.1, h.2.1⟩
theorem RR_tr {u : Nat} {I I1 I2 : Nat → Nat → Int} (a : RR u I I1) (b : RR u I1 I2) : RR u I I2 := ⟨fun c h1 h2 h3 => (b.1 c h1 h2 h3).trans (a.1 c h1 h2 h3), b.2.trans a.2⟩
theorem c_read {b : Nat → Nat} {n : Nat} (A : TId u) (hl : (n : Int) ≤ I 3 1) (hn : n ≤ 900) (hb : ∀ i, i < n → b i < 256 ∧ I 4 i = Int.bmod (b i : Int) 256) : ∃ I', (match rRead b n (fun _ => []) with | Sum.inl s => q_E (42, 0, [vr 2, vi (n : Int), vu, vu], []) (qk t u I J) = some (vi 0, qk t u I' J) ∧ TAt I' u s.1 | Sum.inr f => q_E (42, 0, [vr 2, vi (n : Int), vu, vu], []) (qk t u I J) = some (vi (f.1 : Int), qk t u I' J) ∧ I' 3 2 = (f.2 : Int) ∧ 1 ≤ f.1) ∧ RR u I I' := by
  have hu : u = 7 ∨ u = 248 := A.2.2.2.2.2
  have k1 := A.1
  obtain ⟨I1, a1, a2, a3⟩ := c_tclear (t := t) (u := u) (I := I) (J := J) A
  -- the tape starts
  have st : ∃ I3, q_E (85, 0, [vr 3, vi (n : Int)], []) (qk t u (uI I1 2 6 0) J) = some (vu, qk t u I3 J) ∧ KT I3 b n (tok b n 0) ∧ (∀ a, a ≠ 3 → I3 a = uI I1 2 6 0 a) ∧ I3 3 1 = I 3 1 := by
    have e21 : (uI I1 2 6 0) 3 1 = I 3 1 := by rw [uI_ne (Or.inl (by omega)), a3 3 (by omega)]
    obtain ⟨I3, b1, b2, b3⟩ := c_tstep (t := t) (u := u) (J := J) (I := uI (uI (uI I1 2 6 0) 3 4 (n : Int)) 3 5 0) (b := b) (n := n) (e := 0) (Nat.zero_le _) hn (by simp (disch := omega) only [↓reduceIte, lt_TI, lt_FI, le_TI, le_FI, eq_TI, eq_FI, lt_TN, lt_FN, le_TN, le_FN, eq_TN, eq_FN, and_self, and_true, true_and, and_false, false_and, or_true, true_or, or_false, false_or, not_true_eq_false, not_false_eq_true, wr_of, uI_at, uC_at, q_bi_s, q_bl_s, q_br_s, q_bv_s, Int.toNat_natCast, tn_1, tn_m, tn_n, Int.toNat_zero, Int.toNat_one]) (by simp (disch := omega) only [↓reduceIte, lt_TI, lt_FI, le_TI, le_FI, eq_TI, eq_FI, lt_TN, lt_FN, le_TN, le_FN, eq_TN, eq_FN, and_self, and_true, true_and, and_false, false_and, or_true, true_or, or_false, false_or, not_true_eq_false, not_false_eq_true, wr_of, uI_at, uC_at, q_bi_s, q_bl_s, q_br_s, q_bv_s, Int.toNat_natCast, tn_1, tn_m, tn_n, Int.toNat_zero, Int.toNat_one] <;> rfl) (fun i hi => ⟨(hb i hi).1, by rw [uI_o1 (by omega), uI_o1 (by omega), uI_o1 (by omega), a3 4 (by omega)]; exact (hb i hi).2⟩)
    refine ⟨I3, ?_, b2, fun a h => by rw [b3.1 a (by omega), uI_o1 h, uI_o1 h], by rw [b3.2.1, uI_ne (Or.inr (by omega)), uI_ne (Or.inr (by omega))]; exact e21⟩
    rw [e85_0, e21]
    by_cases q : (n : Int) < I 3 1
    · rw [if_pos q, b1, q_bv_s, e85_21]
    · rw [if_neg q, show I 3 1 = (n : Int) by omega, b1, q_bv_s, e85_21]
  obtain ⟨I3, b1, b2, b3, b4⟩ := st
  have F3 : RR u I I3 := ⟨fun a h1 h2 h3 => by rw [b3 a h1, uI_o1 (by omega), a3 a (by omega)], b4⟩
  have A3 : TAt I3 u T0 := TAt_rw a2 (fun a h1 h2 => by rw [b3 a (by omega), uI_o1 (by omega)])
  have z46 : I3 2 6 = 0 := by rw [b3 2 (by omega)]; exact if_pos ⟨rfl, rfl⟩
  obtain ⟨v, I4, c1, c2, c3⟩ := c_readLine (t := t) (J := J) A3 b2 (fun c hc => by cases hc) PTk_0 (nm := fun _ => [])
  -- faults are no less than 1
  have f1 : ∀ {x : Sum PSt Flt} {f : Flt}, (∃ s, x = rLine b n s) → x = Sum.inr f → 1 ≤ f.1 := by
    intro x f ⟨s, hx⟩ h
    rw [hx] at h
    exact rLine_f h
  have loop : ∀ (r i : Nat) (s : PSt) (I1 : Nat → Nat → Int), i + r = 900 → RA I1 u b n s → PTk s.1 → I1 2 6 = 0 → ∃ w I', q_E (42, 27, [vr 2, vu, vi 1, vi (i : Int)], []) (qk t u I1 J) = q_E (42, 67, [vr 2, vu, vi w, vu], []) (qk t u I' J) ∧ (match rLoop b n r s with | Sum.inl s' => w = 1 ∧ RA I' u b n s' ∧ I' 2 6 = 0 | Sum.inr f => w = 0 ∧ I' 2 6 = (f.1 : Int) ∧ I' 3 2 = (f.2 : Int) ∧ 1 ≤ f.1) ∧ RF u I1 I' := by
    intro r
    induction r with
    | zero =>
      intro i s I1 hi RA1 p z
      unfold rLoop
      simp (disch := omega) only [↓reduceIte, lt_TI, lt_FI, le_TI, le_FI, eq_TI, eq_FI, lt_TN, lt_FN, le_TN, le_FN, eq_TN, eq_FN, and_self, and_true, true_and, and_false, false_and, or_true, true_or, or_false, false_or, not_true_eq_false, not_false_eq_true, wr_of, uI_at, uC_at, q_bi_s, q_bl_s, q_br_s, q_bv_s, Int.toNat_natCast, tn_1, tn_m, tn_n, Int.toNat_zero, Int.toNat_one, e42_27]
      exact ⟨1, I1, rfl, ⟨rfl, RA1, z⟩, RF_rf⟩
    | succ r ih =>
      intro i s I1 hi RA1 p z
      obtain ⟨T, nm, k⟩ := s
      obtain ⟨r1, r2, r3⟩ := id RA1
      simp only at r1 r2 r3 p
      have k3 := r2.2.2.2.1
      unfold rLoop
      simp only
      rw [e42_27]
      by_cases q : k.1 = 3
      · rw [if_pos q]
        rw [q] at k3
        obtain ⟨I5, d1, d2, d3⟩ := c_next (t := t) (u := u) (J := J) r2
        obtain ⟨A5, N5⟩ := RA_ks r1 r3 d3
        obtain ⟨v, I6, g1, g2, g3⟩ := c_readLine (t := t) (J := J) A5 d2 N5 p
        have z5 : I5 2 6 = 0 := by rw [d3.1 2 (by omega)]; exact z
        have R6 : RF u I1 I6 := RF_tr (RF_rw (RW_ks d3)) g3
        cases hl : rLine b n (T, nm, tok b n k.2.2) with
        | inr f =>
          rw [hl] at g2
          obtain ⟨x1, x2, x3⟩ := g2
          subst x1
          simp only [sb_r]
          simp (disch := omega) only [↓reduceIte, lt_TI, lt_FI, le_TI, le_FI, eq_TI, eq_FI, lt_TN, lt_FN, le_TN, le_FN, eq_TN, eq_FN, and_self, and_true, true_and, and_false, false_and, or_true, true_or, or_false, false_or, not_true_eq_false, not_false_eq_true, wr_of, uI_at, uC_at, q_bi_s, q_bl_s, q_br_s, q_bv_s, Int.toNat_natCast, tn_1, tn_m, tn_n, Int.toNat_zero, Int.toNat_one, k3, d1, e42_56, g1, e42_60]
          rw [e42_27]
          refine ⟨0, I6, ?_, ⟨rfl, x2, x3, f1 ⟨_, rfl⟩ hl⟩, R6⟩
          rcases Classical.em ((i : Int) + 1 < 900) with w | w <;> simp (disch := omega) only [↓reduceIte, lt_TI, lt_FI, le_TI, le_FI, eq_TI, eq_FI, lt_TN, lt_FN, le_TN, le_FN, eq_TN, eq_FN, and_self, and_true, true_and, and_false, false_and, or_true, true_or, or_false, false_or, not_true_eq_false, not_false_eq_true, wr_of, uI_at, uC_at, q_bi_s, q_bl_s, q_br_s, q_bv_s, Int.toNat_natCast, tn_1, tn_m, tn_n, Int.toNat_zero, Int.toNat_one]
        | inl s' =>
          rw [hl] at g2
          obtain ⟨x1, x2, x3⟩ := g2
          subst x1
          simp only [sb_l]
          have p' : PTk s'.1 := rLine_ok (s := (T, nm, tok b n k.2.2)) p hl
          obtain ⟨w, I7, y1, y2, y3⟩ := ih (i + 1) s' I6 (by omega) x2 p' (by rw [x3]; exact z5)
          simp (disch := omega) only [↓reduceIte, lt_TI, lt_FI, le_TI, le_FI, eq_TI, eq_FI, lt_TN, lt_FN, le_TN, le_FN, eq_TN, eq_FN, and_self, and_true, true_and, and_false, false_and, or_true, true_or, or_false, false_or, not_true_eq_false, not_false_eq_true, wr_of, uI_at, uC_at, q_bi_s, q_bl_s, q_br_s, q_bv_s, Int.toNat_natCast, tn_1, tn_m, tn_n, Int.toNat_zero, Int.toNat_one, k3, d1, e42_56, g1, e42_60]
          exact ⟨w, I7, y1, y2, RF_tr R6 y3⟩
      · rw [if_neg q]
        simp (disch := omega) only [↓reduceIte, lt_TI, lt_FI, le_TI, le_FI, eq_TI, eq_FI, lt_TN, lt_FN, le_TN, le_FN, eq_TN, eq_FN, and_self, and_true, true_and, and_false, false_and, or_true, true_or, or_false, false_or, not_true_eq_false, not_false_eq_true, wr_of, uI_at, uC_at, q_bi_s, q_bl_s, q_br_s, q_bv_s, Int.toNat_natCast, tn_1, tn_m, tn_n, Int.toNat_zero, Int.toNat_one, k3]
        exact ⟨1, I1, rfl, ⟨rfl, RA1, z⟩, RF_rf⟩
  have e00 : q_E (42, 0, [vr 2, vi (n : Int), vu, vu], []) (qk t u I J) = q_E (42, 27, [vr 2, vu, vi v, vi 0], []) (qk t u I4 J) := by
    simp (disch := omega) only [↓reduceIte, lt_TI, lt_FI, le_TI, le_FI, eq_TI, eq_FI, lt_TN, lt_FN, le_TN, le_FN, eq_TN, eq_FN, and_self, and_true, true_and, and_false, false_and, or_true, true_or, or_false, false_or, not_true_eq_false, not_false_eq_true, wr_of, uI_at, uC_at, q_bi_s, q_bl_s, q_br_s, q_bv_s, Int.toNat_natCast, tn_1, tn_m, tn_n, Int.toNat_zero, Int.toNat_one, e42_0, k1, a1, e42_7, b1, e42_20, c1, e42_24]
  unfold rRead
  cases hl : rLine b n (T0, (fun _ => []), tok b n 0) with
  | inr f =>
    rw [hl] at c2
    obtain ⟨x1, x2, x3⟩ := c2
    subst x1
    simp only [sb_r]
    refine ⟨I4, ⟨?_, x3, f1 ⟨_, rfl⟩ hl⟩, RR_tr F3 (RR_rf c3)⟩
    rw [e00]
    rw [e42_27]
    simp (disch := omega) only [↓reduceIte, lt_TI, lt_FI, le_TI, le_FI, eq_TI, eq_FI, lt_TN, lt_FN, le_TN, le_FN, eq_TN, eq_FN, and_self, and_true, true_and, and_false, false_and, or_true, true_or, or_false, false_or, not_true_eq_false, not_false_eq_true, wr_of, uI_at, uC_at, q_bi_s, q_bl_s, q_br_s, q_bv_s, Int.toNat_natCast, tn_1, tn_m, tn_n, Int.toNat_zero, Int.toNat_one]
    simp (disch := omega) only [↓reduceIte, lt_TI, lt_FI, le_TI, le_FI, eq_TI, eq_FI, lt_TN, lt_FN, le_TN, le_FN, eq_TN, eq_FN, and_self, and_true, true_and, and_false, false_and, or_true, true_or, or_false, false_or, not_true_eq_false, not_false_eq_true, wr_of, uI_at, uC_at, q_bi_s, q_bl_s, q_br_s, q_bv_s, Int.toNat_natCast, tn_1, tn_m, tn_n, Int.toNat_zero, Int.toNat_one, e42_67, e42_89, e42_109, x2]
  | inl s =>
    rw [hl] at c2
    obtain ⟨x1, x2, x3⟩ := c2
    subst x1
    simp only [sb_l]
    obtain ⟨w, I5, y1, y2, y3⟩ := loop 900 0 s I4 (by omega) x2 (rLine_ok (s := (T0, (fun _ => []), tok b n 0)) PTk_0 hl) (by rw [x3]; exact z46)
    rw [Int.natCast_zero] at y1
    have R5 : RR u I I5 := RR_tr F3 (RR_tr (RR_rf c3) (RR_rf y3))
    cases hr : rLoop b n 900 s with
    | inr f =>
      rw [hr] at y2
      obtain ⟨z1, z2, z3, z4⟩ := y2
      subst z1
      simp only [sb_r]
      refine ⟨I5, ⟨?_, z3, z4⟩, R5⟩
      rw [e00, y1]
      simp (disch := omega) only [↓reduceIte, lt_TI, lt_FI, le_TI, le_FI, eq_TI, eq_FI, lt_TN, lt_FN, le_TN, le_FN, eq_TN, eq_FN, and_self, and_true, true_and, and_false, false_and, or_true, true_or, or_false, false_or, not_true_eq_false, not_false_eq_true, wr_of, uI_at, uC_at, q_bi_s, q_bl_s, q_br_s, q_bv_s, Int.toNat_natCast, tn_1, tn_m, tn_n, Int.toNat_zero, Int.toNat_one, e42_67, e42_89, e42_109, z2]
    | inl s' =>
      rw [hr] at y2
      obtain ⟨z1, z2, z3⟩ := y2
      subst z1
      obtain ⟨g1, g2, g3⟩ := z2
      simp only [sb_l]
      have k3 := g2.2.2.2.1
      have kp := g2.2.2.2.2.1
      have k9 := g1.2.2.2.2.1
      by_cases q : s'.2.2.1 = 0
      · rw [if_pos q]
        rw [q] at k3
        by_cases y : tC s'.1 = 0
        · rw [if_pos y]
          rw [y] at k9
          refine ⟨uI I5 2 6 6, ⟨?_, by simp (disch := omega) only [↓reduceIte, lt_TI, lt_FI, le_TI, le_FI, eq_TI, eq_FI, lt_TN, lt_FN, le_TN, le_FN, eq_TN, eq_FN, and_self, and_true, true_and, and_false, false_and, or_true, true_or, or_false, false_or, not_true_eq_false, not_false_eq_true, wr_of, uI_at, uC_at, q_bi_s, q_bl_s, q_br_s, q_bv_s, Int.toNat_natCast, tn_1, tn_m, tn_n, Int.toNat_zero, Int.toNat_one, kp], by show 1 ≤ 6; omega⟩, RR_tr R5 ⟨fun a _ h _ => uI_o1 (by omega), uI_ne (Or.inl (by omega))⟩⟩
          rw [e00, y1]
          simp (disch := omega) only [↓reduceIte, lt_TI, lt_FI, le_TI, le_FI, eq_TI, eq_FI, lt_TN, lt_FN, le_TN, le_FN, eq_TN, eq_FN, and_self, and_true, true_and, and_false, false_and, or_true, true_or, or_false, false_or, not_true_eq_false, not_false_eq_true, wr_of, uI_at, uC_at, q_bi_s, q_bl_s, q_br_s, q_bv_s, Int.toNat_natCast, tn_1, tn_m, tn_n, Int.toNat_zero, Int.toNat_one, e42_67, k3, Int.natCast_zero, e42_89, k1, k9, e42_109]
          rfl
        · rw [if_neg y]
          refine ⟨I5, ⟨?_, g1⟩, R5⟩
          rw [e00, y1]
          simp (disch := omega) only [↓reduceIte, lt_TI, lt_FI, le_TI, le_FI, eq_TI, eq_FI, lt_TN, lt_FN, le_TN, le_FN, eq_TN, eq_FN, and_self, and_true, true_and, and_false, false_and, or_true, true_or, or_false, false_or, not_true_eq_false, not_false_eq_true, wr_of, uI_at, uC_at, q_bi_s, q_bl_s, q_br_s, q_bv_s, Int.toNat_natCast, tn_1, tn_m, tn_n, Int.toNat_zero, Int.toNat_one, e42_67, k3, Int.natCast_zero, e42_89, k1, k9, e42_109, z3]
      · rw [if_neg q]
        refine ⟨uI I5 2 6 1, ⟨?_, by simp (disch := omega) only [↓reduceIte, lt_TI, lt_FI, le_TI, le_FI, eq_TI, eq_FI, lt_TN, lt_FN, le_TN, le_FN, eq_TN, eq_FN, and_self, and_true, true_and, and_false, false_and, or_true, true_or, or_false, false_or, not_true_eq_false, not_false_eq_true, wr_of, uI_at, uC_at, q_bi_s, q_bl_s, q_br_s, q_bv_s, Int.toNat_natCast, tn_1, tn_m, tn_n, Int.toNat_zero, Int.toNat_one, kp], by show 1 ≤ 1; omega⟩, RR_tr R5 ⟨fun a _ h _ => uI_o1 (by omega), uI_ne (Or.inl (by omega))⟩⟩
        rw [e00, y1]
        simp (disch := omega) only [↓reduceIte, lt_TI, lt_FI, le_TI, le_FI, eq_TI, eq_FI, lt_TN, lt_FN, le_TN, le_FN, eq_TN, eq_FN, and_self, and_true, true_and, and_false, false_and, or_true, true_or, or_false, false_or, not_true_eq_false, not_false_eq_true, wr_of, uI_at, uC_at, q_bi_s, q_bl_s, q_br_s, q_bv_s, Int.toNat_natCast, tn_1, tn_m, tn_n, Int.toNat_zero, Int.toNat_one, e42_67, k3, e42_109]
        rfl
end

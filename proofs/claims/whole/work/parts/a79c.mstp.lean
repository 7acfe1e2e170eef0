/-! THE MODEL READS: a whole text -/
/-- a token further on -/
def GT (n e : Nat) (k : Tk) : Prop := e ≤ k.2.1 ∧ k.2.1 ≤ k.2.2 ∧ k.2.2 ≤ n
theorem GT_tok {b : Nat → Nat} {n e : Nat} (h : e ≤ n) : GT n e (tok b n e) := by
  obtain ⟨a, c, d, -⟩ := tok_b b h
  exact ⟨a, c, d⟩
theorem GT_tr {n e : Nat} {k k' : Tk} (a : GT n e k) (c : GT n k.2.2 k') : GT n e k' := ⟨Nat.le_trans a.1 (Nat.le_trans a.2.1 c.1), c.2⟩
theorem rWord_g {b : Nat → Nat} {n s : Nat} {k t : Tk} (h : k.2.2 ≤ n) (e : rWord b n s k = Sum.inl t) : GT n k.2.2 t := by
  unfold rWord at e
  split at e
  · rw [← Sum.inl.inj e]; exact GT_tok h
  · cases e
theorem rWhole_g {b : Nat → Nat} {n lo hi : Nat} {k : Tk} {x : Nat × Tk} (h : k.2.2 ≤ n) (e : rWhole b n lo hi k = Sum.inl x) : GT n k.2.2 x.2 := by
  rw [(rWhole_t e).1]; exact GT_tok h
theorem rHp_g {b : Nat → Nat} {n e : Nat} : ∀ (f : Nat) (xs : List Nat) (k : Tk) (r : List Nat × Tk), GT n e k → rHp b n f xs k = Sum.inl r → GT n e r.2
  | 0, xs, k, r, g, h => by
    unfold rHp at h
    rw [← Sum.inl.inj h]; exact g
  | f + 1, xs, k, r, g, h => by
    unfold rHp at h
    split at h
    · split at h
      · cases h
      · split at h
        · cases h
        · exact rHp_g f _ _ r (GT_tr g (GT_tok g.2.2)) h
    · rw [← Sum.inl.inj h]; exact g
theorem rOpen_t {b : Nat → Nat} {n : Nat} {r : Bool} {T : Tt} {k k' : Tk} (h : rOpen b n r T k = Sum.inl k') : k' = tok b n k.2.2 ∧ tH T ≠ 0 ∧ r = true := by
  unfold rOpen at h
  split at h
  · rename_i hr
    split at h
    · cases h
    · rename_i q
      exact ⟨(Sum.inl.inj h).symm, q, hr⟩
  · cases h
theorem rLine_g {b : Nat → Nat} {n : Nat} {s s' : PSt} (h : s.2.2.2.2 ≤ n) (e : rLine b n s = Sum.inl s') : GT n s.2.2.2.2 s'.2.2 := by
  obtain ⟨T, nm, k⟩ := s
  simp only at h ⊢
  unfold rLine at e
  simp only at e
  have g0 : GT n k.2.2 (tok b n k.2.2) := GT_tok h
  split at e
  · split at e
    · obtain ⟨x, hx, e2⟩ := sb_inv e
      rw [← Sum.inl.inj e2]
      unfold rStore at hx
      obtain ⟨k1, a1, hx⟩ := sb_inv hx
      obtain ⟨h1, a2, hx⟩ := sb_inv hx
      obtain ⟨k3, a3, hx⟩ := sb_inv hx
      obtain ⟨s1, a4, hx⟩ := sb_inv hx
      rw [← Sum.inl.inj hx]
      have g1 := GT_tr g0 (rWord_g g0.2.2 a1)
      have g2 := GT_tr g1 (rWhole_g g1.2.2 a2)
      have g3 := GT_tr g2 (rWord_g g2.2.2 a3)
      exact GT_tr g3 (rWhole_g g3.2.2 a4)
    · cases e
  · split at e
    · obtain ⟨k', hk, e⟩ := sb_inv e
      rw [(rOpen_t hk).1] at e
      generalize tok b n k.2.2 = k1 at g0 e
      unfold rCellar at e
      split at e
      · split at e
        · cases e
        · split at e
          · cases e
          · obtain ⟨x, hx, e⟩ := sb_inv e
            rw [← Sum.inl.inj e]
            unfold rHeaps at hx
            split at hx
            · have g1 := GT_tr g0 (GT_tok (b := b) g0.2.2)
              have g2 := GT_tr g1 (GT_tok (b := b) g1.2.2)
              exact rHp_g 9 [] _ x g2 hx
            · cases hx
      · cases e
    · split at e
      · obtain ⟨k', hk, e⟩ := sb_inv e
        rw [(rOpen_t hk).1] at e
        generalize tok b n k.2.2 = k1 at g0 e
        unfold rUnsure at e
        obtain ⟨c, hc, e⟩ := sb_inv e
        split at e
        · cases e
        · obtain ⟨v, hv, e⟩ := sb_inv e
          rw [← Sum.inl.inj e]
          have g1 := GT_tr g0 (GT_tok (b := b) g0.2.2)
          exact GT_tr g1 (rWhole_g g1.2.2 hv)
      · split at e
        · obtain ⟨k', hk, e⟩ := sb_inv e
          rw [(rOpen_t hk).1] at e
          generalize tok b n k.2.2 = k1 at g0 e
          unfold rSeen at e
          obtain ⟨c, hc, e⟩ := sb_inv e
          obtain ⟨k2, h2, e⟩ := sb_inv e
          split at e
          · cases e
          · obtain ⟨m, hm, e⟩ := sb_inv e
            obtain ⟨k4, h4, e⟩ := sb_inv e
            obtain ⟨v, hv, e⟩ := sb_inv e
            rw [← Sum.inl.inj e]
            have g1 := GT_tr g0 (GT_tok (b := b) g0.2.2)
            have g2 := GT_tr g1 (rWord_g g1.2.2 h2)
            have g3 := GT_tr g2 (rWhole_g g2.2.2 hm)
            have g4 := GT_tr g3 (rWord_g g3.2.2 h4)
            exact GT_tr g4 (rWhole_g g4.2.2 hv)
        · cases e
theorem RdM_K {I : Nat → Nat → Int} {b : Nat → Nat} {n : Nat} {s : PSt} (R : RP I b n (Sum.inl s)) : MK I b n s.2.2 := by
  have R : RdM I b n s := R
  exact R.2.2.2.1
section
variable {t u : Nat} {I J : Nat → Nat → Int} {b : Nat → Nat} {n : Nat} {k : Tk} {T : Tt} {nm : Nat → List Nat}
theorem m_begins (R : RdM I b n (T, nm, k)) (room : Bool) {i : Nat} (hi : i < 12) {rv : Int} (hr : rv = if room = true then 1 else 0) : (¬ isWd b k (1000 + i) = true → q_E (202, 0, [vr 265, vr (1000 + i), vi rv], []) (qk t u I J) = some (vi 0, qk t u I J)) ∧ (isWd b k (1000 + i) = true → ∃ I', q_E (202, 0, [vr 265, vr (1000 + i), vi rv], []) (qk t u I J) = some (vi 1, qk t u I' J) ∧ (match rOpen b n room T k with | Sum.inl k' => MK I' b n k' ∧ NF I I' | Sum.inr f => BD I' f ∧ NW I I')) := by
  obtain ⟨F, B, N, K, g, g9, g24⟩ := R
  simp only at F B N K g24
  have w := m_isWord (t := t) (u := u) (J := J) K g hi
  constructor
  · intro h
    rw [if_neg h] at w
    rw [e202_0, w, q_bi_s, e202_5, if_pos rfl]
  · intro h
    rw [if_pos h] at w
    rw [e202_0, w, q_bi_s, e202_5, if_neg (show ¬ (1 : Int) = 0 by decide)]
    unfold rOpen
    cases room with
    | true =>
      have hr : rv = 1 := hr
      subst hr
      rw [if_neg (show ¬ (1 : Int) = 0 by decide), if_pos (show true = true from rfl), e202_23_9, g24]
      by_cases q : tH T = 0
      · rw [if_pos q, if_pos rfl, if_pos q, K.2.2.1, m_wrong g, q_bv_s, e202_40_9, m_pass_b Wm_13, q_bv_s, e202_44_9]
        exact ⟨_, rfl, BD_w (f := (6, k.2.1)), NW_w⟩
      · rw [if_neg q, if_neg (by decide), if_neg q, e202_40_9]
        obtain ⟨I1, x1, x2, x3⟩ := m_pass (t := t) (u := u) (J := J) K g
        rw [x1, q_bv_s, e202_44_9]
        exact ⟨_, rfl, x2, x3⟩
    | false =>
      have hr : rv = 0 := hr
      subst hr
      rw [if_pos (show (0 : Int) = 0 from rfl), if_neg (show ¬ false = true by decide), K.2.2.1, m_wrong g, q_bv_s, e202_23_9]
      have e : (if Wm I 5 (k.2.1 : Int) 265 24 = 0 then q_bv (q_E (189, 0, [vr 265, vi 6, vi (Wm I 5 (k.2.1 : Int) 265 4)], []) (qk t u (Wm I 5 (k.2.1 : Int)) J)) (fun M1 => q_E (202, 40, [vr 265, vr (1000 + i), vi 0], []) M1) else q_E (202, 40, [vr 265, vr (1000 + i), vi 0], []) (qk t u (Wm I 5 (k.2.1 : Int)) J)) = q_E (202, 40, [vr 265, vr (1000 + i), vi 0], []) (qk t u (Wm I 5 (k.2.1 : Int)) J) := by
        split
        · rw [m_wrong_b Wm_13, q_bv_s]
        · rfl
      rw [e, e202_40_9, m_pass_b Wm_13, q_bv_s, e202_44_9]
      exact ⟨_, rfl, BD_w (f := (5, k.2.1)), NW_w⟩
theorem m_readLine {s : PSt} (R : RdM I b n s) (p : PTk s.1) : ∃ I', q_E (203, 0, [vr 265], []) (qk t u I J) = some (vu, qk t u I' J) ∧ RP I' b n (rLine b n s) ∧ RFm I I' := by
  obtain ⟨T, nm, k⟩ := s
  simp only at p
  have R0 := R
  obtain ⟨F, B, N, K, g, g9, g24⟩ := R
  simp only at F B N K g24
  have w0 : q_E (190, 0, [vr 265, vr 1000, vu, vu], []) (qk t u I J) = some (vi (if isWd b k 1000 = true then 1 else 0), qk t u I J) := m_isWord (t := t) (u := u) (J := J) K g (i := 0) (by omega)
  unfold rLine
  simp only
  rw [e203_0, w0, q_bi_s, e203_6]
  by_cases q0 : isWd b k 1000 = true
  · rw [if_pos q0, if_pos q0, if_neg (by decide)]
    obtain ⟨I1, x1, x2, x3⟩ := m_storeLine (t := t) (u := u) (J := J) R0
    rw [x1, q_bv_s, e203_13, e203_105_9]
    exact ⟨I1, rfl, x2, x3⟩
  · rw [if_neg q0, if_neg q0, if_pos rfl]
    have cC : (if I 269 2 < 4 then q_bi (q_E (202, 0, [vr 265, vr 1003, vi 1], []) (qk t u I J)) (fun z M1 => q_E (203, 37, [vr 265], [vi z]) M1) else q_bi (q_E (202, 0, [vr 265, vr 1003, vi 0], []) (qk t u I J)) (fun z M1 => q_E (203, 37, [vr 265], [vi z]) M1)) = q_bi (q_E (202, 0, [vr 265, vr 1003, vi (if decide (tC T < 4) = true then 1 else 0)], []) (qk t u I J)) (fun z M1 => q_E (203, 37, [vr 265], [vi z]) M1) := by
      rw [F.2.2.1]
      by_cases y : tC T < 4
      · rw [if_pos (by omega), if_pos (decide_eq_true y)]
      · rw [if_neg (by omega), if_neg (fun z => y (of_decide_eq_true z))]
    rw [cC]
    obtain ⟨b3n, b3y⟩ := m_begins (t := t) (u := u) (J := J) R0 (decide (tC T < 4)) (i := 3) (by omega) rfl
    rw [show (1000 + 3 : Nat) = 1003 from rfl] at b3n b3y
    by_cases q3 : isWd b k 1003 = true
    · rw [if_pos q3]
      obtain ⟨I1, x1, x2⟩ := b3y q3
      rw [x1, q_bi_s, e203_37, if_neg (by decide)]
      cases ho : rOpen b n (decide (tC T < 4)) T k with
      | inr f =>
        rw [ho] at x2
        rw [sb_r, m_cellarLine_b x2.1.1, q_bv_s, e203_44, e203_105_9]
        exact ⟨I1, rfl, x2.1, RFm_nw x2.2⟩
      | inl k' =>
        rw [ho] at x2
        obtain ⟨o1, o2, o3⟩ := rOpen_t ho
        rw [sb_l]
        obtain ⟨I2, y1, y2, y3⟩ := m_cellarLine (t := t) (u := u) (J := J) (RdM_nf R0 x2.2 x2.1) (PTk_h p o2) (of_decide_eq_true o3)
        rw [y1, q_bv_s, e203_44, e203_105_9]
        exact ⟨I2, rfl, y2, RFm_tr (RFm_nf x2.2) y3⟩
    · rw [if_neg q3, b3n q3, q_bi_s, e203_37, if_pos rfl]
      obtain ⟨b4n, b4y⟩ := m_begins (t := t) (u := u) (J := J) R0 true (i := 4) (by omega) (rv := 1) rfl
      rw [show (1000 + 4 : Nat) = 1004 from rfl] at b4n b4y
      by_cases q4 : isWd b k 1004 = true
      · rw [if_pos q4]
        obtain ⟨I1, x1, x2⟩ := b4y q4
        rw [x1, q_bi_s, e203_54, if_neg (by decide)]
        cases ho : rOpen b n true T k with
        | inr f =>
          rw [ho] at x2
          have u4 : tU T ≤ 4 := p.elim (fun z => z.2.2.2.2.2.2.2.1) (fun z => by have := z.2.2.2.1; omega)
          rw [sb_r, m_unsureLine_b u4 x2.1.1 (by rw [x2.2.1 269 (by omega) (by omega)]; exact F.2.2.2.1), q_bv_s, e203_61, e203_105_9]
          exact ⟨I1, rfl, x2.1, RFm_nw x2.2⟩
        | inl k' =>
          rw [ho] at x2
          obtain ⟨o1, o2, o3⟩ := rOpen_t ho
          rw [sb_l]
          obtain ⟨I2, y1, y2, y3⟩ := m_unsureLine (t := t) (u := u) (J := J) (RdM_nf R0 x2.2 x2.1) (PTk_h p o2)
          rw [y1, q_bv_s, e203_61, e203_105_9]
          exact ⟨I2, rfl, y2, RFm_tr (RFm_nf x2.2) y3⟩
      · rw [if_neg q4, b4n q4, q_bi_s, e203_54, if_pos rfl]
        have cE : (if I 269 4 < 6 then q_bi (q_E (202, 0, [vr 265, vr 1005, vi 1], []) (qk t u I J)) (fun z M1 => q_E (203, 86, [vr 265], [vi z]) M1) else q_bi (q_E (202, 0, [vr 265, vr 1005, vi 0], []) (qk t u I J)) (fun z M1 => q_E (203, 86, [vr 265], [vi z]) M1)) = q_bi (q_E (202, 0, [vr 265, vr 1005, vi (if decide (tE T < 6) = true then 1 else 0)], []) (qk t u I J)) (fun z M1 => q_E (203, 86, [vr 265], [vi z]) M1) := by
          rw [F.2.2.2.2.1]
          by_cases y : tE T < 6
          · rw [if_pos (by omega), if_pos (decide_eq_true y)]
          · rw [if_neg (by omega), if_neg (fun z => y (of_decide_eq_true z))]
        rw [cE]
        obtain ⟨b5n, b5y⟩ := m_begins (t := t) (u := u) (J := J) R0 (decide (tE T < 6)) (i := 5) (by omega) rfl
        rw [show (1000 + 5 : Nat) = 1005 from rfl] at b5n b5y
        by_cases q5 : isWd b k 1005 = true
        · rw [if_pos q5]
          obtain ⟨I1, x1, x2⟩ := b5y q5
          rw [x1, q_bi_s, e203_86, if_neg (by decide)]
          cases ho : rOpen b n (decide (tE T < 6)) T k with
          | inr f =>
            rw [ho] at x2
            rw [sb_r, m_seenLine_b x2.1.1, q_bv_s, e203_93, e203_105_9]
            exact ⟨I1, rfl, x2.1, RFm_nw x2.2⟩
          | inl k' =>
            rw [ho] at x2
            obtain ⟨o1, o2, o3⟩ := rOpen_t ho
            rw [sb_l]
            obtain ⟨I2, y1, y2, y3⟩ := m_seenLine (t := t) (u := u) (J := J) (RdM_nf R0 x2.2 x2.1) (PTk_h p o2) (of_decide_eq_true o3)
            rw [y1, q_bv_s, e203_93, e203_105_9]
            exact ⟨I2, rfl, y2, RFm_tr (RFm_nf x2.2) y3⟩
        · rw [if_neg q5, b5n q5, q_bi_s, e203_86, if_pos rfl, K.2.2.1, m_wrong g, q_bv_s, e203_105_9]
          exact ⟨_, rfl, BD_w (f := (1, k.2.1)), RFm_nw NW_w⟩
/-- lines, one after the other -/
theorem m_lines : ∀ (f : Nat) (s : PSt) (I1 : Nat → Nat → Int), RdM I1 b n s → PTk s.1 → (s.2.2.1 = 3 → n < s.2.2.2.2 + f) → ∃ I', q_E (201, 103, [vr 265, vu, vu], []) (qk t u I1 J) = q_E (201, 130, [vr 265, vu, vu], []) (qk t u I' J) ∧ RP I' b n (rLoop b n f s) ∧ RFm I1 I' ∧ (∀ s', rLoop b n f s = Sum.inl s' → s'.2.2.1 ≠ 3) := by
  intro f
  induction f with
  | zero =>
    intro s I1 R p hm
    have K : MK I1 b n s.2.2 := R.2.2.2.1
    have bb := MK_b K
    have n3 : s.2.2.1 ≠ 3 := fun z => by have := hm z; omega
    rw [e201_103, R.2.2.2.2.1, if_pos rfl, K.2.1, if_neg (fun z => n3 (tkM_59.mp z))]
    unfold rLoop
    exact ⟨I1, rfl, R, RFm_rf, fun s' h => by rw [← Sum.inl.inj h]; exact n3⟩
  | succ f ih =>
    intro s I1 R p hm
    have K : MK I1 b n s.2.2 := R.2.2.2.1
    have bb := MK_b K
    have g := R.2.2.2.2.1
    rw [e201_103, g, if_pos rfl, K.2.1]
    unfold rLoop
    by_cases q : s.2.2.1 = 3
    · rw [if_pos (tkM_59.mpr q), if_pos q]
      obtain ⟨I2, x1, x2, x3⟩ := m_nextk (t := t) (u := u) (J := J) K
      obtain ⟨T, nm, k⟩ := s
      simp only at p q hm bb x2 ⊢
      have R2 : RdM I2 b n (T, nm, tok b n k.2.2) := RdM_nf R x3 x2
      obtain ⟨I3, y1, y2, y3⟩ := m_readLine (t := t) (u := u) (J := J) R2 p
      rw [x1, q_bv_s, e201_123, y1, q_bv_s, e201_127]
      have g0 : GT n k.2.2 (tok b n k.2.2) := GT_tok bb.2.1
      cases hl : rLine b n (T, nm, tok b n k.2.2) with
      | inr e =>
        rw [hl] at y2
        have y2 : BD I3 e := y2
        rw [sb_r]
        refine ⟨I3, ?_, y2, RFm_tr (RFm_nf x3) y3, fun s' h => by cases h⟩
        rw [e201_103, y2.1, if_neg (by decide)]
      | inl s' =>
        rw [hl] at y2
        rw [sb_l]
        have g1 := GT_tr g0 (rLine_g (s := (T, nm, tok b n k.2.2)) g0.2.2 hl)
        have K3 : MK I3 b n s'.2.2 := RdM_K y2
        obtain ⟨I4, z1, z2, z3, z4⟩ := ih s' I3 y2 (rLine_ok (s := (T, nm, tok b n k.2.2)) p hl) (fun h3 => by
          have := hm q
          obtain ⟨e, he, hk⟩ := K3.2.2.2.2.1
          have t1 := (tok_b b he).2.2.2.1
          rw [← hk] at t1
          have := t1 (by omega)
          have := g1.1
          omega)
        exact ⟨I4, z1, z2, RFm_tr (RFm_nf x3) (RFm_tr y3 z3), z4⟩
    · rw [if_neg (fun z => q (tkM_59.mp z)), if_neg q]
      exact ⟨I1, rfl, R, RFm_rf, fun s' h => by rw [← Sum.inl.inj h]; exact q⟩
/-- a whole text -/
theorem m_readAll {x1 x2 : Int} (R : RdM I b n (T0, (fun _ => []), tok b n 0)) : ∃ I', q_E (201, 99, [vr 265, vi x1, vi x2], []) (qk t u I J) = q_E (201, 186, [vr 265, vu, vu], []) (qk t u I' J) ∧ RP I' b n (rRead b n (fun _ => [])) ∧ RFm I I' := by
  obtain ⟨I1, x1, x2, x3⟩ := m_readLine (t := t) (u := u) (J := J) R PTk_0
  rw [e201_99, x1, q_bv_s]
  have dn : ∀ (I1 : Nat → Nat → Int) (f : Flt), BD I1 f → q_E (201, 130, [vr 265, vu, vu], []) (qk t u I1 J) = q_E (201, 186, [vr 265, vu, vu], []) (qk t u I1 J) := fun I1 f h => by
    rw [e201_130, h.1, if_neg (by decide), e201_153, h.1, if_neg (by decide)]
  unfold rRead
  cases hl : rLine b n (T0, (fun _ => []), tok b n 0) with
  | inr e =>
    rw [hl] at x2
    have x2 : BD I1 e := x2
    rw [sb_r]
    refine ⟨I1, ?_, x2, x3⟩
    rw [e201_103, x2.1, if_neg (by decide)]
    exact dn I1 e x2
  | inl s =>
    rw [hl] at x2
    rw [sb_l]
    have p := rLine_ok (s := (T0, (fun _ => []), tok b n 0)) PTk_0 hl
    have g0 : GT n 0 (tok b n 0) := GT_tok (Nat.zero_le _)
    have g1 := GT_tr g0 (rLine_g (s := (T0, (fun _ => []), tok b n 0)) g0.2.2 hl)
    have K1 : MK I1 b n s.2.2 := RdM_K x2
    have bb := MK_b K1
    obtain ⟨I2, y1, y2, y3, y4⟩ := m_lines (t := t) (u := u) (J := J) 900 s I1 x2 p (fun h3 => by
      obtain ⟨e, he, hk⟩ := K1.2.2.2.2.1
      have t1 := (tok_b b he).2.2.2.1
      rw [← hk] at t1
      have := t1 (by omega)
      omega)
    rw [y1]
    cases hr : rLoop b n 900 s with
    | inr e =>
      rw [hr] at y2
      rw [sb_r]
      exact ⟨I2, dn I2 e y2, y2, RFm_tr x3 y3⟩
    | inl s' =>
      rw [hr] at y2
      have R2 : RdM I2 b n s' := y2
      have p' := rLoop_ok 900 p hr
      have K2 : MK I2 b n s'.2.2 := R2.2.2.2.1
      have g := R2.2.2.2.2.1
      have c2 : I2 269 2 = (tC s'.1 : Int) := R2.1.2.2.1
      have g24 := R2.2.2.2.2.2.2
      rw [sb_l, e201_130, g, if_pos rfl, K2.2.1]
      by_cases q : s'.2.2.1 = 0
      · rw [if_pos (tkM_0.mpr q), if_pos q, e201_153, g, if_pos rfl, g24, c2]
        by_cases z : tC s'.1 = 0
        · rw [if_pos z]
          have w6 : q_E (201, 176, [vr 265, vu, vu], []) (qk t u I2 J) = q_E (201, 186, [vr 265, vu, vu], []) (qk t u (Wm I2 6 (s'.2.2.2.1 : Int)) J) := by
            rw [e201_176, K2.2.2.1, m_wrong g, q_bv_s]
          refine ⟨Wm I2 6 (s'.2.2.2.1 : Int), ?_, BD_w (f := (6, s'.2.2.2.1)), RFm_tr x3 (RFm_tr y3 (RFm_nw NW_w))⟩
          rw [w6, if_pos (show (tC s'.1 : Int) = 0 by omega)]
          split <;> rfl
        · rw [if_neg z]
          have tk : TOk s'.1 := p'.elim id (fun w => absurd w.2.2.1 z)
          have := tk.1
          rw [if_neg (show ¬ tH s'.1 = 0 by omega), if_neg (show ¬ (1 : Int) = 0 by decide), if_neg (show ¬ (tC s'.1 : Int) = 0 by omega)]
          exact ⟨I2, rfl, R2, RFm_tr x3 y3⟩
      · rw [if_neg (fun z => q (tkM_0.mp z)), if_neg q, K2.2.2.1, m_wrong g, q_bv_s, e201_153, Wm_13, if_neg (by decide)]
        exact ⟨_, rfl, BD_w (f := (1, s'.2.2.2.1)), RFm_tr x3 (RFm_tr y3 (RFm_nw NW_w))⟩
end

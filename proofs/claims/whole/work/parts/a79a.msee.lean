/-! THE MODEL READS: what was seen -/
section
variable {t u : Nat} {I J : Nat → Nat → Int} {b : Nat → Nat} {n : Nat} {k : Tk} {T : Tt} {nm : Nat → List Nat}
theorem m_seen_46b {E : Nat} (hE : E ≤ 6) (g : I 265 13 = 1) (h4 : I 269 4 = (E : Int)) (x1 x2 x3 : Int) : ∀ r j : Nat, j + r = E → q_E (207, 46, [vr 265, vi x1, vi x2, vi x3, vi (j : Int)], []) (qk t u I J) = some (vu, qk t u I J) := by
  intro r
  induction r with
  | zero =>
    intro j hj
    rw [e207_46, h4, if_neg (by omega), m_pass_b g, q_bv_s, e207_117, m_after_b g, q_bi_s, e207_126, e207_128, g, if_neg (by decide)]
  | succ r ih =>
    intro j hj
    rw [e207_46, h4, if_pos (by omega), g, if_neg (by decide), e207_107, wr_of (by omega) (by omega)]
    exact ih (j + 1) (by omega)
theorem m_seen_43b {E : Nat} (hE : E ≤ 6) (g : I 265 13 = 1) (h4 : I 269 4 = (E : Int)) (x1 x2 x3 : Int) : q_E (207, 43, [vr 265, vi x1, vi x2, vi x3, vu], []) (qk t u I J) = some (vu, qk t u I J) := by
  rw [e207_43]
  exact m_seen_46b hE g h4 x1 x2 x3 E 0 (by omega)
theorem m_seen_35b {E : Nat} (hE : E ≤ 6) (g : I 265 13 = 1) (h4 : I 269 4 = (E : Int)) (x1 x2 : Int) : q_E (207, 35, [vr 265, vi x1, vi x2, vu, vu], []) (qk t u I J) = some (vu, qk t u I J) := by
  rw [e207_35, m_numH_b g, q_bi_s, e207_42]
  exact m_seen_43b hE g h4 x1 x2 0
theorem m_seen_25b {E : Nat} (hE : E ≤ 6) (g : I 265 13 = 1) (h4 : I 269 4 = (E : Int)) (x1 x2 : Int) : q_E (207, 25, [vr 265, vi x1, vi x2, vu, vu], []) (qk t u I J) = some (vu, qk t u I J) := by
  rw [e207_25, m_pass_b g, q_bv_s, e207_29, m_must_b g, q_bv_s]
  exact m_seen_35b hE g h4 x1 x2
theorem m_seenLine_b (g : I 265 13 = 1) : q_E (207, 0, [vr 265, vu, vu, vu, vu], []) (qk t u I J) = some (vu, qk t u I J) := by
  rw [e207_0, g, if_neg (by decide)]
/-- a night told: was it told already? -/
theorem m_saw {c m : Nat} (F : FT I T) (hE : tE T ≤ 6) (g : I 265 13 = 0) {p : Int} (k4 : I 265 4 = p) {x1 : Int} : (saw T c m = true → q_E (207, 46, [vr 265, vi x1, vi (c : Int), vi (m : Int), vi 0], []) (qk t u I J) = some (vu, qk t u (Wm I 3 p) J)) ∧ (¬ saw T c m = true → ∀ X, q_E (207, 46, [vr 265, vi x1, vi (c : Int), vi (m : Int), vi (tE T : Int)], []) (qk t u I J) = X → q_E (207, 46, [vr 265, vi x1, vi (c : Int), vi (m : Int), vi 0], []) (qk t u I J) = X) := by
  have f4 := F.2.2.2.2.1
  have f7 := F.2.2.2.2.2.2.2
  have st : ∀ j, j < tE T → (tEc T j = c ∧ tEn T j = m → q_E (207, 46, [vr 265, vi x1, vi (c : Int), vi (m : Int), vi (j : Int)], []) (qk t u I J) = some (vu, qk t u (Wm I 3 p) J)) ∧ (¬ (tEc T j = c ∧ tEn T j = m) → q_E (207, 46, [vr 265, vi x1, vi (c : Int), vi (m : Int), vi (j : Int)], []) (qk t u I J) = q_E (207, 46, [vr 265, vi x1, vi (c : Int), vi (m : Int), vi ((j : Int) + 1)], []) (qk t u I J)) := by
    intro j hj
    obtain ⟨a1, a2, -⟩ := f7 j hj
    constructor
    · intro ⟨q1, q2⟩
      rw [e207_46, f4, if_pos (by omega), if_pos g, wr_of (z := 3 * (j : Int)) (by omega) (by omega), wr_of (z := 17 + 3 * (j : Int)) (by omega) (by omega), if_pos (by omega), tn_17, a1, if_pos (by omega), wr_of (z := 17 + 3 * (j : Int) + 1) (by omega) (by omega), if_pos (by omega), tn_17s, a2, if_pos (by omega), k4, m_wrong g, q_bv_s, e207_107, wr_of (by omega) (by omega)]
      exact m_seen_46b hE Wm_13 (by rw [NW_w.1 269 (by omega) (by omega)]; exact f4) x1 _ _ (tE T - (j + 1)) (j + 1) (by omega)
    · intro q
      rw [e207_46, f4, if_pos (by omega), if_pos g, wr_of (z := 3 * (j : Int)) (by omega) (by omega), wr_of (z := 17 + 3 * (j : Int)) (by omega) (by omega), if_pos (by omega), tn_17, a1]
      by_cases q1 : tEc T j = c
      · rw [if_pos (by omega), wr_of (z := 17 + 3 * (j : Int) + 1) (by omega) (by omega), if_pos (by omega), tn_17s, a2, if_neg (fun z => q ⟨q1, by omega⟩), e207_107, wr_of (by omega) (by omega)]
      · rw [if_neg (by omega), e207_107, wr_of (by omega) (by omega)]
  constructor
  · intro h
    obtain ⟨a, ha, hq⟩ := List.any_eq_true.mp (show (List.range (tE T)).any (fun i => decide (tEc T i = c ∧ tEn T i = m)) = true from h)
    have ha : a < tE T := List.mem_range.mp ha
    have hq : tEc T a = c ∧ tEn T a = m := of_decide_eq_true hq
    have loop : ∀ r j : Nat, j + r = a → q_E (207, 46, [vr 265, vi x1, vi (c : Int), vi (m : Int), vi (j : Int)], []) (qk t u I J) = some (vu, qk t u (Wm I 3 p) J) := by
      intro r
      induction r with
      | zero => intro j hj; rw [show j = a by omega]; exact (st a ha).1 hq
      | succ r ih =>
        intro j hj
        by_cases q : tEc T j = c ∧ tEn T j = m
        · exact (st j (by omega)).1 q
        · rw [(st j (by omega)).2 q]
          exact ih (j + 1) (by omega)
    exact loop a 0 (by omega)
  · intro h X hX
    have ne : ∀ a, a < tE T → ¬ (tEc T a = c ∧ tEn T a = m) := fun a ha z => h (List.any_eq_true.mpr ⟨a, List.mem_range.mpr ha, decide_eq_true z⟩)
    have loop : ∀ r j : Nat, j + r = tE T → q_E (207, 46, [vr 265, vi x1, vi (c : Int), vi (m : Int), vi (j : Int)], []) (qk t u I J) = X := by
      intro r
      induction r with
      | zero => intro j hj; rw [show j = tE T by omega]; exact hX
      | succ r ih =>
        intro j hj
        rw [(st j (by omega)).2 (ne j (by omega))]
        exact ih (j + 1) (by omega)
    exact loop (tE T) 0 (by omega)
theorem m_seenLine (R : RdM I b n (T, nm, k)) (p : TOk T) (h6 : tE T < 6) : ∃ I', q_E (207, 0, [vr 265, vu, vu, vu, vu], []) (qk t u I J) = some (vu, qk t u I' J) ∧ RP I' b n (rSeen b n T nm k) ∧ RFm I I' := by
  obtain ⟨F, B, N, K, g, g9, g24⟩ := R
  simp only at F B N K g24
  have h4 : tC T ≤ 4 := p.2.2.2.1
  have f4 := F.2.2.2.2.1
  have hE : tE T ≤ 6 := by omega
  have ch := m_cellarHere (t := t) (u := u) (J := J) K g N h4
  unfold rSeen
  rw [e207_0, if_pos g, f4, wr_of (z := 3 * (tE T : Int)) (by omega) (by omega), wr_of (by omega) (by omega), e207_20, ch]
  cases hn : rNamed b T nm k with
  | inr f =>
    rw [sb_r]
    simp only
    rw [q_bi_s, e207_24, m_seen_25b hE Wm_13 (by rw [NW_w.1 269 (by omega) (by omega)]; exact f4)]
    exact ⟨_, rfl, BD_w, RFm_nw NW_w⟩
  | inl c =>
    have hc := rNamed_lt hn
    rw [sb_l]
    simp only
    obtain ⟨I1, x1, x2, x3⟩ := m_pass (t := t) (u := u) (J := J) K g
    have g1 : I1 265 13 = 0 := by rw [x3.2 13 (by omega)]; exact g
    rw [q_bi_s, e207_24, e207_25, x1, q_bv_s, e207_29]
    unfold rWord
    by_cases w : isWd b (tok b n k.2.2) 1010 = true
    · rw [if_pos w, sb_l]
      obtain ⟨I2, y1, y2, y3⟩ := m_must_y (t := t) (u := u) (J := J) x2 g1 (i := 10) (by omega) w
      rw [show (1000 + 10 : Nat) = 1010 from rfl] at y1
      have g2 : I2 265 13 = 0 := by rw [y3.2 13 (by omega)]; exact g1
      have e2 : ∀ a, a ≠ 265 → a ≠ 267 → I2 a = I a := fun a h1 h2 => by rw [y3.1 a h1 h2, x3.1 a h1 h2]
      have e2k : ∀ j, j < 4 ∨ 8 < j → I2 265 j = I 265 j := fun j h => by rw [y3.2 j h, x3.2 j h]
      have F2 : FT I2 T := FT_rw F (e2 269 (by omega) (by omega))
      rw [y1, q_bv_s, e207_35, m_numH y2 g2 (lo := 0) (hi := 99) (l := 0) (h := 99) rfl rfl]
      generalize tok b n (tok b n k.2.2).2.2 = k2 at y2 ⊢
      have sw := fun m => m_saw (t := t) (u := u) (J := J) (c := c) (m := m) (x1 := 17 + 3 * (tE T : Int)) F2 hE g2 y2.2.2.1
      cases hr : rWhole b n 0 99 k2 with
      | inr f =>
        simp only
        rw [q_bi_s, e207_42, m_seen_43b hE Wm_13 (by rw [NW_w.1 269 (by omega) (by omega)]; exact F2.2.2.2.2.1)]
        have ns : ¬ (k2.1 = 2 ∧ saw T c (tvl b k2) = true) := fun z => by
          obtain ⟨z1, z2⟩ := z
          obtain ⟨a, ha, hq⟩ := List.any_eq_true.mp (show (List.range (tE T)).any (fun i => decide (tEc T i = c ∧ tEn T i = tvl b k2)) = true from z2)
          have hq : tEc T a = c ∧ tEn T a = tvl b k2 := of_decide_eq_true hq
          have := (p.2.2.2.2.2.2.2.2.2.2.2 a (List.mem_range.mp ha)).2.1
          unfold rWhole at hr
          rw [if_pos z1, if_neg (by omega)] at hr
          cases hr
        rw [if_neg ns, sb_r]
        exact ⟨_, rfl, BD_w, RFm_tr (RFm_nf (NF_tr x3 y3)) (RFm_nw NW_w)⟩
      | inl m =>
        obtain ⟨hm, hm2⟩ := rWhole_t hr
        obtain ⟨l1, l2⟩ := rWhole_ok hr
        have m1 : m.1 = tvl b k2 := by rw [hm]
        simp only
        rw [q_bi_s, e207_42, e207_43]
        by_cases z : saw T c (tvl b k2) = true
        · rw [if_pos ⟨hm2, z⟩, m1, (sw (tvl b k2)).1 z]
          exact ⟨_, rfl, BD_w (f := (3, k2.2.1)), RFm_tr (RFm_nf (NF_tr x3 y3)) (RFm_nw NW_w)⟩
        · rw [if_neg (fun w => z w.2), sb_l, m1]
          obtain ⟨I3, z1, z2, z3⟩ := m_pass (t := t) (u := u) (J := J) y2 g2
          have g3 : I3 265 13 = 0 := by rw [z3.2 13 (by omega)]; exact g2
          have em2 : m.2 = tok b n k2.2.2 := by rw [hm]
          rw [← em2] at z2
          obtain ⟨I4, v⟩ := m_after (t := t) (u := u) (J := J) z2 g3 (i := 11) (by omega) (lo := 0) (hi := 60) (l := 0) (h := 60) rfl rfl
          rw [show (1000 + 11 : Nat) = 1011 from rfl] at v
          have hd : ∀ X, q_E (207, 117, [vr 265, vi (17 + 3 * (tE T : Int)), vi (c : Int), vi (tvl b k2 : Int), vu], []) (qk t u I3 J) = X → q_E (207, 46, [vr 265, vi (17 + 3 * (tE T : Int)), vi (c : Int), vi (tvl b k2 : Int), vi 0], []) (qk t u I2 J) = X := fun X hX => by
            refine (sw (tvl b k2)).2 z X ?_
            rw [e207_46, F2.2.2.2.2.1, if_neg (by omega), z1, q_bv_s]
            exact hX
          have sa : sb (if isWd b m.2 1011 = true then Sum.inl (tok b n m.2.2.2) else Sum.inr (1, m.2.2.1)) (fun k4 => sb (rWhole b n 0 60 k4) fun h => Sum.inl (wSe T c (tvl b k2) h.1, nm, h.2)) = sb (sb (rWord b n 1011 m.2) (fun k1 => rWhole b n 0 60 k1)) (fun h => Sum.inl (wSe T c (tvl b k2) h.1, nm, h.2)) := (sb_sb (rWord b n 1011 m.2) _ _).symm
          show ∃ I', q_E (207, 46, [vr 265, vi (17 + 3 * (tE T : Int)), vi (c : Int), vi (tvl b k2 : Int), vi 0], []) (qk t u I2 J) = some (vu, qk t u I' J) ∧ RP I' b n (sb (if isWd b m.2 1011 = true then Sum.inl (tok b n m.2.2.2) else Sum.inr (1, m.2.2.1)) (fun k4 => sb (rWhole b n 0 60 k4) fun h => Sum.inl (wSe T c (tvl b k2) h.1, nm, h.2))) ∧ RFm I I'
          rw [sa]
          cases ha : sb (rWord b n 1011 m.2) (fun k1 => rWhole b n 0 60 k1) with
          | inr f =>
            rw [ha] at v
            obtain ⟨v1, v2, v3⟩ := v
            rw [sb_r]
            refine ⟨I4, hd _ ?_, v2, RFm_tr (RFm_nf (NF_tr x3 (NF_tr y3 z3))) (RFm_nw v3)⟩
            rw [e207_117, v1, q_bi_s, e207_126, e207_128, v2.1, if_neg (by decide)]
          | inl h =>
            rw [ha] at v
            obtain ⟨v1, v2, v3⟩ := v
            obtain ⟨l3, l4⟩ := sb_ww ha
            rw [sb_l]
            have g4 : I4 265 13 = 0 := by rw [v3.2 13 (by omega)]; exact g3
            have e269 : I4 269 = I 269 := by rw [v3.1 269 (by omega) (by omega), z3.1 269 (by omega) (by omega), e2 269 (by omega) (by omega)]
            have e271 : I4 271 = I 271 := by rw [v3.1 271 (by omega) (by omega), z3.1 271 (by omega) (by omega), e2 271 (by omega) (by omega)]
            have k4 : I4 269 4 = (tE T : Int) := by rw [e269]; exact f4
            have k4' : (uI (uI (uI I4 269 (17 + 3 * tE T) (c : Int)) 269 (17 + 3 * tE T + 1) (tvl b k2 : Int)) 269 (17 + 3 * tE T + 2) (h.1 : Int)) 269 4 = (tE T : Int) := by rw [uI_ne (Or.inr (by omega)), uI_ne (Or.inr (by omega)), uI_ne (Or.inr (by omega))]; exact k4
            generalize hI5 : uI (uI (uI (uI I4 269 (17 + 3 * tE T) (c : Int)) 269 (17 + 3 * tE T + 1) (tvl b k2 : Int)) 269 (17 + 3 * tE T + 2) (h.1 : Int)) 269 4 ((tE T : Int) + 1) = I5
            have e5 : ∀ j, I5 269 j = if j = 4 then (tE T : Int) + 1 else if j = 17 + 3 * tE T + 2 then (h.1 : Int) else if j = 17 + 3 * tE T + 1 then (tvl b k2 : Int) else if j = 17 + 3 * tE T then (c : Int) else I 269 j := by
              intro j
              rw [← hI5, uI_at, uI_at, uI_at, uI_at, e269]
              simp only [true_and]
            have o5 : ∀ a, a ≠ 269 → I5 a = I4 a := fun a h => by rw [← hI5, uI_o1 h, uI_o1 h, uI_o1 h, uI_o1 h]
            have o9 : ∀ j, j ≠ 4 → (j < 17 + 3 * tE T ∨ 17 + 3 * tE T + 2 < j) → I5 269 j = I 269 j := fun j h1 h2 => by rw [e5, if_neg h1, if_neg (by omega), if_neg (by omega), if_neg (by omega)]
            obtain ⟨f0, f1, f2, f3, f4', f5, f6, f7⟩ := F
            have er : ∀ a : Nat, a = 265 → (∀ j, j = 9 ∨ j = 24 → I5 a j = I a j) := fun a ha j hj => by
              subst ha
              rw [o5 265 (by omega), v3.2 j (by omega), z3.2 j (by omega), e2k j (by omega)]
            refine ⟨I5, hd _ ?_, ⟨⟨?_, ?_, ?_, ?_, ?_, fun c' hc' => ?_, fun i hi => ?_, fun i hi => ?_⟩, ?_, ⟨fun c' hc' => ?_, fun c' h1 h2 => ?_⟩, ?_, ?_, ?_, ?_⟩, ?_⟩
            · rw [e207_117, v1, q_bi_s, e207_126, e207_128, if_pos g4, if_pos (by omega), tn_17, e207_143, wr_of (z := 17 + 3 * (tE T : Int) + 1) (by omega) (by omega), if_pos (by omega), tn_17s, e207_152, wr_of (z := 17 + 3 * (tE T : Int) + 2) (by omega) (by omega), if_pos (by omega), tn_17t, e207_162, k4', wr_of (by omega) (by omega), e207_172, hI5]
            · rw [o9 0 (by omega) (by omega)]; exact f0
            · rw [o9 1 (by omega) (by omega)]; exact f1
            · rw [o9 2 (by omega) (by omega)]; exact f2
            · rw [o9 3 (by omega) (by omega)]; exact f3
            · exact (e5 4).trans (if_pos rfl)
            · have hc' : c' < tC T := hc'
              rw [o9 _ (by omega) (by omega)]; exact f5 c' hc'
            · have hi : i < tU T := hi
              have hu4 : tU T ≤ 4 := p.2.2.2.2.2.2.2.1
              rw [o9 _ (by omega) (by omega), o9 _ (by omega) (by omega)]
              exact f6 i hi
            · have hi : i < tE T + 1 := hi
              show I5 269 (17 + 3 * i) = ((updF (tEc T) (tE T) c i : Nat) : Int) ∧ I5 269 (17 + 3 * i + 1) = ((updF (tEn T) (tE T) (tvl b k2) i : Nat) : Int) ∧ I5 269 (17 + 3 * i + 2) = ((updF (tEh T) (tE T) h.1 i : Nat) : Int)
              unfold updF
              by_cases z : i = tE T
              · subst z
                rw [if_pos rfl, if_pos rfl, if_pos rfl]
                refine ⟨?_, ?_, ?_⟩
                · rw [e5, if_neg (by omega), if_neg (by omega), if_neg (by omega), if_pos rfl]
                · rw [e5, if_neg (by omega), if_neg (by omega), if_pos rfl]
                · rw [e5, if_neg (by omega), if_pos rfl]
              · rw [if_neg z, if_neg z, if_neg z, o9 _ (by omega) (by omega), o9 _ (by omega) (by omega), o9 _ (by omega) (by omega)]
                exact f7 i (by omega)
            · exact SnA_rw B (by rw [o5 271 (by omega)]; exact e271)
            · have hc' : c' < tC T := hc'
              obtain ⟨a1, a2, a3, a4⟩ := N.1 c' hc'
              exact ⟨by rw [o9 _ (by omega) (by omega)]; exact a1, a2, a3, fun i hi => by rw [o9 _ (by omega) (by omega)]; exact a4 i hi⟩
            · have h1 : tC T ≤ c' := h1
              rw [o9 _ (by omega) (by omega)]; exact N.2 c' h1 h2
            · exact MK_w v2 (fun j _ => by rw [o5 265 (by omega)]) (o5 266 (by omega)) (o5 267 (by omega))
            · rw [o5 265 (by omega)]; exact g4
            · rw [er 265 rfl 9 (Or.inl rfl)]; exact g9
            · rw [er 265 rfl 24 (Or.inr rfl)]; exact g24
            · rw [← hI5]
              exact RFm_tr (RFm_nf (NF_tr x3 (NF_tr y3 (NF_tr z3 v3)))) (RFm_tr (RFm_r (Or.inl rfl)) (RFm_tr (RFm_r (Or.inl rfl)) (RFm_tr (RFm_r (Or.inl rfl)) (RFm_r (Or.inl rfl)))))
    · rw [if_neg w, sb_r, show (1010 : Nat) = 1000 + 10 from rfl, m_must_n x2 g1 (i := 10) (by omega) w, q_bv_s]
      rw [m_seen_35b hE Wm_13 (by rw [NW_w.1 269 (by omega) (by omega), x3.1 269 (by omega) (by omega)]; exact f4)]
      exact ⟨_, rfl, BD_w (f := (1, (tok b n k.2.2).2.1)), RFm_tr (RFm_nf x3) (RFm_nw NW_w)⟩
end

/-! THE MODEL READS: its lines -/
theorem sb_sb {α β γ : Type} (x : Sum α Flt) (f : α → Sum β Flt) (g : β → Sum γ Flt) : sb (sb x f) g = sb x (fun a => sb (f a) g) := by cases x <;> rfl
def RFm (I I' : Nat → Nat → Int) : Prop := (∀ a, a ≠ 265 → a ≠ 267 → a ≠ 269 → a ≠ 271 → I' a = I a) ∧ ∀ k, k < 4 ∨ (10 < k ∧ k ≠ 13 ∧ k ≠ 24) → I' 265 k = I 265 k
theorem RFm_rf {I : Nat → Nat → Int} : RFm I I := ⟨fun _ _ _ _ _ => rfl, fun _ _ => rfl⟩
theorem RFm_tr {I I1 I2 : Nat → Nat → Int} (a : RFm I I1) (b : RFm I1 I2) : RFm I I2 := ⟨fun c h1 h2 h3 h4 => (b.1 c h1 h2 h3 h4).trans (a.1 c h1 h2 h3 h4), fun k h => (b.2 k h).trans (a.2 k h)⟩
theorem RFm_nw {I I1 : Nat → Nat → Int} (a : NW I I1) : RFm I I1 := ⟨fun c h1 h2 _ _ => a.1 c h1 h2, fun k h => a.2 k (by omega)⟩
theorem RFm_nf {I I1 : Nat → Nat → Int} (a : NF I I1) : RFm I I1 := RFm_nw (NW_nf a)
theorem RFm_r {I : Nat → Nat → Int} {a k : Nat} {v : Int} (h : a = 269 ∨ a = 271) : RFm I (uI I a k v) := ⟨fun c _ _ h3 h4 => uI_o1 (by omega), fun k _ => uI_ne (Or.inl (by omega))⟩
theorem RFm_24 {I : Nat → Nat → Int} {v : Int} : RFm I (uI I 265 24 v) := ⟨fun c h1 _ _ _ => uI_o1 h1, fun k h => uI_ne (Or.inr (by omega))⟩
theorem RFm_fr {I I1 : Nat → Nat → Int} {a lo hi : Nat} (h : FrA a lo hi I I1) (q : a = 269 ∨ a = 271) : RFm I I1 := ⟨fun c _ _ h3 h4 => FrA_o h (by omega), fun k _ => h 265 k (fun z => by omega)⟩
theorem MK_w {I I' : Nat → Nat → Int} {b : Nat → Nat} {n : Nat} {k : Tk} (K : MK I b n k) (h : ∀ j, j < 9 → I' 265 j = I 265 j) (h6 : I' 266 = I 266) (h7 : I' 267 = I 267) : MK I' b n k := by
  obtain ⟨⟨b1, b2, b3⟩, k6, k4, k5, kx, kw, kv⟩ := K
  exact ⟨⟨by rw [h 3 (by omega)]; exact b1, b2, by rw [h6]; exact b3⟩, by rw [h 6 (by omega)]; exact k6, by rw [h 4 (by omega)]; exact k4, by rw [h 5 (by omega)]; exact k5, kx, fun z => by rw [h 8 (by omega), h7]; exact kw z, fun z => by rw [h 7 (by omega)]; exact kv z⟩
theorem MK_r {I : Nat → Nat → Int} {b : Nat → Nat} {n : Nat} {k : Tk} (K : MK I b n k) {a j : Nat} {v : Int} (h : a = 269 ∨ a = 271) : MK (uI I a j v) b n k := MK_w K (fun j _ => uI_ne (Or.inl (by omega))) (uI_o1 (by omega)) (uI_o1 (by omega))
theorem MK_24 {I : Nat → Nat → Int} {b : Nat → Nat} {n : Nat} {k : Tk} (K : MK I b n k) {v : Int} : MK (uI I 265 24 v) b n k := MK_w K (fun j _ => uI_ne (Or.inr (by omega))) (uI_o1 (by omega)) (uI_o1 (by omega))
theorem MK_fr {I I1 : Nat → Nat → Int} {b : Nat → Nat} {n : Nat} {k : Tk} (K : MK I b n k) {a lo hi : Nat} (h : FrA a lo hi I I1) (q : a = 269 ∨ a = 271) : MK I1 b n k := MK_w K (fun j _ => h 265 j (fun z => by omega)) (FrA_o h (by omega)) (FrA_o h (by omega))
/-- what has been told so far -/
def FT (I : Nat → Nat → Int) (T : Tt) : Prop := I 269 0 = (tH T : Int) ∧ I 269 1 = (tS T : Int) ∧ I 269 2 = (tC T : Int) ∧ I 269 3 = (tU T : Int) ∧ I 269 4 = (tE T : Int) ∧ (∀ c, c < tC T → I 269 (5 + c) = (tL T c : Int)) ∧ (∀ i, i < tU T → I 269 (9 + 2 * i) = (tUc T i : Int) ∧ I 269 (9 + 2 * i + 1) = (tUs T i : Int)) ∧ ∀ i, i < tE T → I 269 (17 + 3 * i) = (tEc T i : Int) ∧ I 269 (17 + 3 * i + 1) = (tEn T i : Int) ∧ I 269 (17 + 3 * i + 2) = (tEh T i : Int)
theorem FT_rw {I I1 : Nat → Nat → Int} {T : Tt} (H : FT I T) (h : I1 269 = I 269) : FT I1 T := by
  unfold FT; rw [h]; exact H
def RdM (I : Nat → Nat → Int) (b : Nat → Nat) (n : Nat) (s : PSt) : Prop := FT I s.1 ∧ SnA I 271 0 (tB s.1, 0) ∧ NM I (tC s.1) s.2.1 ∧ MK I b n s.2.2 ∧ I 265 13 = 0 ∧ I 265 9 = 0 ∧ I 265 24 = (if tH s.1 = 0 then 0 else 1)
def RP (I' : Nat → Nat → Int) (b : Nat → Nat) (n : Nat) (R : Sum PSt Flt) : Prop := match R with
  | Sum.inl s => RdM I' b n s
  | Sum.inr f => BD I' f
theorem RdM_nf {I I' : Nat → Nat → Int} {b : Nat → Nat} {n : Nat} {T : Tt} {nm : Nat → List Nat} {k k' : Tk} (R : RdM I b n (T, nm, k)) (h : NF I I') (K : MK I' b n k') : RdM I' b n (T, nm, k') := ⟨FT_rw R.1 (h.1 269 (by omega) (by omega)), SnA_rw R.2.1 (h.1 271 (by omega) (by omega)), NM_rw R.2.2.1 (h.1 269 (by omega) (by omega)), K, by rw [h.2 13 (by omega)]; exact R.2.2.2.2.1, by rw [h.2 9 (by omega)]; exact R.2.2.2.2.2.1, by rw [h.2 24 (by omega)]; exact R.2.2.2.2.2.2⟩
theorem A271 : AId 271 245 := ⟨rfl, rfl, by omega⟩
theorem A269 : AId 269 71 := ⟨rfl, rfl, by omega⟩
theorem k269 : kd 269 = 1 := rfl
theorem l269 : ln 269 = 71 := rfl
theorem tn_9 (n : Nat) : (9 + 2 * (n : Int)).toNat = 9 + 2 * n := by omega
theorem tn_9s (n : Nat) : (9 + 2 * (n : Int) + 1).toNat = 9 + 2 * n + 1 := by omega
theorem tn_17 (n : Nat) : (17 + 3 * (n : Int)).toNat = 17 + 3 * n := by omega
theorem tn_17s (n : Nat) : (17 + 3 * (n : Int) + 1).toNat = 17 + 3 * n + 1 := by omega
theorem tn_17t (n : Nat) : (17 + 3 * (n : Int) + 2).toNat = 17 + 3 * n + 2 := by omega
theorem BD_r {I : Nat → Nat → Int} {f : Flt} (h : BD I f) {k : Nat} {v : Int} : BD (uI I 269 k v) f := ⟨by rw [uI_ne (Or.inl (by omega))]; exact h.1, by rw [uI_ne (Or.inl (by omega))]; exact h.2.1, by rw [uI_ne (Or.inl (by omega))]; exact h.2.2⟩
theorem BD_24 {I : Nat → Nat → Int} {f : Flt} (h : BD I f) {v : Int} : BD (uI I 265 24 v) f := ⟨by rw [uI_ne (Or.inr (by omega))]; exact h.1, by rw [uI_ne (Or.inr (by omega))]; exact h.2.1, by rw [uI_ne (Or.inr (by omega))]; exact h.2.2⟩
theorem rStore_e (b : Nat → Nat) (n : Nat) (T : Tt) (k : Tk) : rStore b n T k = sb (sb (rWord b n 1001 (tok b n k.2.2)) (fun k1 => rWhole b n 2 9 k1)) fun h => sb (sb (rWord b n 1002 h.2) (fun k3 => rWhole b n 0 100 k3)) fun s => Sum.inl (wHS T h.1 s.1, s.2) := by
  unfold rStore
  rw [sb_sb]
  simp only [sb_sb]
theorem sb_ww {b : Nat → Nat} {n s lo hi : Nat} {k : Tk} {x : Nat × Tk} (h : sb (rWord b n s k) (fun k1 => rWhole b n lo hi k1) = Sum.inl x) : lo ≤ x.1 ∧ x.1 ≤ hi := by
  obtain ⟨a, -, h2⟩ := sb_inv h
  exact rWhole_ok h2
section
variable {t u : Nat} {I J : Nat → Nat → Int} {b : Nat → Nat} {n : Nat} {k : Tk} {T : Tt} {nm : Nat → List Nat}
theorem m_storeLine (R : RdM I b n (T, nm, k)) : ∃ I', q_E (204, 0, [vr 265], []) (qk t u I J) = some (vu, qk t u I' J) ∧ RP I' b n (if tH T = 0 then sb (rStore b n T k) (fun x => Sum.inl (x.1, nm, x.2)) else Sum.inr (3, k.2.1)) ∧ RFm I I' := by
  obtain ⟨F, B, N, K, g, g9, g24⟩ := R
  simp only at F B N K g24
  by_cases q : tH T = 0
  · rw [if_pos q] at g24 ⊢
    obtain ⟨I1, x1, x2, x3⟩ := m_nextk (t := t) (u := u) (J := J) K
    have g1 : I1 265 13 = 0 := by rw [x3.2 13 (by omega)]; exact g
    have w1 := m_after (t := t) (u := u) (J := J) x2 g1 (i := 1) (by omega) (lo := 2) (hi := 9) (l := 2) (h := 9) rfl rfl
    rw [show (1000 + 1 : Nat) = 1001 from rfl] at w1
    have e0 : q_E (204, 0, [vr 265], []) (qk t u I J) = q_E (204, 28, [vr 265], []) (qk t u I1 J) := by
      rw [e204_0, if_pos g24, e204_16, if_pos g, x1, q_bv_s]
    rw [e0, e204_28, rStore_e]
    obtain ⟨I2, w⟩ := w1
    cases h1 : sb (rWord b n 1001 (tok b n k.2.2)) (fun k1 => rWhole b n 2 9 k1) with
    | inr f =>
      rw [h1] at w
      obtain ⟨w1, w2, w3⟩ := w
      rw [sb_r, sb_r, w1, q_bi_s, e204_42, if_pos k269, l269, if_pos (by decide)]
      have g2 : (uI I2 269 (Int.toNat 0) 2) 265 13 = 1 := by rw [uI_ne (Or.inl (by omega))]; exact w2.1
      rw [m_after_b g2, q_bi_s, e204_57, if_pos k269, l269, if_pos (by decide), uI_ne (Or.inl (by omega)), g2, if_neg (by decide)]
      exact ⟨_, rfl, BD_24 (BD_r (BD_r w2)), RFm_tr (RFm_nf x3) (RFm_tr (RFm_nw w3) (RFm_tr (RFm_tr (RFm_r (Or.inl rfl)) (RFm_r (Or.inl rfl))) RFm_24))⟩
    | inl x =>
      rw [h1] at w
      obtain ⟨w1, w2, w3⟩ := w
      obtain ⟨l1, l2⟩ := sb_ww h1
      rw [sb_l, w1, q_bi_s, e204_42, if_pos k269, l269, if_pos (by decide)]
      have g2 : (uI I2 269 (Int.toNat 0) (x.1 : Int)) 265 13 = 0 := by rw [uI_ne (Or.inl (by omega)), w3.2 13 (by omega)]; exact g1
      have wb := m_after (t := t) (u := u) (J := J) (MK_r w2 (a := 269) (j := Int.toNat 0) (v := (x.1 : Int)) (Or.inl rfl)) g2 (i := 2) (by omega) (lo := 0) (hi := 100) (l := 0) (h := 100) rfl rfl
      rw [show (1000 + 2 : Nat) = 1002 from rfl] at wb
      obtain ⟨I3, y⟩ := wb
      cases h2 : sb (rWord b n 1002 x.2) (fun k3 => rWhole b n 0 100 k3) with
      | inr f =>
        rw [h2] at y
        obtain ⟨y1, y2, y3⟩ := y
        rw [sb_r, sb_r, y1, q_bi_s, e204_57, if_pos k269, l269, if_pos (by decide), uI_ne (Or.inl (by omega)), y2.1, if_neg (by decide)]
        exact ⟨_, rfl, BD_24 (BD_r y2), RFm_tr (RFm_nf x3) (RFm_tr (RFm_nf w3) (RFm_tr (RFm_r (Or.inl rfl)) (RFm_tr (RFm_nw y3) (RFm_tr (RFm_r (Or.inl rfl)) RFm_24))))⟩
      | inl s =>
        rw [h2] at y
        obtain ⟨y1, y2, y3⟩ := y
        obtain ⟨l3, l4⟩ := sb_ww h2
        have g3 : I3 265 13 = 0 := by rw [y3.2 13 (by omega)]; exact g2
        rw [sb_l, sb_l, y1, q_bi_s, e204_57, if_pos k269, l269, if_pos (by decide), uI_ne (Or.inl (by omega)), g3, if_pos rfl]
        have e269 : I3 269 = uI I 269 0 (x.1 : Int) 269 := by
          rw [y3.1 269 (by omega) (by omega)]
          funext j
          rw [uI_at, uI_at, w3.1 269 (by omega) (by omega), x3.1 269 (by omega) (by omega)]
          rfl
        generalize hI4 : uI (uI I3 269 (Int.toNat 1) (s.1 : Int)) 265 24 1 = I4
        have e4 : ∀ j, I4 269 j = if j = 1 then (s.1 : Int) else if j = 0 then (x.1 : Int) else I 269 j := by
          intro j
          rw [← hI4, uI_ne (Or.inl (by omega)), uI_at, e269, uI_at]
          by_cases z1 : j = 1
          · rw [if_pos ⟨rfl, z1⟩, if_pos z1]
          · rw [if_neg (fun z => z1 z.2), if_neg z1]
            by_cases z0 : j = 0
            · rw [if_pos ⟨rfl, z0⟩, if_pos z0]
            · rw [if_neg (fun z => z0 z.2), if_neg z0]
        have e271 : I4 271 = I 271 := by rw [← hI4, uI_o1 (by omega), uI_o1 (by omega), y3.1 271 (by omega) (by omega), uI_o1 (by omega), w3.1 271 (by omega) (by omega), x3.1 271 (by omega) (by omega)]
        obtain ⟨f0, f1, f2, f3, f4, f5, f6, f7⟩ := F
        have o4 : ∀ j, 2 ≤ j → I4 269 j = I 269 j := fun j hj => by rw [e4, if_neg (by omega), if_neg (by omega)]
        refine ⟨I4, rfl, ⟨⟨?_, ?_, ?_, ?_, ?_, fun c hc => ?_, fun i hi => ?_, fun i hi => ?_⟩, ?_, ⟨fun c hc => ?_, fun c h1 h2 => ?_⟩, ?_, ?_, ?_, ?_⟩, ?_⟩
        · exact (e4 0).trans (by rw [if_neg (by decide), if_pos rfl]; rfl)
        · exact (e4 1).trans (by rw [if_pos rfl]; rfl)
        · rw [o4 2 (by omega)]; exact f2
        · rw [o4 3 (by omega)]; exact f3
        · rw [o4 4 (by omega)]; exact f4
        · rw [o4 _ (by omega)]; exact f5 c hc
        · rw [o4 _ (by omega), o4 _ (by omega)]; exact f6 i hi
        · rw [o4 _ (by omega), o4 _ (by omega), o4 _ (by omega)]; exact f7 i hi
        · exact SnA_rw B e271
        · obtain ⟨a1, a2, a3, a4⟩ := N.1 c hc
          exact ⟨by rw [o4 _ (by omega)]; exact a1, a2, a3, fun i hi => by rw [o4 _ (by omega)]; exact a4 i hi⟩
        · rw [o4 _ (by omega)]; exact N.2 c h1 h2
        · rw [← hI4]; exact MK_24 (MK_r y2 (Or.inl rfl))
        · rw [← hI4, uI_ne (Or.inr (by omega)), uI_ne (Or.inl (by omega))]; exact g3
        · rw [← hI4, uI_ne (Or.inr (by omega)), uI_ne (Or.inl (by omega)), y3.2 9 (by omega), uI_ne (Or.inl (by omega)), w3.2 9 (by omega), x3.2 9 (by omega)]; exact g9
        · rw [← hI4, uI_at, if_pos ⟨rfl, rfl⟩]
          show (1 : Int) = if x.1 = 0 then 0 else 1
          rw [if_neg (by omega)]
        · rw [← hI4]
          exact RFm_tr (RFm_nf x3) (RFm_tr (RFm_nf w3) (RFm_tr (RFm_r (Or.inl rfl)) (RFm_tr (RFm_nf y3) (RFm_tr (RFm_r (Or.inl rfl)) RFm_24))))
  · rw [if_neg q] at g24 ⊢
    rw [e204_0, g24, if_neg (by decide), K.2.2.1, m_wrong g, q_bv_s, e204_16, Wm_13, if_neg (by decide)]
    exact ⟨_, rfl, BD_w (f := (3, k.2.1)), RFm_nw NW_w⟩
/-- an unsure cellar -/
theorem m_unsureLine (R : RdM I b n (T, nm, k)) (p : TOk T) : ∃ I', q_E (206, 0, [vr 265, vu, vu, vu], []) (qk t u I J) = some (vu, qk t u I' J) ∧ RP I' b n (rUnsure b n T nm k) ∧ RFm I I' := by
  obtain ⟨F, B, N, K, g, g9, g24⟩ := R
  simp only at F B N K g24
  have h4 : tC T ≤ 4 := p.2.2.2.1
  have hu4 : tU T ≤ 4 := p.2.2.2.2.2.2.2.1
  have f3 := F.2.2.2.1
  have bad : ∀ (x1 x2 : Int) (I1 : Nat → Nat → Int), I1 265 13 = 1 → I1 269 3 = (tU T : Int) → ∀ r j : Nat, j + r = tU T → q_E (206, 19, [vr 265, vi x1, vi x2, vi (j : Int)], []) (qk t u I1 J) = some (vu, qk t u I1 J) := by
    intro x1 x2 I1 h1 h3 r
    induction r with
    | zero =>
      intro j hj
      rw [e206_19, h3, if_neg (by omega), m_pass_b h1, q_bv_s, e206_70, m_num_b h1, q_bi_s, e206_77, h1, if_neg (by decide)]
    | succ r ih =>
      intro j hj
      rw [e206_19, h3, if_pos (by omega), h1, if_neg (by decide), e206_60, wr_of (by omega) (by omega)]
      exact ih (j + 1) (by omega)
  have ch := m_cellarHere (t := t) (u := u) (J := J) K g N h4
  unfold rUnsure
  rw [e206_0, f3, wr_of (z := 2 * (tU T : Int)) (by omega) (by omega), wr_of (by omega) (by omega), ch]
  cases hn : rNamed b T nm k with
  | inr f =>
    rw [sb_r]
    simp only
    rw [q_bi_s, e206_16]
    have := bad (9 + 2 * (tU T : Int)) 0 (Wm I (f.1 : Int) (f.2 : Int)) Wm_13 (by rw [NW_w.1 269 (by omega) (by omega)]; exact f3) (tU T) 0 (by omega)
    rw [Int.natCast_zero] at this
    rw [this]
    exact ⟨_, rfl, BD_w, RFm_nw NW_w⟩
  | inl c =>
    have hc := rNamed_lt hn
    rw [sb_l]
    simp only
    rw [q_bi_s, e206_16]
    have f6 := F.2.2.2.2.2.2.1
    have loop : ∀ r j : Nat, j + r = tU T → (∀ a, a < j → tUc T a ≠ c) → ∃ I', q_E (206, 19, [vr 265, vi (9 + 2 * (tU T : Int)), vi (c : Int), vi (j : Int)], []) (qk t u I J) = some (vu, qk t u I' J) ∧ RP I' b n (if upl T c < tU T then Sum.inr (3, k.2.1) else sb (rWhole b n 1 9 (tok b n k.2.2)) fun v => Sum.inl (wUn T c v.1, nm, v.2)) ∧ RFm I I' := by
      intro r
      induction r with
      | zero =>
        intro j hj hne
        have e : upl T c = tU T := fsti_eq (Nat.le_refl _) (fun i hi => decide_eq_false (hne i (by omega))) (fun z => by omega)
        have hu : tU T < 4 := by
          rcases Nat.lt_or_ge (tU T) 4 with z | z
          · exact z
          · have := un_4 p (by omega) hc; omega
        rw [if_neg (by omega), e206_19, f3, if_neg (by omega)]
        obtain ⟨I1, x1, x2, x3⟩ := m_pass (t := t) (u := u) (J := J) K g
        have g1 : I1 265 13 = 0 := by rw [x3.2 13 (by omega)]; exact g
        rw [x1, q_bv_s, e206_70]
        obtain ⟨I2, y⟩ := m_num (t := t) (u := u) (J := J) x2 g1 (lo := 1) (hi := 9) (l := 1) (h := 9) rfl rfl
        cases hr : rWhole b n 1 9 (tok b n k.2.2) with
        | inr f =>
          rw [hr] at y
          obtain ⟨y1, y2, y3⟩ := y
          rw [sb_r, y1, q_bi_s, e206_77, y2.1, if_neg (by decide)]
          exact ⟨_, rfl, y2, RFm_tr (RFm_nf x3) (RFm_nw y3)⟩
        | inl v =>
          rw [hr] at y
          obtain ⟨y1, y2, y3⟩ := y
          have g2 : I2 265 13 = 0 := by rw [y3.2 13 (by omega)]; exact g1
          have e269 : I2 269 = I 269 := by rw [y3.1 269 (by omega) (by omega), x3.1 269 (by omega) (by omega)]
          have e271 : I2 271 = I 271 := by rw [y3.1 271 (by omega) (by omega), x3.1 271 (by omega) (by omega)]
          have k3 : I2 269 3 = (tU T : Int) := by rw [e269]; exact f3
          rw [sb_l, y1, q_bi_s, e206_77, if_pos g2, if_pos (by omega), wr_of (z := 9 + 2 * (tU T : Int) + 1) (by omega) (by omega), if_pos (by omega), tn_9, tn_9s, uI_ne (Or.inr (by omega)), uI_ne (Or.inr (by omega)), k3, wr_of (by omega) (by omega)]
          generalize hI4 : uI (uI (uI I2 269 (9 + 2 * tU T) (c : Int)) 269 (9 + 2 * tU T + 1) (v.1 : Int)) 269 3 ((tU T : Int) + 1) = I4
          have e4 : ∀ j, I4 269 j = if j = 3 then (tU T : Int) + 1 else if j = 9 + 2 * tU T + 1 then (v.1 : Int) else if j = 9 + 2 * tU T then (c : Int) else I 269 j := by
            intro j
            rw [← hI4, uI_at, uI_at, uI_at, e269]
            simp only [true_and]
          have o4 : ∀ a, a ≠ 269 → I4 a = I2 a := fun a h => by rw [← hI4, uI_o1 h, uI_o1 h, uI_o1 h]
          have o9 : ∀ j, j ≠ 3 → (j < 9 + 2 * tU T ∨ 9 + 2 * tU T + 1 < j) → I4 269 j = I 269 j := fun j h1 h2 => by rw [e4, if_neg h1, if_neg (by omega), if_neg (by omega)]
          obtain ⟨f0, f1, f2, f3, f4, f5, f6, f7⟩ := F
          refine ⟨I4, rfl, ⟨⟨?_, ?_, ?_, ?_, ?_, fun c' hc' => ?_, fun i hi => ?_, fun i hi => ?_⟩, ?_, ⟨fun c' hc' => ?_, fun c' h1 h2 => ?_⟩, ?_, ?_, ?_, ?_⟩, ?_⟩
          · rw [o9 0 (by omega) (by omega)]; exact f0
          · rw [o9 1 (by omega) (by omega)]; exact f1
          · rw [o9 2 (by omega) (by omega)]; exact f2
          · exact (e4 3).trans (if_pos rfl)
          · rw [o9 4 (by omega) (by omega)]; exact f4
          · have hc' : c' < tC T := hc'
            rw [o9 _ (by omega) (by omega)]; exact f5 c' hc'
          · have hi : i < tU T + 1 := hi
            show I4 269 (9 + 2 * i) = ((updF (tUc T) (tU T) c i : Nat) : Int) ∧ I4 269 (9 + 2 * i + 1) = ((updF (tUs T) (tU T) v.1 i : Nat) : Int)
            unfold updF
            by_cases z : i = tU T
            · subst z
              rw [if_pos rfl, if_pos rfl, e4, e4, if_neg (by omega), if_neg (by omega), if_pos rfl, if_neg (by omega), if_pos rfl]
              exact ⟨rfl, rfl⟩
            · rw [if_neg z, if_neg z, o9 _ (by omega) (by omega), o9 _ (by omega) (by omega)]
              exact f6 i (by omega)
          · have hi : i < tE T := hi
            rw [o9 _ (by omega) (by omega), o9 _ (by omega) (by omega), o9 _ (by omega) (by omega)]
            exact f7 i hi
          · exact SnA_rw B (by rw [o4 271 (by omega)]; exact e271)
          · have hc' : c' < tC T := hc'
            obtain ⟨a1, a2, a3, a4⟩ := N.1 c' hc'
            exact ⟨by rw [o9 _ (by omega) (by omega)]; exact a1, a2, a3, fun i hi => by rw [o9 _ (by omega) (by omega)]; exact a4 i hi⟩
          · have h1 : tC T ≤ c' := h1
            rw [o9 _ (by omega) (by omega)]; exact N.2 c' h1 h2
          · rw [← hI4]; exact MK_r (MK_r (MK_r y2 (Or.inl rfl)) (Or.inl rfl)) (Or.inl rfl)
          · rw [o4 265 (by omega)]; exact g2
          · rw [o4 265 (by omega), y3.2 9 (by omega), x3.2 9 (by omega)]; exact g9
          · rw [o4 265 (by omega), y3.2 24 (by omega), x3.2 24 (by omega)]; exact g24
          · rw [← hI4]
            exact RFm_tr (RFm_nf x3) (RFm_tr (RFm_nf y3) (RFm_tr (RFm_r (Or.inl rfl)) (RFm_tr (RFm_r (Or.inl rfl)) (RFm_r (Or.inl rfl)))))
      | succ r ih =>
        intro j hj hne
        have v := (f6 j (by omega)).1
        rw [e206_19, f3, if_pos (by omega), if_pos g, wr_of (z := 2 * (j : Int)) (by omega) (by omega), wr_of (z := 9 + 2 * (j : Int)) (by omega) (by omega), if_pos (by omega), tn_9, v]
        by_cases q : tUc T j = c
        · have e : upl T c = j := fsti_eq (by omega) (fun i hi => decide_eq_false (hne i hi)) (fun _ => decide_eq_true q)
          have bb := bad (9 + 2 * (tU T : Int)) (c : Int) (Wm I 3 (k.2.1 : Int)) Wm_13 (by rw [NW_w.1 269 (by omega) (by omega)]; exact f3) r (j + 1) (by omega)
          rw [if_pos (by omega), K.2.2.1, m_wrong g, q_bv_s, e206_60, wr_of (by omega) (by omega)]
          rw [if_pos (show upl T c < tU T by omega)]
          exact ⟨_, bb, BD_w (f := (3, k.2.1)), RFm_nw NW_w⟩
        · rw [if_neg (by omega), e206_60, wr_of (by omega) (by omega)]
          exact ih (j + 1) (by omega) (fun a ha => by
            by_cases z : a = j
            · rw [z]; exact q
            · exact hne a (by omega))
    have := loop (tU T) 0 (by omega) (fun a ha => by omega)
    rw [Int.natCast_zero] at this
    exact this
theorem m_unsureLine_b {U : Nat} (hU : U ≤ 4) (g : I 265 13 = 1) (h3 : I 269 3 = (U : Int)) : q_E (206, 0, [vr 265, vu, vu, vu], []) (qk t u I J) = some (vu, qk t u I J) := by
  have bad : ∀ (x1 x2 : Int), ∀ r j : Nat, j + r = U → q_E (206, 19, [vr 265, vi x1, vi x2, vi (j : Int)], []) (qk t u I J) = some (vu, qk t u I J) := by
    intro x1 x2 r
    induction r with
    | zero =>
      intro j hj
      rw [e206_19, h3, if_neg (by omega), m_pass_b g, q_bv_s, e206_70, m_num_b g, q_bi_s, e206_77, g, if_neg (by decide)]
    | succ r ih =>
      intro j hj
      rw [e206_19, h3, if_pos (by omega), g, if_neg (by decide), e206_60, wr_of (by omega) (by omega)]
      exact ih (j + 1) (by omega)
  rw [e206_0, m_cellarHere_b g, q_bi_s, e206_16]
  exact bad _ 0 U 0 (by omega)
end

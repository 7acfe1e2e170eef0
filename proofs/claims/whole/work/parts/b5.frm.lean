/-! THE LAW'S LOOP: both sides answer alike, and what they keep is the same state -/
theorem CInv_kp {S : St} {t u lo hi : Nat} {I I1 : Nat → Nat → Int} (V : CInv S t u I) (K : Kp lo hi I I1) (h1 : 229 ≤ lo) (h2 : hi < 248 ∨ 264 < lo) : CInv S t u I1 := by
  have ht : t + 16 < lo ∨ hi < t := by
    have := V.2.1
    omega
  have n1 : 1 < lo := by omega
  have n2 : 3 < lo := by omega
  have n3 : 4 < lo := by omega
  have n4 : 24 + 9 < lo := by omega
  have n5 : 226 < lo := by omega
  have n6 : 228 < lo := by omega
  obtain ⟨v1, v2, v3, v4, v5, v6, v7, v8, v9, v10, v11⟩ := V
  exact ⟨v1, v2, by rw [K 1 (Or.inl n1)]; exact v3, by rw [K 1 (Or.inl n1)]; exact v4, fun z => by rw [K 1 (Or.inl n1)]; exact v5 z, by rw [K 3 (Or.inl n2)]; exact v6, fun i hi => by rw [K 4 (Or.inl n3)]; exact v7 i hi, TAt_kp v8 K ht, CAt_kp v9 K (Or.inl n4), PAt_kp v10 K (Or.inr n5), fun z => GAt_kp (v11 z) K (Or.inr n6)⟩
theorem CInv_km {S : St} {t u : Nat} {I I1 : Nat → Nat → Int} (V : CInv S t u I) (h : KM I I1) : CInv S t u I1 := CInv_kp (lo := 265) (hi := 282) V h (by decide) (by decide)
theorem MInv_kc {S : St} {I I1 : Nat → Nat → Int} (V : MInv S I) (h : ∀ a, 264 < a → I1 a = I a) : MInv S I1 := by
  obtain ⟨⟨w1, w2, w3, w4, w5⟩, v2, v3, v4, v5, v6, v7, v8, v9, v10⟩ := V
  have e : I1 265 = I 265 := h 265 (by decide)
  exact ⟨⟨w1, by rw [e]; exact w2, MT_rw w3 (h 268 (by decide)), SnA_rw w4 (h 270 (by decide)), SnA_rw w5 (h 272 (by decide))⟩, by rw [e]; exact v2, by rw [e]; exact v3, fun z => by rw [e]; exact v4 z, by rw [e]; exact v5, fun i hi => by rw [h 266 (by decide)]; exact v6 i hi, by rw [e]; exact v7, fun i hi => SnA_rw (v8 i hi) (h 273 (by decide)), by rw [e]; exact v9, fun i hi => SnA_rw (v10 i hi) (h 274 (by decide))⟩
/-- the class's method, then the model's, over the memory that the first left: one answer -/
def q_BB (t u : Nat) (I J : Nat → Nat → Int) (fc fm : qF) (v : qV) : Prop := ∃ t1 u1 I1, q_E fc (qk t u I J) = some (v, qk t1 u1 I1 J) ∧ ∃ I2 J2, q_E fm (qk t1 u1 I1 J) = some (v, qk t1 u1 I2 J2) ∧ (∀ a, 998 ≤ a → I1 a = I a) ∧ (∀ a, 998 ≤ a → I2 a = I a) ∧ ∃ S2, CInv S2 t1 u1 I2 ∧ MInv S2 I2
theorem q_bj {t u : Nat} {I1 J : Nat → Nat → Int} {fm : qF} {v : qV} {tr : Int} (h : ∃ I2, q_E fm (qk t u I1 J) = some (v, qk t u I2 J) ∧ QM tr I1 I2) : ∃ I2 J2, q_E fm (qk t u I1 J) = some (v, qk t u I2 J2) ∧ QM tr I1 I2 := by
  obtain ⟨I2, h⟩ := h
  exact ⟨I2, J, h⟩
theorem q_bq {S : St} {t u : Nat} {I J : Nat → Nat → Int} {fc fm : qF} {v : qV} {tr : Int} (V : CInv S t u I) (W : MInv S I) (h4 : tr ≠ 4) (hc : ∃ I1, q_E fc (qk t u I J) = some (v, qk t u I1 J) ∧ QC tr I I1) (hm : ∀ I1, MInv S I1 → ∃ I2 J2, q_E fm (qk t u I1 J) = some (v, qk t u I2 J2) ∧ QM tr I1 I2) : q_BB t u I J fc fm v := by
  obtain ⟨I1, a1, a2⟩ := hc
  have k := KC_q a2
  have W1 := MInv_kc W k
  obtain ⟨I2, J2, b1, b2⟩ := hm I1 W1
  have k2 := QM_km b2
  exact ⟨t, u, I1, a1, I2, J2, b1, fun a ha => k a (by omega), fun a ha => (k2 a (Or.inr (by omega))).trans (k a (by omega)), _, CInv_km (CInv_q V a2 h4) k2, MInv_q W1 b2 h4⟩
theorem q_bs {t u : Nat} {I J : Nat → Nat → Int} {fc : qF} {v : qV} {S2 : St} (h : ∃ I1, q_E fc (qk t u I J) = some (v, qk t u I1 J) ∧ CInv S2 t u I1 ∧ KC I I1) : ∃ t1 u1 I1, q_E fc (qk t u I J) = some (v, qk t1 u1 I1 J) ∧ CInv S2 t1 u1 I1 ∧ KC I I1 := by
  obtain ⟨I1, h⟩ := h
  exact ⟨t, u, I1, h⟩
theorem q_ba {S S2 : St} {t u : Nat} {I J : Nat → Nat → Int} {fc fm : qF} {v : qV} (W : MInv S I) (hc : ∃ t1 u1 I1, q_E fc (qk t u I J) = some (v, qk t1 u1 I1 J) ∧ CInv S2 t1 u1 I1 ∧ KC I I1) (hm : ∀ (t u : Nat) I1, MInv S I1 → ∃ I2, q_E fm (qk t u I1 J) = some (v, qk t u I2 J) ∧ MInv S2 I2 ∧ KM I1 I2) : q_BB t u I J fc fm v := by
  obtain ⟨t1, u1, I1, a1, a2, k⟩ := hc
  have W1 := MInv_kc W k
  obtain ⟨I2, b1, b2, k2⟩ := hm t1 u1 I1 W1
  exact ⟨t1, u1, I1, a1, I2, J, b1, fun a ha => k a (by omega), fun a ha => (k2 a (Or.inr (by omega))).trans (k a (by omega)), S2, CInv_km a2 k2, b2⟩
theorem q_bf {S : St} {t u : Nat} {I J : Nat → Nat → Int} {fc fm : qF} {v : qV} (V : CInv S t u I) (W : MInv S I) (hc : q_E fc (qk t u I J) = some (v, qk t u I J)) (hm : ∃ I2, q_E fm (qk t u I J) = some (v, qk t u I2 J) ∧ QF I I2) : q_BB t u I J fc fm v := by
  obtain ⟨I2, b1, b2⟩ := hm
  have k2 := QF_km b2
  exact ⟨t, u, I, hc, I2, J, b1, fun _ _ => rfl, fun a ha => k2 a (Or.inr (by omega)), S, CInv_km V k2, MInv_q0 W b2⟩
/-- no query tells of the place -/
theorem q_t2 {c : Prop} [Decidable c] {a b : Int × Int} (ha : a.2 ≠ 4) (hb : b.2 ≠ 4) : (if c then a else b).2 ≠ 4 := by
  by_cases z : c
  · rw [if_pos z]; exact ha
  · rw [if_neg z]; exact hb
theorem q_t0 {x : Int} : ((x, 0) : Int × Int).2 ≠ 4 := show (0 : Int) ≠ 4 by decide
theorem q_t1 {x : Int} : ((x, 1) : Int × Int).2 ≠ 4 := show (1 : Int) ≠ 4 by decide
theorem q_tt {x : Int} : ((x, 2) : Int × Int).2 ≠ 4 := show (2 : Int) ≠ 4 by decide
theorem q_t3 {x : Int} : ((x, 3) : Int × Int).2 ≠ 4 := show (3 : Int) ≠ 4 by decide
theorem f_cellar {S : St} (c w : Int) : (sp_cellar S c w).2 ≠ 4 := by
  unfold sp_cellar
  repeat' (first | exact q_t0 | exact q_t1 | exact q_tt | exact q_t3 | apply q_t2)
theorem f_heap {S : St} (c i : Int) : (sp_heap S c i).2 ≠ 4 := by
  unfold sp_heap
  repeat' (first | exact q_t0 | exact q_t1 | exact q_tt | exact q_t3 | apply q_t2)
theorem f_still {S : St} (c : Int) : (sp_still S c).2 ≠ 4 := by
  unfold sp_still spC
  repeat' (first | exact q_t0 | exact q_t1 | exact q_tt | exact q_t3 | apply q_t2)
theorem f_heaps {S : St} (c n : Int) : (sp_heaps S c n).2 ≠ 4 := by
  unfold sp_heaps spN
  repeat' (first | exact q_t0 | exact q_t1 | exact q_tt | exact q_t3 | apply q_t2)
theorem f_greatest {S : St} (c n : Int) : (sp_greatest S c n).2 ≠ 4 := by
  unfold sp_greatest spN
  repeat' (first | exact q_t0 | exact q_t1 | exact q_tt | exact q_t3 | apply q_t2)
theorem f_heapIn {S : St} (c n i : Int) : (sp_heapIn S c n i).2 ≠ 4 := by
  unfold sp_heapIn
  repeat' (first | exact q_t0 | exact q_t1 | exact q_tt | exact q_t3 | apply q_t2)
theorem f_held {S : St} (c n : Int) : (sp_held S c n).2 ≠ 4 := by
  unfold sp_held spN
  repeat' (first | exact q_t0 | exact q_t1 | exact q_tt | exact q_t3 | apply q_t2)
theorem f_settles {S : St} (c : Int) : (sp_settles S c).2 ≠ 4 := by
  unfold sp_settles spC
  repeat' (first | exact q_t0 | exact q_t1 | exact q_tt | exact q_t3 | apply q_t2)
theorem f_round {S : St} (c : Int) : (sp_round S c).2 ≠ 4 := by
  unfold sp_round spC
  repeat' (first | exact q_t0 | exact q_t1 | exact q_tt | exact q_t3 | apply q_t2)
theorem f_fewest {S : St} (c : Int) : (sp_fewest S c).2 ≠ 4 := by
  unfold sp_fewest spC
  repeat' (first | exact q_t0 | exact q_t1 | exact q_tt | exact q_t3 | apply q_t2)
theorem f_alike {S : St} (c d : Int) : (sp_alike S c d).2 ≠ 4 := by
  unfold sp_alike
  repeat' (first | exact q_t0 | exact q_t1 | exact q_tt | exact q_t3 | apply q_t2)
theorem f_column {S : St} (c j : Int) : (sp_column S c j).2 ≠ 4 := by
  unfold sp_column spN
  repeat' (first | exact q_t0 | exact q_t1 | exact q_tt | exact q_t3 | apply q_t2)
theorem f_square {S : St} (c : Int) : (sp_square S c).2 ≠ 4 := by
  unfold sp_square spC
  repeat' (first | exact q_t0 | exact q_t1 | exact q_tt | exact q_t3 | apply q_t2)
theorem f_corners {S : St} (c : Int) : (sp_corners S c).2 ≠ 4 := by
  unfold sp_corners spC
  repeat' (first | exact q_t0 | exact q_t1 | exact q_tt | exact q_t3 | apply q_t2)
theorem f_rank {S : St} (c : Int) : (sp_rank S c).2 ≠ 4 := by
  unfold sp_rank
  repeat' (first | exact q_t0 | exact q_t1 | exact q_tt | exact q_t3 | apply q_t2)
theorem f_hook {S : St} (c i j : Int) : (sp_hook S c i j).2 ≠ 4 := by
  unfold sp_hook
  repeat' (first | exact q_t0 | exact q_t1 | exact q_tt | exact q_t3 | apply q_t2)
theorem f_orders {S : St} (c : Int) : (sp_orders S c).2 ≠ 4 := by
  unfold sp_orders
  repeat' (first | exact q_t0 | exact q_t1 | exact q_tt | exact q_t3 | apply q_t2)
theorem f_common {S : St} (c d : Int) : (sp_common S c d).2 ≠ 4 := by
  unfold sp_common
  repeat' (first | exact q_t0 | exact q_t1 | exact q_tt | exact q_t3 | apply q_t2)
theorem f_mirrors {S : St} (c d : Int) : (sp_mirrors S c d).2 ≠ 4 := by
  unfold sp_mirrors
  repeat' (first | exact q_t0 | exact q_t1 | exact q_tt | exact q_t3 | apply q_t2)
theorem f_sources {S : St} (c : Int) : (sp_sources S c).2 ≠ 4 := by
  unfold sp_sources spC
  repeat' (first | exact q_t0 | exact q_t1 | exact q_tt | exact q_t3 | apply q_t2)
theorem f_source {S : St} (c k i : Int) : (sp_source S c k i).2 ≠ 4 := by
  unfold sp_source
  repeat' (first | exact q_t0 | exact q_t1 | exact q_tt | exact q_t3 | apply q_t2)
theorem f_ways {S : St} (n : Int) : (sp_ways S n).2 ≠ 4 := by
  unfold sp_ways spW
  repeat' (first | exact q_t0 | exact q_t1 | exact q_tt | exact q_t3 | apply q_t2)
theorem f_waysBy {S : St} (n k : Int) : (sp_waysBy S n k).2 ≠ 4 := by
  unfold sp_waysBy
  repeat' (first | exact q_t0 | exact q_t1 | exact q_tt | exact q_t3 | apply q_t2)
theorem f_waysUnlike {S : St} (n : Int) : (sp_waysUnlike S n).2 ≠ 4 := by
  unfold sp_waysUnlike spW
  repeat' (first | exact q_t0 | exact q_t1 | exact q_tt | exact q_t3 | apply q_t2)
theorem f_eats {S : St} (c : Int) : (sp_eats S c).2 ≠ 4 := by
  unfold sp_eats spC
  repeat' (first | exact q_t0 | exact q_t1 | exact q_tt | exact q_t3 | apply q_t2)
theorem f_eatsOf {S : St} (c : Int) : (sp_eatsOf S c).2 ≠ 4 := by
  unfold sp_eatsOf spC
  repeat' (first | exact q_t0 | exact q_t1 | exact q_tt | exact q_t3 | apply q_t2)
theorem f_eatsMany {S : St} (c : Int) : (sp_eatsMany S c).2 ≠ 4 := by
  unfold sp_eatsMany spC
  repeat' (first | exact q_t0 | exact q_t1 | exact q_tt | exact q_t3 | apply q_t2)
theorem f_carry {S : St} (c : Int) : (sp_carry S c).2 ≠ 4 := by
  unfold sp_carry spC
  repeat' (first | exact q_t0 | exact q_t1 | exact q_tt | exact q_t3 | apply q_t2)
theorem f_level {S : St} (c : Int) : (sp_level S c).2 ≠ 4 := by
  unfold sp_level spC
  repeat' (first | exact q_t0 | exact q_t1 | exact q_tt | exact q_t3 | apply q_t2)
theorem f_makes {S : St} (c k : Int) : (sp_makes S c k).2 ≠ 4 := by
  unfold sp_makes spN
  repeat' (first | exact q_t0 | exact q_t1 | exact q_tt | exact q_t3 | apply q_t2)
theorem f_half {S : St} (c : Int) : (sp_half S c).2 ≠ 4 := by
  unfold sp_half spC
  repeat' (first | exact q_t0 | exact q_t1 | exact q_tt | exact q_t3 | apply q_t2)
theorem f_fits {S : St}  : (sp_fits S).2 ≠ 4 := by
  unfold sp_fits spS
  repeat' (first | exact q_t0 | exact q_t1 | exact q_tt | exact q_t3 | apply q_t2)
theorem f_fitAt {S : St} (i : Int) : (sp_fitAt S i).2 ≠ 4 := by
  unfold sp_fitAt
  repeat' (first | exact q_t0 | exact q_t1 | exact q_tt | exact q_t3 | apply q_t2)
theorem f_could {S : St}  : (sp_could S).2 ≠ 4 := by
  unfold sp_could spS
  repeat' (first | exact q_t0 | exact q_t1 | exact q_tt | exact q_t3 | apply q_t2)
theorem f_surely {S : St}  : (sp_surely S).2 ≠ 4 := by
  unfold sp_surely spS
  repeat' (first | exact q_t0 | exact q_t1 | exact q_tt | exact q_t3 | apply q_t2)
theorem f_ask {S : St}  : (sp_ask S).2 ≠ 4 := by
  unfold sp_ask spS
  repeat' (first | exact q_t0 | exact q_t1 | exact q_tt | exact q_t3 | apply q_t2)
theorem f_askLeaves {S : St}  : (sp_askLeaves S).2 ≠ 4 := by
  unfold sp_askLeaves spS
  repeat' (first | exact q_t0 | exact q_t1 | exact q_tt | exact q_t3 | apply q_t2)
theorem f_judge {S : St}  : (sp_judge S).2 ≠ 4 := by
  unfold sp_judge spS
  repeat' (first | exact q_t0 | exact q_t1 | exact q_tt | exact q_t3 | apply q_t2)
theorem f_comes {S : St} (cheese : Int) (s m o : Bool) : (sp_comes S cheese s m o).2 ≠ 4 := by
  unfold sp_comes
  repeat' (first | exact q_t0 | exact q_t1 | exact q_tt | exact q_t3 | apply q_t2)
theorem f_rests {S : St} (n : Int) : (sp_rests S n).2 ≠ 4 := by
  unfold sp_rests spW
  repeat' (first | exact q_t0 | exact q_t1 | exact q_tt | exact q_t3 | apply q_t2)
theorem f_rest {S : St} (n : Int) : (sp_rest S n).2 ≠ 4 := by
  unfold sp_rest spW
  repeat' (first | exact q_t0 | exact q_t1 | exact q_tt | exact q_t3 | apply q_t2)
theorem f_odds {S : St} (c n m : Int) (l : Bool) : (sp_odds S c n m l).2 ≠ 4 := by
  unfold sp_odds
  repeat' (first | exact q_t0 | exact q_t1 | exact q_tt | exact q_t3 | apply q_t2)
theorem f_mean {S : St} (c n : Int) (l : Bool) : (sp_mean S c n l).2 ≠ 4 := by
  unfold sp_mean
  repeat' (first | exact q_t0 | exact q_t1 | exact q_tt | exact q_t3 | apply q_t2)
theorem f_drawn {S : St} (c s n : Int) : (sp_drawn S c s n).2 ≠ 4 := by
  unfold sp_drawn
  repeat' (first | exact q_t0 | exact q_t1 | exact q_tt | exact q_t3 | apply q_t2)
/-- steps of the law -/
def q_SG (l : Launch) (WW : qF → qM → Prop) : Prop := ∀ (n : Nat) (C : List Nat) (f : qF) (M : qM), f.1 = q_LAW → M.1 = q_NX → q_itW l WW (fun v => v = vi 1) n C f M → WW f M
def q_IB (I : Nat → Nat → Int) (i : Int) : Prop := ∀ p : Int, 1 ≤ p → p ≤ 5 → 0 ≤ wr (i + p) ∧ wr (i + p) < I 998 0
def q_RB (I : Nat → Nat → Int) : Prop := ∀ j, -2147483648 ≤ I 999 j ∧ I 999 j ≤ 2147483647
def q_NN (WW : qF → qM → Prop) (I : Nat → Nat → Int) (i : Int) : Prop := ∀ (S' : St) (t' u' : Nat) (I' J' : Nat → Nat → Int), CInv S' t' u' I' → MInv S' I' → (∀ a, 998 ≤ a → I' a = I a) → WW (303, 23, [vr 999, vr 1, vr 265, vr 283, vi (wr (i + 6)), vu, vu], []) (qk t' u' I' J')
theorem q_bit {x : Int} {P : qV → Prop} (h : P (vi (if decide (x ≠ 0) = true then 1 else 0))) : if x = 0 then P (vi 0) else P (vi 1) := by
  by_cases z : x = 0
  · rw [if_pos z]
    rw [if_neg (by rw [decide_eq_true_iff]; exact fun q => q z)] at h
    exact h
  · rw [if_neg z]
    rw [if_pos (decide_eq_true z)] at h
    exact h
theorem q_2128 {l : Launch} {WW : qF → qM → Prop} {S2 : St} {t u : Nat} {I I2 J2 : Nat → Nat → Int} {i : Int} (hSG : q_SG l WW) (_hI : q_IB I i) (e2 : ∀ a, 998 ≤ a → I2 a = I a) (V2 : CInv S2 t u I2) (W2 : MInv S2 I2) (hN : q_NN WW I i) : WW (303, 2128, [vr 999, vr 1, vr 265, vr 283, vi i, vu, vu], []) (qk t u I2 J2) := by
  refine hSG 2 [] _ _ rfl rfl ?_
  show WW (303, 23, [vr 999, vr 1, vr 265, vr 283, vi (wr (i + 6)), vu, vu], []) (qk t u I2 J2)
  exact hN S2 t u I2 J2 V2 W2 e2

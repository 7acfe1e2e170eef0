/-! the law's cases, 1 -/
theorem g_288 {l : Launch} {WW : qF → qM → Prop} {t u : Nat} {I I1 J1 : Nat → Nat → Int} {i : Int} (hSG : q_SG l WW) (he : ∀ a, 998 ≤ a → I1 a = I a) (hI : q_IB I i) (h : (102 ≠ q_LED ∧ ∃ v M1, q_Met l false 102 [vr 1, vi (I 999 (wr (i + 1)).toNat), vi (I 999 (wr (i + 2)).toNat), vi (I 999 (wr (i + 3)).toNat), vi (I 999 (wr (i + 4)).toNat), vi (I 999 (wr (i + 5)).toNat)] (qk t u I1 J1) v M1 ∧ M1.1 = 283 ∧ ((1 : Nat) = 0 → WW (303, 322, [vr 999, vr 1, vr 265, vr 283, vi i, vu, vu], []) M1) ∧ ((1 : Nat) ≠ 0 → WW (303, 322, [vr 999, vr 1, vr 265, vr 283, vi i, vu, vu], [v]) M1))) : WW (303, 288, [vr 999, vr 1, vr 265, vr 283, vi i, vu, vu], []) (qk t u I1 J1) := by
  refine hSG 27 [] _ _ rfl rfl ?_
  have e8 := he 998 (by decide)
  have e9 := he 999 (by decide)
  show (if 0 ≤ wr (i + 1) ∧ wr (i + 1) < I1 998 0 then (if 0 ≤ wr (i + 2) ∧ wr (i + 2) < I1 998 0 then (if 0 ≤ wr (i + 3) ∧ wr (i + 3) < I1 998 0 then (if 0 ≤ wr (i + 4) ∧ wr (i + 4) < I1 998 0 then (if 0 ≤ wr (i + 5) ∧ wr (i + 5) < I1 998 0 then (102 ≠ q_LED ∧ ∃ v M1, q_Met l false 102 [vr 1, vi (I1 999 (wr (i + 1)).toNat), vi (I1 999 (wr (i + 2)).toNat), vi (I1 999 (wr (i + 3)).toNat), vi (I1 999 (wr (i + 4)).toNat), vi (I1 999 (wr (i + 5)).toNat)] (qk t u I1 J1) v M1 ∧ M1.1 = 283 ∧ ((1 : Nat) = 0 → WW (303, 322, [vr 999, vr 1, vr 265, vr 283, vi i, vu, vu], []) M1) ∧ ((1 : Nat) ≠ 0 → WW (303, 322, [vr 999, vr 1, vr 265, vr 283, vi i, vu, vu], [v]) M1)) else False) else False) else False) else False) else False)
  rw [e8, e9, if_pos (hI 1 (by decide) (by decide)), if_pos (hI 2 (by decide) (by decide)), if_pos (hI 3 (by decide) (by decide)), if_pos (hI 4 (by decide) (by decide)), if_pos (hI 5 (by decide) (by decide))]
  exact h
theorem g_322 {l : Launch} {WW : qF → qM → Prop} {t u : Nat} {I I1 J1 : Nat → Nat → Int} {i : Int} {z : Int} (hSG : q_SG l WW) (he : ∀ a, 998 ≤ a → I1 a = I a) (hI : q_IB I i) (h : (184 ≠ q_LED ∧ ∃ v M1, q_Met l false 184 [vr 265, vi (I 999 (wr (i + 1)).toNat), vi (I 999 (wr (i + 2)).toNat), vi (I 999 (wr (i + 3)).toNat), vi (I 999 (wr (i + 4)).toNat), vi (I 999 (wr (i + 5)).toNat)] (qk t u I1 J1) v M1 ∧ M1.1 = 283 ∧ ((1 : Nat) = 0 → WW (303, 356, [vr 999, vr 1, vr 265, vr 283, vi i, vu, vu], [vi z]) M1) ∧ ((1 : Nat) ≠ 0 → WW (303, 356, [vr 999, vr 1, vr 265, vr 283, vi i, vu, vu], [v, vi z]) M1))) : WW (303, 322, [vr 999, vr 1, vr 265, vr 283, vi i, vu, vu], [vi z]) (qk t u I1 J1) := by
  refine hSG 27 [] _ _ rfl rfl ?_
  have e8 := he 998 (by decide)
  have e9 := he 999 (by decide)
  show (if 0 ≤ wr (i + 1) ∧ wr (i + 1) < I1 998 0 then (if 0 ≤ wr (i + 2) ∧ wr (i + 2) < I1 998 0 then (if 0 ≤ wr (i + 3) ∧ wr (i + 3) < I1 998 0 then (if 0 ≤ wr (i + 4) ∧ wr (i + 4) < I1 998 0 then (if 0 ≤ wr (i + 5) ∧ wr (i + 5) < I1 998 0 then (184 ≠ q_LED ∧ ∃ v M1, q_Met l false 184 [vr 265, vi (I1 999 (wr (i + 1)).toNat), vi (I1 999 (wr (i + 2)).toNat), vi (I1 999 (wr (i + 3)).toNat), vi (I1 999 (wr (i + 4)).toNat), vi (I1 999 (wr (i + 5)).toNat)] (qk t u I1 J1) v M1 ∧ M1.1 = 283 ∧ ((1 : Nat) = 0 → WW (303, 356, [vr 999, vr 1, vr 265, vr 283, vi i, vu, vu], [vi z]) M1) ∧ ((1 : Nat) ≠ 0 → WW (303, 356, [vr 999, vr 1, vr 265, vr 283, vi i, vu, vu], [v, vi z]) M1)) else False) else False) else False) else False) else False)
  rw [e8, e9, if_pos (hI 1 (by decide) (by decide)), if_pos (hI 2 (by decide) (by decide)), if_pos (hI 3 (by decide) (by decide)), if_pos (hI 4 (by decide) (by decide)), if_pos (hI 5 (by decide) (by decide))]
  exact h
theorem c_356 {l : Launch} {WW : qF → qM → Prop} {t u : Nat} {I2 J2 : Nat → Nat → Int} {i z : Int} (hSG : q_SG l WW) (h : WW (303, 2128, [vr 999, vr 1, vr 265, vr 283, vi i, vu, vu], []) (qk t u I2 J2)) : WW (303, 356, [vr 999, vr 1, vr 265, vr 283, vi i, vu, vu], [vi z, vi z]) (qk t u I2 J2) := by
  refine hSG 1 [] _ _ rfl rfl ?_
  show (if z = z then WW (303, 2128, [vr 999, vr 1, vr 265, vr 283, vi i, vu, vu], []) (qk t u I2 J2) else WW (303, 359, [vr 999, vr 1, vr 265, vr 283, vi i, vu, vu], []) (qk t u I2 J2))
  rw [if_pos rfl]
  exact h
theorem law_0 {l : Launch} {WW : qF → qM → Prop} {S : St} {t u : Nat} {I J : Nat → Nat → Int} {i : Int} (hJD : q_HJ l) (hOK : q_OK) (hSG : q_SG l WW) (hI : q_IB I i) (hR : q_RB I) (hN : q_NN WW I i) (V : CInv S t u I) (W : MInv S I) : WW (303, 288, [vr 999, vr 1, vr 265, vr 283, vi i, vu, vu], []) (qk t u I J) := by
  have B := q_ba (J := J) W (q_bs (k_feed V (I 999 (wr (i + 1)).toNat) (I 999 (wr (i + 2)).toNat) (I 999 (wr (i + 3)).toNat) (I 999 (wr (i + 4)).toNat) (I 999 (wr (i + 5)).toNat))) (fun t u I1 W1 => m_feed W1 (I 999 (wr (i + 1)).toNat) (I 999 (wr (i + 2)).toNat) (I 999 (wr (i + 3)).toNat) (I 999 (wr (i + 4)).toNat) (I 999 (wr (i + 5)).toNat))
  obtain ⟨t, u, I1, a1, I2, J2, b1, e1, e2, S2, V2, W2⟩ := B
  refine g_288 hSG (fun _ _ => rfl) hI ⟨by decide, _, _, q_MetE hJD hOK a1 (by decide) (by decide) (by decide), rfl, fun z => absurd z (by decide), fun _ => ?_⟩
  refine g_322 hSG e1 hI ⟨by decide, _, _, q_MetE hJD hOK b1 (by decide) (by decide) (by decide), rfl, fun z => absurd z (by decide), fun _ => ?_⟩
  exact c_356 hSG (q_2128 hSG hI e2 V2 W2 hN)
theorem g_361 {l : Launch} {WW : qF → qM → Prop} {t u : Nat} {I I1 J1 : Nat → Nat → Int} {i : Int} (hSG : q_SG l WW) (he : ∀ a, 998 ≤ a → I1 a = I a) (hI : q_IB I i) (h : (103 ≠ q_LED ∧ ∃ v M1, q_Met l false 103 [vr 1, vi (I 999 (wr (i + 1)).toNat)] (qk t u I1 J1) v M1 ∧ M1.1 = 283 ∧ ((1 : Nat) = 0 → WW (303, 371, [vr 999, vr 1, vr 265, vr 283, vi i, vu, vu], []) M1) ∧ ((1 : Nat) ≠ 0 → WW (303, 371, [vr 999, vr 1, vr 265, vr 283, vi i, vu, vu], [v]) M1))) : WW (303, 361, [vr 999, vr 1, vr 265, vr 283, vi i, vu, vu], []) (qk t u I1 J1) := by
  refine hSG 7 [] _ _ rfl rfl ?_
  have e8 := he 998 (by decide)
  have e9 := he 999 (by decide)
  show (if 0 ≤ wr (i + 1) ∧ wr (i + 1) < I1 998 0 then (103 ≠ q_LED ∧ ∃ v M1, q_Met l false 103 [vr 1, vi (I1 999 (wr (i + 1)).toNat)] (qk t u I1 J1) v M1 ∧ M1.1 = 283 ∧ ((1 : Nat) = 0 → WW (303, 371, [vr 999, vr 1, vr 265, vr 283, vi i, vu, vu], []) M1) ∧ ((1 : Nat) ≠ 0 → WW (303, 371, [vr 999, vr 1, vr 265, vr 283, vi i, vu, vu], [v]) M1)) else False)
  rw [e8, e9, if_pos (hI 1 (by decide) (by decide))]
  exact h
theorem g_371 {l : Launch} {WW : qF → qM → Prop} {t u : Nat} {I I1 J1 : Nat → Nat → Int} {i : Int} {z : Int} (hSG : q_SG l WW) (he : ∀ a, 998 ≤ a → I1 a = I a) (hI : q_IB I i) (h : (201 ≠ q_LED ∧ ∃ v M1, q_Met l false 201 [vr 265, vi (I 999 (wr (i + 1)).toNat)] (qk t u I1 J1) v M1 ∧ M1.1 = 283 ∧ ((1 : Nat) = 0 → WW (303, 381, [vr 999, vr 1, vr 265, vr 283, vi i, vu, vu], [vi z]) M1) ∧ ((1 : Nat) ≠ 0 → WW (303, 381, [vr 999, vr 1, vr 265, vr 283, vi i, vu, vu], [v, vi z]) M1))) : WW (303, 371, [vr 999, vr 1, vr 265, vr 283, vi i, vu, vu], [vi z]) (qk t u I1 J1) := by
  refine hSG 7 [] _ _ rfl rfl ?_
  have e8 := he 998 (by decide)
  have e9 := he 999 (by decide)
  show (if 0 ≤ wr (i + 1) ∧ wr (i + 1) < I1 998 0 then (201 ≠ q_LED ∧ ∃ v M1, q_Met l false 201 [vr 265, vi (I1 999 (wr (i + 1)).toNat)] (qk t u I1 J1) v M1 ∧ M1.1 = 283 ∧ ((1 : Nat) = 0 → WW (303, 381, [vr 999, vr 1, vr 265, vr 283, vi i, vu, vu], [vi z]) M1) ∧ ((1 : Nat) ≠ 0 → WW (303, 381, [vr 999, vr 1, vr 265, vr 283, vi i, vu, vu], [v, vi z]) M1)) else False)
  rw [e8, e9, if_pos (hI 1 (by decide) (by decide))]
  exact h
theorem c_381 {l : Launch} {WW : qF → qM → Prop} {t u : Nat} {I2 J2 : Nat → Nat → Int} {i z : Int} (hSG : q_SG l WW) (h : WW (303, 2128, [vr 999, vr 1, vr 265, vr 283, vi i, vu, vu], []) (qk t u I2 J2)) : WW (303, 381, [vr 999, vr 1, vr 265, vr 283, vi i, vu, vu], [vi z, vi z]) (qk t u I2 J2) := by
  refine hSG 1 [] _ _ rfl rfl ?_
  show (if z = z then WW (303, 2128, [vr 999, vr 1, vr 265, vr 283, vi i, vu, vu], []) (qk t u I2 J2) else WW (303, 384, [vr 999, vr 1, vr 265, vr 283, vi i, vu, vu], []) (qk t u I2 J2))
  rw [if_pos rfl]
  exact h
theorem law_1 {l : Launch} {WW : qF → qM → Prop} {S : St} {t u : Nat} {I J : Nat → Nat → Int} {i : Int} (hJD : q_HJ l) (hOK : q_OK) (hSG : q_SG l WW) (hI : q_IB I i) (hR : q_RB I) (hN : q_NN WW I i) (V : CInv S t u I) (W : MInv S I) : WW (303, 361, [vr 999, vr 1, vr 265, vr 283, vi i, vu, vu], []) (qk t u I J) := by
  have B := q_ba (J := J) W (k_store V (I 999 (wr (i + 1)).toNat)) (fun t u I1 W1 => m_store W1 (I 999 (wr (i + 1)).toNat))
  obtain ⟨t, u, I1, a1, I2, J2, b1, e1, e2, S2, V2, W2⟩ := B
  refine g_361 hSG (fun _ _ => rfl) hI ⟨by decide, _, _, q_MetE hJD hOK a1 (by decide) (by decide) (by decide), rfl, fun z => absurd z (by decide), fun _ => ?_⟩
  refine g_371 hSG e1 hI ⟨by decide, _, _, q_MetE hJD hOK b1 (by decide) (by decide) (by decide), rfl, fun z => absurd z (by decide), fun _ => ?_⟩
  exact c_381 hSG (q_2128 hSG hI e2 V2 W2 hN)
theorem g_386 {l : Launch} {WW : qF → qM → Prop} {t u : Nat} {I I1 J1 : Nat → Nat → Int} {i : Int} (hSG : q_SG l WW) (he : ∀ a, 998 ≤ a → I1 a = I a) (hI : q_IB I i) (h : (104 ≠ q_LED ∧ ∃ v M1, q_Met l false 104 [vr 1] (qk t u I1 J1) v M1 ∧ M1.1 = 283 ∧ ((1 : Nat) = 0 → WW (303, 390, [vr 999, vr 1, vr 265, vr 283, vi i, vu, vu], []) M1) ∧ ((1 : Nat) ≠ 0 → WW (303, 390, [vr 999, vr 1, vr 265, vr 283, vi i, vu, vu], [v]) M1))) : WW (303, 386, [vr 999, vr 1, vr 265, vr 283, vi i, vu, vu], []) (qk t u I1 J1) := by
  refine hSG 2 [] _ _ rfl rfl ?_
  have e8 := he 998 (by decide)
  have e9 := he 999 (by decide)
  show (104 ≠ q_LED ∧ ∃ v M1, q_Met l false 104 [vr 1] (qk t u I1 J1) v M1 ∧ M1.1 = 283 ∧ ((1 : Nat) = 0 → WW (303, 390, [vr 999, vr 1, vr 265, vr 283, vi i, vu, vu], []) M1) ∧ ((1 : Nat) ≠ 0 → WW (303, 390, [vr 999, vr 1, vr 265, vr 283, vi i, vu, vu], [v]) M1))
  exact h
theorem g_390 {l : Launch} {WW : qF → qM → Prop} {t u : Nat} {I I1 J1 : Nat → Nat → Int} {i : Int} {z : Int} (hSG : q_SG l WW) (he : ∀ a, 998 ≤ a → I1 a = I a) (hI : q_IB I i) (h : (208 ≠ q_LED ∧ ∃ v M1, q_Met l false 208 [vr 265] (qk t u I1 J1) v M1 ∧ M1.1 = 283 ∧ ((1 : Nat) = 0 → WW (303, 394, [vr 999, vr 1, vr 265, vr 283, vi i, vu, vu], [vi z]) M1) ∧ ((1 : Nat) ≠ 0 → WW (303, 394, [vr 999, vr 1, vr 265, vr 283, vi i, vu, vu], [v, vi z]) M1))) : WW (303, 390, [vr 999, vr 1, vr 265, vr 283, vi i, vu, vu], [vi z]) (qk t u I1 J1) := by
  refine hSG 2 [] _ _ rfl rfl ?_
  have e8 := he 998 (by decide)
  have e9 := he 999 (by decide)
  show (208 ≠ q_LED ∧ ∃ v M1, q_Met l false 208 [vr 265] (qk t u I1 J1) v M1 ∧ M1.1 = 283 ∧ ((1 : Nat) = 0 → WW (303, 394, [vr 999, vr 1, vr 265, vr 283, vi i, vu, vu], [vi z]) M1) ∧ ((1 : Nat) ≠ 0 → WW (303, 394, [vr 999, vr 1, vr 265, vr 283, vi i, vu, vu], [v, vi z]) M1))
  exact h
theorem c_394 {l : Launch} {WW : qF → qM → Prop} {t u : Nat} {I2 J2 : Nat → Nat → Int} {i z : Int} (hSG : q_SG l WW) (h : WW (303, 2128, [vr 999, vr 1, vr 265, vr 283, vi i, vu, vu], []) (qk t u I2 J2)) : WW (303, 394, [vr 999, vr 1, vr 265, vr 283, vi i, vu, vu], [vi z, vi z]) (qk t u I2 J2) := by
  refine hSG 1 [] _ _ rfl rfl ?_
  show (if z = z then WW (303, 2128, [vr 999, vr 1, vr 265, vr 283, vi i, vu, vu], []) (qk t u I2 J2) else WW (303, 397, [vr 999, vr 1, vr 265, vr 283, vi i, vu, vu], []) (qk t u I2 J2))
  rw [if_pos rfl]
  exact h
theorem law_2 {l : Launch} {WW : qF → qM → Prop} {S : St} {t u : Nat} {I J : Nat → Nat → Int} {i : Int} (hJD : q_HJ l) (hOK : q_OK) (hSG : q_SG l WW) (hI : q_IB I i) (hR : q_RB I) (hN : q_NN WW I i) (V : CInv S t u I) (W : MInv S I) : WW (303, 386, [vr 999, vr 1, vr 265, vr 283, vi i, vu, vu], []) (qk t u I J) := by
  have B := q_bf (J := J) V W (k_fault V) (m_fault W)
  obtain ⟨t, u, I1, a1, I2, J2, b1, e1, e2, S2, V2, W2⟩ := B
  refine g_386 hSG (fun _ _ => rfl) hI ⟨by decide, _, _, q_MetE hJD hOK a1 (by decide) (by decide) (by decide), rfl, fun z => absurd z (by decide), fun _ => ?_⟩
  refine g_390 hSG e1 hI ⟨by decide, _, _, q_MetE hJD hOK b1 (by decide) (by decide) (by decide), rfl, fun z => absurd z (by decide), fun _ => ?_⟩
  exact c_394 hSG (q_2128 hSG hI e2 V2 W2 hN)
theorem g_399 {l : Launch} {WW : qF → qM → Prop} {t u : Nat} {I I1 J1 : Nat → Nat → Int} {i : Int} (hSG : q_SG l WW) (he : ∀ a, 998 ≤ a → I1 a = I a) (hI : q_IB I i) (h : (105 ≠ q_LED ∧ ∃ v M1, q_Met l false 105 [vr 1] (qk t u I1 J1) v M1 ∧ M1.1 = 283 ∧ ((1 : Nat) = 0 → WW (303, 403, [vr 999, vr 1, vr 265, vr 283, vi i, vu, vu], []) M1) ∧ ((1 : Nat) ≠ 0 → WW (303, 403, [vr 999, vr 1, vr 265, vr 283, vi i, vu, vu], [v]) M1))) : WW (303, 399, [vr 999, vr 1, vr 265, vr 283, vi i, vu, vu], []) (qk t u I1 J1) := by
  refine hSG 2 [] _ _ rfl rfl ?_
  have e8 := he 998 (by decide)
  have e9 := he 999 (by decide)
  show (105 ≠ q_LED ∧ ∃ v M1, q_Met l false 105 [vr 1] (qk t u I1 J1) v M1 ∧ M1.1 = 283 ∧ ((1 : Nat) = 0 → WW (303, 403, [vr 999, vr 1, vr 265, vr 283, vi i, vu, vu], []) M1) ∧ ((1 : Nat) ≠ 0 → WW (303, 403, [vr 999, vr 1, vr 265, vr 283, vi i, vu, vu], [v]) M1))
  exact h
theorem g_403 {l : Launch} {WW : qF → qM → Prop} {t u : Nat} {I I1 J1 : Nat → Nat → Int} {i : Int} {z : Int} (hSG : q_SG l WW) (he : ∀ a, 998 ≤ a → I1 a = I a) (hI : q_IB I i) (h : (209 ≠ q_LED ∧ ∃ v M1, q_Met l false 209 [vr 265] (qk t u I1 J1) v M1 ∧ M1.1 = 283 ∧ ((1 : Nat) = 0 → WW (303, 407, [vr 999, vr 1, vr 265, vr 283, vi i, vu, vu], [vi z]) M1) ∧ ((1 : Nat) ≠ 0 → WW (303, 407, [vr 999, vr 1, vr 265, vr 283, vi i, vu, vu], [v, vi z]) M1))) : WW (303, 403, [vr 999, vr 1, vr 265, vr 283, vi i, vu, vu], [vi z]) (qk t u I1 J1) := by
  refine hSG 2 [] _ _ rfl rfl ?_
  have e8 := he 998 (by decide)
  have e9 := he 999 (by decide)
  show (209 ≠ q_LED ∧ ∃ v M1, q_Met l false 209 [vr 265] (qk t u I1 J1) v M1 ∧ M1.1 = 283 ∧ ((1 : Nat) = 0 → WW (303, 407, [vr 999, vr 1, vr 265, vr 283, vi i, vu, vu], [vi z]) M1) ∧ ((1 : Nat) ≠ 0 → WW (303, 407, [vr 999, vr 1, vr 265, vr 283, vi i, vu, vu], [v, vi z]) M1))
  exact h
theorem c_407 {l : Launch} {WW : qF → qM → Prop} {t u : Nat} {I2 J2 : Nat → Nat → Int} {i z : Int} (hSG : q_SG l WW) (h : WW (303, 2128, [vr 999, vr 1, vr 265, vr 283, vi i, vu, vu], []) (qk t u I2 J2)) : WW (303, 407, [vr 999, vr 1, vr 265, vr 283, vi i, vu, vu], [vi z, vi z]) (qk t u I2 J2) := by
  refine hSG 1 [] _ _ rfl rfl ?_
  show (if z = z then WW (303, 2128, [vr 999, vr 1, vr 265, vr 283, vi i, vu, vu], []) (qk t u I2 J2) else WW (303, 410, [vr 999, vr 1, vr 265, vr 283, vi i, vu, vu], []) (qk t u I2 J2))
  rw [if_pos rfl]
  exact h
theorem law_3 {l : Launch} {WW : qF → qM → Prop} {S : St} {t u : Nat} {I J : Nat → Nat → Int} {i : Int} (hJD : q_HJ l) (hOK : q_OK) (hSG : q_SG l WW) (hI : q_IB I i) (hR : q_RB I) (hN : q_NN WW I i) (V : CInv S t u I) (W : MInv S I) : WW (303, 399, [vr 999, vr 1, vr 265, vr 283, vi i, vu, vu], []) (qk t u I J) := by
  have B := q_bf (J := J) V W (k_where V) (m_where W)
  obtain ⟨t, u, I1, a1, I2, J2, b1, e1, e2, S2, V2, W2⟩ := B
  refine g_399 hSG (fun _ _ => rfl) hI ⟨by decide, _, _, q_MetE hJD hOK a1 (by decide) (by decide) (by decide), rfl, fun z => absurd z (by decide), fun _ => ?_⟩
  refine g_403 hSG e1 hI ⟨by decide, _, _, q_MetE hJD hOK b1 (by decide) (by decide) (by decide), rfl, fun z => absurd z (by decide), fun _ => ?_⟩
  exact c_407 hSG (q_2128 hSG hI e2 V2 W2 hN)
theorem g_412 {l : Launch} {WW : qF → qM → Prop} {t u : Nat} {I I1 J1 : Nat → Nat → Int} {i : Int} (hSG : q_SG l WW) (he : ∀ a, 998 ≤ a → I1 a = I a) (hI : q_IB I i) (h : (106 ≠ q_LED ∧ ∃ v M1, q_Met l false 106 [vr 1, vi (I 999 (wr (i + 1)).toNat), vi (I 999 (wr (i + 2)).toNat)] (qk t u I1 J1) v M1 ∧ M1.1 = 283 ∧ ((1 : Nat) = 0 → WW (303, 428, [vr 999, vr 1, vr 265, vr 283, vi i, vu, vu], []) M1) ∧ ((1 : Nat) ≠ 0 → WW (303, 428, [vr 999, vr 1, vr 265, vr 283, vi i, vu, vu], [v]) M1))) : WW (303, 412, [vr 999, vr 1, vr 265, vr 283, vi i, vu, vu], []) (qk t u I1 J1) := by
  refine hSG 12 [] _ _ rfl rfl ?_
  have e8 := he 998 (by decide)
  have e9 := he 999 (by decide)
  show (if 0 ≤ wr (i + 1) ∧ wr (i + 1) < I1 998 0 then (if 0 ≤ wr (i + 2) ∧ wr (i + 2) < I1 998 0 then (106 ≠ q_LED ∧ ∃ v M1, q_Met l false 106 [vr 1, vi (I1 999 (wr (i + 1)).toNat), vi (I1 999 (wr (i + 2)).toNat)] (qk t u I1 J1) v M1 ∧ M1.1 = 283 ∧ ((1 : Nat) = 0 → WW (303, 428, [vr 999, vr 1, vr 265, vr 283, vi i, vu, vu], []) M1) ∧ ((1 : Nat) ≠ 0 → WW (303, 428, [vr 999, vr 1, vr 265, vr 283, vi i, vu, vu], [v]) M1)) else False) else False)
  rw [e8, e9, if_pos (hI 1 (by decide) (by decide)), if_pos (hI 2 (by decide) (by decide))]
  exact h
theorem g_428 {l : Launch} {WW : qF → qM → Prop} {t u : Nat} {I I1 J1 : Nat → Nat → Int} {i : Int} {z : Int} (hSG : q_SG l WW) (he : ∀ a, 998 ≤ a → I1 a = I a) (hI : q_IB I i) (h : (223 ≠ q_LED ∧ ∃ v M1, q_Met l false 223 [vr 265, vi (I 999 (wr (i + 1)).toNat), vi (I 999 (wr (i + 2)).toNat)] (qk t u I1 J1) v M1 ∧ M1.1 = 283 ∧ ((1 : Nat) = 0 → WW (303, 444, [vr 999, vr 1, vr 265, vr 283, vi i, vu, vu], [vi z]) M1) ∧ ((1 : Nat) ≠ 0 → WW (303, 444, [vr 999, vr 1, vr 265, vr 283, vi i, vu, vu], [v, vi z]) M1))) : WW (303, 428, [vr 999, vr 1, vr 265, vr 283, vi i, vu, vu], [vi z]) (qk t u I1 J1) := by
  refine hSG 12 [] _ _ rfl rfl ?_
  have e8 := he 998 (by decide)
  have e9 := he 999 (by decide)
  show (if 0 ≤ wr (i + 1) ∧ wr (i + 1) < I1 998 0 then (if 0 ≤ wr (i + 2) ∧ wr (i + 2) < I1 998 0 then (223 ≠ q_LED ∧ ∃ v M1, q_Met l false 223 [vr 265, vi (I1 999 (wr (i + 1)).toNat), vi (I1 999 (wr (i + 2)).toNat)] (qk t u I1 J1) v M1 ∧ M1.1 = 283 ∧ ((1 : Nat) = 0 → WW (303, 444, [vr 999, vr 1, vr 265, vr 283, vi i, vu, vu], [vi z]) M1) ∧ ((1 : Nat) ≠ 0 → WW (303, 444, [vr 999, vr 1, vr 265, vr 283, vi i, vu, vu], [v, vi z]) M1)) else False) else False)
  rw [e8, e9, if_pos (hI 1 (by decide) (by decide)), if_pos (hI 2 (by decide) (by decide))]
  exact h
theorem c_444 {l : Launch} {WW : qF → qM → Prop} {t u : Nat} {I2 J2 : Nat → Nat → Int} {i z : Int} (hSG : q_SG l WW) (h : WW (303, 2128, [vr 999, vr 1, vr 265, vr 283, vi i, vu, vu], []) (qk t u I2 J2)) : WW (303, 444, [vr 999, vr 1, vr 265, vr 283, vi i, vu, vu], [vi z, vi z]) (qk t u I2 J2) := by
  refine hSG 1 [] _ _ rfl rfl ?_
  show (if z = z then WW (303, 2128, [vr 999, vr 1, vr 265, vr 283, vi i, vu, vu], []) (qk t u I2 J2) else WW (303, 447, [vr 999, vr 1, vr 265, vr 283, vi i, vu, vu], []) (qk t u I2 J2))
  rw [if_pos rfl]
  exact h
theorem law_4 {l : Launch} {WW : qF → qM → Prop} {S : St} {t u : Nat} {I J : Nat → Nat → Int} {i : Int} (hJD : q_HJ l) (hOK : q_OK) (hSG : q_SG l WW) (hI : q_IB I i) (hR : q_RB I) (hN : q_NN WW I i) (V : CInv S t u I) (W : MInv S I) : WW (303, 412, [vr 999, vr 1, vr 265, vr 283, vi i, vu, vu], []) (qk t u I J) := by
  have B := q_bq (J := J) V W (f_cellar (I 999 (wr (i + 1)).toNat) (I 999 (wr (i + 2)).toNat)) (k_cellar V (I 999 (wr (i + 1)).toNat) (I 999 (wr (i + 2)).toNat)) (fun I1 W1 => q_bj (m_cellar W1 (I 999 (wr (i + 1)).toNat) (I 999 (wr (i + 2)).toNat)))
  obtain ⟨t, u, I1, a1, I2, J2, b1, e1, e2, S2, V2, W2⟩ := B
  refine g_412 hSG (fun _ _ => rfl) hI ⟨by decide, _, _, q_MetE hJD hOK a1 (by decide) (by decide) (by decide), rfl, fun z => absurd z (by decide), fun _ => ?_⟩
  refine g_428 hSG e1 hI ⟨by decide, _, _, q_MetE hJD hOK b1 (by decide) (by decide) (by decide), rfl, fun z => absurd z (by decide), fun _ => ?_⟩
  exact c_444 hSG (q_2128 hSG hI e2 V2 W2 hN)
theorem g_449 {l : Launch} {WW : qF → qM → Prop} {t u : Nat} {I I1 J1 : Nat → Nat → Int} {i : Int} (hSG : q_SG l WW) (he : ∀ a, 998 ≤ a → I1 a = I a) (hI : q_IB I i) (h : (107 ≠ q_LED ∧ ∃ v M1, q_Met l false 107 [vr 1, vi (I 999 (wr (i + 1)).toNat), vi (I 999 (wr (i + 2)).toNat)] (qk t u I1 J1) v M1 ∧ M1.1 = 283 ∧ ((1 : Nat) = 0 → WW (303, 465, [vr 999, vr 1, vr 265, vr 283, vi i, vu, vu], []) M1) ∧ ((1 : Nat) ≠ 0 → WW (303, 465, [vr 999, vr 1, vr 265, vr 283, vi i, vu, vu], [v]) M1))) : WW (303, 449, [vr 999, vr 1, vr 265, vr 283, vi i, vu, vu], []) (qk t u I1 J1) := by
  refine hSG 12 [] _ _ rfl rfl ?_
  have e8 := he 998 (by decide)
  have e9 := he 999 (by decide)
  show (if 0 ≤ wr (i + 1) ∧ wr (i + 1) < I1 998 0 then (if 0 ≤ wr (i + 2) ∧ wr (i + 2) < I1 998 0 then (107 ≠ q_LED ∧ ∃ v M1, q_Met l false 107 [vr 1, vi (I1 999 (wr (i + 1)).toNat), vi (I1 999 (wr (i + 2)).toNat)] (qk t u I1 J1) v M1 ∧ M1.1 = 283 ∧ ((1 : Nat) = 0 → WW (303, 465, [vr 999, vr 1, vr 265, vr 283, vi i, vu, vu], []) M1) ∧ ((1 : Nat) ≠ 0 → WW (303, 465, [vr 999, vr 1, vr 265, vr 283, vi i, vu, vu], [v]) M1)) else False) else False)
  rw [e8, e9, if_pos (hI 1 (by decide) (by decide)), if_pos (hI 2 (by decide) (by decide))]
  exact h
theorem g_465 {l : Launch} {WW : qF → qM → Prop} {t u : Nat} {I I1 J1 : Nat → Nat → Int} {i : Int} {z : Int} (hSG : q_SG l WW) (he : ∀ a, 998 ≤ a → I1 a = I a) (hI : q_IB I i) (h : (224 ≠ q_LED ∧ ∃ v M1, q_Met l false 224 [vr 265, vi (I 999 (wr (i + 1)).toNat), vi (I 999 (wr (i + 2)).toNat)] (qk t u I1 J1) v M1 ∧ M1.1 = 283 ∧ ((1 : Nat) = 0 → WW (303, 481, [vr 999, vr 1, vr 265, vr 283, vi i, vu, vu], [vi z]) M1) ∧ ((1 : Nat) ≠ 0 → WW (303, 481, [vr 999, vr 1, vr 265, vr 283, vi i, vu, vu], [v, vi z]) M1))) : WW (303, 465, [vr 999, vr 1, vr 265, vr 283, vi i, vu, vu], [vi z]) (qk t u I1 J1) := by
  refine hSG 12 [] _ _ rfl rfl ?_
  have e8 := he 998 (by decide)
  have e9 := he 999 (by decide)
  show (if 0 ≤ wr (i + 1) ∧ wr (i + 1) < I1 998 0 then (if 0 ≤ wr (i + 2) ∧ wr (i + 2) < I1 998 0 then (224 ≠ q_LED ∧ ∃ v M1, q_Met l false 224 [vr 265, vi (I1 999 (wr (i + 1)).toNat), vi (I1 999 (wr (i + 2)).toNat)] (qk t u I1 J1) v M1 ∧ M1.1 = 283 ∧ ((1 : Nat) = 0 → WW (303, 481, [vr 999, vr 1, vr 265, vr 283, vi i, vu, vu], [vi z]) M1) ∧ ((1 : Nat) ≠ 0 → WW (303, 481, [vr 999, vr 1, vr 265, vr 283, vi i, vu, vu], [v, vi z]) M1)) else False) else False)
  rw [e8, e9, if_pos (hI 1 (by decide) (by decide)), if_pos (hI 2 (by decide) (by decide))]
  exact h
theorem c_481 {l : Launch} {WW : qF → qM → Prop} {t u : Nat} {I2 J2 : Nat → Nat → Int} {i z : Int} (hSG : q_SG l WW) (h : WW (303, 2128, [vr 999, vr 1, vr 265, vr 283, vi i, vu, vu], []) (qk t u I2 J2)) : WW (303, 481, [vr 999, vr 1, vr 265, vr 283, vi i, vu, vu], [vi z, vi z]) (qk t u I2 J2) := by
  refine hSG 1 [] _ _ rfl rfl ?_
  show (if z = z then WW (303, 2128, [vr 999, vr 1, vr 265, vr 283, vi i, vu, vu], []) (qk t u I2 J2) else WW (303, 484, [vr 999, vr 1, vr 265, vr 283, vi i, vu, vu], []) (qk t u I2 J2))
  rw [if_pos rfl]
  exact h
theorem law_5 {l : Launch} {WW : qF → qM → Prop} {S : St} {t u : Nat} {I J : Nat → Nat → Int} {i : Int} (hJD : q_HJ l) (hOK : q_OK) (hSG : q_SG l WW) (hI : q_IB I i) (hR : q_RB I) (hN : q_NN WW I i) (V : CInv S t u I) (W : MInv S I) : WW (303, 449, [vr 999, vr 1, vr 265, vr 283, vi i, vu, vu], []) (qk t u I J) := by
  have B := q_bq (J := J) V W (f_heap (I 999 (wr (i + 1)).toNat) (I 999 (wr (i + 2)).toNat)) (k_heap V (I 999 (wr (i + 1)).toNat) (I 999 (wr (i + 2)).toNat)) (fun I1 W1 => q_bj (m_heap W1 (I 999 (wr (i + 1)).toNat) (I 999 (wr (i + 2)).toNat)))
  obtain ⟨t, u, I1, a1, I2, J2, b1, e1, e2, S2, V2, W2⟩ := B
  refine g_449 hSG (fun _ _ => rfl) hI ⟨by decide, _, _, q_MetE hJD hOK a1 (by decide) (by decide) (by decide), rfl, fun z => absurd z (by decide), fun _ => ?_⟩
  refine g_465 hSG e1 hI ⟨by decide, _, _, q_MetE hJD hOK b1 (by decide) (by decide) (by decide), rfl, fun z => absurd z (by decide), fun _ => ?_⟩
  exact c_481 hSG (q_2128 hSG hI e2 V2 W2 hN)
theorem g_486 {l : Launch} {WW : qF → qM → Prop} {t u : Nat} {I I1 J1 : Nat → Nat → Int} {i : Int} (hSG : q_SG l WW) (he : ∀ a, 998 ≤ a → I1 a = I a) (hI : q_IB I i) (h : (108 ≠ q_LED ∧ ∃ v M1, q_Met l false 108 [vr 1, vi (I 999 (wr (i + 1)).toNat)] (qk t u I1 J1) v M1 ∧ M1.1 = 283 ∧ ((1 : Nat) = 0 → WW (303, 496, [vr 999, vr 1, vr 265, vr 283, vi i, vu, vu], []) M1) ∧ ((1 : Nat) ≠ 0 → WW (303, 496, [vr 999, vr 1, vr 265, vr 283, vi i, vu, vu], [v]) M1))) : WW (303, 486, [vr 999, vr 1, vr 265, vr 283, vi i, vu, vu], []) (qk t u I1 J1) := by
  refine hSG 7 [] _ _ rfl rfl ?_
  have e8 := he 998 (by decide)
  have e9 := he 999 (by decide)
  show (if 0 ≤ wr (i + 1) ∧ wr (i + 1) < I1 998 0 then (108 ≠ q_LED ∧ ∃ v M1, q_Met l false 108 [vr 1, vi (I1 999 (wr (i + 1)).toNat)] (qk t u I1 J1) v M1 ∧ M1.1 = 283 ∧ ((1 : Nat) = 0 → WW (303, 496, [vr 999, vr 1, vr 265, vr 283, vi i, vu, vu], []) M1) ∧ ((1 : Nat) ≠ 0 → WW (303, 496, [vr 999, vr 1, vr 265, vr 283, vi i, vu, vu], [v]) M1)) else False)
  rw [e8, e9, if_pos (hI 1 (by decide) (by decide))]
  exact h
theorem g_496 {l : Launch} {WW : qF → qM → Prop} {t u : Nat} {I I1 J1 : Nat → Nat → Int} {i : Int} {z : Int} (hSG : q_SG l WW) (he : ∀ a, 998 ≤ a → I1 a = I a) (hI : q_IB I i) (h : (226 ≠ q_LED ∧ ∃ v M1, q_Met l false 226 [vr 265, vi (I 999 (wr (i + 1)).toNat)] (qk t u I1 J1) v M1 ∧ M1.1 = 283 ∧ ((1 : Nat) = 0 → WW (303, 506, [vr 999, vr 1, vr 265, vr 283, vi i, vu, vu], [vi z]) M1) ∧ ((1 : Nat) ≠ 0 → WW (303, 506, [vr 999, vr 1, vr 265, vr 283, vi i, vu, vu], [v, vi z]) M1))) : WW (303, 496, [vr 999, vr 1, vr 265, vr 283, vi i, vu, vu], [vi z]) (qk t u I1 J1) := by
  refine hSG 7 [] _ _ rfl rfl ?_
  have e8 := he 998 (by decide)
  have e9 := he 999 (by decide)
  show (if 0 ≤ wr (i + 1) ∧ wr (i + 1) < I1 998 0 then (226 ≠ q_LED ∧ ∃ v M1, q_Met l false 226 [vr 265, vi (I1 999 (wr (i + 1)).toNat)] (qk t u I1 J1) v M1 ∧ M1.1 = 283 ∧ ((1 : Nat) = 0 → WW (303, 506, [vr 999, vr 1, vr 265, vr 283, vi i, vu, vu], [vi z]) M1) ∧ ((1 : Nat) ≠ 0 → WW (303, 506, [vr 999, vr 1, vr 265, vr 283, vi i, vu, vu], [v, vi z]) M1)) else False)
  rw [e8, e9, if_pos (hI 1 (by decide) (by decide))]
  exact h
theorem c_506 {l : Launch} {WW : qF → qM → Prop} {t u : Nat} {I2 J2 : Nat → Nat → Int} {i z : Int} (hSG : q_SG l WW) (h : WW (303, 2128, [vr 999, vr 1, vr 265, vr 283, vi i, vu, vu], []) (qk t u I2 J2)) : WW (303, 506, [vr 999, vr 1, vr 265, vr 283, vi i, vu, vu], [vi z, vi z]) (qk t u I2 J2) := by
  refine hSG 1 [] _ _ rfl rfl ?_
  show (if z = z then WW (303, 2128, [vr 999, vr 1, vr 265, vr 283, vi i, vu, vu], []) (qk t u I2 J2) else WW (303, 509, [vr 999, vr 1, vr 265, vr 283, vi i, vu, vu], []) (qk t u I2 J2))
  rw [if_pos rfl]
  exact h
theorem law_6 {l : Launch} {WW : qF → qM → Prop} {S : St} {t u : Nat} {I J : Nat → Nat → Int} {i : Int} (hJD : q_HJ l) (hOK : q_OK) (hSG : q_SG l WW) (hI : q_IB I i) (hR : q_RB I) (hN : q_NN WW I i) (V : CInv S t u I) (W : MInv S I) : WW (303, 486, [vr 999, vr 1, vr 265, vr 283, vi i, vu, vu], []) (qk t u I J) := by
  have B := q_bq (J := J) V W (f_still (I 999 (wr (i + 1)).toNat)) (k_still V (I 999 (wr (i + 1)).toNat)) (fun I1 W1 => q_bj (m_still W1 (I 999 (wr (i + 1)).toNat)))
  obtain ⟨t, u, I1, a1, I2, J2, b1, e1, e2, S2, V2, W2⟩ := B
  refine g_486 hSG (fun _ _ => rfl) hI ⟨by decide, _, _, q_MetE hJD hOK a1 (by decide) (by decide) (by decide), rfl, fun z => absurd z (by decide), fun _ => ?_⟩
  refine g_496 hSG e1 hI ⟨by decide, _, _, q_MetE hJD hOK b1 (by decide) (by decide) (by decide), rfl, fun z => absurd z (by decide), fun _ => ?_⟩
  exact c_506 hSG (q_2128 hSG hI e2 V2 W2 hN)
theorem g_511 {l : Launch} {WW : qF → qM → Prop} {t u : Nat} {I I1 J1 : Nat → Nat → Int} {i : Int} (hSG : q_SG l WW) (he : ∀ a, 998 ≤ a → I1 a = I a) (hI : q_IB I i) (h : (109 ≠ q_LED ∧ ∃ v M1, q_Met l false 109 [vr 1, vi (I 999 (wr (i + 1)).toNat), vi (I 999 (wr (i + 2)).toNat)] (qk t u I1 J1) v M1 ∧ M1.1 = 283 ∧ ((1 : Nat) = 0 → WW (303, 527, [vr 999, vr 1, vr 265, vr 283, vi i, vu, vu], []) M1) ∧ ((1 : Nat) ≠ 0 → WW (303, 527, [vr 999, vr 1, vr 265, vr 283, vi i, vu, vu], [v]) M1))) : WW (303, 511, [vr 999, vr 1, vr 265, vr 283, vi i, vu, vu], []) (qk t u I1 J1) := by
  refine hSG 12 [] _ _ rfl rfl ?_
  have e8 := he 998 (by decide)
  have e9 := he 999 (by decide)
  show (if 0 ≤ wr (i + 1) ∧ wr (i + 1) < I1 998 0 then (if 0 ≤ wr (i + 2) ∧ wr (i + 2) < I1 998 0 then (109 ≠ q_LED ∧ ∃ v M1, q_Met l false 109 [vr 1, vi (I1 999 (wr (i + 1)).toNat), vi (I1 999 (wr (i + 2)).toNat)] (qk t u I1 J1) v M1 ∧ M1.1 = 283 ∧ ((1 : Nat) = 0 → WW (303, 527, [vr 999, vr 1, vr 265, vr 283, vi i, vu, vu], []) M1) ∧ ((1 : Nat) ≠ 0 → WW (303, 527, [vr 999, vr 1, vr 265, vr 283, vi i, vu, vu], [v]) M1)) else False) else False)
  rw [e8, e9, if_pos (hI 1 (by decide) (by decide)), if_pos (hI 2 (by decide) (by decide))]
  exact h
theorem g_527 {l : Launch} {WW : qF → qM → Prop} {t u : Nat} {I I1 J1 : Nat → Nat → Int} {i : Int} {z : Int} (hSG : q_SG l WW) (he : ∀ a, 998 ≤ a → I1 a = I a) (hI : q_IB I i) (h : (228 ≠ q_LED ∧ ∃ v M1, q_Met l false 228 [vr 265, vi (I 999 (wr (i + 1)).toNat), vi (I 999 (wr (i + 2)).toNat)] (qk t u I1 J1) v M1 ∧ M1.1 = 283 ∧ ((1 : Nat) = 0 → WW (303, 543, [vr 999, vr 1, vr 265, vr 283, vi i, vu, vu], [vi z]) M1) ∧ ((1 : Nat) ≠ 0 → WW (303, 543, [vr 999, vr 1, vr 265, vr 283, vi i, vu, vu], [v, vi z]) M1))) : WW (303, 527, [vr 999, vr 1, vr 265, vr 283, vi i, vu, vu], [vi z]) (qk t u I1 J1) := by
  refine hSG 12 [] _ _ rfl rfl ?_
  have e8 := he 998 (by decide)
  have e9 := he 999 (by decide)
  show (if 0 ≤ wr (i + 1) ∧ wr (i + 1) < I1 998 0 then (if 0 ≤ wr (i + 2) ∧ wr (i + 2) < I1 998 0 then (228 ≠ q_LED ∧ ∃ v M1, q_Met l false 228 [vr 265, vi (I1 999 (wr (i + 1)).toNat), vi (I1 999 (wr (i + 2)).toNat)] (qk t u I1 J1) v M1 ∧ M1.1 = 283 ∧ ((1 : Nat) = 0 → WW (303, 543, [vr 999, vr 1, vr 265, vr 283, vi i, vu, vu], [vi z]) M1) ∧ ((1 : Nat) ≠ 0 → WW (303, 543, [vr 999, vr 1, vr 265, vr 283, vi i, vu, vu], [v, vi z]) M1)) else False) else False)
  rw [e8, e9, if_pos (hI 1 (by decide) (by decide)), if_pos (hI 2 (by decide) (by decide))]
  exact h
theorem c_543 {l : Launch} {WW : qF → qM → Prop} {t u : Nat} {I2 J2 : Nat → Nat → Int} {i z : Int} (hSG : q_SG l WW) (h : WW (303, 2128, [vr 999, vr 1, vr 265, vr 283, vi i, vu, vu], []) (qk t u I2 J2)) : WW (303, 543, [vr 999, vr 1, vr 265, vr 283, vi i, vu, vu], [vi z, vi z]) (qk t u I2 J2) := by
  refine hSG 1 [] _ _ rfl rfl ?_
  show (if z = z then WW (303, 2128, [vr 999, vr 1, vr 265, vr 283, vi i, vu, vu], []) (qk t u I2 J2) else WW (303, 546, [vr 999, vr 1, vr 265, vr 283, vi i, vu, vu], []) (qk t u I2 J2))
  rw [if_pos rfl]
  exact h
theorem law_7 {l : Launch} {WW : qF → qM → Prop} {S : St} {t u : Nat} {I J : Nat → Nat → Int} {i : Int} (hJD : q_HJ l) (hOK : q_OK) (hSG : q_SG l WW) (hI : q_IB I i) (hR : q_RB I) (hN : q_NN WW I i) (V : CInv S t u I) (W : MInv S I) : WW (303, 511, [vr 999, vr 1, vr 265, vr 283, vi i, vu, vu], []) (qk t u I J) := by
  have B := q_bq (J := J) V W (f_heaps (I 999 (wr (i + 1)).toNat) (I 999 (wr (i + 2)).toNat)) (k_heaps V (I 999 (wr (i + 1)).toNat) (I 999 (wr (i + 2)).toNat)) (fun I1 W1 => q_bj (m_heaps W1 (I 999 (wr (i + 1)).toNat) (I 999 (wr (i + 2)).toNat)))
  obtain ⟨t, u, I1, a1, I2, J2, b1, e1, e2, S2, V2, W2⟩ := B
  refine g_511 hSG (fun _ _ => rfl) hI ⟨by decide, _, _, q_MetE hJD hOK a1 (by decide) (by decide) (by decide), rfl, fun z => absurd z (by decide), fun _ => ?_⟩
  refine g_527 hSG e1 hI ⟨by decide, _, _, q_MetE hJD hOK b1 (by decide) (by decide) (by decide), rfl, fun z => absurd z (by decide), fun _ => ?_⟩
  exact c_543 hSG (q_2128 hSG hI e2 V2 W2 hN)
theorem g_548 {l : Launch} {WW : qF → qM → Prop} {t u : Nat} {I I1 J1 : Nat → Nat → Int} {i : Int} (hSG : q_SG l WW) (he : ∀ a, 998 ≤ a → I1 a = I a) (hI : q_IB I i) (h : (110 ≠ q_LED ∧ ∃ v M1, q_Met l false 110 [vr 1, vi (I 999 (wr (i + 1)).toNat), vi (I 999 (wr (i + 2)).toNat)] (qk t u I1 J1) v M1 ∧ M1.1 = 283 ∧ ((1 : Nat) = 0 → WW (303, 564, [vr 999, vr 1, vr 265, vr 283, vi i, vu, vu], []) M1) ∧ ((1 : Nat) ≠ 0 → WW (303, 564, [vr 999, vr 1, vr 265, vr 283, vi i, vu, vu], [v]) M1))) : WW (303, 548, [vr 999, vr 1, vr 265, vr 283, vi i, vu, vu], []) (qk t u I1 J1) := by
  refine hSG 12 [] _ _ rfl rfl ?_
  have e8 := he 998 (by decide)
  have e9 := he 999 (by decide)
  show (if 0 ≤ wr (i + 1) ∧ wr (i + 1) < I1 998 0 then (if 0 ≤ wr (i + 2) ∧ wr (i + 2) < I1 998 0 then (110 ≠ q_LED ∧ ∃ v M1, q_Met l false 110 [vr 1, vi (I1 999 (wr (i + 1)).toNat), vi (I1 999 (wr (i + 2)).toNat)] (qk t u I1 J1) v M1 ∧ M1.1 = 283 ∧ ((1 : Nat) = 0 → WW (303, 564, [vr 999, vr 1, vr 265, vr 283, vi i, vu, vu], []) M1) ∧ ((1 : Nat) ≠ 0 → WW (303, 564, [vr 999, vr 1, vr 265, vr 283, vi i, vu, vu], [v]) M1)) else False) else False)
  rw [e8, e9, if_pos (hI 1 (by decide) (by decide)), if_pos (hI 2 (by decide) (by decide))]
  exact h
theorem g_564 {l : Launch} {WW : qF → qM → Prop} {t u : Nat} {I I1 J1 : Nat → Nat → Int} {i : Int} {z : Int} (hSG : q_SG l WW) (he : ∀ a, 998 ≤ a → I1 a = I a) (hI : q_IB I i) (h : (229 ≠ q_LED ∧ ∃ v M1, q_Met l false 229 [vr 265, vi (I 999 (wr (i + 1)).toNat), vi (I 999 (wr (i + 2)).toNat)] (qk t u I1 J1) v M1 ∧ M1.1 = 283 ∧ ((1 : Nat) = 0 → WW (303, 580, [vr 999, vr 1, vr 265, vr 283, vi i, vu, vu], [vi z]) M1) ∧ ((1 : Nat) ≠ 0 → WW (303, 580, [vr 999, vr 1, vr 265, vr 283, vi i, vu, vu], [v, vi z]) M1))) : WW (303, 564, [vr 999, vr 1, vr 265, vr 283, vi i, vu, vu], [vi z]) (qk t u I1 J1) := by
  refine hSG 12 [] _ _ rfl rfl ?_
  have e8 := he 998 (by decide)
  have e9 := he 999 (by decide)
  show (if 0 ≤ wr (i + 1) ∧ wr (i + 1) < I1 998 0 then (if 0 ≤ wr (i + 2) ∧ wr (i + 2) < I1 998 0 then (229 ≠ q_LED ∧ ∃ v M1, q_Met l false 229 [vr 265, vi (I1 999 (wr (i + 1)).toNat), vi (I1 999 (wr (i + 2)).toNat)] (qk t u I1 J1) v M1 ∧ M1.1 = 283 ∧ ((1 : Nat) = 0 → WW (303, 580, [vr 999, vr 1, vr 265, vr 283, vi i, vu, vu], [vi z]) M1) ∧ ((1 : Nat) ≠ 0 → WW (303, 580, [vr 999, vr 1, vr 265, vr 283, vi i, vu, vu], [v, vi z]) M1)) else False) else False)
  rw [e8, e9, if_pos (hI 1 (by decide) (by decide)), if_pos (hI 2 (by decide) (by decide))]
  exact h
theorem c_580 {l : Launch} {WW : qF → qM → Prop} {t u : Nat} {I2 J2 : Nat → Nat → Int} {i z : Int} (hSG : q_SG l WW) (h : WW (303, 2128, [vr 999, vr 1, vr 265, vr 283, vi i, vu, vu], []) (qk t u I2 J2)) : WW (303, 580, [vr 999, vr 1, vr 265, vr 283, vi i, vu, vu], [vi z, vi z]) (qk t u I2 J2) := by
  refine hSG 1 [] _ _ rfl rfl ?_
  show (if z = z then WW (303, 2128, [vr 999, vr 1, vr 265, vr 283, vi i, vu, vu], []) (qk t u I2 J2) else WW (303, 583, [vr 999, vr 1, vr 265, vr 283, vi i, vu, vu], []) (qk t u I2 J2))
  rw [if_pos rfl]
  exact h
theorem law_8 {l : Launch} {WW : qF → qM → Prop} {S : St} {t u : Nat} {I J : Nat → Nat → Int} {i : Int} (hJD : q_HJ l) (hOK : q_OK) (hSG : q_SG l WW) (hI : q_IB I i) (hR : q_RB I) (hN : q_NN WW I i) (V : CInv S t u I) (W : MInv S I) : WW (303, 548, [vr 999, vr 1, vr 265, vr 283, vi i, vu, vu], []) (qk t u I J) := by
  have B := q_bq (J := J) V W (f_greatest (I 999 (wr (i + 1)).toNat) (I 999 (wr (i + 2)).toNat)) (k_greatest V (I 999 (wr (i + 1)).toNat) (I 999 (wr (i + 2)).toNat)) (fun I1 W1 => q_bj (m_greatest W1 (I 999 (wr (i + 1)).toNat) (I 999 (wr (i + 2)).toNat)))
  obtain ⟨t, u, I1, a1, I2, J2, b1, e1, e2, S2, V2, W2⟩ := B
  refine g_548 hSG (fun _ _ => rfl) hI ⟨by decide, _, _, q_MetE hJD hOK a1 (by decide) (by decide) (by decide), rfl, fun z => absurd z (by decide), fun _ => ?_⟩
  refine g_564 hSG e1 hI ⟨by decide, _, _, q_MetE hJD hOK b1 (by decide) (by decide) (by decide), rfl, fun z => absurd z (by decide), fun _ => ?_⟩
  exact c_580 hSG (q_2128 hSG hI e2 V2 W2 hN)
theorem g_585 {l : Launch} {WW : qF → qM → Prop} {t u : Nat} {I I1 J1 : Nat → Nat → Int} {i : Int} (hSG : q_SG l WW) (he : ∀ a, 998 ≤ a → I1 a = I a) (hI : q_IB I i) (h : (111 ≠ q_LED ∧ ∃ v M1, q_Met l false 111 [vr 1, vi (I 999 (wr (i + 1)).toNat), vi (I 999 (wr (i + 2)).toNat), vi (I 999 (wr (i + 3)).toNat)] (qk t u I1 J1) v M1 ∧ M1.1 = 283 ∧ ((1 : Nat) = 0 → WW (303, 607, [vr 999, vr 1, vr 265, vr 283, vi i, vu, vu], []) M1) ∧ ((1 : Nat) ≠ 0 → WW (303, 607, [vr 999, vr 1, vr 265, vr 283, vi i, vu, vu], [v]) M1))) : WW (303, 585, [vr 999, vr 1, vr 265, vr 283, vi i, vu, vu], []) (qk t u I1 J1) := by
  refine hSG 17 [] _ _ rfl rfl ?_
  have e8 := he 998 (by decide)
  have e9 := he 999 (by decide)
  show (if 0 ≤ wr (i + 1) ∧ wr (i + 1) < I1 998 0 then (if 0 ≤ wr (i + 2) ∧ wr (i + 2) < I1 998 0 then (if 0 ≤ wr (i + 3) ∧ wr (i + 3) < I1 998 0 then (111 ≠ q_LED ∧ ∃ v M1, q_Met l false 111 [vr 1, vi (I1 999 (wr (i + 1)).toNat), vi (I1 999 (wr (i + 2)).toNat), vi (I1 999 (wr (i + 3)).toNat)] (qk t u I1 J1) v M1 ∧ M1.1 = 283 ∧ ((1 : Nat) = 0 → WW (303, 607, [vr 999, vr 1, vr 265, vr 283, vi i, vu, vu], []) M1) ∧ ((1 : Nat) ≠ 0 → WW (303, 607, [vr 999, vr 1, vr 265, vr 283, vi i, vu, vu], [v]) M1)) else False) else False) else False)
  rw [e8, e9, if_pos (hI 1 (by decide) (by decide)), if_pos (hI 2 (by decide) (by decide)), if_pos (hI 3 (by decide) (by decide))]
  exact h
theorem g_607 {l : Launch} {WW : qF → qM → Prop} {t u : Nat} {I I1 J1 : Nat → Nat → Int} {i : Int} {z : Int} (hSG : q_SG l WW) (he : ∀ a, 998 ≤ a → I1 a = I a) (hI : q_IB I i) (h : (230 ≠ q_LED ∧ ∃ v M1, q_Met l false 230 [vr 265, vi (I 999 (wr (i + 1)).toNat), vi (I 999 (wr (i + 2)).toNat), vi (I 999 (wr (i + 3)).toNat)] (qk t u I1 J1) v M1 ∧ M1.1 = 283 ∧ ((1 : Nat) = 0 → WW (303, 629, [vr 999, vr 1, vr 265, vr 283, vi i, vu, vu], [vi z]) M1) ∧ ((1 : Nat) ≠ 0 → WW (303, 629, [vr 999, vr 1, vr 265, vr 283, vi i, vu, vu], [v, vi z]) M1))) : WW (303, 607, [vr 999, vr 1, vr 265, vr 283, vi i, vu, vu], [vi z]) (qk t u I1 J1) := by
  refine hSG 17 [] _ _ rfl rfl ?_
  have e8 := he 998 (by decide)
  have e9 := he 999 (by decide)
  show (if 0 ≤ wr (i + 1) ∧ wr (i + 1) < I1 998 0 then (if 0 ≤ wr (i + 2) ∧ wr (i + 2) < I1 998 0 then (if 0 ≤ wr (i + 3) ∧ wr (i + 3) < I1 998 0 then (230 ≠ q_LED ∧ ∃ v M1, q_Met l false 230 [vr 265, vi (I1 999 (wr (i + 1)).toNat), vi (I1 999 (wr (i + 2)).toNat), vi (I1 999 (wr (i + 3)).toNat)] (qk t u I1 J1) v M1 ∧ M1.1 = 283 ∧ ((1 : Nat) = 0 → WW (303, 629, [vr 999, vr 1, vr 265, vr 283, vi i, vu, vu], [vi z]) M1) ∧ ((1 : Nat) ≠ 0 → WW (303, 629, [vr 999, vr 1, vr 265, vr 283, vi i, vu, vu], [v, vi z]) M1)) else False) else False) else False)
  rw [e8, e9, if_pos (hI 1 (by decide) (by decide)), if_pos (hI 2 (by decide) (by decide)), if_pos (hI 3 (by decide) (by decide))]
  exact h
theorem c_629 {l : Launch} {WW : qF → qM → Prop} {t u : Nat} {I2 J2 : Nat → Nat → Int} {i z : Int} (hSG : q_SG l WW) (h : WW (303, 2128, [vr 999, vr 1, vr 265, vr 283, vi i, vu, vu], []) (qk t u I2 J2)) : WW (303, 629, [vr 999, vr 1, vr 265, vr 283, vi i, vu, vu], [vi z, vi z]) (qk t u I2 J2) := by
  refine hSG 1 [] _ _ rfl rfl ?_
  show (if z = z then WW (303, 2128, [vr 999, vr 1, vr 265, vr 283, vi i, vu, vu], []) (qk t u I2 J2) else WW (303, 632, [vr 999, vr 1, vr 265, vr 283, vi i, vu, vu], []) (qk t u I2 J2))
  rw [if_pos rfl]
  exact h
theorem law_9 {l : Launch} {WW : qF → qM → Prop} {S : St} {t u : Nat} {I J : Nat → Nat → Int} {i : Int} (hJD : q_HJ l) (hOK : q_OK) (hSG : q_SG l WW) (hI : q_IB I i) (hR : q_RB I) (hN : q_NN WW I i) (V : CInv S t u I) (W : MInv S I) : WW (303, 585, [vr 999, vr 1, vr 265, vr 283, vi i, vu, vu], []) (qk t u I J) := by
  have B := q_bq (J := J) V W (f_heapIn (I 999 (wr (i + 1)).toNat) (I 999 (wr (i + 2)).toNat) (I 999 (wr (i + 3)).toNat)) (k_heapIn V (I 999 (wr (i + 1)).toNat) (I 999 (wr (i + 2)).toNat) (I 999 (wr (i + 3)).toNat)) (fun I1 W1 => q_bj (m_heapIn W1 (I 999 (wr (i + 1)).toNat) (I 999 (wr (i + 2)).toNat) (I 999 (wr (i + 3)).toNat)))
  obtain ⟨t, u, I1, a1, I2, J2, b1, e1, e2, S2, V2, W2⟩ := B
  refine g_585 hSG (fun _ _ => rfl) hI ⟨by decide, _, _, q_MetE hJD hOK a1 (by decide) (by decide) (by decide), rfl, fun z => absurd z (by decide), fun _ => ?_⟩
  refine g_607 hSG e1 hI ⟨by decide, _, _, q_MetE hJD hOK b1 (by decide) (by decide) (by decide), rfl, fun z => absurd z (by decide), fun _ => ?_⟩
  exact c_629 hSG (q_2128 hSG hI e2 V2 W2 hN)
theorem g_634 {l : Launch} {WW : qF → qM → Prop} {t u : Nat} {I I1 J1 : Nat → Nat → Int} {i : Int} (hSG : q_SG l WW) (he : ∀ a, 998 ≤ a → I1 a = I a) (hI : q_IB I i) (h : (112 ≠ q_LED ∧ ∃ v M1, q_Met l false 112 [vr 1, vi (I 999 (wr (i + 1)).toNat), vi (I 999 (wr (i + 2)).toNat)] (qk t u I1 J1) v M1 ∧ M1.1 = 283 ∧ ((1 : Nat) = 0 → WW (303, 650, [vr 999, vr 1, vr 265, vr 283, vi i, vu, vu], []) M1) ∧ ((1 : Nat) ≠ 0 → WW (303, 650, [vr 999, vr 1, vr 265, vr 283, vi i, vu, vu], [v]) M1))) : WW (303, 634, [vr 999, vr 1, vr 265, vr 283, vi i, vu, vu], []) (qk t u I1 J1) := by
  refine hSG 12 [] _ _ rfl rfl ?_
  have e8 := he 998 (by decide)
  have e9 := he 999 (by decide)
  show (if 0 ≤ wr (i + 1) ∧ wr (i + 1) < I1 998 0 then (if 0 ≤ wr (i + 2) ∧ wr (i + 2) < I1 998 0 then (112 ≠ q_LED ∧ ∃ v M1, q_Met l false 112 [vr 1, vi (I1 999 (wr (i + 1)).toNat), vi (I1 999 (wr (i + 2)).toNat)] (qk t u I1 J1) v M1 ∧ M1.1 = 283 ∧ ((1 : Nat) = 0 → WW (303, 650, [vr 999, vr 1, vr 265, vr 283, vi i, vu, vu], []) M1) ∧ ((1 : Nat) ≠ 0 → WW (303, 650, [vr 999, vr 1, vr 265, vr 283, vi i, vu, vu], [v]) M1)) else False) else False)
  rw [e8, e9, if_pos (hI 1 (by decide) (by decide)), if_pos (hI 2 (by decide) (by decide))]
  exact h
theorem g_650 {l : Launch} {WW : qF → qM → Prop} {t u : Nat} {I I1 J1 : Nat → Nat → Int} {i : Int} {z : Int} (hSG : q_SG l WW) (he : ∀ a, 998 ≤ a → I1 a = I a) (hI : q_IB I i) (h : (231 ≠ q_LED ∧ ∃ v M1, q_Met l false 231 [vr 265, vi (I 999 (wr (i + 1)).toNat), vi (I 999 (wr (i + 2)).toNat)] (qk t u I1 J1) v M1 ∧ M1.1 = 283 ∧ ((1 : Nat) = 0 → WW (303, 666, [vr 999, vr 1, vr 265, vr 283, vi i, vu, vu], [vi z]) M1) ∧ ((1 : Nat) ≠ 0 → WW (303, 666, [vr 999, vr 1, vr 265, vr 283, vi i, vu, vu], [v, vi z]) M1))) : WW (303, 650, [vr 999, vr 1, vr 265, vr 283, vi i, vu, vu], [vi z]) (qk t u I1 J1) := by
  refine hSG 12 [] _ _ rfl rfl ?_
  have e8 := he 998 (by decide)
  have e9 := he 999 (by decide)
  show (if 0 ≤ wr (i + 1) ∧ wr (i + 1) < I1 998 0 then (if 0 ≤ wr (i + 2) ∧ wr (i + 2) < I1 998 0 then (231 ≠ q_LED ∧ ∃ v M1, q_Met l false 231 [vr 265, vi (I1 999 (wr (i + 1)).toNat), vi (I1 999 (wr (i + 2)).toNat)] (qk t u I1 J1) v M1 ∧ M1.1 = 283 ∧ ((1 : Nat) = 0 → WW (303, 666, [vr 999, vr 1, vr 265, vr 283, vi i, vu, vu], [vi z]) M1) ∧ ((1 : Nat) ≠ 0 → WW (303, 666, [vr 999, vr 1, vr 265, vr 283, vi i, vu, vu], [v, vi z]) M1)) else False) else False)
  rw [e8, e9, if_pos (hI 1 (by decide) (by decide)), if_pos (hI 2 (by decide) (by decide))]
  exact h
theorem c_666 {l : Launch} {WW : qF → qM → Prop} {t u : Nat} {I2 J2 : Nat → Nat → Int} {i z : Int} (hSG : q_SG l WW) (h : WW (303, 2128, [vr 999, vr 1, vr 265, vr 283, vi i, vu, vu], []) (qk t u I2 J2)) : WW (303, 666, [vr 999, vr 1, vr 265, vr 283, vi i, vu, vu], [vi z, vi z]) (qk t u I2 J2) := by
  refine hSG 1 [] _ _ rfl rfl ?_
  show (if z = z then WW (303, 2128, [vr 999, vr 1, vr 265, vr 283, vi i, vu, vu], []) (qk t u I2 J2) else WW (303, 669, [vr 999, vr 1, vr 265, vr 283, vi i, vu, vu], []) (qk t u I2 J2))
  rw [if_pos rfl]
  exact h
theorem law_10 {l : Launch} {WW : qF → qM → Prop} {S : St} {t u : Nat} {I J : Nat → Nat → Int} {i : Int} (hJD : q_HJ l) (hOK : q_OK) (hSG : q_SG l WW) (hI : q_IB I i) (hR : q_RB I) (hN : q_NN WW I i) (V : CInv S t u I) (W : MInv S I) : WW (303, 634, [vr 999, vr 1, vr 265, vr 283, vi i, vu, vu], []) (qk t u I J) := by
  have B := q_bq (J := J) V W (f_held (I 999 (wr (i + 1)).toNat) (I 999 (wr (i + 2)).toNat)) (k_held V (I 999 (wr (i + 1)).toNat) (I 999 (wr (i + 2)).toNat)) (fun I1 W1 => q_bj (m_held W1 (I 999 (wr (i + 1)).toNat) (I 999 (wr (i + 2)).toNat)))
  obtain ⟨t, u, I1, a1, I2, J2, b1, e1, e2, S2, V2, W2⟩ := B
  refine g_634 hSG (fun _ _ => rfl) hI ⟨by decide, _, _, q_MetE hJD hOK a1 (by decide) (by decide) (by decide), rfl, fun z => absurd z (by decide), fun _ => ?_⟩
  refine g_650 hSG e1 hI ⟨by decide, _, _, q_MetE hJD hOK b1 (by decide) (by decide) (by decide), rfl, fun z => absurd z (by decide), fun _ => ?_⟩
  exact c_666 hSG (q_2128 hSG hI e2 V2 W2 hN)
theorem g_671 {l : Launch} {WW : qF → qM → Prop} {t u : Nat} {I I1 J1 : Nat → Nat → Int} {i : Int} (hSG : q_SG l WW) (he : ∀ a, 998 ≤ a → I1 a = I a) (hI : q_IB I i) (h : (113 ≠ q_LED ∧ ∃ v M1, q_Met l false 113 [vr 1, vi (I 999 (wr (i + 1)).toNat)] (qk t u I1 J1) v M1 ∧ M1.1 = 283 ∧ ((1 : Nat) = 0 → WW (303, 681, [vr 999, vr 1, vr 265, vr 283, vi i, vu, vu], []) M1) ∧ ((1 : Nat) ≠ 0 → WW (303, 681, [vr 999, vr 1, vr 265, vr 283, vi i, vu, vu], [v]) M1))) : WW (303, 671, [vr 999, vr 1, vr 265, vr 283, vi i, vu, vu], []) (qk t u I1 J1) := by
  refine hSG 7 [] _ _ rfl rfl ?_
  have e8 := he 998 (by decide)
  have e9 := he 999 (by decide)
  show (if 0 ≤ wr (i + 1) ∧ wr (i + 1) < I1 998 0 then (113 ≠ q_LED ∧ ∃ v M1, q_Met l false 113 [vr 1, vi (I1 999 (wr (i + 1)).toNat)] (qk t u I1 J1) v M1 ∧ M1.1 = 283 ∧ ((1 : Nat) = 0 → WW (303, 681, [vr 999, vr 1, vr 265, vr 283, vi i, vu, vu], []) M1) ∧ ((1 : Nat) ≠ 0 → WW (303, 681, [vr 999, vr 1, vr 265, vr 283, vi i, vu, vu], [v]) M1)) else False)
  rw [e8, e9, if_pos (hI 1 (by decide) (by decide))]
  exact h
theorem g_681 {l : Launch} {WW : qF → qM → Prop} {t u : Nat} {I I1 J1 : Nat → Nat → Int} {i : Int} {z : Int} (hSG : q_SG l WW) (he : ∀ a, 998 ≤ a → I1 a = I a) (hI : q_IB I i) (h : (233 ≠ q_LED ∧ ∃ v M1, q_Met l false 233 [vr 265, vi (I 999 (wr (i + 1)).toNat)] (qk t u I1 J1) v M1 ∧ M1.1 = 283 ∧ ((1 : Nat) = 0 → WW (303, 691, [vr 999, vr 1, vr 265, vr 283, vi i, vu, vu], [vi z]) M1) ∧ ((1 : Nat) ≠ 0 → WW (303, 691, [vr 999, vr 1, vr 265, vr 283, vi i, vu, vu], [v, vi z]) M1))) : WW (303, 681, [vr 999, vr 1, vr 265, vr 283, vi i, vu, vu], [vi z]) (qk t u I1 J1) := by
  refine hSG 7 [] _ _ rfl rfl ?_
  have e8 := he 998 (by decide)
  have e9 := he 999 (by decide)
  show (if 0 ≤ wr (i + 1) ∧ wr (i + 1) < I1 998 0 then (233 ≠ q_LED ∧ ∃ v M1, q_Met l false 233 [vr 265, vi (I1 999 (wr (i + 1)).toNat)] (qk t u I1 J1) v M1 ∧ M1.1 = 283 ∧ ((1 : Nat) = 0 → WW (303, 691, [vr 999, vr 1, vr 265, vr 283, vi i, vu, vu], [vi z]) M1) ∧ ((1 : Nat) ≠ 0 → WW (303, 691, [vr 999, vr 1, vr 265, vr 283, vi i, vu, vu], [v, vi z]) M1)) else False)
  rw [e8, e9, if_pos (hI 1 (by decide) (by decide))]
  exact h
theorem c_691 {l : Launch} {WW : qF → qM → Prop} {t u : Nat} {I2 J2 : Nat → Nat → Int} {i z : Int} (hSG : q_SG l WW) (h : WW (303, 2128, [vr 999, vr 1, vr 265, vr 283, vi i, vu, vu], []) (qk t u I2 J2)) : WW (303, 691, [vr 999, vr 1, vr 265, vr 283, vi i, vu, vu], [vi z, vi z]) (qk t u I2 J2) := by
  refine hSG 1 [] _ _ rfl rfl ?_
  show (if z = z then WW (303, 2128, [vr 999, vr 1, vr 265, vr 283, vi i, vu, vu], []) (qk t u I2 J2) else WW (303, 694, [vr 999, vr 1, vr 265, vr 283, vi i, vu, vu], []) (qk t u I2 J2))
  rw [if_pos rfl]
  exact h
theorem law_11 {l : Launch} {WW : qF → qM → Prop} {S : St} {t u : Nat} {I J : Nat → Nat → Int} {i : Int} (hJD : q_HJ l) (hOK : q_OK) (hSG : q_SG l WW) (hI : q_IB I i) (hR : q_RB I) (hN : q_NN WW I i) (V : CInv S t u I) (W : MInv S I) : WW (303, 671, [vr 999, vr 1, vr 265, vr 283, vi i, vu, vu], []) (qk t u I J) := by
  have B := q_bq (J := J) V W (f_settles (I 999 (wr (i + 1)).toNat)) (k_settles V (I 999 (wr (i + 1)).toNat)) (fun I1 W1 => q_bj (m_settles W1 (I 999 (wr (i + 1)).toNat)))
  obtain ⟨t, u, I1, a1, I2, J2, b1, e1, e2, S2, V2, W2⟩ := B
  refine g_671 hSG (fun _ _ => rfl) hI ⟨by decide, _, _, q_MetE hJD hOK a1 (by decide) (by decide) (by decide), rfl, fun z => absurd z (by decide), fun _ => ?_⟩
  refine g_681 hSG e1 hI ⟨by decide, _, _, q_MetE hJD hOK b1 (by decide) (by decide) (by decide), rfl, fun z => absurd z (by decide), fun _ => ?_⟩
  exact c_691 hSG (q_2128 hSG hI e2 V2 W2 hN)
theorem g_696 {l : Launch} {WW : qF → qM → Prop} {t u : Nat} {I I1 J1 : Nat → Nat → Int} {i : Int} (hSG : q_SG l WW) (he : ∀ a, 998 ≤ a → I1 a = I a) (hI : q_IB I i) (h : (114 ≠ q_LED ∧ ∃ v M1, q_Met l false 114 [vr 1, vi (I 999 (wr (i + 1)).toNat)] (qk t u I1 J1) v M1 ∧ M1.1 = 283 ∧ ((1 : Nat) = 0 → WW (303, 706, [vr 999, vr 1, vr 265, vr 283, vi i, vu, vu], []) M1) ∧ ((1 : Nat) ≠ 0 → WW (303, 706, [vr 999, vr 1, vr 265, vr 283, vi i, vu, vu], [v]) M1))) : WW (303, 696, [vr 999, vr 1, vr 265, vr 283, vi i, vu, vu], []) (qk t u I1 J1) := by
  refine hSG 7 [] _ _ rfl rfl ?_
  have e8 := he 998 (by decide)
  have e9 := he 999 (by decide)
  show (if 0 ≤ wr (i + 1) ∧ wr (i + 1) < I1 998 0 then (114 ≠ q_LED ∧ ∃ v M1, q_Met l false 114 [vr 1, vi (I1 999 (wr (i + 1)).toNat)] (qk t u I1 J1) v M1 ∧ M1.1 = 283 ∧ ((1 : Nat) = 0 → WW (303, 706, [vr 999, vr 1, vr 265, vr 283, vi i, vu, vu], []) M1) ∧ ((1 : Nat) ≠ 0 → WW (303, 706, [vr 999, vr 1, vr 265, vr 283, vi i, vu, vu], [v]) M1)) else False)
  rw [e8, e9, if_pos (hI 1 (by decide) (by decide))]
  exact h
theorem g_706 {l : Launch} {WW : qF → qM → Prop} {t u : Nat} {I I1 J1 : Nat → Nat → Int} {i : Int} {z : Int} (hSG : q_SG l WW) (he : ∀ a, 998 ≤ a → I1 a = I a) (hI : q_IB I i) (h : (234 ≠ q_LED ∧ ∃ v M1, q_Met l false 234 [vr 265, vi (I 999 (wr (i + 1)).toNat)] (qk t u I1 J1) v M1 ∧ M1.1 = 283 ∧ ((1 : Nat) = 0 → WW (303, 716, [vr 999, vr 1, vr 265, vr 283, vi i, vu, vu], [vi z]) M1) ∧ ((1 : Nat) ≠ 0 → WW (303, 716, [vr 999, vr 1, vr 265, vr 283, vi i, vu, vu], [v, vi z]) M1))) : WW (303, 706, [vr 999, vr 1, vr 265, vr 283, vi i, vu, vu], [vi z]) (qk t u I1 J1) := by
  refine hSG 7 [] _ _ rfl rfl ?_
  have e8 := he 998 (by decide)
  have e9 := he 999 (by decide)
  show (if 0 ≤ wr (i + 1) ∧ wr (i + 1) < I1 998 0 then (234 ≠ q_LED ∧ ∃ v M1, q_Met l false 234 [vr 265, vi (I1 999 (wr (i + 1)).toNat)] (qk t u I1 J1) v M1 ∧ M1.1 = 283 ∧ ((1 : Nat) = 0 → WW (303, 716, [vr 999, vr 1, vr 265, vr 283, vi i, vu, vu], [vi z]) M1) ∧ ((1 : Nat) ≠ 0 → WW (303, 716, [vr 999, vr 1, vr 265, vr 283, vi i, vu, vu], [v, vi z]) M1)) else False)
  rw [e8, e9, if_pos (hI 1 (by decide) (by decide))]
  exact h
theorem c_716 {l : Launch} {WW : qF → qM → Prop} {t u : Nat} {I2 J2 : Nat → Nat → Int} {i z : Int} (hSG : q_SG l WW) (h : WW (303, 2128, [vr 999, vr 1, vr 265, vr 283, vi i, vu, vu], []) (qk t u I2 J2)) : WW (303, 716, [vr 999, vr 1, vr 265, vr 283, vi i, vu, vu], [vi z, vi z]) (qk t u I2 J2) := by
  refine hSG 1 [] _ _ rfl rfl ?_
  show (if z = z then WW (303, 2128, [vr 999, vr 1, vr 265, vr 283, vi i, vu, vu], []) (qk t u I2 J2) else WW (303, 719, [vr 999, vr 1, vr 265, vr 283, vi i, vu, vu], []) (qk t u I2 J2))
  rw [if_pos rfl]
  exact h
theorem law_12 {l : Launch} {WW : qF → qM → Prop} {S : St} {t u : Nat} {I J : Nat → Nat → Int} {i : Int} (hJD : q_HJ l) (hOK : q_OK) (hSG : q_SG l WW) (hI : q_IB I i) (hR : q_RB I) (hN : q_NN WW I i) (V : CInv S t u I) (W : MInv S I) : WW (303, 696, [vr 999, vr 1, vr 265, vr 283, vi i, vu, vu], []) (qk t u I J) := by
  have B := q_bq (J := J) V W (f_round (I 999 (wr (i + 1)).toNat)) (k_round V (I 999 (wr (i + 1)).toNat)) (fun I1 W1 => q_bj (m_round W1 (I 999 (wr (i + 1)).toNat)))
  obtain ⟨t, u, I1, a1, I2, J2, b1, e1, e2, S2, V2, W2⟩ := B
  refine g_696 hSG (fun _ _ => rfl) hI ⟨by decide, _, _, q_MetE hJD hOK a1 (by decide) (by decide) (by decide), rfl, fun z => absurd z (by decide), fun _ => ?_⟩
  refine g_706 hSG e1 hI ⟨by decide, _, _, q_MetE hJD hOK b1 (by decide) (by decide) (by decide), rfl, fun z => absurd z (by decide), fun _ => ?_⟩
  exact c_716 hSG (q_2128 hSG hI e2 V2 W2 hN)
theorem g_721 {l : Launch} {WW : qF → qM → Prop} {t u : Nat} {I I1 J1 : Nat → Nat → Int} {i : Int} (hSG : q_SG l WW) (he : ∀ a, 998 ≤ a → I1 a = I a) (hI : q_IB I i) (h : (115 ≠ q_LED ∧ ∃ v M1, q_Met l false 115 [vr 1, vi (I 999 (wr (i + 1)).toNat)] (qk t u I1 J1) v M1 ∧ M1.1 = 283 ∧ ((1 : Nat) = 0 → WW (303, 731, [vr 999, vr 1, vr 265, vr 283, vi i, vu, vu], []) M1) ∧ ((1 : Nat) ≠ 0 → WW (303, 731, [vr 999, vr 1, vr 265, vr 283, vi i, vu, vu], [v]) M1))) : WW (303, 721, [vr 999, vr 1, vr 265, vr 283, vi i, vu, vu], []) (qk t u I1 J1) := by
  refine hSG 7 [] _ _ rfl rfl ?_
  have e8 := he 998 (by decide)
  have e9 := he 999 (by decide)
  show (if 0 ≤ wr (i + 1) ∧ wr (i + 1) < I1 998 0 then (115 ≠ q_LED ∧ ∃ v M1, q_Met l false 115 [vr 1, vi (I1 999 (wr (i + 1)).toNat)] (qk t u I1 J1) v M1 ∧ M1.1 = 283 ∧ ((1 : Nat) = 0 → WW (303, 731, [vr 999, vr 1, vr 265, vr 283, vi i, vu, vu], []) M1) ∧ ((1 : Nat) ≠ 0 → WW (303, 731, [vr 999, vr 1, vr 265, vr 283, vi i, vu, vu], [v]) M1)) else False)
  rw [e8, e9, if_pos (hI 1 (by decide) (by decide))]
  exact h
theorem g_731 {l : Launch} {WW : qF → qM → Prop} {t u : Nat} {I I1 J1 : Nat → Nat → Int} {i : Int} {z : Int} (hSG : q_SG l WW) (he : ∀ a, 998 ≤ a → I1 a = I a) (hI : q_IB I i) (h : (235 ≠ q_LED ∧ ∃ v M1, q_Met l false 235 [vr 265, vi (I 999 (wr (i + 1)).toNat)] (qk t u I1 J1) v M1 ∧ M1.1 = 283 ∧ ((1 : Nat) = 0 → WW (303, 741, [vr 999, vr 1, vr 265, vr 283, vi i, vu, vu], [vi z]) M1) ∧ ((1 : Nat) ≠ 0 → WW (303, 741, [vr 999, vr 1, vr 265, vr 283, vi i, vu, vu], [v, vi z]) M1))) : WW (303, 731, [vr 999, vr 1, vr 265, vr 283, vi i, vu, vu], [vi z]) (qk t u I1 J1) := by
  refine hSG 7 [] _ _ rfl rfl ?_
  have e8 := he 998 (by decide)
  have e9 := he 999 (by decide)
  show (if 0 ≤ wr (i + 1) ∧ wr (i + 1) < I1 998 0 then (235 ≠ q_LED ∧ ∃ v M1, q_Met l false 235 [vr 265, vi (I1 999 (wr (i + 1)).toNat)] (qk t u I1 J1) v M1 ∧ M1.1 = 283 ∧ ((1 : Nat) = 0 → WW (303, 741, [vr 999, vr 1, vr 265, vr 283, vi i, vu, vu], [vi z]) M1) ∧ ((1 : Nat) ≠ 0 → WW (303, 741, [vr 999, vr 1, vr 265, vr 283, vi i, vu, vu], [v, vi z]) M1)) else False)
  rw [e8, e9, if_pos (hI 1 (by decide) (by decide))]
  exact h
theorem c_741 {l : Launch} {WW : qF → qM → Prop} {t u : Nat} {I2 J2 : Nat → Nat → Int} {i z : Int} (hSG : q_SG l WW) (h : WW (303, 2128, [vr 999, vr 1, vr 265, vr 283, vi i, vu, vu], []) (qk t u I2 J2)) : WW (303, 741, [vr 999, vr 1, vr 265, vr 283, vi i, vu, vu], [vi z, vi z]) (qk t u I2 J2) := by
  refine hSG 1 [] _ _ rfl rfl ?_
  show (if z = z then WW (303, 2128, [vr 999, vr 1, vr 265, vr 283, vi i, vu, vu], []) (qk t u I2 J2) else WW (303, 744, [vr 999, vr 1, vr 265, vr 283, vi i, vu, vu], []) (qk t u I2 J2))
  rw [if_pos rfl]
  exact h
theorem law_13 {l : Launch} {WW : qF → qM → Prop} {S : St} {t u : Nat} {I J : Nat → Nat → Int} {i : Int} (hJD : q_HJ l) (hOK : q_OK) (hSG : q_SG l WW) (hI : q_IB I i) (hR : q_RB I) (hN : q_NN WW I i) (V : CInv S t u I) (W : MInv S I) : WW (303, 721, [vr 999, vr 1, vr 265, vr 283, vi i, vu, vu], []) (qk t u I J) := by
  have B := q_bq (J := J) V W (f_fewest (I 999 (wr (i + 1)).toNat)) (k_fewest V (I 999 (wr (i + 1)).toNat)) (fun I1 W1 => q_bj (m_fewest W1 (I 999 (wr (i + 1)).toNat)))
  obtain ⟨t, u, I1, a1, I2, J2, b1, e1, e2, S2, V2, W2⟩ := B
  refine g_721 hSG (fun _ _ => rfl) hI ⟨by decide, _, _, q_MetE hJD hOK a1 (by decide) (by decide) (by decide), rfl, fun z => absurd z (by decide), fun _ => ?_⟩
  refine g_731 hSG e1 hI ⟨by decide, _, _, q_MetE hJD hOK b1 (by decide) (by decide) (by decide), rfl, fun z => absurd z (by decide), fun _ => ?_⟩
  exact c_741 hSG (q_2128 hSG hI e2 V2 W2 hN)
theorem g_746 {l : Launch} {WW : qF → qM → Prop} {t u : Nat} {I I1 J1 : Nat → Nat → Int} {i : Int} (hSG : q_SG l WW) (he : ∀ a, 998 ≤ a → I1 a = I a) (hI : q_IB I i) (h : (116 ≠ q_LED ∧ ∃ v M1, q_Met l false 116 [vr 1, vi (I 999 (wr (i + 1)).toNat), vi (I 999 (wr (i + 2)).toNat)] (qk t u I1 J1) v M1 ∧ M1.1 = 283 ∧ ((1 : Nat) = 0 → WW (303, 762, [vr 999, vr 1, vr 265, vr 283, vi i, vu, vu], []) M1) ∧ ((1 : Nat) ≠ 0 → WW (303, 762, [vr 999, vr 1, vr 265, vr 283, vi i, vu, vu], [v]) M1))) : WW (303, 746, [vr 999, vr 1, vr 265, vr 283, vi i, vu, vu], []) (qk t u I1 J1) := by
  refine hSG 12 [] _ _ rfl rfl ?_
  have e8 := he 998 (by decide)
  have e9 := he 999 (by decide)
  show (if 0 ≤ wr (i + 1) ∧ wr (i + 1) < I1 998 0 then (if 0 ≤ wr (i + 2) ∧ wr (i + 2) < I1 998 0 then (116 ≠ q_LED ∧ ∃ v M1, q_Met l false 116 [vr 1, vi (I1 999 (wr (i + 1)).toNat), vi (I1 999 (wr (i + 2)).toNat)] (qk t u I1 J1) v M1 ∧ M1.1 = 283 ∧ ((1 : Nat) = 0 → WW (303, 762, [vr 999, vr 1, vr 265, vr 283, vi i, vu, vu], []) M1) ∧ ((1 : Nat) ≠ 0 → WW (303, 762, [vr 999, vr 1, vr 265, vr 283, vi i, vu, vu], [v]) M1)) else False) else False)
  rw [e8, e9, if_pos (hI 1 (by decide) (by decide)), if_pos (hI 2 (by decide) (by decide))]
  exact h
theorem g_762 {l : Launch} {WW : qF → qM → Prop} {t u : Nat} {I I1 J1 : Nat → Nat → Int} {i : Int} {z : Int} (hSG : q_SG l WW) (he : ∀ a, 998 ≤ a → I1 a = I a) (hI : q_IB I i) (h : (236 ≠ q_LED ∧ ∃ v M1, q_Met l false 236 [vr 265, vi (I 999 (wr (i + 1)).toNat), vi (I 999 (wr (i + 2)).toNat)] (qk t u I1 J1) v M1 ∧ M1.1 = 283 ∧ ((1 : Nat) = 0 → WW (303, 778, [vr 999, vr 1, vr 265, vr 283, vi i, vu, vu], [vi z]) M1) ∧ ((1 : Nat) ≠ 0 → WW (303, 778, [vr 999, vr 1, vr 265, vr 283, vi i, vu, vu], [v, vi z]) M1))) : WW (303, 762, [vr 999, vr 1, vr 265, vr 283, vi i, vu, vu], [vi z]) (qk t u I1 J1) := by
  refine hSG 12 [] _ _ rfl rfl ?_
  have e8 := he 998 (by decide)
  have e9 := he 999 (by decide)
  show (if 0 ≤ wr (i + 1) ∧ wr (i + 1) < I1 998 0 then (if 0 ≤ wr (i + 2) ∧ wr (i + 2) < I1 998 0 then (236 ≠ q_LED ∧ ∃ v M1, q_Met l false 236 [vr 265, vi (I1 999 (wr (i + 1)).toNat), vi (I1 999 (wr (i + 2)).toNat)] (qk t u I1 J1) v M1 ∧ M1.1 = 283 ∧ ((1 : Nat) = 0 → WW (303, 778, [vr 999, vr 1, vr 265, vr 283, vi i, vu, vu], [vi z]) M1) ∧ ((1 : Nat) ≠ 0 → WW (303, 778, [vr 999, vr 1, vr 265, vr 283, vi i, vu, vu], [v, vi z]) M1)) else False) else False)
  rw [e8, e9, if_pos (hI 1 (by decide) (by decide)), if_pos (hI 2 (by decide) (by decide))]
  exact h
theorem c_778 {l : Launch} {WW : qF → qM → Prop} {t u : Nat} {I2 J2 : Nat → Nat → Int} {i z : Int} (hSG : q_SG l WW) (h : WW (303, 2128, [vr 999, vr 1, vr 265, vr 283, vi i, vu, vu], []) (qk t u I2 J2)) : WW (303, 778, [vr 999, vr 1, vr 265, vr 283, vi i, vu, vu], [vi z, vi z]) (qk t u I2 J2) := by
  refine hSG 1 [] _ _ rfl rfl ?_
  show (if z = z then WW (303, 2128, [vr 999, vr 1, vr 265, vr 283, vi i, vu, vu], []) (qk t u I2 J2) else WW (303, 781, [vr 999, vr 1, vr 265, vr 283, vi i, vu, vu], []) (qk t u I2 J2))
  rw [if_pos rfl]
  exact h
theorem law_14 {l : Launch} {WW : qF → qM → Prop} {S : St} {t u : Nat} {I J : Nat → Nat → Int} {i : Int} (hJD : q_HJ l) (hOK : q_OK) (hSG : q_SG l WW) (hI : q_IB I i) (hR : q_RB I) (hN : q_NN WW I i) (V : CInv S t u I) (W : MInv S I) : WW (303, 746, [vr 999, vr 1, vr 265, vr 283, vi i, vu, vu], []) (qk t u I J) := by
  have B := q_bq (J := J) V W (f_alike (I 999 (wr (i + 1)).toNat) (I 999 (wr (i + 2)).toNat)) (k_alike V (I 999 (wr (i + 1)).toNat) (I 999 (wr (i + 2)).toNat)) (fun I1 W1 => q_bj (m_alike W1 (I 999 (wr (i + 1)).toNat) (I 999 (wr (i + 2)).toNat)))
  obtain ⟨t, u, I1, a1, I2, J2, b1, e1, e2, S2, V2, W2⟩ := B
  refine g_746 hSG (fun _ _ => rfl) hI ⟨by decide, _, _, q_MetE hJD hOK a1 (by decide) (by decide) (by decide), rfl, fun z => absurd z (by decide), fun _ => ?_⟩
  refine g_762 hSG e1 hI ⟨by decide, _, _, q_MetE hJD hOK b1 (by decide) (by decide) (by decide), rfl, fun z => absurd z (by decide), fun _ => ?_⟩
  exact c_778 hSG (q_2128 hSG hI e2 V2 W2 hN)
theorem g_783 {l : Launch} {WW : qF → qM → Prop} {t u : Nat} {I I1 J1 : Nat → Nat → Int} {i : Int} (hSG : q_SG l WW) (he : ∀ a, 998 ≤ a → I1 a = I a) (hI : q_IB I i) (h : (117 ≠ q_LED ∧ ∃ v M1, q_Met l false 117 [vr 1, vi (I 999 (wr (i + 1)).toNat), vi (I 999 (wr (i + 2)).toNat)] (qk t u I1 J1) v M1 ∧ M1.1 = 283 ∧ ((1 : Nat) = 0 → WW (303, 799, [vr 999, vr 1, vr 265, vr 283, vi i, vu, vu], []) M1) ∧ ((1 : Nat) ≠ 0 → WW (303, 799, [vr 999, vr 1, vr 265, vr 283, vi i, vu, vu], [v]) M1))) : WW (303, 783, [vr 999, vr 1, vr 265, vr 283, vi i, vu, vu], []) (qk t u I1 J1) := by
  refine hSG 12 [] _ _ rfl rfl ?_
  have e8 := he 998 (by decide)
  have e9 := he 999 (by decide)
  show (if 0 ≤ wr (i + 1) ∧ wr (i + 1) < I1 998 0 then (if 0 ≤ wr (i + 2) ∧ wr (i + 2) < I1 998 0 then (117 ≠ q_LED ∧ ∃ v M1, q_Met l false 117 [vr 1, vi (I1 999 (wr (i + 1)).toNat), vi (I1 999 (wr (i + 2)).toNat)] (qk t u I1 J1) v M1 ∧ M1.1 = 283 ∧ ((1 : Nat) = 0 → WW (303, 799, [vr 999, vr 1, vr 265, vr 283, vi i, vu, vu], []) M1) ∧ ((1 : Nat) ≠ 0 → WW (303, 799, [vr 999, vr 1, vr 265, vr 283, vi i, vu, vu], [v]) M1)) else False) else False)
  rw [e8, e9, if_pos (hI 1 (by decide) (by decide)), if_pos (hI 2 (by decide) (by decide))]
  exact h
theorem g_799 {l : Launch} {WW : qF → qM → Prop} {t u : Nat} {I I1 J1 : Nat → Nat → Int} {i : Int} {z : Int} (hSG : q_SG l WW) (he : ∀ a, 998 ≤ a → I1 a = I a) (hI : q_IB I i) (h : (238 ≠ q_LED ∧ ∃ v M1, q_Met l false 238 [vr 265, vi (I 999 (wr (i + 1)).toNat), vi (I 999 (wr (i + 2)).toNat)] (qk t u I1 J1) v M1 ∧ M1.1 = 283 ∧ ((1 : Nat) = 0 → WW (303, 815, [vr 999, vr 1, vr 265, vr 283, vi i, vu, vu], [vi z]) M1) ∧ ((1 : Nat) ≠ 0 → WW (303, 815, [vr 999, vr 1, vr 265, vr 283, vi i, vu, vu], [v, vi z]) M1))) : WW (303, 799, [vr 999, vr 1, vr 265, vr 283, vi i, vu, vu], [vi z]) (qk t u I1 J1) := by
  refine hSG 12 [] _ _ rfl rfl ?_
  have e8 := he 998 (by decide)
  have e9 := he 999 (by decide)
  show (if 0 ≤ wr (i + 1) ∧ wr (i + 1) < I1 998 0 then (if 0 ≤ wr (i + 2) ∧ wr (i + 2) < I1 998 0 then (238 ≠ q_LED ∧ ∃ v M1, q_Met l false 238 [vr 265, vi (I1 999 (wr (i + 1)).toNat), vi (I1 999 (wr (i + 2)).toNat)] (qk t u I1 J1) v M1 ∧ M1.1 = 283 ∧ ((1 : Nat) = 0 → WW (303, 815, [vr 999, vr 1, vr 265, vr 283, vi i, vu, vu], [vi z]) M1) ∧ ((1 : Nat) ≠ 0 → WW (303, 815, [vr 999, vr 1, vr 265, vr 283, vi i, vu, vu], [v, vi z]) M1)) else False) else False)
  rw [e8, e9, if_pos (hI 1 (by decide) (by decide)), if_pos (hI 2 (by decide) (by decide))]
  exact h
theorem c_815 {l : Launch} {WW : qF → qM → Prop} {t u : Nat} {I2 J2 : Nat → Nat → Int} {i z : Int} (hSG : q_SG l WW) (h : WW (303, 2128, [vr 999, vr 1, vr 265, vr 283, vi i, vu, vu], []) (qk t u I2 J2)) : WW (303, 815, [vr 999, vr 1, vr 265, vr 283, vi i, vu, vu], [vi z, vi z]) (qk t u I2 J2) := by
  refine hSG 1 [] _ _ rfl rfl ?_
  show (if z = z then WW (303, 2128, [vr 999, vr 1, vr 265, vr 283, vi i, vu, vu], []) (qk t u I2 J2) else WW (303, 818, [vr 999, vr 1, vr 265, vr 283, vi i, vu, vu], []) (qk t u I2 J2))
  rw [if_pos rfl]
  exact h
theorem law_15 {l : Launch} {WW : qF → qM → Prop} {S : St} {t u : Nat} {I J : Nat → Nat → Int} {i : Int} (hJD : q_HJ l) (hOK : q_OK) (hSG : q_SG l WW) (hI : q_IB I i) (hR : q_RB I) (hN : q_NN WW I i) (V : CInv S t u I) (W : MInv S I) : WW (303, 783, [vr 999, vr 1, vr 265, vr 283, vi i, vu, vu], []) (qk t u I J) := by
  have B := q_bq (J := J) V W (f_column (I 999 (wr (i + 1)).toNat) (I 999 (wr (i + 2)).toNat)) (k_column V (I 999 (wr (i + 1)).toNat) (I 999 (wr (i + 2)).toNat)) (fun I1 W1 => q_bj (m_column W1 (I 999 (wr (i + 1)).toNat) (I 999 (wr (i + 2)).toNat)))
  obtain ⟨t, u, I1, a1, I2, J2, b1, e1, e2, S2, V2, W2⟩ := B
  refine g_783 hSG (fun _ _ => rfl) hI ⟨by decide, _, _, q_MetE hJD hOK a1 (by decide) (by decide) (by decide), rfl, fun z => absurd z (by decide), fun _ => ?_⟩
  refine g_799 hSG e1 hI ⟨by decide, _, _, q_MetE hJD hOK b1 (by decide) (by decide) (by decide), rfl, fun z => absurd z (by decide), fun _ => ?_⟩
  exact c_815 hSG (q_2128 hSG hI e2 V2 W2 hN)

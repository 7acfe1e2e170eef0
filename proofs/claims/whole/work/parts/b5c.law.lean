/-! the law's cases, 3 -/
theorem g_1305 {l : Launch} {WW : qF → qM → Prop} {t u : Nat} {I I1 J1 : Nat → Nat → Int} {i : Int} (hSG : q_SG l WW) (he : ∀ a, 998 ≤ a → I1 a = I a) (hI : q_IB I i) (h : (134 ≠ q_LED ∧ ∃ v M1, q_Met l false 134 [vr 1, vi (I 999 (wr (i + 1)).toNat)] (qk t u I1 J1) v M1 ∧ M1.1 = 283 ∧ ((1 : Nat) = 0 → WW (303, 1315, [vr 999, vr 1, vr 265, vr 283, vi i, vu, vu], []) M1) ∧ ((1 : Nat) ≠ 0 → WW (303, 1315, [vr 999, vr 1, vr 265, vr 283, vi i, vu, vu], [v]) M1))) : WW (303, 1305, [vr 999, vr 1, vr 265, vr 283, vi i, vu, vu], []) (qk t u I1 J1) := by
  refine hSG 7 [] _ _ rfl rfl ?_
  have e8 := he 998 (by decide)
  have e9 := he 999 (by decide)
  show (if 0 ≤ wr (i + 1) ∧ wr (i + 1) < I1 998 0 then (134 ≠ q_LED ∧ ∃ v M1, q_Met l false 134 [vr 1, vi (I1 999 (wr (i + 1)).toNat)] (qk t u I1 J1) v M1 ∧ M1.1 = 283 ∧ ((1 : Nat) = 0 → WW (303, 1315, [vr 999, vr 1, vr 265, vr 283, vi i, vu, vu], []) M1) ∧ ((1 : Nat) ≠ 0 → WW (303, 1315, [vr 999, vr 1, vr 265, vr 283, vi i, vu, vu], [v]) M1)) else False)
  rw [e8, e9, if_pos (hI 1 (by decide) (by decide))]
  exact h
theorem g_1315 {l : Launch} {WW : qF → qM → Prop} {t u : Nat} {I I1 J1 : Nat → Nat → Int} {i : Int} {z : Int} (hSG : q_SG l WW) (he : ∀ a, 998 ≤ a → I1 a = I a) (hI : q_IB I i) (h : (264 ≠ q_LED ∧ ∃ v M1, q_Met l false 264 [vr 265, vi (I 999 (wr (i + 1)).toNat)] (qk t u I1 J1) v M1 ∧ M1.1 = 283 ∧ ((1 : Nat) = 0 → WW (303, 1325, [vr 999, vr 1, vr 265, vr 283, vi i, vu, vu], [vi z]) M1) ∧ ((1 : Nat) ≠ 0 → WW (303, 1325, [vr 999, vr 1, vr 265, vr 283, vi i, vu, vu], [v, vi z]) M1))) : WW (303, 1315, [vr 999, vr 1, vr 265, vr 283, vi i, vu, vu], [vi z]) (qk t u I1 J1) := by
  refine hSG 7 [] _ _ rfl rfl ?_
  have e8 := he 998 (by decide)
  have e9 := he 999 (by decide)
  show (if 0 ≤ wr (i + 1) ∧ wr (i + 1) < I1 998 0 then (264 ≠ q_LED ∧ ∃ v M1, q_Met l false 264 [vr 265, vi (I1 999 (wr (i + 1)).toNat)] (qk t u I1 J1) v M1 ∧ M1.1 = 283 ∧ ((1 : Nat) = 0 → WW (303, 1325, [vr 999, vr 1, vr 265, vr 283, vi i, vu, vu], [vi z]) M1) ∧ ((1 : Nat) ≠ 0 → WW (303, 1325, [vr 999, vr 1, vr 265, vr 283, vi i, vu, vu], [v, vi z]) M1)) else False)
  rw [e8, e9, if_pos (hI 1 (by decide) (by decide))]
  exact h
theorem c_1325 {l : Launch} {WW : qF → qM → Prop} {t u : Nat} {I2 J2 : Nat → Nat → Int} {i z : Int} (hSG : q_SG l WW) (h : WW (303, 2128, [vr 999, vr 1, vr 265, vr 283, vi i, vu, vu], []) (qk t u I2 J2)) : WW (303, 1325, [vr 999, vr 1, vr 265, vr 283, vi i, vu, vu], [vi z, vi z]) (qk t u I2 J2) := by
  refine hSG 1 [] _ _ rfl rfl ?_
  show (if z = z then WW (303, 2128, [vr 999, vr 1, vr 265, vr 283, vi i, vu, vu], []) (qk t u I2 J2) else WW (303, 1328, [vr 999, vr 1, vr 265, vr 283, vi i, vu, vu], []) (qk t u I2 J2))
  rw [if_pos rfl]
  exact h
theorem law_32 {l : Launch} {WW : qF → qM → Prop} {S : St} {t u : Nat} {I J : Nat → Nat → Int} {i : Int} (hJD : q_HJ l) (hOK : q_OK) (hSG : q_SG l WW) (hI : q_IB I i) (hR : q_RB I) (hN : q_NN WW I i) (V : CInv S t u I) (W : MInv S I) : WW (303, 1305, [vr 999, vr 1, vr 265, vr 283, vi i, vu, vu], []) (qk t u I J) := by
  have B := q_bq (J := J) V W (f_level (I 999 (wr (i + 1)).toNat)) (k_level V (I 999 (wr (i + 1)).toNat)) (fun I1 W1 => q_bj (m_level W1 (I 999 (wr (i + 1)).toNat)))
  obtain ⟨t, u, I1, a1, I2, J2, b1, e1, e2, S2, V2, W2⟩ := B
  refine g_1305 hSG (fun _ _ => rfl) hI ⟨by decide, _, _, q_MetE hJD hOK a1 (by decide) (by decide) (by decide), rfl, fun z => absurd z (by decide), fun _ => ?_⟩
  refine g_1315 hSG e1 hI ⟨by decide, _, _, q_MetE hJD hOK b1 (by decide) (by decide) (by decide), rfl, fun z => absurd z (by decide), fun _ => ?_⟩
  exact c_1325 hSG (q_2128 hSG hI e2 V2 W2 hN)
theorem g_1330 {l : Launch} {WW : qF → qM → Prop} {t u : Nat} {I I1 J1 : Nat → Nat → Int} {i : Int} (hSG : q_SG l WW) (he : ∀ a, 998 ≤ a → I1 a = I a) (hI : q_IB I i) (h : (135 ≠ q_LED ∧ ∃ v M1, q_Met l false 135 [vr 1, vi (I 999 (wr (i + 1)).toNat), vi (I 999 (wr (i + 2)).toNat)] (qk t u I1 J1) v M1 ∧ M1.1 = 283 ∧ ((1 : Nat) = 0 → WW (303, 1346, [vr 999, vr 1, vr 265, vr 283, vi i, vu, vu], []) M1) ∧ ((1 : Nat) ≠ 0 → WW (303, 1346, [vr 999, vr 1, vr 265, vr 283, vi i, vu, vu], [v]) M1))) : WW (303, 1330, [vr 999, vr 1, vr 265, vr 283, vi i, vu, vu], []) (qk t u I1 J1) := by
  refine hSG 12 [] _ _ rfl rfl ?_
  have e8 := he 998 (by decide)
  have e9 := he 999 (by decide)
  show (if 0 ≤ wr (i + 1) ∧ wr (i + 1) < I1 998 0 then (if 0 ≤ wr (i + 2) ∧ wr (i + 2) < I1 998 0 then (135 ≠ q_LED ∧ ∃ v M1, q_Met l false 135 [vr 1, vi (I1 999 (wr (i + 1)).toNat), vi (I1 999 (wr (i + 2)).toNat)] (qk t u I1 J1) v M1 ∧ M1.1 = 283 ∧ ((1 : Nat) = 0 → WW (303, 1346, [vr 999, vr 1, vr 265, vr 283, vi i, vu, vu], []) M1) ∧ ((1 : Nat) ≠ 0 → WW (303, 1346, [vr 999, vr 1, vr 265, vr 283, vi i, vu, vu], [v]) M1)) else False) else False)
  rw [e8, e9, if_pos (hI 1 (by decide) (by decide)), if_pos (hI 2 (by decide) (by decide))]
  exact h
theorem g_1346 {l : Launch} {WW : qF → qM → Prop} {t u : Nat} {I I1 J1 : Nat → Nat → Int} {i : Int} {z : Int} (hSG : q_SG l WW) (he : ∀ a, 998 ≤ a → I1 a = I a) (hI : q_IB I i) (h : (266 ≠ q_LED ∧ ∃ v M1, q_Met l false 266 [vr 265, vi (I 999 (wr (i + 1)).toNat), vi (I 999 (wr (i + 2)).toNat)] (qk t u I1 J1) v M1 ∧ M1.1 = 283 ∧ ((1 : Nat) = 0 → WW (303, 1362, [vr 999, vr 1, vr 265, vr 283, vi i, vu, vu], [vi z]) M1) ∧ ((1 : Nat) ≠ 0 → WW (303, 1362, [vr 999, vr 1, vr 265, vr 283, vi i, vu, vu], [v, vi z]) M1))) : WW (303, 1346, [vr 999, vr 1, vr 265, vr 283, vi i, vu, vu], [vi z]) (qk t u I1 J1) := by
  refine hSG 12 [] _ _ rfl rfl ?_
  have e8 := he 998 (by decide)
  have e9 := he 999 (by decide)
  show (if 0 ≤ wr (i + 1) ∧ wr (i + 1) < I1 998 0 then (if 0 ≤ wr (i + 2) ∧ wr (i + 2) < I1 998 0 then (266 ≠ q_LED ∧ ∃ v M1, q_Met l false 266 [vr 265, vi (I1 999 (wr (i + 1)).toNat), vi (I1 999 (wr (i + 2)).toNat)] (qk t u I1 J1) v M1 ∧ M1.1 = 283 ∧ ((1 : Nat) = 0 → WW (303, 1362, [vr 999, vr 1, vr 265, vr 283, vi i, vu, vu], [vi z]) M1) ∧ ((1 : Nat) ≠ 0 → WW (303, 1362, [vr 999, vr 1, vr 265, vr 283, vi i, vu, vu], [v, vi z]) M1)) else False) else False)
  rw [e8, e9, if_pos (hI 1 (by decide) (by decide)), if_pos (hI 2 (by decide) (by decide))]
  exact h
theorem c_1362 {l : Launch} {WW : qF → qM → Prop} {t u : Nat} {I2 J2 : Nat → Nat → Int} {i z : Int} (hSG : q_SG l WW) (h : WW (303, 2128, [vr 999, vr 1, vr 265, vr 283, vi i, vu, vu], []) (qk t u I2 J2)) : WW (303, 1362, [vr 999, vr 1, vr 265, vr 283, vi i, vu, vu], [vi z, vi z]) (qk t u I2 J2) := by
  refine hSG 1 [] _ _ rfl rfl ?_
  show (if z = z then WW (303, 2128, [vr 999, vr 1, vr 265, vr 283, vi i, vu, vu], []) (qk t u I2 J2) else WW (303, 1365, [vr 999, vr 1, vr 265, vr 283, vi i, vu, vu], []) (qk t u I2 J2))
  rw [if_pos rfl]
  exact h
theorem law_33 {l : Launch} {WW : qF → qM → Prop} {S : St} {t u : Nat} {I J : Nat → Nat → Int} {i : Int} (hJD : q_HJ l) (hOK : q_OK) (hSG : q_SG l WW) (hI : q_IB I i) (hR : q_RB I) (hN : q_NN WW I i) (V : CInv S t u I) (W : MInv S I) : WW (303, 1330, [vr 999, vr 1, vr 265, vr 283, vi i, vu, vu], []) (qk t u I J) := by
  have B := q_bq (J := J) V W (f_makes (I 999 (wr (i + 1)).toNat) (I 999 (wr (i + 2)).toNat)) (k_makes V (I 999 (wr (i + 1)).toNat) (I 999 (wr (i + 2)).toNat)) (fun I1 W1 => q_bj (m_makes W1 (I 999 (wr (i + 1)).toNat) (I 999 (wr (i + 2)).toNat)))
  obtain ⟨t, u, I1, a1, I2, J2, b1, e1, e2, S2, V2, W2⟩ := B
  refine g_1330 hSG (fun _ _ => rfl) hI ⟨by decide, _, _, q_MetE hJD hOK a1 (by decide) (by decide) (by decide), rfl, fun z => absurd z (by decide), fun _ => ?_⟩
  refine g_1346 hSG e1 hI ⟨by decide, _, _, q_MetE hJD hOK b1 (by decide) (by decide) (by decide), rfl, fun z => absurd z (by decide), fun _ => ?_⟩
  exact c_1362 hSG (q_2128 hSG hI e2 V2 W2 hN)
theorem g_1367 {l : Launch} {WW : qF → qM → Prop} {t u : Nat} {I I1 J1 : Nat → Nat → Int} {i : Int} (hSG : q_SG l WW) (he : ∀ a, 998 ≤ a → I1 a = I a) (hI : q_IB I i) (h : (136 ≠ q_LED ∧ ∃ v M1, q_Met l false 136 [vr 1, vi (I 999 (wr (i + 1)).toNat)] (qk t u I1 J1) v M1 ∧ M1.1 = 283 ∧ ((1 : Nat) = 0 → WW (303, 1377, [vr 999, vr 1, vr 265, vr 283, vi i, vu, vu], []) M1) ∧ ((1 : Nat) ≠ 0 → WW (303, 1377, [vr 999, vr 1, vr 265, vr 283, vi i, vu, vu], [v]) M1))) : WW (303, 1367, [vr 999, vr 1, vr 265, vr 283, vi i, vu, vu], []) (qk t u I1 J1) := by
  refine hSG 7 [] _ _ rfl rfl ?_
  have e8 := he 998 (by decide)
  have e9 := he 999 (by decide)
  show (if 0 ≤ wr (i + 1) ∧ wr (i + 1) < I1 998 0 then (136 ≠ q_LED ∧ ∃ v M1, q_Met l false 136 [vr 1, vi (I1 999 (wr (i + 1)).toNat)] (qk t u I1 J1) v M1 ∧ M1.1 = 283 ∧ ((1 : Nat) = 0 → WW (303, 1377, [vr 999, vr 1, vr 265, vr 283, vi i, vu, vu], []) M1) ∧ ((1 : Nat) ≠ 0 → WW (303, 1377, [vr 999, vr 1, vr 265, vr 283, vi i, vu, vu], [v]) M1)) else False)
  rw [e8, e9, if_pos (hI 1 (by decide) (by decide))]
  exact h
theorem g_1377 {l : Launch} {WW : qF → qM → Prop} {t u : Nat} {I I1 J1 : Nat → Nat → Int} {i : Int} {z : Int} (hSG : q_SG l WW) (he : ∀ a, 998 ≤ a → I1 a = I a) (hI : q_IB I i) (h : (267 ≠ q_LED ∧ ∃ v M1, q_Met l false 267 [vr 265, vi (I 999 (wr (i + 1)).toNat)] (qk t u I1 J1) v M1 ∧ M1.1 = 283 ∧ ((1 : Nat) = 0 → WW (303, 1387, [vr 999, vr 1, vr 265, vr 283, vi i, vu, vu], [vi z]) M1) ∧ ((1 : Nat) ≠ 0 → WW (303, 1387, [vr 999, vr 1, vr 265, vr 283, vi i, vu, vu], [v, vi z]) M1))) : WW (303, 1377, [vr 999, vr 1, vr 265, vr 283, vi i, vu, vu], [vi z]) (qk t u I1 J1) := by
  refine hSG 7 [] _ _ rfl rfl ?_
  have e8 := he 998 (by decide)
  have e9 := he 999 (by decide)
  show (if 0 ≤ wr (i + 1) ∧ wr (i + 1) < I1 998 0 then (267 ≠ q_LED ∧ ∃ v M1, q_Met l false 267 [vr 265, vi (I1 999 (wr (i + 1)).toNat)] (qk t u I1 J1) v M1 ∧ M1.1 = 283 ∧ ((1 : Nat) = 0 → WW (303, 1387, [vr 999, vr 1, vr 265, vr 283, vi i, vu, vu], [vi z]) M1) ∧ ((1 : Nat) ≠ 0 → WW (303, 1387, [vr 999, vr 1, vr 265, vr 283, vi i, vu, vu], [v, vi z]) M1)) else False)
  rw [e8, e9, if_pos (hI 1 (by decide) (by decide))]
  exact h
theorem c_1387 {l : Launch} {WW : qF → qM → Prop} {t u : Nat} {I2 J2 : Nat → Nat → Int} {i z : Int} (hSG : q_SG l WW) (h : WW (303, 2128, [vr 999, vr 1, vr 265, vr 283, vi i, vu, vu], []) (qk t u I2 J2)) : WW (303, 1387, [vr 999, vr 1, vr 265, vr 283, vi i, vu, vu], [vi z, vi z]) (qk t u I2 J2) := by
  refine hSG 1 [] _ _ rfl rfl ?_
  show (if z = z then WW (303, 2128, [vr 999, vr 1, vr 265, vr 283, vi i, vu, vu], []) (qk t u I2 J2) else WW (303, 1390, [vr 999, vr 1, vr 265, vr 283, vi i, vu, vu], []) (qk t u I2 J2))
  rw [if_pos rfl]
  exact h
theorem law_34 {l : Launch} {WW : qF → qM → Prop} {S : St} {t u : Nat} {I J : Nat → Nat → Int} {i : Int} (hJD : q_HJ l) (hOK : q_OK) (hSG : q_SG l WW) (hI : q_IB I i) (hR : q_RB I) (hN : q_NN WW I i) (V : CInv S t u I) (W : MInv S I) : WW (303, 1367, [vr 999, vr 1, vr 265, vr 283, vi i, vu, vu], []) (qk t u I J) := by
  have B := q_bq (J := J) V W (f_half (I 999 (wr (i + 1)).toNat)) (k_half V (I 999 (wr (i + 1)).toNat)) (fun I1 W1 => q_bj (m_half W1 (I 999 (wr (i + 1)).toNat)))
  obtain ⟨t, u, I1, a1, I2, J2, b1, e1, e2, S2, V2, W2⟩ := B
  refine g_1367 hSG (fun _ _ => rfl) hI ⟨by decide, _, _, q_MetE hJD hOK a1 (by decide) (by decide) (by decide), rfl, fun z => absurd z (by decide), fun _ => ?_⟩
  refine g_1377 hSG e1 hI ⟨by decide, _, _, q_MetE hJD hOK b1 (by decide) (by decide) (by decide), rfl, fun z => absurd z (by decide), fun _ => ?_⟩
  exact c_1387 hSG (q_2128 hSG hI e2 V2 W2 hN)
theorem g_1392 {l : Launch} {WW : qF → qM → Prop} {t u : Nat} {I I1 J1 : Nat → Nat → Int} {i : Int} (hSG : q_SG l WW) (he : ∀ a, 998 ≤ a → I1 a = I a) (hI : q_IB I i) (h : (137 ≠ q_LED ∧ ∃ v M1, q_Met l false 137 [vr 1] (qk t u I1 J1) v M1 ∧ M1.1 = 283 ∧ ((1 : Nat) = 0 → WW (303, 1396, [vr 999, vr 1, vr 265, vr 283, vi i, vu, vu], []) M1) ∧ ((1 : Nat) ≠ 0 → WW (303, 1396, [vr 999, vr 1, vr 265, vr 283, vi i, vu, vu], [v]) M1))) : WW (303, 1392, [vr 999, vr 1, vr 265, vr 283, vi i, vu, vu], []) (qk t u I1 J1) := by
  refine hSG 2 [] _ _ rfl rfl ?_
  have e8 := he 998 (by decide)
  have e9 := he 999 (by decide)
  show (137 ≠ q_LED ∧ ∃ v M1, q_Met l false 137 [vr 1] (qk t u I1 J1) v M1 ∧ M1.1 = 283 ∧ ((1 : Nat) = 0 → WW (303, 1396, [vr 999, vr 1, vr 265, vr 283, vi i, vu, vu], []) M1) ∧ ((1 : Nat) ≠ 0 → WW (303, 1396, [vr 999, vr 1, vr 265, vr 283, vi i, vu, vu], [v]) M1))
  exact h
theorem g_1396 {l : Launch} {WW : qF → qM → Prop} {t u : Nat} {I I1 J1 : Nat → Nat → Int} {i : Int} {z : Int} (hSG : q_SG l WW) (he : ∀ a, 998 ≤ a → I1 a = I a) (hI : q_IB I i) (h : (270 ≠ q_LED ∧ ∃ v M1, q_Met l false 270 [vr 265] (qk t u I1 J1) v M1 ∧ M1.1 = 283 ∧ ((1 : Nat) = 0 → WW (303, 1400, [vr 999, vr 1, vr 265, vr 283, vi i, vu, vu], [vi z]) M1) ∧ ((1 : Nat) ≠ 0 → WW (303, 1400, [vr 999, vr 1, vr 265, vr 283, vi i, vu, vu], [v, vi z]) M1))) : WW (303, 1396, [vr 999, vr 1, vr 265, vr 283, vi i, vu, vu], [vi z]) (qk t u I1 J1) := by
  refine hSG 2 [] _ _ rfl rfl ?_
  have e8 := he 998 (by decide)
  have e9 := he 999 (by decide)
  show (270 ≠ q_LED ∧ ∃ v M1, q_Met l false 270 [vr 265] (qk t u I1 J1) v M1 ∧ M1.1 = 283 ∧ ((1 : Nat) = 0 → WW (303, 1400, [vr 999, vr 1, vr 265, vr 283, vi i, vu, vu], [vi z]) M1) ∧ ((1 : Nat) ≠ 0 → WW (303, 1400, [vr 999, vr 1, vr 265, vr 283, vi i, vu, vu], [v, vi z]) M1))
  exact h
theorem c_1400 {l : Launch} {WW : qF → qM → Prop} {t u : Nat} {I2 J2 : Nat → Nat → Int} {i z : Int} (hSG : q_SG l WW) (h : WW (303, 2128, [vr 999, vr 1, vr 265, vr 283, vi i, vu, vu], []) (qk t u I2 J2)) : WW (303, 1400, [vr 999, vr 1, vr 265, vr 283, vi i, vu, vu], [vi z, vi z]) (qk t u I2 J2) := by
  refine hSG 1 [] _ _ rfl rfl ?_
  show (if z = z then WW (303, 2128, [vr 999, vr 1, vr 265, vr 283, vi i, vu, vu], []) (qk t u I2 J2) else WW (303, 1403, [vr 999, vr 1, vr 265, vr 283, vi i, vu, vu], []) (qk t u I2 J2))
  rw [if_pos rfl]
  exact h
theorem law_35 {l : Launch} {WW : qF → qM → Prop} {S : St} {t u : Nat} {I J : Nat → Nat → Int} {i : Int} (hJD : q_HJ l) (hOK : q_OK) (hSG : q_SG l WW) (hI : q_IB I i) (hR : q_RB I) (hN : q_NN WW I i) (V : CInv S t u I) (W : MInv S I) : WW (303, 1392, [vr 999, vr 1, vr 265, vr 283, vi i, vu, vu], []) (qk t u I J) := by
  have B := q_bq (J := J) V W (f_fits) (k_fits V) (fun I1 W1 => q_bj (m_fits W1))
  obtain ⟨t, u, I1, a1, I2, J2, b1, e1, e2, S2, V2, W2⟩ := B
  refine g_1392 hSG (fun _ _ => rfl) hI ⟨by decide, _, _, q_MetE hJD hOK a1 (by decide) (by decide) (by decide), rfl, fun z => absurd z (by decide), fun _ => ?_⟩
  refine g_1396 hSG e1 hI ⟨by decide, _, _, q_MetE hJD hOK b1 (by decide) (by decide) (by decide), rfl, fun z => absurd z (by decide), fun _ => ?_⟩
  exact c_1400 hSG (q_2128 hSG hI e2 V2 W2 hN)
theorem g_1405 {l : Launch} {WW : qF → qM → Prop} {t u : Nat} {I I1 J1 : Nat → Nat → Int} {i : Int} (hSG : q_SG l WW) (he : ∀ a, 998 ≤ a → I1 a = I a) (hI : q_IB I i) (h : (138 ≠ q_LED ∧ ∃ v M1, q_Met l false 138 [vr 1, vi (I 999 (wr (i + 1)).toNat)] (qk t u I1 J1) v M1 ∧ M1.1 = 283 ∧ ((1 : Nat) = 0 → WW (303, 1415, [vr 999, vr 1, vr 265, vr 283, vi i, vu, vu], []) M1) ∧ ((1 : Nat) ≠ 0 → WW (303, 1415, [vr 999, vr 1, vr 265, vr 283, vi i, vu, vu], [v]) M1))) : WW (303, 1405, [vr 999, vr 1, vr 265, vr 283, vi i, vu, vu], []) (qk t u I1 J1) := by
  refine hSG 7 [] _ _ rfl rfl ?_
  have e8 := he 998 (by decide)
  have e9 := he 999 (by decide)
  show (if 0 ≤ wr (i + 1) ∧ wr (i + 1) < I1 998 0 then (138 ≠ q_LED ∧ ∃ v M1, q_Met l false 138 [vr 1, vi (I1 999 (wr (i + 1)).toNat)] (qk t u I1 J1) v M1 ∧ M1.1 = 283 ∧ ((1 : Nat) = 0 → WW (303, 1415, [vr 999, vr 1, vr 265, vr 283, vi i, vu, vu], []) M1) ∧ ((1 : Nat) ≠ 0 → WW (303, 1415, [vr 999, vr 1, vr 265, vr 283, vi i, vu, vu], [v]) M1)) else False)
  rw [e8, e9, if_pos (hI 1 (by decide) (by decide))]
  exact h
theorem g_1415 {l : Launch} {WW : qF → qM → Prop} {t u : Nat} {I I1 J1 : Nat → Nat → Int} {i : Int} {z : Int} (hSG : q_SG l WW) (he : ∀ a, 998 ≤ a → I1 a = I a) (hI : q_IB I i) (h : (271 ≠ q_LED ∧ ∃ v M1, q_Met l false 271 [vr 265, vi (I 999 (wr (i + 1)).toNat)] (qk t u I1 J1) v M1 ∧ M1.1 = 283 ∧ ((1 : Nat) = 0 → WW (303, 1425, [vr 999, vr 1, vr 265, vr 283, vi i, vu, vu], [vi z]) M1) ∧ ((1 : Nat) ≠ 0 → WW (303, 1425, [vr 999, vr 1, vr 265, vr 283, vi i, vu, vu], [v, vi z]) M1))) : WW (303, 1415, [vr 999, vr 1, vr 265, vr 283, vi i, vu, vu], [vi z]) (qk t u I1 J1) := by
  refine hSG 7 [] _ _ rfl rfl ?_
  have e8 := he 998 (by decide)
  have e9 := he 999 (by decide)
  show (if 0 ≤ wr (i + 1) ∧ wr (i + 1) < I1 998 0 then (271 ≠ q_LED ∧ ∃ v M1, q_Met l false 271 [vr 265, vi (I1 999 (wr (i + 1)).toNat)] (qk t u I1 J1) v M1 ∧ M1.1 = 283 ∧ ((1 : Nat) = 0 → WW (303, 1425, [vr 999, vr 1, vr 265, vr 283, vi i, vu, vu], [vi z]) M1) ∧ ((1 : Nat) ≠ 0 → WW (303, 1425, [vr 999, vr 1, vr 265, vr 283, vi i, vu, vu], [v, vi z]) M1)) else False)
  rw [e8, e9, if_pos (hI 1 (by decide) (by decide))]
  exact h
theorem c_1425 {l : Launch} {WW : qF → qM → Prop} {t u : Nat} {I2 J2 : Nat → Nat → Int} {i z : Int} (hSG : q_SG l WW) (h : WW (303, 2128, [vr 999, vr 1, vr 265, vr 283, vi i, vu, vu], []) (qk t u I2 J2)) : WW (303, 1425, [vr 999, vr 1, vr 265, vr 283, vi i, vu, vu], [vi z, vi z]) (qk t u I2 J2) := by
  refine hSG 1 [] _ _ rfl rfl ?_
  show (if z = z then WW (303, 2128, [vr 999, vr 1, vr 265, vr 283, vi i, vu, vu], []) (qk t u I2 J2) else WW (303, 1428, [vr 999, vr 1, vr 265, vr 283, vi i, vu, vu], []) (qk t u I2 J2))
  rw [if_pos rfl]
  exact h
theorem law_36 {l : Launch} {WW : qF → qM → Prop} {S : St} {t u : Nat} {I J : Nat → Nat → Int} {i : Int} (hJD : q_HJ l) (hOK : q_OK) (hSG : q_SG l WW) (hI : q_IB I i) (hR : q_RB I) (hN : q_NN WW I i) (V : CInv S t u I) (W : MInv S I) : WW (303, 1405, [vr 999, vr 1, vr 265, vr 283, vi i, vu, vu], []) (qk t u I J) := by
  have B := q_bq (J := J) V W (f_fitAt (I 999 (wr (i + 1)).toNat)) (k_fitAt V (I 999 (wr (i + 1)).toNat)) (fun I1 W1 => q_bj (m_fitAt W1 (I 999 (wr (i + 1)).toNat)))
  obtain ⟨t, u, I1, a1, I2, J2, b1, e1, e2, S2, V2, W2⟩ := B
  refine g_1405 hSG (fun _ _ => rfl) hI ⟨by decide, _, _, q_MetE hJD hOK a1 (by decide) (by decide) (by decide), rfl, fun z => absurd z (by decide), fun _ => ?_⟩
  refine g_1415 hSG e1 hI ⟨by decide, _, _, q_MetE hJD hOK b1 (by decide) (by decide) (by decide), rfl, fun z => absurd z (by decide), fun _ => ?_⟩
  exact c_1425 hSG (q_2128 hSG hI e2 V2 W2 hN)
theorem g_1430 {l : Launch} {WW : qF → qM → Prop} {t u : Nat} {I I1 J1 : Nat → Nat → Int} {i : Int} (hSG : q_SG l WW) (he : ∀ a, 998 ≤ a → I1 a = I a) (hI : q_IB I i) (h : (139 ≠ q_LED ∧ ∃ v M1, q_Met l false 139 [vr 1] (qk t u I1 J1) v M1 ∧ M1.1 = 283 ∧ ((1 : Nat) = 0 → WW (303, 1434, [vr 999, vr 1, vr 265, vr 283, vi i, vu, vu], []) M1) ∧ ((1 : Nat) ≠ 0 → WW (303, 1434, [vr 999, vr 1, vr 265, vr 283, vi i, vu, vu], [v]) M1))) : WW (303, 1430, [vr 999, vr 1, vr 265, vr 283, vi i, vu, vu], []) (qk t u I1 J1) := by
  refine hSG 2 [] _ _ rfl rfl ?_
  have e8 := he 998 (by decide)
  have e9 := he 999 (by decide)
  show (139 ≠ q_LED ∧ ∃ v M1, q_Met l false 139 [vr 1] (qk t u I1 J1) v M1 ∧ M1.1 = 283 ∧ ((1 : Nat) = 0 → WW (303, 1434, [vr 999, vr 1, vr 265, vr 283, vi i, vu, vu], []) M1) ∧ ((1 : Nat) ≠ 0 → WW (303, 1434, [vr 999, vr 1, vr 265, vr 283, vi i, vu, vu], [v]) M1))
  exact h
theorem g_1434 {l : Launch} {WW : qF → qM → Prop} {t u : Nat} {I I1 J1 : Nat → Nat → Int} {i : Int} {z : Int} (hSG : q_SG l WW) (he : ∀ a, 998 ≤ a → I1 a = I a) (hI : q_IB I i) (h : (272 ≠ q_LED ∧ ∃ v M1, q_Met l false 272 [vr 265] (qk t u I1 J1) v M1 ∧ M1.1 = 283 ∧ ((1 : Nat) = 0 → WW (303, 1438, [vr 999, vr 1, vr 265, vr 283, vi i, vu, vu], [vi z]) M1) ∧ ((1 : Nat) ≠ 0 → WW (303, 1438, [vr 999, vr 1, vr 265, vr 283, vi i, vu, vu], [v, vi z]) M1))) : WW (303, 1434, [vr 999, vr 1, vr 265, vr 283, vi i, vu, vu], [vi z]) (qk t u I1 J1) := by
  refine hSG 2 [] _ _ rfl rfl ?_
  have e8 := he 998 (by decide)
  have e9 := he 999 (by decide)
  show (272 ≠ q_LED ∧ ∃ v M1, q_Met l false 272 [vr 265] (qk t u I1 J1) v M1 ∧ M1.1 = 283 ∧ ((1 : Nat) = 0 → WW (303, 1438, [vr 999, vr 1, vr 265, vr 283, vi i, vu, vu], [vi z]) M1) ∧ ((1 : Nat) ≠ 0 → WW (303, 1438, [vr 999, vr 1, vr 265, vr 283, vi i, vu, vu], [v, vi z]) M1))
  exact h
theorem c_1438 {l : Launch} {WW : qF → qM → Prop} {t u : Nat} {I2 J2 : Nat → Nat → Int} {i z : Int} (hSG : q_SG l WW) (h : WW (303, 2128, [vr 999, vr 1, vr 265, vr 283, vi i, vu, vu], []) (qk t u I2 J2)) : WW (303, 1438, [vr 999, vr 1, vr 265, vr 283, vi i, vu, vu], [vi z, vi z]) (qk t u I2 J2) := by
  refine hSG 1 [] _ _ rfl rfl ?_
  show (if z = z then WW (303, 2128, [vr 999, vr 1, vr 265, vr 283, vi i, vu, vu], []) (qk t u I2 J2) else WW (303, 1441, [vr 999, vr 1, vr 265, vr 283, vi i, vu, vu], []) (qk t u I2 J2))
  rw [if_pos rfl]
  exact h
theorem law_37 {l : Launch} {WW : qF → qM → Prop} {S : St} {t u : Nat} {I J : Nat → Nat → Int} {i : Int} (hJD : q_HJ l) (hOK : q_OK) (hSG : q_SG l WW) (hI : q_IB I i) (hR : q_RB I) (hN : q_NN WW I i) (V : CInv S t u I) (W : MInv S I) : WW (303, 1430, [vr 999, vr 1, vr 265, vr 283, vi i, vu, vu], []) (qk t u I J) := by
  have B := q_bq (J := J) V W (f_could) (k_could V) (fun I1 W1 => q_bj (m_could W1))
  obtain ⟨t, u, I1, a1, I2, J2, b1, e1, e2, S2, V2, W2⟩ := B
  refine g_1430 hSG (fun _ _ => rfl) hI ⟨by decide, _, _, q_MetE hJD hOK a1 (by decide) (by decide) (by decide), rfl, fun z => absurd z (by decide), fun _ => ?_⟩
  refine g_1434 hSG e1 hI ⟨by decide, _, _, q_MetE hJD hOK b1 (by decide) (by decide) (by decide), rfl, fun z => absurd z (by decide), fun _ => ?_⟩
  exact c_1438 hSG (q_2128 hSG hI e2 V2 W2 hN)
theorem g_1443 {l : Launch} {WW : qF → qM → Prop} {t u : Nat} {I I1 J1 : Nat → Nat → Int} {i : Int} (hSG : q_SG l WW) (he : ∀ a, 998 ≤ a → I1 a = I a) (hI : q_IB I i) (h : (140 ≠ q_LED ∧ ∃ v M1, q_Met l false 140 [vr 1] (qk t u I1 J1) v M1 ∧ M1.1 = 283 ∧ ((1 : Nat) = 0 → WW (303, 1447, [vr 999, vr 1, vr 265, vr 283, vi i, vu, vu], []) M1) ∧ ((1 : Nat) ≠ 0 → WW (303, 1447, [vr 999, vr 1, vr 265, vr 283, vi i, vu, vu], [v]) M1))) : WW (303, 1443, [vr 999, vr 1, vr 265, vr 283, vi i, vu, vu], []) (qk t u I1 J1) := by
  refine hSG 2 [] _ _ rfl rfl ?_
  have e8 := he 998 (by decide)
  have e9 := he 999 (by decide)
  show (140 ≠ q_LED ∧ ∃ v M1, q_Met l false 140 [vr 1] (qk t u I1 J1) v M1 ∧ M1.1 = 283 ∧ ((1 : Nat) = 0 → WW (303, 1447, [vr 999, vr 1, vr 265, vr 283, vi i, vu, vu], []) M1) ∧ ((1 : Nat) ≠ 0 → WW (303, 1447, [vr 999, vr 1, vr 265, vr 283, vi i, vu, vu], [v]) M1))
  exact h
theorem g_1447 {l : Launch} {WW : qF → qM → Prop} {t u : Nat} {I I1 J1 : Nat → Nat → Int} {i : Int} {z : Int} (hSG : q_SG l WW) (he : ∀ a, 998 ≤ a → I1 a = I a) (hI : q_IB I i) (h : (273 ≠ q_LED ∧ ∃ v M1, q_Met l false 273 [vr 265] (qk t u I1 J1) v M1 ∧ M1.1 = 283 ∧ ((1 : Nat) = 0 → WW (303, 1451, [vr 999, vr 1, vr 265, vr 283, vi i, vu, vu], [vi z]) M1) ∧ ((1 : Nat) ≠ 0 → WW (303, 1451, [vr 999, vr 1, vr 265, vr 283, vi i, vu, vu], [v, vi z]) M1))) : WW (303, 1447, [vr 999, vr 1, vr 265, vr 283, vi i, vu, vu], [vi z]) (qk t u I1 J1) := by
  refine hSG 2 [] _ _ rfl rfl ?_
  have e8 := he 998 (by decide)
  have e9 := he 999 (by decide)
  show (273 ≠ q_LED ∧ ∃ v M1, q_Met l false 273 [vr 265] (qk t u I1 J1) v M1 ∧ M1.1 = 283 ∧ ((1 : Nat) = 0 → WW (303, 1451, [vr 999, vr 1, vr 265, vr 283, vi i, vu, vu], [vi z]) M1) ∧ ((1 : Nat) ≠ 0 → WW (303, 1451, [vr 999, vr 1, vr 265, vr 283, vi i, vu, vu], [v, vi z]) M1))
  exact h
theorem c_1451 {l : Launch} {WW : qF → qM → Prop} {t u : Nat} {I2 J2 : Nat → Nat → Int} {i z : Int} (hSG : q_SG l WW) (h : WW (303, 2128, [vr 999, vr 1, vr 265, vr 283, vi i, vu, vu], []) (qk t u I2 J2)) : WW (303, 1451, [vr 999, vr 1, vr 265, vr 283, vi i, vu, vu], [vi z, vi z]) (qk t u I2 J2) := by
  refine hSG 1 [] _ _ rfl rfl ?_
  show (if z = z then WW (303, 2128, [vr 999, vr 1, vr 265, vr 283, vi i, vu, vu], []) (qk t u I2 J2) else WW (303, 1454, [vr 999, vr 1, vr 265, vr 283, vi i, vu, vu], []) (qk t u I2 J2))
  rw [if_pos rfl]
  exact h
theorem law_38 {l : Launch} {WW : qF → qM → Prop} {S : St} {t u : Nat} {I J : Nat → Nat → Int} {i : Int} (hJD : q_HJ l) (hOK : q_OK) (hSG : q_SG l WW) (hI : q_IB I i) (hR : q_RB I) (hN : q_NN WW I i) (V : CInv S t u I) (W : MInv S I) : WW (303, 1443, [vr 999, vr 1, vr 265, vr 283, vi i, vu, vu], []) (qk t u I J) := by
  have B := q_bq (J := J) V W (f_surely) (k_surely V) (fun I1 W1 => q_bj (m_surely W1))
  obtain ⟨t, u, I1, a1, I2, J2, b1, e1, e2, S2, V2, W2⟩ := B
  refine g_1443 hSG (fun _ _ => rfl) hI ⟨by decide, _, _, q_MetE hJD hOK a1 (by decide) (by decide) (by decide), rfl, fun z => absurd z (by decide), fun _ => ?_⟩
  refine g_1447 hSG e1 hI ⟨by decide, _, _, q_MetE hJD hOK b1 (by decide) (by decide) (by decide), rfl, fun z => absurd z (by decide), fun _ => ?_⟩
  exact c_1451 hSG (q_2128 hSG hI e2 V2 W2 hN)
theorem g_1456 {l : Launch} {WW : qF → qM → Prop} {t u : Nat} {I I1 J1 : Nat → Nat → Int} {i : Int} (hSG : q_SG l WW) (he : ∀ a, 998 ≤ a → I1 a = I a) (hI : q_IB I i) (h : (141 ≠ q_LED ∧ ∃ v M1, q_Met l false 141 [vr 1] (qk t u I1 J1) v M1 ∧ M1.1 = 283 ∧ ((1 : Nat) = 0 → WW (303, 1460, [vr 999, vr 1, vr 265, vr 283, vi i, vu, vu], []) M1) ∧ ((1 : Nat) ≠ 0 → WW (303, 1460, [vr 999, vr 1, vr 265, vr 283, vi i, vu, vu], [v]) M1))) : WW (303, 1456, [vr 999, vr 1, vr 265, vr 283, vi i, vu, vu], []) (qk t u I1 J1) := by
  refine hSG 2 [] _ _ rfl rfl ?_
  have e8 := he 998 (by decide)
  have e9 := he 999 (by decide)
  show (141 ≠ q_LED ∧ ∃ v M1, q_Met l false 141 [vr 1] (qk t u I1 J1) v M1 ∧ M1.1 = 283 ∧ ((1 : Nat) = 0 → WW (303, 1460, [vr 999, vr 1, vr 265, vr 283, vi i, vu, vu], []) M1) ∧ ((1 : Nat) ≠ 0 → WW (303, 1460, [vr 999, vr 1, vr 265, vr 283, vi i, vu, vu], [v]) M1))
  exact h
theorem g_1460 {l : Launch} {WW : qF → qM → Prop} {t u : Nat} {I I1 J1 : Nat → Nat → Int} {i : Int} {z : Int} (hSG : q_SG l WW) (he : ∀ a, 998 ≤ a → I1 a = I a) (hI : q_IB I i) (h : (276 ≠ q_LED ∧ ∃ v M1, q_Met l false 276 [vr 265] (qk t u I1 J1) v M1 ∧ M1.1 = 283 ∧ ((1 : Nat) = 0 → WW (303, 1464, [vr 999, vr 1, vr 265, vr 283, vi i, vu, vu], [vi z]) M1) ∧ ((1 : Nat) ≠ 0 → WW (303, 1464, [vr 999, vr 1, vr 265, vr 283, vi i, vu, vu], [v, vi z]) M1))) : WW (303, 1460, [vr 999, vr 1, vr 265, vr 283, vi i, vu, vu], [vi z]) (qk t u I1 J1) := by
  refine hSG 2 [] _ _ rfl rfl ?_
  have e8 := he 998 (by decide)
  have e9 := he 999 (by decide)
  show (276 ≠ q_LED ∧ ∃ v M1, q_Met l false 276 [vr 265] (qk t u I1 J1) v M1 ∧ M1.1 = 283 ∧ ((1 : Nat) = 0 → WW (303, 1464, [vr 999, vr 1, vr 265, vr 283, vi i, vu, vu], [vi z]) M1) ∧ ((1 : Nat) ≠ 0 → WW (303, 1464, [vr 999, vr 1, vr 265, vr 283, vi i, vu, vu], [v, vi z]) M1))
  exact h
theorem c_1464 {l : Launch} {WW : qF → qM → Prop} {t u : Nat} {I2 J2 : Nat → Nat → Int} {i z : Int} (hSG : q_SG l WW) (h : WW (303, 2128, [vr 999, vr 1, vr 265, vr 283, vi i, vu, vu], []) (qk t u I2 J2)) : WW (303, 1464, [vr 999, vr 1, vr 265, vr 283, vi i, vu, vu], [vi z, vi z]) (qk t u I2 J2) := by
  refine hSG 1 [] _ _ rfl rfl ?_
  show (if z = z then WW (303, 2128, [vr 999, vr 1, vr 265, vr 283, vi i, vu, vu], []) (qk t u I2 J2) else WW (303, 1467, [vr 999, vr 1, vr 265, vr 283, vi i, vu, vu], []) (qk t u I2 J2))
  rw [if_pos rfl]
  exact h
theorem law_39 {l : Launch} {WW : qF → qM → Prop} {S : St} {t u : Nat} {I J : Nat → Nat → Int} {i : Int} (hJD : q_HJ l) (hOK : q_OK) (hSG : q_SG l WW) (hI : q_IB I i) (hR : q_RB I) (hN : q_NN WW I i) (V : CInv S t u I) (W : MInv S I) : WW (303, 1456, [vr 999, vr 1, vr 265, vr 283, vi i, vu, vu], []) (qk t u I J) := by
  have B := q_bq (J := J) V W (f_ask) (k_ask V) (fun I1 W1 => q_bj (m_ask W1))
  obtain ⟨t, u, I1, a1, I2, J2, b1, e1, e2, S2, V2, W2⟩ := B
  refine g_1456 hSG (fun _ _ => rfl) hI ⟨by decide, _, _, q_MetE hJD hOK a1 (by decide) (by decide) (by decide), rfl, fun z => absurd z (by decide), fun _ => ?_⟩
  refine g_1460 hSG e1 hI ⟨by decide, _, _, q_MetE hJD hOK b1 (by decide) (by decide) (by decide), rfl, fun z => absurd z (by decide), fun _ => ?_⟩
  exact c_1464 hSG (q_2128 hSG hI e2 V2 W2 hN)
theorem g_1469 {l : Launch} {WW : qF → qM → Prop} {t u : Nat} {I I1 J1 : Nat → Nat → Int} {i : Int} (hSG : q_SG l WW) (he : ∀ a, 998 ≤ a → I1 a = I a) (hI : q_IB I i) (h : (142 ≠ q_LED ∧ ∃ v M1, q_Met l false 142 [vr 1] (qk t u I1 J1) v M1 ∧ M1.1 = 283 ∧ ((1 : Nat) = 0 → WW (303, 1473, [vr 999, vr 1, vr 265, vr 283, vi i, vu, vu], []) M1) ∧ ((1 : Nat) ≠ 0 → WW (303, 1473, [vr 999, vr 1, vr 265, vr 283, vi i, vu, vu], [v]) M1))) : WW (303, 1469, [vr 999, vr 1, vr 265, vr 283, vi i, vu, vu], []) (qk t u I1 J1) := by
  refine hSG 2 [] _ _ rfl rfl ?_
  have e8 := he 998 (by decide)
  have e9 := he 999 (by decide)
  show (142 ≠ q_LED ∧ ∃ v M1, q_Met l false 142 [vr 1] (qk t u I1 J1) v M1 ∧ M1.1 = 283 ∧ ((1 : Nat) = 0 → WW (303, 1473, [vr 999, vr 1, vr 265, vr 283, vi i, vu, vu], []) M1) ∧ ((1 : Nat) ≠ 0 → WW (303, 1473, [vr 999, vr 1, vr 265, vr 283, vi i, vu, vu], [v]) M1))
  exact h
theorem g_1473 {l : Launch} {WW : qF → qM → Prop} {t u : Nat} {I I1 J1 : Nat → Nat → Int} {i : Int} {z : Int} (hSG : q_SG l WW) (he : ∀ a, 998 ≤ a → I1 a = I a) (hI : q_IB I i) (h : (277 ≠ q_LED ∧ ∃ v M1, q_Met l false 277 [vr 265] (qk t u I1 J1) v M1 ∧ M1.1 = 283 ∧ ((1 : Nat) = 0 → WW (303, 1477, [vr 999, vr 1, vr 265, vr 283, vi i, vu, vu], [vi z]) M1) ∧ ((1 : Nat) ≠ 0 → WW (303, 1477, [vr 999, vr 1, vr 265, vr 283, vi i, vu, vu], [v, vi z]) M1))) : WW (303, 1473, [vr 999, vr 1, vr 265, vr 283, vi i, vu, vu], [vi z]) (qk t u I1 J1) := by
  refine hSG 2 [] _ _ rfl rfl ?_
  have e8 := he 998 (by decide)
  have e9 := he 999 (by decide)
  show (277 ≠ q_LED ∧ ∃ v M1, q_Met l false 277 [vr 265] (qk t u I1 J1) v M1 ∧ M1.1 = 283 ∧ ((1 : Nat) = 0 → WW (303, 1477, [vr 999, vr 1, vr 265, vr 283, vi i, vu, vu], [vi z]) M1) ∧ ((1 : Nat) ≠ 0 → WW (303, 1477, [vr 999, vr 1, vr 265, vr 283, vi i, vu, vu], [v, vi z]) M1))
  exact h
theorem c_1477 {l : Launch} {WW : qF → qM → Prop} {t u : Nat} {I2 J2 : Nat → Nat → Int} {i z : Int} (hSG : q_SG l WW) (h : WW (303, 2128, [vr 999, vr 1, vr 265, vr 283, vi i, vu, vu], []) (qk t u I2 J2)) : WW (303, 1477, [vr 999, vr 1, vr 265, vr 283, vi i, vu, vu], [vi z, vi z]) (qk t u I2 J2) := by
  refine hSG 1 [] _ _ rfl rfl ?_
  show (if z = z then WW (303, 2128, [vr 999, vr 1, vr 265, vr 283, vi i, vu, vu], []) (qk t u I2 J2) else WW (303, 1480, [vr 999, vr 1, vr 265, vr 283, vi i, vu, vu], []) (qk t u I2 J2))
  rw [if_pos rfl]
  exact h
theorem law_40 {l : Launch} {WW : qF → qM → Prop} {S : St} {t u : Nat} {I J : Nat → Nat → Int} {i : Int} (hJD : q_HJ l) (hOK : q_OK) (hSG : q_SG l WW) (hI : q_IB I i) (hR : q_RB I) (hN : q_NN WW I i) (V : CInv S t u I) (W : MInv S I) : WW (303, 1469, [vr 999, vr 1, vr 265, vr 283, vi i, vu, vu], []) (qk t u I J) := by
  have B := q_bq (J := J) V W (f_askLeaves) (k_askLeaves V) (fun I1 W1 => q_bj (m_askLeaves W1))
  obtain ⟨t, u, I1, a1, I2, J2, b1, e1, e2, S2, V2, W2⟩ := B
  refine g_1469 hSG (fun _ _ => rfl) hI ⟨by decide, _, _, q_MetE hJD hOK a1 (by decide) (by decide) (by decide), rfl, fun z => absurd z (by decide), fun _ => ?_⟩
  refine g_1473 hSG e1 hI ⟨by decide, _, _, q_MetE hJD hOK b1 (by decide) (by decide) (by decide), rfl, fun z => absurd z (by decide), fun _ => ?_⟩
  exact c_1477 hSG (q_2128 hSG hI e2 V2 W2 hN)
theorem g_1482 {l : Launch} {WW : qF → qM → Prop} {t u : Nat} {I I1 J1 : Nat → Nat → Int} {i : Int} (hSG : q_SG l WW) (he : ∀ a, 998 ≤ a → I1 a = I a) (hI : q_IB I i) (h : (143 ≠ q_LED ∧ ∃ v M1, q_Met l false 143 [vr 1] (qk t u I1 J1) v M1 ∧ M1.1 = 283 ∧ ((1 : Nat) = 0 → WW (303, 1486, [vr 999, vr 1, vr 265, vr 283, vi i, vu, vu], []) M1) ∧ ((1 : Nat) ≠ 0 → WW (303, 1486, [vr 999, vr 1, vr 265, vr 283, vi i, vu, vu], [v]) M1))) : WW (303, 1482, [vr 999, vr 1, vr 265, vr 283, vi i, vu, vu], []) (qk t u I1 J1) := by
  refine hSG 2 [] _ _ rfl rfl ?_
  have e8 := he 998 (by decide)
  have e9 := he 999 (by decide)
  show (143 ≠ q_LED ∧ ∃ v M1, q_Met l false 143 [vr 1] (qk t u I1 J1) v M1 ∧ M1.1 = 283 ∧ ((1 : Nat) = 0 → WW (303, 1486, [vr 999, vr 1, vr 265, vr 283, vi i, vu, vu], []) M1) ∧ ((1 : Nat) ≠ 0 → WW (303, 1486, [vr 999, vr 1, vr 265, vr 283, vi i, vu, vu], [v]) M1))
  exact h
theorem g_1486 {l : Launch} {WW : qF → qM → Prop} {t u : Nat} {I I1 J1 : Nat → Nat → Int} {i : Int} {z : Int} (hSG : q_SG l WW) (he : ∀ a, 998 ≤ a → I1 a = I a) (hI : q_IB I i) (h : (278 ≠ q_LED ∧ ∃ v M1, q_Met l false 278 [vr 265] (qk t u I1 J1) v M1 ∧ M1.1 = 283 ∧ ((1 : Nat) = 0 → WW (303, 1490, [vr 999, vr 1, vr 265, vr 283, vi i, vu, vu], [vi z]) M1) ∧ ((1 : Nat) ≠ 0 → WW (303, 1490, [vr 999, vr 1, vr 265, vr 283, vi i, vu, vu], [v, vi z]) M1))) : WW (303, 1486, [vr 999, vr 1, vr 265, vr 283, vi i, vu, vu], [vi z]) (qk t u I1 J1) := by
  refine hSG 2 [] _ _ rfl rfl ?_
  have e8 := he 998 (by decide)
  have e9 := he 999 (by decide)
  show (278 ≠ q_LED ∧ ∃ v M1, q_Met l false 278 [vr 265] (qk t u I1 J1) v M1 ∧ M1.1 = 283 ∧ ((1 : Nat) = 0 → WW (303, 1490, [vr 999, vr 1, vr 265, vr 283, vi i, vu, vu], [vi z]) M1) ∧ ((1 : Nat) ≠ 0 → WW (303, 1490, [vr 999, vr 1, vr 265, vr 283, vi i, vu, vu], [v, vi z]) M1))
  exact h
theorem c_1490 {l : Launch} {WW : qF → qM → Prop} {t u : Nat} {I2 J2 : Nat → Nat → Int} {i z : Int} (hSG : q_SG l WW) (h : WW (303, 2128, [vr 999, vr 1, vr 265, vr 283, vi i, vu, vu], []) (qk t u I2 J2)) : WW (303, 1490, [vr 999, vr 1, vr 265, vr 283, vi i, vu, vu], [vi z, vi z]) (qk t u I2 J2) := by
  refine hSG 1 [] _ _ rfl rfl ?_
  show (if z = z then WW (303, 2128, [vr 999, vr 1, vr 265, vr 283, vi i, vu, vu], []) (qk t u I2 J2) else WW (303, 1493, [vr 999, vr 1, vr 265, vr 283, vi i, vu, vu], []) (qk t u I2 J2))
  rw [if_pos rfl]
  exact h
theorem law_41 {l : Launch} {WW : qF → qM → Prop} {S : St} {t u : Nat} {I J : Nat → Nat → Int} {i : Int} (hJD : q_HJ l) (hOK : q_OK) (hSG : q_SG l WW) (hI : q_IB I i) (hR : q_RB I) (hN : q_NN WW I i) (V : CInv S t u I) (W : MInv S I) : WW (303, 1482, [vr 999, vr 1, vr 265, vr 283, vi i, vu, vu], []) (qk t u I J) := by
  have B := q_bq (J := J) V W (f_judge) (k_judge V) (fun I1 W1 => q_bj (m_judge W1))
  obtain ⟨t, u, I1, a1, I2, J2, b1, e1, e2, S2, V2, W2⟩ := B
  refine g_1482 hSG (fun _ _ => rfl) hI ⟨by decide, _, _, q_MetE hJD hOK a1 (by decide) (by decide) (by decide), rfl, fun z => absurd z (by decide), fun _ => ?_⟩
  refine g_1486 hSG e1 hI ⟨by decide, _, _, q_MetE hJD hOK b1 (by decide) (by decide) (by decide), rfl, fun z => absurd z (by decide), fun _ => ?_⟩
  exact c_1490 hSG (q_2128 hSG hI e2 V2 W2 hN)
theorem g_1495 {l : Launch} {WW : qF → qM → Prop} {t u : Nat} {I I1 J1 : Nat → Nat → Int} {i : Int} (hSG : q_SG l WW) (he : ∀ a, 998 ≤ a → I1 a = I a) (hI : q_IB I i) (h : WW (303, 1516, [vr 999, vr 1, vr 265, vr 283, vi i, vu, vu], [vi (if decide (I 999 (wr (i + 2)).toNat ≠ 0) = true then 1 else 0), vi (I 999 (wr (i + 1)).toNat), vr 1]) (qk t u I1 J1)) : WW (303, 1495, [vr 999, vr 1, vr 265, vr 283, vi i, vu, vu], []) (qk t u I1 J1) := by
  refine hSG 15 [1516] _ _ rfl rfl ?_
  have e8 := he 998 (by decide)
  have e9 := he 999 (by decide)
  show (if 0 ≤ wr (i + 1) ∧ wr (i + 1) < I1 998 0 then (if 0 ≤ wr (i + 2) ∧ wr (i + 2) < I1 998 0 then (if I1 999 (wr (i + 2)).toNat = 0 then WW (303, 1516, [vr 999, vr 1, vr 265, vr 283, vi i, vu, vu], [vi 0, vi (I1 999 (wr (i + 1)).toNat), vr 1]) (qk t u I1 J1) else WW (303, 1516, [vr 999, vr 1, vr 265, vr 283, vi i, vu, vu], [vi 1, vi (I1 999 (wr (i + 1)).toNat), vr 1]) (qk t u I1 J1)) else False) else False)
  rw [e8, e9, if_pos (hI 1 (by decide) (by decide)), if_pos (hI 2 (by decide) (by decide))]
  exact q_bit (P := fun v => WW (303, 1516, [vr 999, vr 1, vr 265, vr 283, vi i, vu, vu], [v, vi (I 999 (wr (i + 1)).toNat), vr 1]) (qk t u I1 J1)) h
theorem g_1516 {l : Launch} {WW : qF → qM → Prop} {t u : Nat} {I I1 J1 : Nat → Nat → Int} {i : Int} {y0 : Int} (hSG : q_SG l WW) (he : ∀ a, 998 ≤ a → I1 a = I a) (hI : q_IB I i) (h : WW (303, 1530, [vr 999, vr 1, vr 265, vr 283, vi i, vu, vu], [vi (if decide (I 999 (wr (i + 3)).toNat ≠ 0) = true then 1 else 0), vi y0, vi (I 999 (wr (i + 1)).toNat), vr 1]) (qk t u I1 J1)) : WW (303, 1516, [vr 999, vr 1, vr 265, vr 283, vi i, vu, vu], [vi y0, vi (I 999 (wr (i + 1)).toNat), vr 1]) (qk t u I1 J1) := by
  refine hSG 9 [1530] _ _ rfl rfl ?_
  have e8 := he 998 (by decide)
  have e9 := he 999 (by decide)
  show (if 0 ≤ wr (i + 3) ∧ wr (i + 3) < I1 998 0 then (if I1 999 (wr (i + 3)).toNat = 0 then WW (303, 1530, [vr 999, vr 1, vr 265, vr 283, vi i, vu, vu], [vi 0, vi y0, vi (I 999 (wr (i + 1)).toNat), vr 1]) (qk t u I1 J1) else WW (303, 1530, [vr 999, vr 1, vr 265, vr 283, vi i, vu, vu], [vi 1, vi y0, vi (I 999 (wr (i + 1)).toNat), vr 1]) (qk t u I1 J1)) else False)
  rw [e8, e9, if_pos (hI 3 (by decide) (by decide))]
  exact q_bit (P := fun v => WW (303, 1530, [vr 999, vr 1, vr 265, vr 283, vi i, vu, vu], [v, vi y0, vi (I 999 (wr (i + 1)).toNat), vr 1]) (qk t u I1 J1)) h
theorem g_1530 {l : Launch} {WW : qF → qM → Prop} {t u : Nat} {I I1 J1 : Nat → Nat → Int} {i : Int} {y1 y0 : Int} (hSG : q_SG l WW) (he : ∀ a, 998 ≤ a → I1 a = I a) (hI : q_IB I i) (h : WW (303, 1544, [vr 999, vr 1, vr 265, vr 283, vi i, vu, vu], [vi (if decide (I 999 (wr (i + 4)).toNat ≠ 0) = true then 1 else 0), vi y1, vi y0, vi (I 999 (wr (i + 1)).toNat), vr 1]) (qk t u I1 J1)) : WW (303, 1530, [vr 999, vr 1, vr 265, vr 283, vi i, vu, vu], [vi y1, vi y0, vi (I 999 (wr (i + 1)).toNat), vr 1]) (qk t u I1 J1) := by
  refine hSG 9 [1544] _ _ rfl rfl ?_
  have e8 := he 998 (by decide)
  have e9 := he 999 (by decide)
  show (if 0 ≤ wr (i + 4) ∧ wr (i + 4) < I1 998 0 then (if I1 999 (wr (i + 4)).toNat = 0 then WW (303, 1544, [vr 999, vr 1, vr 265, vr 283, vi i, vu, vu], [vi 0, vi y1, vi y0, vi (I 999 (wr (i + 1)).toNat), vr 1]) (qk t u I1 J1) else WW (303, 1544, [vr 999, vr 1, vr 265, vr 283, vi i, vu, vu], [vi 1, vi y1, vi y0, vi (I 999 (wr (i + 1)).toNat), vr 1]) (qk t u I1 J1)) else False)
  rw [e8, e9, if_pos (hI 4 (by decide) (by decide))]
  exact q_bit (P := fun v => WW (303, 1544, [vr 999, vr 1, vr 265, vr 283, vi i, vu, vu], [v, vi y1, vi y0, vi (I 999 (wr (i + 1)).toNat), vr 1]) (qk t u I1 J1)) h
theorem g_1544 {l : Launch} {WW : qF → qM → Prop} {t u : Nat} {I I1 J1 : Nat → Nat → Int} {i : Int} {y2 y1 y0 : Int} (hSG : q_SG l WW) (he : ∀ a, 998 ≤ a → I1 a = I a) (hI : q_IB I i) (h : (144 ≠ q_LED ∧ ∃ v M1, q_Met l false 144 [vr 1, vi (I 999 (wr (i + 1)).toNat), vi y0, vi y1, vi y2] (qk t u I1 J1) v M1 ∧ M1.1 = 283 ∧ ((1 : Nat) = 0 → WW (303, 1547, [vr 999, vr 1, vr 265, vr 283, vi i, vu, vu], []) M1) ∧ ((1 : Nat) ≠ 0 → WW (303, 1547, [vr 999, vr 1, vr 265, vr 283, vi i, vu, vu], [v]) M1))) : WW (303, 1544, [vr 999, vr 1, vr 265, vr 283, vi i, vu, vu], [vi y2, vi y1, vi y0, vi (I 999 (wr (i + 1)).toNat), vr 1]) (qk t u I1 J1) := by
  refine hSG 1 [] _ _ rfl rfl ?_
  have e8 := he 998 (by decide)
  have e9 := he 999 (by decide)
  show (144 ≠ q_LED ∧ ∃ v M1, q_Met l false 144 [vr 1, vi (I 999 (wr (i + 1)).toNat), vi y0, vi y1, vi y2] (qk t u I1 J1) v M1 ∧ M1.1 = 283 ∧ ((1 : Nat) = 0 → WW (303, 1547, [vr 999, vr 1, vr 265, vr 283, vi i, vu, vu], []) M1) ∧ ((1 : Nat) ≠ 0 → WW (303, 1547, [vr 999, vr 1, vr 265, vr 283, vi i, vu, vu], [v]) M1))
  exact h
theorem g_1547 {l : Launch} {WW : qF → qM → Prop} {t u : Nat} {I I1 J1 : Nat → Nat → Int} {i : Int} {z : Int} (hSG : q_SG l WW) (he : ∀ a, 998 ≤ a → I1 a = I a) (hI : q_IB I i) (h : WW (303, 1568, [vr 999, vr 1, vr 265, vr 283, vi i, vu, vu], [vi (if decide (I 999 (wr (i + 2)).toNat ≠ 0) = true then 1 else 0), vi (I 999 (wr (i + 1)).toNat), vr 265, vi z]) (qk t u I1 J1)) : WW (303, 1547, [vr 999, vr 1, vr 265, vr 283, vi i, vu, vu], [vi z]) (qk t u I1 J1) := by
  refine hSG 15 [1568] _ _ rfl rfl ?_
  have e8 := he 998 (by decide)
  have e9 := he 999 (by decide)
  show (if 0 ≤ wr (i + 1) ∧ wr (i + 1) < I1 998 0 then (if 0 ≤ wr (i + 2) ∧ wr (i + 2) < I1 998 0 then (if I1 999 (wr (i + 2)).toNat = 0 then WW (303, 1568, [vr 999, vr 1, vr 265, vr 283, vi i, vu, vu], [vi 0, vi (I1 999 (wr (i + 1)).toNat), vr 265, vi z]) (qk t u I1 J1) else WW (303, 1568, [vr 999, vr 1, vr 265, vr 283, vi i, vu, vu], [vi 1, vi (I1 999 (wr (i + 1)).toNat), vr 265, vi z]) (qk t u I1 J1)) else False) else False)
  rw [e8, e9, if_pos (hI 1 (by decide) (by decide)), if_pos (hI 2 (by decide) (by decide))]
  exact q_bit (P := fun v => WW (303, 1568, [vr 999, vr 1, vr 265, vr 283, vi i, vu, vu], [v, vi (I 999 (wr (i + 1)).toNat), vr 265, vi z]) (qk t u I1 J1)) h
theorem g_1568 {l : Launch} {WW : qF → qM → Prop} {t u : Nat} {I I1 J1 : Nat → Nat → Int} {i : Int} {y0 z : Int} (hSG : q_SG l WW) (he : ∀ a, 998 ≤ a → I1 a = I a) (hI : q_IB I i) (h : WW (303, 1582, [vr 999, vr 1, vr 265, vr 283, vi i, vu, vu], [vi (if decide (I 999 (wr (i + 3)).toNat ≠ 0) = true then 1 else 0), vi y0, vi (I 999 (wr (i + 1)).toNat), vr 265, vi z]) (qk t u I1 J1)) : WW (303, 1568, [vr 999, vr 1, vr 265, vr 283, vi i, vu, vu], [vi y0, vi (I 999 (wr (i + 1)).toNat), vr 265, vi z]) (qk t u I1 J1) := by
  refine hSG 9 [1582] _ _ rfl rfl ?_
  have e8 := he 998 (by decide)
  have e9 := he 999 (by decide)
  show (if 0 ≤ wr (i + 3) ∧ wr (i + 3) < I1 998 0 then (if I1 999 (wr (i + 3)).toNat = 0 then WW (303, 1582, [vr 999, vr 1, vr 265, vr 283, vi i, vu, vu], [vi 0, vi y0, vi (I 999 (wr (i + 1)).toNat), vr 265, vi z]) (qk t u I1 J1) else WW (303, 1582, [vr 999, vr 1, vr 265, vr 283, vi i, vu, vu], [vi 1, vi y0, vi (I 999 (wr (i + 1)).toNat), vr 265, vi z]) (qk t u I1 J1)) else False)
  rw [e8, e9, if_pos (hI 3 (by decide) (by decide))]
  exact q_bit (P := fun v => WW (303, 1582, [vr 999, vr 1, vr 265, vr 283, vi i, vu, vu], [v, vi y0, vi (I 999 (wr (i + 1)).toNat), vr 265, vi z]) (qk t u I1 J1)) h
theorem g_1582 {l : Launch} {WW : qF → qM → Prop} {t u : Nat} {I I1 J1 : Nat → Nat → Int} {i : Int} {y1 y0 z : Int} (hSG : q_SG l WW) (he : ∀ a, 998 ≤ a → I1 a = I a) (hI : q_IB I i) (h : WW (303, 1596, [vr 999, vr 1, vr 265, vr 283, vi i, vu, vu], [vi (if decide (I 999 (wr (i + 4)).toNat ≠ 0) = true then 1 else 0), vi y1, vi y0, vi (I 999 (wr (i + 1)).toNat), vr 265, vi z]) (qk t u I1 J1)) : WW (303, 1582, [vr 999, vr 1, vr 265, vr 283, vi i, vu, vu], [vi y1, vi y0, vi (I 999 (wr (i + 1)).toNat), vr 265, vi z]) (qk t u I1 J1) := by
  refine hSG 9 [1596] _ _ rfl rfl ?_
  have e8 := he 998 (by decide)
  have e9 := he 999 (by decide)
  show (if 0 ≤ wr (i + 4) ∧ wr (i + 4) < I1 998 0 then (if I1 999 (wr (i + 4)).toNat = 0 then WW (303, 1596, [vr 999, vr 1, vr 265, vr 283, vi i, vu, vu], [vi 0, vi y1, vi y0, vi (I 999 (wr (i + 1)).toNat), vr 265, vi z]) (qk t u I1 J1) else WW (303, 1596, [vr 999, vr 1, vr 265, vr 283, vi i, vu, vu], [vi 1, vi y1, vi y0, vi (I 999 (wr (i + 1)).toNat), vr 265, vi z]) (qk t u I1 J1)) else False)
  rw [e8, e9, if_pos (hI 4 (by decide) (by decide))]
  exact q_bit (P := fun v => WW (303, 1596, [vr 999, vr 1, vr 265, vr 283, vi i, vu, vu], [v, vi y1, vi y0, vi (I 999 (wr (i + 1)).toNat), vr 265, vi z]) (qk t u I1 J1)) h
theorem g_1596 {l : Launch} {WW : qF → qM → Prop} {t u : Nat} {I I1 J1 : Nat → Nat → Int} {i : Int} {y2 y1 y0 z : Int} (hSG : q_SG l WW) (he : ∀ a, 998 ≤ a → I1 a = I a) (hI : q_IB I i) (h : (281 ≠ q_LED ∧ ∃ v M1, q_Met l false 281 [vr 265, vi (I 999 (wr (i + 1)).toNat), vi y0, vi y1, vi y2] (qk t u I1 J1) v M1 ∧ M1.1 = 283 ∧ ((1 : Nat) = 0 → WW (303, 1599, [vr 999, vr 1, vr 265, vr 283, vi i, vu, vu], [vi z]) M1) ∧ ((1 : Nat) ≠ 0 → WW (303, 1599, [vr 999, vr 1, vr 265, vr 283, vi i, vu, vu], [v, vi z]) M1))) : WW (303, 1596, [vr 999, vr 1, vr 265, vr 283, vi i, vu, vu], [vi y2, vi y1, vi y0, vi (I 999 (wr (i + 1)).toNat), vr 265, vi z]) (qk t u I1 J1) := by
  refine hSG 1 [] _ _ rfl rfl ?_
  have e8 := he 998 (by decide)
  have e9 := he 999 (by decide)
  show (281 ≠ q_LED ∧ ∃ v M1, q_Met l false 281 [vr 265, vi (I 999 (wr (i + 1)).toNat), vi y0, vi y1, vi y2] (qk t u I1 J1) v M1 ∧ M1.1 = 283 ∧ ((1 : Nat) = 0 → WW (303, 1599, [vr 999, vr 1, vr 265, vr 283, vi i, vu, vu], [vi z]) M1) ∧ ((1 : Nat) ≠ 0 → WW (303, 1599, [vr 999, vr 1, vr 265, vr 283, vi i, vu, vu], [v, vi z]) M1))
  exact h
theorem c_1599 {l : Launch} {WW : qF → qM → Prop} {t u : Nat} {I2 J2 : Nat → Nat → Int} {i z : Int} (hSG : q_SG l WW) (h : WW (303, 2128, [vr 999, vr 1, vr 265, vr 283, vi i, vu, vu], []) (qk t u I2 J2)) : WW (303, 1599, [vr 999, vr 1, vr 265, vr 283, vi i, vu, vu], [vi z, vi z]) (qk t u I2 J2) := by
  refine hSG 1 [] _ _ rfl rfl ?_
  show (if z = z then WW (303, 2128, [vr 999, vr 1, vr 265, vr 283, vi i, vu, vu], []) (qk t u I2 J2) else WW (303, 1602, [vr 999, vr 1, vr 265, vr 283, vi i, vu, vu], []) (qk t u I2 J2))
  rw [if_pos rfl]
  exact h
theorem law_42 {l : Launch} {WW : qF → qM → Prop} {S : St} {t u : Nat} {I J : Nat → Nat → Int} {i : Int} (hJD : q_HJ l) (hOK : q_OK) (hSG : q_SG l WW) (hI : q_IB I i) (hR : q_RB I) (hN : q_NN WW I i) (V : CInv S t u I) (W : MInv S I) : WW (303, 1495, [vr 999, vr 1, vr 265, vr 283, vi i, vu, vu], []) (qk t u I J) := by
  have B := q_bq (J := J) V W (f_comes (I 999 (wr (i + 1)).toNat) (decide (I 999 (wr (i + 2)).toNat ≠ 0)) (decide (I 999 (wr (i + 3)).toNat ≠ 0)) (decide (I 999 (wr (i + 4)).toNat ≠ 0))) (k_comes V (I 999 (wr (i + 1)).toNat) (decide (I 999 (wr (i + 2)).toNat ≠ 0)) (decide (I 999 (wr (i + 3)).toNat ≠ 0)) (decide (I 999 (wr (i + 4)).toNat ≠ 0))) (fun I1 W1 => q_bj (m_comes W1 (I 999 (wr (i + 1)).toNat) (decide (I 999 (wr (i + 2)).toNat ≠ 0)) (decide (I 999 (wr (i + 3)).toNat ≠ 0)) (decide (I 999 (wr (i + 4)).toNat ≠ 0))))
  obtain ⟨t, u, I1, a1, I2, J2, b1, e1, e2, S2, V2, W2⟩ := B
  refine g_1495 hSG (fun _ _ => rfl) hI ?_
  refine g_1516 hSG (fun _ _ => rfl) hI ?_
  refine g_1530 hSG (fun _ _ => rfl) hI ?_
  refine g_1544 hSG (fun _ _ => rfl) hI ⟨by decide, _, _, q_MetE hJD hOK a1 (by decide) (by decide) (by decide), rfl, fun z => absurd z (by decide), fun _ => ?_⟩
  refine g_1547 hSG e1 hI ?_
  refine g_1568 hSG e1 hI ?_
  refine g_1582 hSG e1 hI ?_
  refine g_1596 hSG e1 hI ⟨by decide, _, _, q_MetE hJD hOK b1 (by decide) (by decide) (by decide), rfl, fun z => absurd z (by decide), fun _ => ?_⟩
  exact c_1599 hSG (q_2128 hSG hI e2 V2 W2 hN)
theorem g_1604 {l : Launch} {WW : qF → qM → Prop} {t u : Nat} {I I1 J1 : Nat → Nat → Int} {i : Int} (hSG : q_SG l WW) (he : ∀ a, 998 ≤ a → I1 a = I a) (hI : q_IB I i) (h : (145 ≠ q_LED ∧ ∃ v M1, q_Met l false 145 [vr 1, vi (I 999 (wr (i + 1)).toNat)] (qk t u I1 J1) v M1 ∧ M1.1 = 283 ∧ ((1 : Nat) = 0 → WW (303, 1614, [vr 999, vr 1, vr 265, vr 283, vi i, vu, vu], []) M1) ∧ ((1 : Nat) ≠ 0 → WW (303, 1614, [vr 999, vr 1, vr 265, vr 283, vi i, vu, vu], [v]) M1))) : WW (303, 1604, [vr 999, vr 1, vr 265, vr 283, vi i, vu, vu], []) (qk t u I1 J1) := by
  refine hSG 7 [] _ _ rfl rfl ?_
  have e8 := he 998 (by decide)
  have e9 := he 999 (by decide)
  show (if 0 ≤ wr (i + 1) ∧ wr (i + 1) < I1 998 0 then (145 ≠ q_LED ∧ ∃ v M1, q_Met l false 145 [vr 1, vi (I1 999 (wr (i + 1)).toNat)] (qk t u I1 J1) v M1 ∧ M1.1 = 283 ∧ ((1 : Nat) = 0 → WW (303, 1614, [vr 999, vr 1, vr 265, vr 283, vi i, vu, vu], []) M1) ∧ ((1 : Nat) ≠ 0 → WW (303, 1614, [vr 999, vr 1, vr 265, vr 283, vi i, vu, vu], [v]) M1)) else False)
  rw [e8, e9, if_pos (hI 1 (by decide) (by decide))]
  exact h
theorem g_1614 {l : Launch} {WW : qF → qM → Prop} {t u : Nat} {I I1 J1 : Nat → Nat → Int} {i : Int} {z : Int} (hSG : q_SG l WW) (he : ∀ a, 998 ≤ a → I1 a = I a) (hI : q_IB I i) (h : (283 ≠ q_LED ∧ ∃ v M1, q_Met l false 283 [vr 265, vi (I 999 (wr (i + 1)).toNat)] (qk t u I1 J1) v M1 ∧ M1.1 = 283 ∧ ((1 : Nat) = 0 → WW (303, 1624, [vr 999, vr 1, vr 265, vr 283, vi i, vu, vu], [vi z]) M1) ∧ ((1 : Nat) ≠ 0 → WW (303, 1624, [vr 999, vr 1, vr 265, vr 283, vi i, vu, vu], [v, vi z]) M1))) : WW (303, 1614, [vr 999, vr 1, vr 265, vr 283, vi i, vu, vu], [vi z]) (qk t u I1 J1) := by
  refine hSG 7 [] _ _ rfl rfl ?_
  have e8 := he 998 (by decide)
  have e9 := he 999 (by decide)
  show (if 0 ≤ wr (i + 1) ∧ wr (i + 1) < I1 998 0 then (283 ≠ q_LED ∧ ∃ v M1, q_Met l false 283 [vr 265, vi (I1 999 (wr (i + 1)).toNat)] (qk t u I1 J1) v M1 ∧ M1.1 = 283 ∧ ((1 : Nat) = 0 → WW (303, 1624, [vr 999, vr 1, vr 265, vr 283, vi i, vu, vu], [vi z]) M1) ∧ ((1 : Nat) ≠ 0 → WW (303, 1624, [vr 999, vr 1, vr 265, vr 283, vi i, vu, vu], [v, vi z]) M1)) else False)
  rw [e8, e9, if_pos (hI 1 (by decide) (by decide))]
  exact h
theorem c_1624 {l : Launch} {WW : qF → qM → Prop} {t u : Nat} {I2 J2 : Nat → Nat → Int} {i z : Int} (hSG : q_SG l WW) (h : WW (303, 2128, [vr 999, vr 1, vr 265, vr 283, vi i, vu, vu], []) (qk t u I2 J2)) : WW (303, 1624, [vr 999, vr 1, vr 265, vr 283, vi i, vu, vu], [vi z, vi z]) (qk t u I2 J2) := by
  refine hSG 1 [] _ _ rfl rfl ?_
  show (if z = z then WW (303, 2128, [vr 999, vr 1, vr 265, vr 283, vi i, vu, vu], []) (qk t u I2 J2) else WW (303, 1627, [vr 999, vr 1, vr 265, vr 283, vi i, vu, vu], []) (qk t u I2 J2))
  rw [if_pos rfl]
  exact h
theorem law_43 {l : Launch} {WW : qF → qM → Prop} {S : St} {t u : Nat} {I J : Nat → Nat → Int} {i : Int} (hJD : q_HJ l) (hOK : q_OK) (hSG : q_SG l WW) (hI : q_IB I i) (hR : q_RB I) (hN : q_NN WW I i) (V : CInv S t u I) (W : MInv S I) : WW (303, 1604, [vr 999, vr 1, vr 265, vr 283, vi i, vu, vu], []) (qk t u I J) := by
  have B := q_bq (J := J) V W (f_rests (I 999 (wr (i + 1)).toNat)) (k_rests V (I 999 (wr (i + 1)).toNat)) (fun I1 W1 => q_bj (m_rests W1 (I 999 (wr (i + 1)).toNat)))
  obtain ⟨t, u, I1, a1, I2, J2, b1, e1, e2, S2, V2, W2⟩ := B
  refine g_1604 hSG (fun _ _ => rfl) hI ⟨by decide, _, _, q_MetE hJD hOK a1 (by decide) (by decide) (by decide), rfl, fun z => absurd z (by decide), fun _ => ?_⟩
  refine g_1614 hSG e1 hI ⟨by decide, _, _, q_MetE hJD hOK b1 (by decide) (by decide) (by decide), rfl, fun z => absurd z (by decide), fun _ => ?_⟩
  exact c_1624 hSG (q_2128 hSG hI e2 V2 W2 hN)
theorem g_1629 {l : Launch} {WW : qF → qM → Prop} {t u : Nat} {I I1 J1 : Nat → Nat → Int} {i : Int} (hSG : q_SG l WW) (he : ∀ a, 998 ≤ a → I1 a = I a) (hI : q_IB I i) (h : (146 ≠ q_LED ∧ ∃ v M1, q_Met l false 146 [vr 1, vi (I 999 (wr (i + 1)).toNat)] (qk t u I1 J1) v M1 ∧ M1.1 = 283 ∧ ((1 : Nat) = 0 → WW (303, 1639, [vr 999, vr 1, vr 265, vr 283, vi i, vu, vu], []) M1) ∧ ((1 : Nat) ≠ 0 → WW (303, 1639, [vr 999, vr 1, vr 265, vr 283, vi i, vu, vu], [v]) M1))) : WW (303, 1629, [vr 999, vr 1, vr 265, vr 283, vi i, vu, vu], []) (qk t u I1 J1) := by
  refine hSG 7 [] _ _ rfl rfl ?_
  have e8 := he 998 (by decide)
  have e9 := he 999 (by decide)
  show (if 0 ≤ wr (i + 1) ∧ wr (i + 1) < I1 998 0 then (146 ≠ q_LED ∧ ∃ v M1, q_Met l false 146 [vr 1, vi (I1 999 (wr (i + 1)).toNat)] (qk t u I1 J1) v M1 ∧ M1.1 = 283 ∧ ((1 : Nat) = 0 → WW (303, 1639, [vr 999, vr 1, vr 265, vr 283, vi i, vu, vu], []) M1) ∧ ((1 : Nat) ≠ 0 → WW (303, 1639, [vr 999, vr 1, vr 265, vr 283, vi i, vu, vu], [v]) M1)) else False)
  rw [e8, e9, if_pos (hI 1 (by decide) (by decide))]
  exact h
theorem g_1639 {l : Launch} {WW : qF → qM → Prop} {t u : Nat} {I I1 J1 : Nat → Nat → Int} {i : Int} {z : Int} (hSG : q_SG l WW) (he : ∀ a, 998 ≤ a → I1 a = I a) (hI : q_IB I i) (h : (284 ≠ q_LED ∧ ∃ v M1, q_Met l false 284 [vr 265, vi (I 999 (wr (i + 1)).toNat)] (qk t u I1 J1) v M1 ∧ M1.1 = 283 ∧ ((1 : Nat) = 0 → WW (303, 1649, [vr 999, vr 1, vr 265, vr 283, vi i, vu, vu], [vi z]) M1) ∧ ((1 : Nat) ≠ 0 → WW (303, 1649, [vr 999, vr 1, vr 265, vr 283, vi i, vu, vu], [v, vi z]) M1))) : WW (303, 1639, [vr 999, vr 1, vr 265, vr 283, vi i, vu, vu], [vi z]) (qk t u I1 J1) := by
  refine hSG 7 [] _ _ rfl rfl ?_
  have e8 := he 998 (by decide)
  have e9 := he 999 (by decide)
  show (if 0 ≤ wr (i + 1) ∧ wr (i + 1) < I1 998 0 then (284 ≠ q_LED ∧ ∃ v M1, q_Met l false 284 [vr 265, vi (I1 999 (wr (i + 1)).toNat)] (qk t u I1 J1) v M1 ∧ M1.1 = 283 ∧ ((1 : Nat) = 0 → WW (303, 1649, [vr 999, vr 1, vr 265, vr 283, vi i, vu, vu], [vi z]) M1) ∧ ((1 : Nat) ≠ 0 → WW (303, 1649, [vr 999, vr 1, vr 265, vr 283, vi i, vu, vu], [v, vi z]) M1)) else False)
  rw [e8, e9, if_pos (hI 1 (by decide) (by decide))]
  exact h
theorem c_1649 {l : Launch} {WW : qF → qM → Prop} {t u : Nat} {I2 J2 : Nat → Nat → Int} {i z : Int} (hSG : q_SG l WW) (h : WW (303, 2128, [vr 999, vr 1, vr 265, vr 283, vi i, vu, vu], []) (qk t u I2 J2)) : WW (303, 1649, [vr 999, vr 1, vr 265, vr 283, vi i, vu, vu], [vi z, vi z]) (qk t u I2 J2) := by
  refine hSG 1 [] _ _ rfl rfl ?_
  show (if z = z then WW (303, 2128, [vr 999, vr 1, vr 265, vr 283, vi i, vu, vu], []) (qk t u I2 J2) else WW (303, 1652, [vr 999, vr 1, vr 265, vr 283, vi i, vu, vu], []) (qk t u I2 J2))
  rw [if_pos rfl]
  exact h
theorem law_44 {l : Launch} {WW : qF → qM → Prop} {S : St} {t u : Nat} {I J : Nat → Nat → Int} {i : Int} (hJD : q_HJ l) (hOK : q_OK) (hSG : q_SG l WW) (hI : q_IB I i) (hR : q_RB I) (hN : q_NN WW I i) (V : CInv S t u I) (W : MInv S I) : WW (303, 1629, [vr 999, vr 1, vr 265, vr 283, vi i, vu, vu], []) (qk t u I J) := by
  have B := q_bq (J := J) V W (f_rest (I 999 (wr (i + 1)).toNat)) (k_rest V (I 999 (wr (i + 1)).toNat)) (fun I1 W1 => q_bj (m_rest W1 (I 999 (wr (i + 1)).toNat)))
  obtain ⟨t, u, I1, a1, I2, J2, b1, e1, e2, S2, V2, W2⟩ := B
  refine g_1629 hSG (fun _ _ => rfl) hI ⟨by decide, _, _, q_MetE hJD hOK a1 (by decide) (by decide) (by decide), rfl, fun z => absurd z (by decide), fun _ => ?_⟩
  refine g_1639 hSG e1 hI ⟨by decide, _, _, q_MetE hJD hOK b1 (by decide) (by decide) (by decide), rfl, fun z => absurd z (by decide), fun _ => ?_⟩
  exact c_1649 hSG (q_2128 hSG hI e2 V2 W2 hN)
theorem g_1654 {l : Launch} {WW : qF → qM → Prop} {t u : Nat} {I I1 J1 : Nat → Nat → Int} {i : Int} (hSG : q_SG l WW) (he : ∀ a, 998 ≤ a → I1 a = I a) (hI : q_IB I i) (h : WW (303, 1687, [vr 999, vr 1, vr 265, vr 283, vi i, vu, vu], [vi (if decide (I 999 (wr (i + 4)).toNat ≠ 0) = true then 1 else 0), vi (I 999 (wr (i + 3)).toNat), vi (I 999 (wr (i + 2)).toNat), vi (I 999 (wr (i + 1)).toNat), vr 1]) (qk t u I1 J1)) : WW (303, 1654, [vr 999, vr 1, vr 265, vr 283, vi i, vu, vu], []) (qk t u I1 J1) := by
  refine hSG 25 [1687] _ _ rfl rfl ?_
  have e8 := he 998 (by decide)
  have e9 := he 999 (by decide)
  show (if 0 ≤ wr (i + 1) ∧ wr (i + 1) < I1 998 0 then (if 0 ≤ wr (i + 2) ∧ wr (i + 2) < I1 998 0 then (if 0 ≤ wr (i + 3) ∧ wr (i + 3) < I1 998 0 then (if 0 ≤ wr (i + 4) ∧ wr (i + 4) < I1 998 0 then (if I1 999 (wr (i + 4)).toNat = 0 then WW (303, 1687, [vr 999, vr 1, vr 265, vr 283, vi i, vu, vu], [vi 0, vi (I1 999 (wr (i + 3)).toNat), vi (I1 999 (wr (i + 2)).toNat), vi (I1 999 (wr (i + 1)).toNat), vr 1]) (qk t u I1 J1) else WW (303, 1687, [vr 999, vr 1, vr 265, vr 283, vi i, vu, vu], [vi 1, vi (I1 999 (wr (i + 3)).toNat), vi (I1 999 (wr (i + 2)).toNat), vi (I1 999 (wr (i + 1)).toNat), vr 1]) (qk t u I1 J1)) else False) else False) else False) else False)
  rw [e8, e9, if_pos (hI 1 (by decide) (by decide)), if_pos (hI 2 (by decide) (by decide)), if_pos (hI 3 (by decide) (by decide)), if_pos (hI 4 (by decide) (by decide))]
  exact q_bit (P := fun v => WW (303, 1687, [vr 999, vr 1, vr 265, vr 283, vi i, vu, vu], [v, vi (I 999 (wr (i + 3)).toNat), vi (I 999 (wr (i + 2)).toNat), vi (I 999 (wr (i + 1)).toNat), vr 1]) (qk t u I1 J1)) h
theorem g_1687 {l : Launch} {WW : qF → qM → Prop} {t u : Nat} {I I1 J1 : Nat → Nat → Int} {i : Int} {y0 : Int} (hSG : q_SG l WW) (he : ∀ a, 998 ≤ a → I1 a = I a) (hI : q_IB I i) (h : (147 ≠ q_LED ∧ ∃ v M1, q_Met l false 147 [vr 1, vi (I 999 (wr (i + 1)).toNat), vi (I 999 (wr (i + 2)).toNat), vi (I 999 (wr (i + 3)).toNat), vi y0] (qk t u I1 J1) v M1 ∧ M1.1 = 283 ∧ ((2 : Nat) = 0 → WW (303, 1690, [vr 999, vr 1, vr 265, vr 283, vi i, vu, vu], []) M1) ∧ ((2 : Nat) ≠ 0 → WW (303, 1690, [vr 999, vr 1, vr 265, vr 283, vi i, vu, vu], [v]) M1))) : WW (303, 1687, [vr 999, vr 1, vr 265, vr 283, vi i, vu, vu], [vi y0, vi (I 999 (wr (i + 3)).toNat), vi (I 999 (wr (i + 2)).toNat), vi (I 999 (wr (i + 1)).toNat), vr 1]) (qk t u I1 J1) := by
  refine hSG 1 [] _ _ rfl rfl ?_
  have e8 := he 998 (by decide)
  have e9 := he 999 (by decide)
  show (147 ≠ q_LED ∧ ∃ v M1, q_Met l false 147 [vr 1, vi (I 999 (wr (i + 1)).toNat), vi (I 999 (wr (i + 2)).toNat), vi (I 999 (wr (i + 3)).toNat), vi y0] (qk t u I1 J1) v M1 ∧ M1.1 = 283 ∧ ((2 : Nat) = 0 → WW (303, 1690, [vr 999, vr 1, vr 265, vr 283, vi i, vu, vu], []) M1) ∧ ((2 : Nat) ≠ 0 → WW (303, 1690, [vr 999, vr 1, vr 265, vr 283, vi i, vu, vu], [v]) M1))
  exact h
theorem g_1690 {l : Launch} {WW : qF → qM → Prop} {t u : Nat} {I I1 J1 : Nat → Nat → Int} {i : Int} {z : Int} (hSG : q_SG l WW) (he : ∀ a, 998 ≤ a → I1 a = I a) (hI : q_IB I i) (h : WW (303, 1723, [vr 999, vr 1, vr 265, vr 283, vi i, vu, vu], [vi (if decide (I 999 (wr (i + 4)).toNat ≠ 0) = true then 1 else 0), vi (I 999 (wr (i + 3)).toNat), vi (I 999 (wr (i + 2)).toNat), vi (I 999 (wr (i + 1)).toNat), vr 265, vl z]) (qk t u I1 J1)) : WW (303, 1690, [vr 999, vr 1, vr 265, vr 283, vi i, vu, vu], [vl z]) (qk t u I1 J1) := by
  refine hSG 25 [1723] _ _ rfl rfl ?_
  have e8 := he 998 (by decide)
  have e9 := he 999 (by decide)
  show (if 0 ≤ wr (i + 1) ∧ wr (i + 1) < I1 998 0 then (if 0 ≤ wr (i + 2) ∧ wr (i + 2) < I1 998 0 then (if 0 ≤ wr (i + 3) ∧ wr (i + 3) < I1 998 0 then (if 0 ≤ wr (i + 4) ∧ wr (i + 4) < I1 998 0 then (if I1 999 (wr (i + 4)).toNat = 0 then WW (303, 1723, [vr 999, vr 1, vr 265, vr 283, vi i, vu, vu], [vi 0, vi (I1 999 (wr (i + 3)).toNat), vi (I1 999 (wr (i + 2)).toNat), vi (I1 999 (wr (i + 1)).toNat), vr 265, vl z]) (qk t u I1 J1) else WW (303, 1723, [vr 999, vr 1, vr 265, vr 283, vi i, vu, vu], [vi 1, vi (I1 999 (wr (i + 3)).toNat), vi (I1 999 (wr (i + 2)).toNat), vi (I1 999 (wr (i + 1)).toNat), vr 265, vl z]) (qk t u I1 J1)) else False) else False) else False) else False)
  rw [e8, e9, if_pos (hI 1 (by decide) (by decide)), if_pos (hI 2 (by decide) (by decide)), if_pos (hI 3 (by decide) (by decide)), if_pos (hI 4 (by decide) (by decide))]
  exact q_bit (P := fun v => WW (303, 1723, [vr 999, vr 1, vr 265, vr 283, vi i, vu, vu], [v, vi (I 999 (wr (i + 3)).toNat), vi (I 999 (wr (i + 2)).toNat), vi (I 999 (wr (i + 1)).toNat), vr 265, vl z]) (qk t u I1 J1)) h
theorem g_1723 {l : Launch} {WW : qF → qM → Prop} {t u : Nat} {I I1 J1 : Nat → Nat → Int} {i : Int} {y0 z : Int} (hSG : q_SG l WW) (he : ∀ a, 998 ≤ a → I1 a = I a) (hI : q_IB I i) (h : (286 ≠ q_LED ∧ ∃ v M1, q_Met l false 286 [vr 265, vi (I 999 (wr (i + 1)).toNat), vi (I 999 (wr (i + 2)).toNat), vi (I 999 (wr (i + 3)).toNat), vi y0] (qk t u I1 J1) v M1 ∧ M1.1 = 283 ∧ ((2 : Nat) = 0 → WW (303, 1726, [vr 999, vr 1, vr 265, vr 283, vi i, vu, vu], [vl z]) M1) ∧ ((2 : Nat) ≠ 0 → WW (303, 1726, [vr 999, vr 1, vr 265, vr 283, vi i, vu, vu], [v, vl z]) M1))) : WW (303, 1723, [vr 999, vr 1, vr 265, vr 283, vi i, vu, vu], [vi y0, vi (I 999 (wr (i + 3)).toNat), vi (I 999 (wr (i + 2)).toNat), vi (I 999 (wr (i + 1)).toNat), vr 265, vl z]) (qk t u I1 J1) := by
  refine hSG 1 [] _ _ rfl rfl ?_
  have e8 := he 998 (by decide)
  have e9 := he 999 (by decide)
  show (286 ≠ q_LED ∧ ∃ v M1, q_Met l false 286 [vr 265, vi (I 999 (wr (i + 1)).toNat), vi (I 999 (wr (i + 2)).toNat), vi (I 999 (wr (i + 3)).toNat), vi y0] (qk t u I1 J1) v M1 ∧ M1.1 = 283 ∧ ((2 : Nat) = 0 → WW (303, 1726, [vr 999, vr 1, vr 265, vr 283, vi i, vu, vu], [vl z]) M1) ∧ ((2 : Nat) ≠ 0 → WW (303, 1726, [vr 999, vr 1, vr 265, vr 283, vi i, vu, vu], [v, vl z]) M1))
  exact h
theorem c_1726 {l : Launch} {WW : qF → qM → Prop} {t u : Nat} {I2 J2 : Nat → Nat → Int} {i z : Int} (hSG : q_SG l WW) (h : WW (303, 2128, [vr 999, vr 1, vr 265, vr 283, vi i, vu, vu], []) (qk t u I2 J2)) : WW (303, 1726, [vr 999, vr 1, vr 265, vr 283, vi i, vu, vu], [vl z, vl z]) (qk t u I2 J2) := by
  refine hSG 2 [] _ _ rfl rfl ?_
  show (if z < z then (if (-1 : Int) = 0 then WW (303, 2128, [vr 999, vr 1, vr 265, vr 283, vi i, vu, vu], []) (qk t u I2 J2) else WW (303, 1730, [vr 999, vr 1, vr 265, vr 283, vi i, vu, vu], []) (qk t u I2 J2)) else (if z = z then (if (0 : Int) = 0 then WW (303, 2128, [vr 999, vr 1, vr 265, vr 283, vi i, vu, vu], []) (qk t u I2 J2) else WW (303, 1730, [vr 999, vr 1, vr 265, vr 283, vi i, vu, vu], []) (qk t u I2 J2)) else (if (1 : Int) = 0 then WW (303, 2128, [vr 999, vr 1, vr 265, vr 283, vi i, vu, vu], []) (qk t u I2 J2) else WW (303, 1730, [vr 999, vr 1, vr 265, vr 283, vi i, vu, vu], []) (qk t u I2 J2))))
  rw [if_neg (Int.lt_irrefl z), if_pos rfl, if_pos rfl]
  exact h
theorem law_45 {l : Launch} {WW : qF → qM → Prop} {S : St} {t u : Nat} {I J : Nat → Nat → Int} {i : Int} (hJD : q_HJ l) (hOK : q_OK) (hSG : q_SG l WW) (hI : q_IB I i) (hR : q_RB I) (hN : q_NN WW I i) (V : CInv S t u I) (W : MInv S I) : WW (303, 1654, [vr 999, vr 1, vr 265, vr 283, vi i, vu, vu], []) (qk t u I J) := by
  have B := q_bq (J := J) V W (f_odds (I 999 (wr (i + 1)).toNat) (I 999 (wr (i + 2)).toNat) (I 999 (wr (i + 3)).toNat) (decide (I 999 (wr (i + 4)).toNat ≠ 0))) (k_odds V (I 999 (wr (i + 1)).toNat) (I 999 (wr (i + 2)).toNat) (I 999 (wr (i + 3)).toNat) (decide (I 999 (wr (i + 4)).toNat ≠ 0))) (fun I1 W1 => m_odds W1 (I 999 (wr (i + 1)).toNat) (I 999 (wr (i + 2)).toNat) (I 999 (wr (i + 3)).toNat) (decide (I 999 (wr (i + 4)).toNat ≠ 0)))
  obtain ⟨t, u, I1, a1, I2, J2, b1, e1, e2, S2, V2, W2⟩ := B
  refine g_1654 hSG (fun _ _ => rfl) hI ?_
  refine g_1687 hSG (fun _ _ => rfl) hI ⟨by decide, _, _, q_MetE hJD hOK a1 (by decide) (by decide) (by decide), rfl, fun z => absurd z (by decide), fun _ => ?_⟩
  refine g_1690 hSG e1 hI ?_
  refine g_1723 hSG e1 hI ⟨by decide, _, _, q_MetE hJD hOK b1 (by decide) (by decide) (by decide), rfl, fun z => absurd z (by decide), fun _ => ?_⟩
  exact c_1726 hSG (q_2128 hSG hI e2 V2 W2 hN)

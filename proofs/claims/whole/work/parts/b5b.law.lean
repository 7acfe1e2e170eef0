/-! the law's cases, 2 -/
theorem g_820 {l : Launch} {WW : qF → qM → Prop} {t u : Nat} {I I1 J1 : Nat → Nat → Int} {i : Int} (hSG : q_SG l WW) (he : ∀ a, 998 ≤ a → I1 a = I a) (hI : q_IB I i) (h : (118 ≠ q_LED ∧ ∃ v M1, q_Met l false 118 [vr 1, vi (I 999 (wr (i + 1)).toNat)] (qk t u I1 J1) v M1 ∧ M1.1 = 283 ∧ ((1 : Nat) = 0 → WW (303, 830, [vr 999, vr 1, vr 265, vr 283, vi i, vu, vu], []) M1) ∧ ((1 : Nat) ≠ 0 → WW (303, 830, [vr 999, vr 1, vr 265, vr 283, vi i, vu, vu], [v]) M1))) : WW (303, 820, [vr 999, vr 1, vr 265, vr 283, vi i, vu, vu], []) (qk t u I1 J1) := by
  refine hSG 7 [] _ _ rfl rfl ?_
  have e8 := he 998 (by decide)
  have e9 := he 999 (by decide)
  show (if 0 ≤ wr (i + 1) ∧ wr (i + 1) < I1 998 0 then (118 ≠ q_LED ∧ ∃ v M1, q_Met l false 118 [vr 1, vi (I1 999 (wr (i + 1)).toNat)] (qk t u I1 J1) v M1 ∧ M1.1 = 283 ∧ ((1 : Nat) = 0 → WW (303, 830, [vr 999, vr 1, vr 265, vr 283, vi i, vu, vu], []) M1) ∧ ((1 : Nat) ≠ 0 → WW (303, 830, [vr 999, vr 1, vr 265, vr 283, vi i, vu, vu], [v]) M1)) else False)
  rw [e8, e9, if_pos (hI 1 (by decide) (by decide))]
  exact h
theorem g_830 {l : Launch} {WW : qF → qM → Prop} {t u : Nat} {I I1 J1 : Nat → Nat → Int} {i : Int} {z : Int} (hSG : q_SG l WW) (he : ∀ a, 998 ≤ a → I1 a = I a) (hI : q_IB I i) (h : (239 ≠ q_LED ∧ ∃ v M1, q_Met l false 239 [vr 265, vi (I 999 (wr (i + 1)).toNat)] (qk t u I1 J1) v M1 ∧ M1.1 = 283 ∧ ((1 : Nat) = 0 → WW (303, 840, [vr 999, vr 1, vr 265, vr 283, vi i, vu, vu], [vi z]) M1) ∧ ((1 : Nat) ≠ 0 → WW (303, 840, [vr 999, vr 1, vr 265, vr 283, vi i, vu, vu], [v, vi z]) M1))) : WW (303, 830, [vr 999, vr 1, vr 265, vr 283, vi i, vu, vu], [vi z]) (qk t u I1 J1) := by
  refine hSG 7 [] _ _ rfl rfl ?_
  have e8 := he 998 (by decide)
  have e9 := he 999 (by decide)
  show (if 0 ≤ wr (i + 1) ∧ wr (i + 1) < I1 998 0 then (239 ≠ q_LED ∧ ∃ v M1, q_Met l false 239 [vr 265, vi (I1 999 (wr (i + 1)).toNat)] (qk t u I1 J1) v M1 ∧ M1.1 = 283 ∧ ((1 : Nat) = 0 → WW (303, 840, [vr 999, vr 1, vr 265, vr 283, vi i, vu, vu], [vi z]) M1) ∧ ((1 : Nat) ≠ 0 → WW (303, 840, [vr 999, vr 1, vr 265, vr 283, vi i, vu, vu], [v, vi z]) M1)) else False)
  rw [e8, e9, if_pos (hI 1 (by decide) (by decide))]
  exact h
theorem c_840 {l : Launch} {WW : qF → qM → Prop} {t u : Nat} {I2 J2 : Nat → Nat → Int} {i z : Int} (hSG : q_SG l WW) (h : WW (303, 2128, [vr 999, vr 1, vr 265, vr 283, vi i, vu, vu], []) (qk t u I2 J2)) : WW (303, 840, [vr 999, vr 1, vr 265, vr 283, vi i, vu, vu], [vi z, vi z]) (qk t u I2 J2) := by
  refine hSG 1 [] _ _ rfl rfl ?_
  show (if z = z then WW (303, 2128, [vr 999, vr 1, vr 265, vr 283, vi i, vu, vu], []) (qk t u I2 J2) else WW (303, 843, [vr 999, vr 1, vr 265, vr 283, vi i, vu, vu], []) (qk t u I2 J2))
  rw [if_pos rfl]
  exact h
theorem law_16 {l : Launch} {WW : qF → qM → Prop} {S : St} {t u : Nat} {I J : Nat → Nat → Int} {i : Int} (hJD : q_HJ l) (hOK : q_OK) (hSG : q_SG l WW) (hI : q_IB I i) (hR : q_RB I) (hN : q_NN WW I i) (V : CInv S t u I) (W : MInv S I) : WW (303, 820, [vr 999, vr 1, vr 265, vr 283, vi i, vu, vu], []) (qk t u I J) := by
  have B := q_bq (J := J) V W (f_square (I 999 (wr (i + 1)).toNat)) (k_square V (I 999 (wr (i + 1)).toNat)) (fun I1 W1 => q_bj (m_square W1 (I 999 (wr (i + 1)).toNat)))
  obtain ⟨t, u, I1, a1, I2, J2, b1, e1, e2, S2, V2, W2⟩ := B
  refine g_820 hSG (fun _ _ => rfl) hI ⟨by decide, _, _, q_MetE hJD hOK a1 (by decide) (by decide) (by decide), rfl, fun z => absurd z (by decide), fun _ => ?_⟩
  refine g_830 hSG e1 hI ⟨by decide, _, _, q_MetE hJD hOK b1 (by decide) (by decide) (by decide), rfl, fun z => absurd z (by decide), fun _ => ?_⟩
  exact c_840 hSG (q_2128 hSG hI e2 V2 W2 hN)
theorem g_845 {l : Launch} {WW : qF → qM → Prop} {t u : Nat} {I I1 J1 : Nat → Nat → Int} {i : Int} (hSG : q_SG l WW) (he : ∀ a, 998 ≤ a → I1 a = I a) (hI : q_IB I i) (h : (119 ≠ q_LED ∧ ∃ v M1, q_Met l false 119 [vr 1, vi (I 999 (wr (i + 1)).toNat)] (qk t u I1 J1) v M1 ∧ M1.1 = 283 ∧ ((1 : Nat) = 0 → WW (303, 855, [vr 999, vr 1, vr 265, vr 283, vi i, vu, vu], []) M1) ∧ ((1 : Nat) ≠ 0 → WW (303, 855, [vr 999, vr 1, vr 265, vr 283, vi i, vu, vu], [v]) M1))) : WW (303, 845, [vr 999, vr 1, vr 265, vr 283, vi i, vu, vu], []) (qk t u I1 J1) := by
  refine hSG 7 [] _ _ rfl rfl ?_
  have e8 := he 998 (by decide)
  have e9 := he 999 (by decide)
  show (if 0 ≤ wr (i + 1) ∧ wr (i + 1) < I1 998 0 then (119 ≠ q_LED ∧ ∃ v M1, q_Met l false 119 [vr 1, vi (I1 999 (wr (i + 1)).toNat)] (qk t u I1 J1) v M1 ∧ M1.1 = 283 ∧ ((1 : Nat) = 0 → WW (303, 855, [vr 999, vr 1, vr 265, vr 283, vi i, vu, vu], []) M1) ∧ ((1 : Nat) ≠ 0 → WW (303, 855, [vr 999, vr 1, vr 265, vr 283, vi i, vu, vu], [v]) M1)) else False)
  rw [e8, e9, if_pos (hI 1 (by decide) (by decide))]
  exact h
theorem g_855 {l : Launch} {WW : qF → qM → Prop} {t u : Nat} {I I1 J1 : Nat → Nat → Int} {i : Int} {z : Int} (hSG : q_SG l WW) (he : ∀ a, 998 ≤ a → I1 a = I a) (hI : q_IB I i) (h : (240 ≠ q_LED ∧ ∃ v M1, q_Met l false 240 [vr 265, vi (I 999 (wr (i + 1)).toNat)] (qk t u I1 J1) v M1 ∧ M1.1 = 283 ∧ ((1 : Nat) = 0 → WW (303, 865, [vr 999, vr 1, vr 265, vr 283, vi i, vu, vu], [vi z]) M1) ∧ ((1 : Nat) ≠ 0 → WW (303, 865, [vr 999, vr 1, vr 265, vr 283, vi i, vu, vu], [v, vi z]) M1))) : WW (303, 855, [vr 999, vr 1, vr 265, vr 283, vi i, vu, vu], [vi z]) (qk t u I1 J1) := by
  refine hSG 7 [] _ _ rfl rfl ?_
  have e8 := he 998 (by decide)
  have e9 := he 999 (by decide)
  show (if 0 ≤ wr (i + 1) ∧ wr (i + 1) < I1 998 0 then (240 ≠ q_LED ∧ ∃ v M1, q_Met l false 240 [vr 265, vi (I1 999 (wr (i + 1)).toNat)] (qk t u I1 J1) v M1 ∧ M1.1 = 283 ∧ ((1 : Nat) = 0 → WW (303, 865, [vr 999, vr 1, vr 265, vr 283, vi i, vu, vu], [vi z]) M1) ∧ ((1 : Nat) ≠ 0 → WW (303, 865, [vr 999, vr 1, vr 265, vr 283, vi i, vu, vu], [v, vi z]) M1)) else False)
  rw [e8, e9, if_pos (hI 1 (by decide) (by decide))]
  exact h
theorem c_865 {l : Launch} {WW : qF → qM → Prop} {t u : Nat} {I2 J2 : Nat → Nat → Int} {i z : Int} (hSG : q_SG l WW) (h : WW (303, 2128, [vr 999, vr 1, vr 265, vr 283, vi i, vu, vu], []) (qk t u I2 J2)) : WW (303, 865, [vr 999, vr 1, vr 265, vr 283, vi i, vu, vu], [vi z, vi z]) (qk t u I2 J2) := by
  refine hSG 1 [] _ _ rfl rfl ?_
  show (if z = z then WW (303, 2128, [vr 999, vr 1, vr 265, vr 283, vi i, vu, vu], []) (qk t u I2 J2) else WW (303, 868, [vr 999, vr 1, vr 265, vr 283, vi i, vu, vu], []) (qk t u I2 J2))
  rw [if_pos rfl]
  exact h
theorem law_17 {l : Launch} {WW : qF → qM → Prop} {S : St} {t u : Nat} {I J : Nat → Nat → Int} {i : Int} (hJD : q_HJ l) (hOK : q_OK) (hSG : q_SG l WW) (hI : q_IB I i) (hR : q_RB I) (hN : q_NN WW I i) (V : CInv S t u I) (W : MInv S I) : WW (303, 845, [vr 999, vr 1, vr 265, vr 283, vi i, vu, vu], []) (qk t u I J) := by
  have B := q_bq (J := J) V W (f_corners (I 999 (wr (i + 1)).toNat)) (k_corners V (I 999 (wr (i + 1)).toNat)) (fun I1 W1 => q_bj (m_corners W1 (I 999 (wr (i + 1)).toNat)))
  obtain ⟨t, u, I1, a1, I2, J2, b1, e1, e2, S2, V2, W2⟩ := B
  refine g_845 hSG (fun _ _ => rfl) hI ⟨by decide, _, _, q_MetE hJD hOK a1 (by decide) (by decide) (by decide), rfl, fun z => absurd z (by decide), fun _ => ?_⟩
  refine g_855 hSG e1 hI ⟨by decide, _, _, q_MetE hJD hOK b1 (by decide) (by decide) (by decide), rfl, fun z => absurd z (by decide), fun _ => ?_⟩
  exact c_865 hSG (q_2128 hSG hI e2 V2 W2 hN)
theorem g_870 {l : Launch} {WW : qF → qM → Prop} {t u : Nat} {I I1 J1 : Nat → Nat → Int} {i : Int} (hSG : q_SG l WW) (he : ∀ a, 998 ≤ a → I1 a = I a) (hI : q_IB I i) (h : (120 ≠ q_LED ∧ ∃ v M1, q_Met l false 120 [vr 1, vi (I 999 (wr (i + 1)).toNat)] (qk t u I1 J1) v M1 ∧ M1.1 = 283 ∧ ((1 : Nat) = 0 → WW (303, 880, [vr 999, vr 1, vr 265, vr 283, vi i, vu, vu], []) M1) ∧ ((1 : Nat) ≠ 0 → WW (303, 880, [vr 999, vr 1, vr 265, vr 283, vi i, vu, vu], [v]) M1))) : WW (303, 870, [vr 999, vr 1, vr 265, vr 283, vi i, vu, vu], []) (qk t u I1 J1) := by
  refine hSG 7 [] _ _ rfl rfl ?_
  have e8 := he 998 (by decide)
  have e9 := he 999 (by decide)
  show (if 0 ≤ wr (i + 1) ∧ wr (i + 1) < I1 998 0 then (120 ≠ q_LED ∧ ∃ v M1, q_Met l false 120 [vr 1, vi (I1 999 (wr (i + 1)).toNat)] (qk t u I1 J1) v M1 ∧ M1.1 = 283 ∧ ((1 : Nat) = 0 → WW (303, 880, [vr 999, vr 1, vr 265, vr 283, vi i, vu, vu], []) M1) ∧ ((1 : Nat) ≠ 0 → WW (303, 880, [vr 999, vr 1, vr 265, vr 283, vi i, vu, vu], [v]) M1)) else False)
  rw [e8, e9, if_pos (hI 1 (by decide) (by decide))]
  exact h
theorem g_880 {l : Launch} {WW : qF → qM → Prop} {t u : Nat} {I I1 J1 : Nat → Nat → Int} {i : Int} {z : Int} (hSG : q_SG l WW) (he : ∀ a, 998 ≤ a → I1 a = I a) (hI : q_IB I i) (h : (241 ≠ q_LED ∧ ∃ v M1, q_Met l false 241 [vr 265, vi (I 999 (wr (i + 1)).toNat)] (qk t u I1 J1) v M1 ∧ M1.1 = 283 ∧ ((1 : Nat) = 0 → WW (303, 890, [vr 999, vr 1, vr 265, vr 283, vi i, vu, vu], [vi z]) M1) ∧ ((1 : Nat) ≠ 0 → WW (303, 890, [vr 999, vr 1, vr 265, vr 283, vi i, vu, vu], [v, vi z]) M1))) : WW (303, 880, [vr 999, vr 1, vr 265, vr 283, vi i, vu, vu], [vi z]) (qk t u I1 J1) := by
  refine hSG 7 [] _ _ rfl rfl ?_
  have e8 := he 998 (by decide)
  have e9 := he 999 (by decide)
  show (if 0 ≤ wr (i + 1) ∧ wr (i + 1) < I1 998 0 then (241 ≠ q_LED ∧ ∃ v M1, q_Met l false 241 [vr 265, vi (I1 999 (wr (i + 1)).toNat)] (qk t u I1 J1) v M1 ∧ M1.1 = 283 ∧ ((1 : Nat) = 0 → WW (303, 890, [vr 999, vr 1, vr 265, vr 283, vi i, vu, vu], [vi z]) M1) ∧ ((1 : Nat) ≠ 0 → WW (303, 890, [vr 999, vr 1, vr 265, vr 283, vi i, vu, vu], [v, vi z]) M1)) else False)
  rw [e8, e9, if_pos (hI 1 (by decide) (by decide))]
  exact h
theorem c_890 {l : Launch} {WW : qF → qM → Prop} {t u : Nat} {I2 J2 : Nat → Nat → Int} {i z : Int} (hSG : q_SG l WW) (h : WW (303, 2128, [vr 999, vr 1, vr 265, vr 283, vi i, vu, vu], []) (qk t u I2 J2)) : WW (303, 890, [vr 999, vr 1, vr 265, vr 283, vi i, vu, vu], [vi z, vi z]) (qk t u I2 J2) := by
  refine hSG 1 [] _ _ rfl rfl ?_
  show (if z = z then WW (303, 2128, [vr 999, vr 1, vr 265, vr 283, vi i, vu, vu], []) (qk t u I2 J2) else WW (303, 893, [vr 999, vr 1, vr 265, vr 283, vi i, vu, vu], []) (qk t u I2 J2))
  rw [if_pos rfl]
  exact h
theorem law_18 {l : Launch} {WW : qF → qM → Prop} {S : St} {t u : Nat} {I J : Nat → Nat → Int} {i : Int} (hJD : q_HJ l) (hOK : q_OK) (hSG : q_SG l WW) (hI : q_IB I i) (hR : q_RB I) (hN : q_NN WW I i) (V : CInv S t u I) (W : MInv S I) : WW (303, 870, [vr 999, vr 1, vr 265, vr 283, vi i, vu, vu], []) (qk t u I J) := by
  have B := q_bq (J := J) V W (f_rank (I 999 (wr (i + 1)).toNat)) (k_rank V (I 999 (wr (i + 1)).toNat)) (fun I1 W1 => q_bj (m_rank W1 (I 999 (wr (i + 1)).toNat)))
  obtain ⟨t, u, I1, a1, I2, J2, b1, e1, e2, S2, V2, W2⟩ := B
  refine g_870 hSG (fun _ _ => rfl) hI ⟨by decide, _, _, q_MetE hJD hOK a1 (by decide) (by decide) (by decide), rfl, fun z => absurd z (by decide), fun _ => ?_⟩
  refine g_880 hSG e1 hI ⟨by decide, _, _, q_MetE hJD hOK b1 (by decide) (by decide) (by decide), rfl, fun z => absurd z (by decide), fun _ => ?_⟩
  exact c_890 hSG (q_2128 hSG hI e2 V2 W2 hN)
theorem g_895 {l : Launch} {WW : qF → qM → Prop} {t u : Nat} {I I1 J1 : Nat → Nat → Int} {i : Int} (hSG : q_SG l WW) (he : ∀ a, 998 ≤ a → I1 a = I a) (hI : q_IB I i) (h : (121 ≠ q_LED ∧ ∃ v M1, q_Met l false 121 [vr 1, vi (I 999 (wr (i + 1)).toNat), vi (I 999 (wr (i + 2)).toNat), vi (I 999 (wr (i + 3)).toNat)] (qk t u I1 J1) v M1 ∧ M1.1 = 283 ∧ ((1 : Nat) = 0 → WW (303, 917, [vr 999, vr 1, vr 265, vr 283, vi i, vu, vu], []) M1) ∧ ((1 : Nat) ≠ 0 → WW (303, 917, [vr 999, vr 1, vr 265, vr 283, vi i, vu, vu], [v]) M1))) : WW (303, 895, [vr 999, vr 1, vr 265, vr 283, vi i, vu, vu], []) (qk t u I1 J1) := by
  refine hSG 17 [] _ _ rfl rfl ?_
  have e8 := he 998 (by decide)
  have e9 := he 999 (by decide)
  show (if 0 ≤ wr (i + 1) ∧ wr (i + 1) < I1 998 0 then (if 0 ≤ wr (i + 2) ∧ wr (i + 2) < I1 998 0 then (if 0 ≤ wr (i + 3) ∧ wr (i + 3) < I1 998 0 then (121 ≠ q_LED ∧ ∃ v M1, q_Met l false 121 [vr 1, vi (I1 999 (wr (i + 1)).toNat), vi (I1 999 (wr (i + 2)).toNat), vi (I1 999 (wr (i + 3)).toNat)] (qk t u I1 J1) v M1 ∧ M1.1 = 283 ∧ ((1 : Nat) = 0 → WW (303, 917, [vr 999, vr 1, vr 265, vr 283, vi i, vu, vu], []) M1) ∧ ((1 : Nat) ≠ 0 → WW (303, 917, [vr 999, vr 1, vr 265, vr 283, vi i, vu, vu], [v]) M1)) else False) else False) else False)
  rw [e8, e9, if_pos (hI 1 (by decide) (by decide)), if_pos (hI 2 (by decide) (by decide)), if_pos (hI 3 (by decide) (by decide))]
  exact h
theorem g_917 {l : Launch} {WW : qF → qM → Prop} {t u : Nat} {I I1 J1 : Nat → Nat → Int} {i : Int} {z : Int} (hSG : q_SG l WW) (he : ∀ a, 998 ≤ a → I1 a = I a) (hI : q_IB I i) (h : (243 ≠ q_LED ∧ ∃ v M1, q_Met l false 243 [vr 265, vi (I 999 (wr (i + 1)).toNat), vi (I 999 (wr (i + 2)).toNat), vi (I 999 (wr (i + 3)).toNat)] (qk t u I1 J1) v M1 ∧ M1.1 = 283 ∧ ((1 : Nat) = 0 → WW (303, 939, [vr 999, vr 1, vr 265, vr 283, vi i, vu, vu], [vi z]) M1) ∧ ((1 : Nat) ≠ 0 → WW (303, 939, [vr 999, vr 1, vr 265, vr 283, vi i, vu, vu], [v, vi z]) M1))) : WW (303, 917, [vr 999, vr 1, vr 265, vr 283, vi i, vu, vu], [vi z]) (qk t u I1 J1) := by
  refine hSG 17 [] _ _ rfl rfl ?_
  have e8 := he 998 (by decide)
  have e9 := he 999 (by decide)
  show (if 0 ≤ wr (i + 1) ∧ wr (i + 1) < I1 998 0 then (if 0 ≤ wr (i + 2) ∧ wr (i + 2) < I1 998 0 then (if 0 ≤ wr (i + 3) ∧ wr (i + 3) < I1 998 0 then (243 ≠ q_LED ∧ ∃ v M1, q_Met l false 243 [vr 265, vi (I1 999 (wr (i + 1)).toNat), vi (I1 999 (wr (i + 2)).toNat), vi (I1 999 (wr (i + 3)).toNat)] (qk t u I1 J1) v M1 ∧ M1.1 = 283 ∧ ((1 : Nat) = 0 → WW (303, 939, [vr 999, vr 1, vr 265, vr 283, vi i, vu, vu], [vi z]) M1) ∧ ((1 : Nat) ≠ 0 → WW (303, 939, [vr 999, vr 1, vr 265, vr 283, vi i, vu, vu], [v, vi z]) M1)) else False) else False) else False)
  rw [e8, e9, if_pos (hI 1 (by decide) (by decide)), if_pos (hI 2 (by decide) (by decide)), if_pos (hI 3 (by decide) (by decide))]
  exact h
theorem c_939 {l : Launch} {WW : qF → qM → Prop} {t u : Nat} {I2 J2 : Nat → Nat → Int} {i z : Int} (hSG : q_SG l WW) (h : WW (303, 2128, [vr 999, vr 1, vr 265, vr 283, vi i, vu, vu], []) (qk t u I2 J2)) : WW (303, 939, [vr 999, vr 1, vr 265, vr 283, vi i, vu, vu], [vi z, vi z]) (qk t u I2 J2) := by
  refine hSG 1 [] _ _ rfl rfl ?_
  show (if z = z then WW (303, 2128, [vr 999, vr 1, vr 265, vr 283, vi i, vu, vu], []) (qk t u I2 J2) else WW (303, 942, [vr 999, vr 1, vr 265, vr 283, vi i, vu, vu], []) (qk t u I2 J2))
  rw [if_pos rfl]
  exact h
theorem law_19 {l : Launch} {WW : qF → qM → Prop} {S : St} {t u : Nat} {I J : Nat → Nat → Int} {i : Int} (hJD : q_HJ l) (hOK : q_OK) (hSG : q_SG l WW) (hI : q_IB I i) (hR : q_RB I) (hN : q_NN WW I i) (V : CInv S t u I) (W : MInv S I) : WW (303, 895, [vr 999, vr 1, vr 265, vr 283, vi i, vu, vu], []) (qk t u I J) := by
  have B := q_bq (J := J) V W (f_hook (I 999 (wr (i + 1)).toNat) (I 999 (wr (i + 2)).toNat) (I 999 (wr (i + 3)).toNat)) (k_hook V (I 999 (wr (i + 1)).toNat) (I 999 (wr (i + 2)).toNat) (I 999 (wr (i + 3)).toNat)) (fun I1 W1 => q_bj (m_hook W1 (I 999 (wr (i + 1)).toNat) (I 999 (wr (i + 2)).toNat) (I 999 (wr (i + 3)).toNat)))
  obtain ⟨t, u, I1, a1, I2, J2, b1, e1, e2, S2, V2, W2⟩ := B
  refine g_895 hSG (fun _ _ => rfl) hI ⟨by decide, _, _, q_MetE hJD hOK a1 (by decide) (by decide) (by decide), rfl, fun z => absurd z (by decide), fun _ => ?_⟩
  refine g_917 hSG e1 hI ⟨by decide, _, _, q_MetE hJD hOK b1 (by decide) (by decide) (by decide), rfl, fun z => absurd z (by decide), fun _ => ?_⟩
  exact c_939 hSG (q_2128 hSG hI e2 V2 W2 hN)
theorem g_944 {l : Launch} {WW : qF → qM → Prop} {t u : Nat} {I I1 J1 : Nat → Nat → Int} {i : Int} (hSG : q_SG l WW) (he : ∀ a, 998 ≤ a → I1 a = I a) (hI : q_IB I i) (h : (122 ≠ q_LED ∧ ∃ v M1, q_Met l false 122 [vr 1, vi (I 999 (wr (i + 1)).toNat)] (qk t u I1 J1) v M1 ∧ M1.1 = 283 ∧ ((2 : Nat) = 0 → WW (303, 954, [vr 999, vr 1, vr 265, vr 283, vi i, vu, vu], []) M1) ∧ ((2 : Nat) ≠ 0 → WW (303, 954, [vr 999, vr 1, vr 265, vr 283, vi i, vu, vu], [v]) M1))) : WW (303, 944, [vr 999, vr 1, vr 265, vr 283, vi i, vu, vu], []) (qk t u I1 J1) := by
  refine hSG 7 [] _ _ rfl rfl ?_
  have e8 := he 998 (by decide)
  have e9 := he 999 (by decide)
  show (if 0 ≤ wr (i + 1) ∧ wr (i + 1) < I1 998 0 then (122 ≠ q_LED ∧ ∃ v M1, q_Met l false 122 [vr 1, vi (I1 999 (wr (i + 1)).toNat)] (qk t u I1 J1) v M1 ∧ M1.1 = 283 ∧ ((2 : Nat) = 0 → WW (303, 954, [vr 999, vr 1, vr 265, vr 283, vi i, vu, vu], []) M1) ∧ ((2 : Nat) ≠ 0 → WW (303, 954, [vr 999, vr 1, vr 265, vr 283, vi i, vu, vu], [v]) M1)) else False)
  rw [e8, e9, if_pos (hI 1 (by decide) (by decide))]
  exact h
theorem g_954 {l : Launch} {WW : qF → qM → Prop} {t u : Nat} {I I1 J1 : Nat → Nat → Int} {i : Int} {z : Int} (hSG : q_SG l WW) (he : ∀ a, 998 ≤ a → I1 a = I a) (hI : q_IB I i) (h : (245 ≠ q_LED ∧ ∃ v M1, q_Met l false 245 [vr 265, vi (I 999 (wr (i + 1)).toNat)] (qk t u I1 J1) v M1 ∧ M1.1 = 283 ∧ ((2 : Nat) = 0 → WW (303, 964, [vr 999, vr 1, vr 265, vr 283, vi i, vu, vu], [vl z]) M1) ∧ ((2 : Nat) ≠ 0 → WW (303, 964, [vr 999, vr 1, vr 265, vr 283, vi i, vu, vu], [v, vl z]) M1))) : WW (303, 954, [vr 999, vr 1, vr 265, vr 283, vi i, vu, vu], [vl z]) (qk t u I1 J1) := by
  refine hSG 7 [] _ _ rfl rfl ?_
  have e8 := he 998 (by decide)
  have e9 := he 999 (by decide)
  show (if 0 ≤ wr (i + 1) ∧ wr (i + 1) < I1 998 0 then (245 ≠ q_LED ∧ ∃ v M1, q_Met l false 245 [vr 265, vi (I1 999 (wr (i + 1)).toNat)] (qk t u I1 J1) v M1 ∧ M1.1 = 283 ∧ ((2 : Nat) = 0 → WW (303, 964, [vr 999, vr 1, vr 265, vr 283, vi i, vu, vu], [vl z]) M1) ∧ ((2 : Nat) ≠ 0 → WW (303, 964, [vr 999, vr 1, vr 265, vr 283, vi i, vu, vu], [v, vl z]) M1)) else False)
  rw [e8, e9, if_pos (hI 1 (by decide) (by decide))]
  exact h
theorem c_964 {l : Launch} {WW : qF → qM → Prop} {t u : Nat} {I2 J2 : Nat → Nat → Int} {i z : Int} (hSG : q_SG l WW) (h : WW (303, 2128, [vr 999, vr 1, vr 265, vr 283, vi i, vu, vu], []) (qk t u I2 J2)) : WW (303, 964, [vr 999, vr 1, vr 265, vr 283, vi i, vu, vu], [vl z, vl z]) (qk t u I2 J2) := by
  refine hSG 2 [] _ _ rfl rfl ?_
  show (if z < z then (if (-1 : Int) = 0 then WW (303, 2128, [vr 999, vr 1, vr 265, vr 283, vi i, vu, vu], []) (qk t u I2 J2) else WW (303, 968, [vr 999, vr 1, vr 265, vr 283, vi i, vu, vu], []) (qk t u I2 J2)) else (if z = z then (if (0 : Int) = 0 then WW (303, 2128, [vr 999, vr 1, vr 265, vr 283, vi i, vu, vu], []) (qk t u I2 J2) else WW (303, 968, [vr 999, vr 1, vr 265, vr 283, vi i, vu, vu], []) (qk t u I2 J2)) else (if (1 : Int) = 0 then WW (303, 2128, [vr 999, vr 1, vr 265, vr 283, vi i, vu, vu], []) (qk t u I2 J2) else WW (303, 968, [vr 999, vr 1, vr 265, vr 283, vi i, vu, vu], []) (qk t u I2 J2))))
  rw [if_neg (Int.lt_irrefl z), if_pos rfl, if_pos rfl]
  exact h
theorem law_20 {l : Launch} {WW : qF → qM → Prop} {S : St} {t u : Nat} {I J : Nat → Nat → Int} {i : Int} (hJD : q_HJ l) (hOK : q_OK) (hSG : q_SG l WW) (hI : q_IB I i) (hR : q_RB I) (hN : q_NN WW I i) (V : CInv S t u I) (W : MInv S I) : WW (303, 944, [vr 999, vr 1, vr 265, vr 283, vi i, vu, vu], []) (qk t u I J) := by
  have B := q_bq (J := J) V W (f_orders (I 999 (wr (i + 1)).toNat)) (k_orders V (I 999 (wr (i + 1)).toNat)) (fun I1 W1 => q_bj (m_orders W1 (I 999 (wr (i + 1)).toNat)))
  obtain ⟨t, u, I1, a1, I2, J2, b1, e1, e2, S2, V2, W2⟩ := B
  refine g_944 hSG (fun _ _ => rfl) hI ⟨by decide, _, _, q_MetE hJD hOK a1 (by decide) (by decide) (by decide), rfl, fun z => absurd z (by decide), fun _ => ?_⟩
  refine g_954 hSG e1 hI ⟨by decide, _, _, q_MetE hJD hOK b1 (by decide) (by decide) (by decide), rfl, fun z => absurd z (by decide), fun _ => ?_⟩
  exact c_964 hSG (q_2128 hSG hI e2 V2 W2 hN)
theorem g_970 {l : Launch} {WW : qF → qM → Prop} {t u : Nat} {I I1 J1 : Nat → Nat → Int} {i : Int} (hSG : q_SG l WW) (he : ∀ a, 998 ≤ a → I1 a = I a) (hI : q_IB I i) (h : (123 ≠ q_LED ∧ ∃ v M1, q_Met l false 123 [vr 1, vi (I 999 (wr (i + 1)).toNat), vi (I 999 (wr (i + 2)).toNat)] (qk t u I1 J1) v M1 ∧ M1.1 = 283 ∧ ((1 : Nat) = 0 → WW (303, 986, [vr 999, vr 1, vr 265, vr 283, vi i, vu, vu], []) M1) ∧ ((1 : Nat) ≠ 0 → WW (303, 986, [vr 999, vr 1, vr 265, vr 283, vi i, vu, vu], [v]) M1))) : WW (303, 970, [vr 999, vr 1, vr 265, vr 283, vi i, vu, vu], []) (qk t u I1 J1) := by
  refine hSG 12 [] _ _ rfl rfl ?_
  have e8 := he 998 (by decide)
  have e9 := he 999 (by decide)
  show (if 0 ≤ wr (i + 1) ∧ wr (i + 1) < I1 998 0 then (if 0 ≤ wr (i + 2) ∧ wr (i + 2) < I1 998 0 then (123 ≠ q_LED ∧ ∃ v M1, q_Met l false 123 [vr 1, vi (I1 999 (wr (i + 1)).toNat), vi (I1 999 (wr (i + 2)).toNat)] (qk t u I1 J1) v M1 ∧ M1.1 = 283 ∧ ((1 : Nat) = 0 → WW (303, 986, [vr 999, vr 1, vr 265, vr 283, vi i, vu, vu], []) M1) ∧ ((1 : Nat) ≠ 0 → WW (303, 986, [vr 999, vr 1, vr 265, vr 283, vi i, vu, vu], [v]) M1)) else False) else False)
  rw [e8, e9, if_pos (hI 1 (by decide) (by decide)), if_pos (hI 2 (by decide) (by decide))]
  exact h
theorem g_986 {l : Launch} {WW : qF → qM → Prop} {t u : Nat} {I I1 J1 : Nat → Nat → Int} {i : Int} {z : Int} (hSG : q_SG l WW) (he : ∀ a, 998 ≤ a → I1 a = I a) (hI : q_IB I i) (h : (246 ≠ q_LED ∧ ∃ v M1, q_Met l false 246 [vr 265, vi (I 999 (wr (i + 1)).toNat), vi (I 999 (wr (i + 2)).toNat)] (qk t u I1 J1) v M1 ∧ M1.1 = 283 ∧ ((1 : Nat) = 0 → WW (303, 1002, [vr 999, vr 1, vr 265, vr 283, vi i, vu, vu], [vi z]) M1) ∧ ((1 : Nat) ≠ 0 → WW (303, 1002, [vr 999, vr 1, vr 265, vr 283, vi i, vu, vu], [v, vi z]) M1))) : WW (303, 986, [vr 999, vr 1, vr 265, vr 283, vi i, vu, vu], [vi z]) (qk t u I1 J1) := by
  refine hSG 12 [] _ _ rfl rfl ?_
  have e8 := he 998 (by decide)
  have e9 := he 999 (by decide)
  show (if 0 ≤ wr (i + 1) ∧ wr (i + 1) < I1 998 0 then (if 0 ≤ wr (i + 2) ∧ wr (i + 2) < I1 998 0 then (246 ≠ q_LED ∧ ∃ v M1, q_Met l false 246 [vr 265, vi (I1 999 (wr (i + 1)).toNat), vi (I1 999 (wr (i + 2)).toNat)] (qk t u I1 J1) v M1 ∧ M1.1 = 283 ∧ ((1 : Nat) = 0 → WW (303, 1002, [vr 999, vr 1, vr 265, vr 283, vi i, vu, vu], [vi z]) M1) ∧ ((1 : Nat) ≠ 0 → WW (303, 1002, [vr 999, vr 1, vr 265, vr 283, vi i, vu, vu], [v, vi z]) M1)) else False) else False)
  rw [e8, e9, if_pos (hI 1 (by decide) (by decide)), if_pos (hI 2 (by decide) (by decide))]
  exact h
theorem c_1002 {l : Launch} {WW : qF → qM → Prop} {t u : Nat} {I2 J2 : Nat → Nat → Int} {i z : Int} (hSG : q_SG l WW) (h : WW (303, 2128, [vr 999, vr 1, vr 265, vr 283, vi i, vu, vu], []) (qk t u I2 J2)) : WW (303, 1002, [vr 999, vr 1, vr 265, vr 283, vi i, vu, vu], [vi z, vi z]) (qk t u I2 J2) := by
  refine hSG 1 [] _ _ rfl rfl ?_
  show (if z = z then WW (303, 2128, [vr 999, vr 1, vr 265, vr 283, vi i, vu, vu], []) (qk t u I2 J2) else WW (303, 1005, [vr 999, vr 1, vr 265, vr 283, vi i, vu, vu], []) (qk t u I2 J2))
  rw [if_pos rfl]
  exact h
theorem law_21 {l : Launch} {WW : qF → qM → Prop} {S : St} {t u : Nat} {I J : Nat → Nat → Int} {i : Int} (hJD : q_HJ l) (hOK : q_OK) (hSG : q_SG l WW) (hI : q_IB I i) (hR : q_RB I) (hN : q_NN WW I i) (V : CInv S t u I) (W : MInv S I) : WW (303, 970, [vr 999, vr 1, vr 265, vr 283, vi i, vu, vu], []) (qk t u I J) := by
  have B := q_bq (J := J) V W (f_common (I 999 (wr (i + 1)).toNat) (I 999 (wr (i + 2)).toNat)) (k_common V (I 999 (wr (i + 1)).toNat) (I 999 (wr (i + 2)).toNat)) (fun I1 W1 => q_bj (m_common W1 (I 999 (wr (i + 1)).toNat) (I 999 (wr (i + 2)).toNat)))
  obtain ⟨t, u, I1, a1, I2, J2, b1, e1, e2, S2, V2, W2⟩ := B
  refine g_970 hSG (fun _ _ => rfl) hI ⟨by decide, _, _, q_MetE hJD hOK a1 (by decide) (by decide) (by decide), rfl, fun z => absurd z (by decide), fun _ => ?_⟩
  refine g_986 hSG e1 hI ⟨by decide, _, _, q_MetE hJD hOK b1 (by decide) (by decide) (by decide), rfl, fun z => absurd z (by decide), fun _ => ?_⟩
  exact c_1002 hSG (q_2128 hSG hI e2 V2 W2 hN)
theorem g_1007 {l : Launch} {WW : qF → qM → Prop} {t u : Nat} {I I1 J1 : Nat → Nat → Int} {i : Int} (hSG : q_SG l WW) (he : ∀ a, 998 ≤ a → I1 a = I a) (hI : q_IB I i) (h : (124 ≠ q_LED ∧ ∃ v M1, q_Met l false 124 [vr 1, vi (I 999 (wr (i + 1)).toNat), vi (I 999 (wr (i + 2)).toNat)] (qk t u I1 J1) v M1 ∧ M1.1 = 283 ∧ ((1 : Nat) = 0 → WW (303, 1023, [vr 999, vr 1, vr 265, vr 283, vi i, vu, vu], []) M1) ∧ ((1 : Nat) ≠ 0 → WW (303, 1023, [vr 999, vr 1, vr 265, vr 283, vi i, vu, vu], [v]) M1))) : WW (303, 1007, [vr 999, vr 1, vr 265, vr 283, vi i, vu, vu], []) (qk t u I1 J1) := by
  refine hSG 12 [] _ _ rfl rfl ?_
  have e8 := he 998 (by decide)
  have e9 := he 999 (by decide)
  show (if 0 ≤ wr (i + 1) ∧ wr (i + 1) < I1 998 0 then (if 0 ≤ wr (i + 2) ∧ wr (i + 2) < I1 998 0 then (124 ≠ q_LED ∧ ∃ v M1, q_Met l false 124 [vr 1, vi (I1 999 (wr (i + 1)).toNat), vi (I1 999 (wr (i + 2)).toNat)] (qk t u I1 J1) v M1 ∧ M1.1 = 283 ∧ ((1 : Nat) = 0 → WW (303, 1023, [vr 999, vr 1, vr 265, vr 283, vi i, vu, vu], []) M1) ∧ ((1 : Nat) ≠ 0 → WW (303, 1023, [vr 999, vr 1, vr 265, vr 283, vi i, vu, vu], [v]) M1)) else False) else False)
  rw [e8, e9, if_pos (hI 1 (by decide) (by decide)), if_pos (hI 2 (by decide) (by decide))]
  exact h
theorem g_1023 {l : Launch} {WW : qF → qM → Prop} {t u : Nat} {I I1 J1 : Nat → Nat → Int} {i : Int} {z : Int} (hSG : q_SG l WW) (he : ∀ a, 998 ≤ a → I1 a = I a) (hI : q_IB I i) (h : (247 ≠ q_LED ∧ ∃ v M1, q_Met l false 247 [vr 265, vi (I 999 (wr (i + 1)).toNat), vi (I 999 (wr (i + 2)).toNat)] (qk t u I1 J1) v M1 ∧ M1.1 = 283 ∧ ((1 : Nat) = 0 → WW (303, 1039, [vr 999, vr 1, vr 265, vr 283, vi i, vu, vu], [vi z]) M1) ∧ ((1 : Nat) ≠ 0 → WW (303, 1039, [vr 999, vr 1, vr 265, vr 283, vi i, vu, vu], [v, vi z]) M1))) : WW (303, 1023, [vr 999, vr 1, vr 265, vr 283, vi i, vu, vu], [vi z]) (qk t u I1 J1) := by
  refine hSG 12 [] _ _ rfl rfl ?_
  have e8 := he 998 (by decide)
  have e9 := he 999 (by decide)
  show (if 0 ≤ wr (i + 1) ∧ wr (i + 1) < I1 998 0 then (if 0 ≤ wr (i + 2) ∧ wr (i + 2) < I1 998 0 then (247 ≠ q_LED ∧ ∃ v M1, q_Met l false 247 [vr 265, vi (I1 999 (wr (i + 1)).toNat), vi (I1 999 (wr (i + 2)).toNat)] (qk t u I1 J1) v M1 ∧ M1.1 = 283 ∧ ((1 : Nat) = 0 → WW (303, 1039, [vr 999, vr 1, vr 265, vr 283, vi i, vu, vu], [vi z]) M1) ∧ ((1 : Nat) ≠ 0 → WW (303, 1039, [vr 999, vr 1, vr 265, vr 283, vi i, vu, vu], [v, vi z]) M1)) else False) else False)
  rw [e8, e9, if_pos (hI 1 (by decide) (by decide)), if_pos (hI 2 (by decide) (by decide))]
  exact h
theorem c_1039 {l : Launch} {WW : qF → qM → Prop} {t u : Nat} {I2 J2 : Nat → Nat → Int} {i z : Int} (hSG : q_SG l WW) (h : WW (303, 2128, [vr 999, vr 1, vr 265, vr 283, vi i, vu, vu], []) (qk t u I2 J2)) : WW (303, 1039, [vr 999, vr 1, vr 265, vr 283, vi i, vu, vu], [vi z, vi z]) (qk t u I2 J2) := by
  refine hSG 1 [] _ _ rfl rfl ?_
  show (if z = z then WW (303, 2128, [vr 999, vr 1, vr 265, vr 283, vi i, vu, vu], []) (qk t u I2 J2) else WW (303, 1042, [vr 999, vr 1, vr 265, vr 283, vi i, vu, vu], []) (qk t u I2 J2))
  rw [if_pos rfl]
  exact h
theorem law_22 {l : Launch} {WW : qF → qM → Prop} {S : St} {t u : Nat} {I J : Nat → Nat → Int} {i : Int} (hJD : q_HJ l) (hOK : q_OK) (hSG : q_SG l WW) (hI : q_IB I i) (hR : q_RB I) (hN : q_NN WW I i) (V : CInv S t u I) (W : MInv S I) : WW (303, 1007, [vr 999, vr 1, vr 265, vr 283, vi i, vu, vu], []) (qk t u I J) := by
  have B := q_bq (J := J) V W (f_mirrors (I 999 (wr (i + 1)).toNat) (I 999 (wr (i + 2)).toNat)) (k_mirrors V (I 999 (wr (i + 1)).toNat) (I 999 (wr (i + 2)).toNat)) (fun I1 W1 => q_bj (m_mirrors W1 (I 999 (wr (i + 1)).toNat) (I 999 (wr (i + 2)).toNat)))
  obtain ⟨t, u, I1, a1, I2, J2, b1, e1, e2, S2, V2, W2⟩ := B
  refine g_1007 hSG (fun _ _ => rfl) hI ⟨by decide, _, _, q_MetE hJD hOK a1 (by decide) (by decide) (by decide), rfl, fun z => absurd z (by decide), fun _ => ?_⟩
  refine g_1023 hSG e1 hI ⟨by decide, _, _, q_MetE hJD hOK b1 (by decide) (by decide) (by decide), rfl, fun z => absurd z (by decide), fun _ => ?_⟩
  exact c_1039 hSG (q_2128 hSG hI e2 V2 W2 hN)
theorem g_1044 {l : Launch} {WW : qF → qM → Prop} {t u : Nat} {I I1 J1 : Nat → Nat → Int} {i : Int} (hSG : q_SG l WW) (he : ∀ a, 998 ≤ a → I1 a = I a) (hI : q_IB I i) (h : (125 ≠ q_LED ∧ ∃ v M1, q_Met l false 125 [vr 1, vi (I 999 (wr (i + 1)).toNat)] (qk t u I1 J1) v M1 ∧ M1.1 = 283 ∧ ((1 : Nat) = 0 → WW (303, 1054, [vr 999, vr 1, vr 265, vr 283, vi i, vu, vu], []) M1) ∧ ((1 : Nat) ≠ 0 → WW (303, 1054, [vr 999, vr 1, vr 265, vr 283, vi i, vu, vu], [v]) M1))) : WW (303, 1044, [vr 999, vr 1, vr 265, vr 283, vi i, vu, vu], []) (qk t u I1 J1) := by
  refine hSG 7 [] _ _ rfl rfl ?_
  have e8 := he 998 (by decide)
  have e9 := he 999 (by decide)
  show (if 0 ≤ wr (i + 1) ∧ wr (i + 1) < I1 998 0 then (125 ≠ q_LED ∧ ∃ v M1, q_Met l false 125 [vr 1, vi (I1 999 (wr (i + 1)).toNat)] (qk t u I1 J1) v M1 ∧ M1.1 = 283 ∧ ((1 : Nat) = 0 → WW (303, 1054, [vr 999, vr 1, vr 265, vr 283, vi i, vu, vu], []) M1) ∧ ((1 : Nat) ≠ 0 → WW (303, 1054, [vr 999, vr 1, vr 265, vr 283, vi i, vu, vu], [v]) M1)) else False)
  rw [e8, e9, if_pos (hI 1 (by decide) (by decide))]
  exact h
theorem g_1054 {l : Launch} {WW : qF → qM → Prop} {t u : Nat} {I I1 J1 : Nat → Nat → Int} {i : Int} {z : Int} (hSG : q_SG l WW) (he : ∀ a, 998 ≤ a → I1 a = I a) (hI : q_IB I i) (h : (249 ≠ q_LED ∧ ∃ v M1, q_Met l false 249 [vr 265, vi (I 999 (wr (i + 1)).toNat)] (qk t u I1 J1) v M1 ∧ M1.1 = 283 ∧ ((1 : Nat) = 0 → WW (303, 1064, [vr 999, vr 1, vr 265, vr 283, vi i, vu, vu], [vi z]) M1) ∧ ((1 : Nat) ≠ 0 → WW (303, 1064, [vr 999, vr 1, vr 265, vr 283, vi i, vu, vu], [v, vi z]) M1))) : WW (303, 1054, [vr 999, vr 1, vr 265, vr 283, vi i, vu, vu], [vi z]) (qk t u I1 J1) := by
  refine hSG 7 [] _ _ rfl rfl ?_
  have e8 := he 998 (by decide)
  have e9 := he 999 (by decide)
  show (if 0 ≤ wr (i + 1) ∧ wr (i + 1) < I1 998 0 then (249 ≠ q_LED ∧ ∃ v M1, q_Met l false 249 [vr 265, vi (I1 999 (wr (i + 1)).toNat)] (qk t u I1 J1) v M1 ∧ M1.1 = 283 ∧ ((1 : Nat) = 0 → WW (303, 1064, [vr 999, vr 1, vr 265, vr 283, vi i, vu, vu], [vi z]) M1) ∧ ((1 : Nat) ≠ 0 → WW (303, 1064, [vr 999, vr 1, vr 265, vr 283, vi i, vu, vu], [v, vi z]) M1)) else False)
  rw [e8, e9, if_pos (hI 1 (by decide) (by decide))]
  exact h
theorem c_1064 {l : Launch} {WW : qF → qM → Prop} {t u : Nat} {I2 J2 : Nat → Nat → Int} {i z : Int} (hSG : q_SG l WW) (h : WW (303, 2128, [vr 999, vr 1, vr 265, vr 283, vi i, vu, vu], []) (qk t u I2 J2)) : WW (303, 1064, [vr 999, vr 1, vr 265, vr 283, vi i, vu, vu], [vi z, vi z]) (qk t u I2 J2) := by
  refine hSG 1 [] _ _ rfl rfl ?_
  show (if z = z then WW (303, 2128, [vr 999, vr 1, vr 265, vr 283, vi i, vu, vu], []) (qk t u I2 J2) else WW (303, 1067, [vr 999, vr 1, vr 265, vr 283, vi i, vu, vu], []) (qk t u I2 J2))
  rw [if_pos rfl]
  exact h
theorem law_23 {l : Launch} {WW : qF → qM → Prop} {S : St} {t u : Nat} {I J : Nat → Nat → Int} {i : Int} (hJD : q_HJ l) (hOK : q_OK) (hSG : q_SG l WW) (hI : q_IB I i) (hR : q_RB I) (hN : q_NN WW I i) (V : CInv S t u I) (W : MInv S I) : WW (303, 1044, [vr 999, vr 1, vr 265, vr 283, vi i, vu, vu], []) (qk t u I J) := by
  have B := q_bq (J := J) V W (f_sources (I 999 (wr (i + 1)).toNat)) (k_sources V (I 999 (wr (i + 1)).toNat)) (fun I1 W1 => q_bj (m_sources W1 (I 999 (wr (i + 1)).toNat)))
  obtain ⟨t, u, I1, a1, I2, J2, b1, e1, e2, S2, V2, W2⟩ := B
  refine g_1044 hSG (fun _ _ => rfl) hI ⟨by decide, _, _, q_MetE hJD hOK a1 (by decide) (by decide) (by decide), rfl, fun z => absurd z (by decide), fun _ => ?_⟩
  refine g_1054 hSG e1 hI ⟨by decide, _, _, q_MetE hJD hOK b1 (by decide) (by decide) (by decide), rfl, fun z => absurd z (by decide), fun _ => ?_⟩
  exact c_1064 hSG (q_2128 hSG hI e2 V2 W2 hN)
theorem g_1069 {l : Launch} {WW : qF → qM → Prop} {t u : Nat} {I I1 J1 : Nat → Nat → Int} {i : Int} (hSG : q_SG l WW) (he : ∀ a, 998 ≤ a → I1 a = I a) (hI : q_IB I i) (h : (126 ≠ q_LED ∧ ∃ v M1, q_Met l false 126 [vr 1, vi (I 999 (wr (i + 1)).toNat), vi (I 999 (wr (i + 2)).toNat), vi (I 999 (wr (i + 3)).toNat)] (qk t u I1 J1) v M1 ∧ M1.1 = 283 ∧ ((1 : Nat) = 0 → WW (303, 1091, [vr 999, vr 1, vr 265, vr 283, vi i, vu, vu], []) M1) ∧ ((1 : Nat) ≠ 0 → WW (303, 1091, [vr 999, vr 1, vr 265, vr 283, vi i, vu, vu], [v]) M1))) : WW (303, 1069, [vr 999, vr 1, vr 265, vr 283, vi i, vu, vu], []) (qk t u I1 J1) := by
  refine hSG 17 [] _ _ rfl rfl ?_
  have e8 := he 998 (by decide)
  have e9 := he 999 (by decide)
  show (if 0 ≤ wr (i + 1) ∧ wr (i + 1) < I1 998 0 then (if 0 ≤ wr (i + 2) ∧ wr (i + 2) < I1 998 0 then (if 0 ≤ wr (i + 3) ∧ wr (i + 3) < I1 998 0 then (126 ≠ q_LED ∧ ∃ v M1, q_Met l false 126 [vr 1, vi (I1 999 (wr (i + 1)).toNat), vi (I1 999 (wr (i + 2)).toNat), vi (I1 999 (wr (i + 3)).toNat)] (qk t u I1 J1) v M1 ∧ M1.1 = 283 ∧ ((1 : Nat) = 0 → WW (303, 1091, [vr 999, vr 1, vr 265, vr 283, vi i, vu, vu], []) M1) ∧ ((1 : Nat) ≠ 0 → WW (303, 1091, [vr 999, vr 1, vr 265, vr 283, vi i, vu, vu], [v]) M1)) else False) else False) else False)
  rw [e8, e9, if_pos (hI 1 (by decide) (by decide)), if_pos (hI 2 (by decide) (by decide)), if_pos (hI 3 (by decide) (by decide))]
  exact h
theorem g_1091 {l : Launch} {WW : qF → qM → Prop} {t u : Nat} {I I1 J1 : Nat → Nat → Int} {i : Int} {z : Int} (hSG : q_SG l WW) (he : ∀ a, 998 ≤ a → I1 a = I a) (hI : q_IB I i) (h : (251 ≠ q_LED ∧ ∃ v M1, q_Met l false 251 [vr 265, vi (I 999 (wr (i + 1)).toNat), vi (I 999 (wr (i + 2)).toNat), vi (I 999 (wr (i + 3)).toNat)] (qk t u I1 J1) v M1 ∧ M1.1 = 283 ∧ ((1 : Nat) = 0 → WW (303, 1113, [vr 999, vr 1, vr 265, vr 283, vi i, vu, vu], [vi z]) M1) ∧ ((1 : Nat) ≠ 0 → WW (303, 1113, [vr 999, vr 1, vr 265, vr 283, vi i, vu, vu], [v, vi z]) M1))) : WW (303, 1091, [vr 999, vr 1, vr 265, vr 283, vi i, vu, vu], [vi z]) (qk t u I1 J1) := by
  refine hSG 17 [] _ _ rfl rfl ?_
  have e8 := he 998 (by decide)
  have e9 := he 999 (by decide)
  show (if 0 ≤ wr (i + 1) ∧ wr (i + 1) < I1 998 0 then (if 0 ≤ wr (i + 2) ∧ wr (i + 2) < I1 998 0 then (if 0 ≤ wr (i + 3) ∧ wr (i + 3) < I1 998 0 then (251 ≠ q_LED ∧ ∃ v M1, q_Met l false 251 [vr 265, vi (I1 999 (wr (i + 1)).toNat), vi (I1 999 (wr (i + 2)).toNat), vi (I1 999 (wr (i + 3)).toNat)] (qk t u I1 J1) v M1 ∧ M1.1 = 283 ∧ ((1 : Nat) = 0 → WW (303, 1113, [vr 999, vr 1, vr 265, vr 283, vi i, vu, vu], [vi z]) M1) ∧ ((1 : Nat) ≠ 0 → WW (303, 1113, [vr 999, vr 1, vr 265, vr 283, vi i, vu, vu], [v, vi z]) M1)) else False) else False) else False)
  rw [e8, e9, if_pos (hI 1 (by decide) (by decide)), if_pos (hI 2 (by decide) (by decide)), if_pos (hI 3 (by decide) (by decide))]
  exact h
theorem c_1113 {l : Launch} {WW : qF → qM → Prop} {t u : Nat} {I2 J2 : Nat → Nat → Int} {i z : Int} (hSG : q_SG l WW) (h : WW (303, 2128, [vr 999, vr 1, vr 265, vr 283, vi i, vu, vu], []) (qk t u I2 J2)) : WW (303, 1113, [vr 999, vr 1, vr 265, vr 283, vi i, vu, vu], [vi z, vi z]) (qk t u I2 J2) := by
  refine hSG 1 [] _ _ rfl rfl ?_
  show (if z = z then WW (303, 2128, [vr 999, vr 1, vr 265, vr 283, vi i, vu, vu], []) (qk t u I2 J2) else WW (303, 1116, [vr 999, vr 1, vr 265, vr 283, vi i, vu, vu], []) (qk t u I2 J2))
  rw [if_pos rfl]
  exact h
theorem law_24 {l : Launch} {WW : qF → qM → Prop} {S : St} {t u : Nat} {I J : Nat → Nat → Int} {i : Int} (hJD : q_HJ l) (hOK : q_OK) (hSG : q_SG l WW) (hI : q_IB I i) (hR : q_RB I) (hN : q_NN WW I i) (V : CInv S t u I) (W : MInv S I) : WW (303, 1069, [vr 999, vr 1, vr 265, vr 283, vi i, vu, vu], []) (qk t u I J) := by
  have B := q_bq (J := J) V W (f_source (I 999 (wr (i + 1)).toNat) (I 999 (wr (i + 2)).toNat) (I 999 (wr (i + 3)).toNat)) (k_source V (I 999 (wr (i + 1)).toNat) (I 999 (wr (i + 2)).toNat) (I 999 (wr (i + 3)).toNat)) (fun I1 W1 => q_bj (m_source W1 (I 999 (wr (i + 1)).toNat) (I 999 (wr (i + 2)).toNat) (I 999 (wr (i + 3)).toNat)))
  obtain ⟨t, u, I1, a1, I2, J2, b1, e1, e2, S2, V2, W2⟩ := B
  refine g_1069 hSG (fun _ _ => rfl) hI ⟨by decide, _, _, q_MetE hJD hOK a1 (by decide) (by decide) (by decide), rfl, fun z => absurd z (by decide), fun _ => ?_⟩
  refine g_1091 hSG e1 hI ⟨by decide, _, _, q_MetE hJD hOK b1 (by decide) (by decide) (by decide), rfl, fun z => absurd z (by decide), fun _ => ?_⟩
  exact c_1113 hSG (q_2128 hSG hI e2 V2 W2 hN)
theorem g_1118 {l : Launch} {WW : qF → qM → Prop} {t u : Nat} {I I1 J1 : Nat → Nat → Int} {i : Int} (hSG : q_SG l WW) (he : ∀ a, 998 ≤ a → I1 a = I a) (hI : q_IB I i) (h : (127 ≠ q_LED ∧ ∃ v M1, q_Met l false 127 [vr 1, vi (I 999 (wr (i + 1)).toNat)] (qk t u I1 J1) v M1 ∧ M1.1 = 283 ∧ ((1 : Nat) = 0 → WW (303, 1128, [vr 999, vr 1, vr 265, vr 283, vi i, vu, vu], []) M1) ∧ ((1 : Nat) ≠ 0 → WW (303, 1128, [vr 999, vr 1, vr 265, vr 283, vi i, vu, vu], [v]) M1))) : WW (303, 1118, [vr 999, vr 1, vr 265, vr 283, vi i, vu, vu], []) (qk t u I1 J1) := by
  refine hSG 7 [] _ _ rfl rfl ?_
  have e8 := he 998 (by decide)
  have e9 := he 999 (by decide)
  show (if 0 ≤ wr (i + 1) ∧ wr (i + 1) < I1 998 0 then (127 ≠ q_LED ∧ ∃ v M1, q_Met l false 127 [vr 1, vi (I1 999 (wr (i + 1)).toNat)] (qk t u I1 J1) v M1 ∧ M1.1 = 283 ∧ ((1 : Nat) = 0 → WW (303, 1128, [vr 999, vr 1, vr 265, vr 283, vi i, vu, vu], []) M1) ∧ ((1 : Nat) ≠ 0 → WW (303, 1128, [vr 999, vr 1, vr 265, vr 283, vi i, vu, vu], [v]) M1)) else False)
  rw [e8, e9, if_pos (hI 1 (by decide) (by decide))]
  exact h
theorem g_1128 {l : Launch} {WW : qF → qM → Prop} {t u : Nat} {I I1 J1 : Nat → Nat → Int} {i : Int} {z : Int} (hSG : q_SG l WW) (he : ∀ a, 998 ≤ a → I1 a = I a) (hI : q_IB I i) (h : (254 ≠ q_LED ∧ ∃ v M1, q_Met l false 254 [vr 265, vi (I 999 (wr (i + 1)).toNat)] (qk t u I1 J1) v M1 ∧ M1.1 = 283 ∧ ((1 : Nat) = 0 → WW (303, 1138, [vr 999, vr 1, vr 265, vr 283, vi i, vu, vu], [vi z]) M1) ∧ ((1 : Nat) ≠ 0 → WW (303, 1138, [vr 999, vr 1, vr 265, vr 283, vi i, vu, vu], [v, vi z]) M1))) : WW (303, 1128, [vr 999, vr 1, vr 265, vr 283, vi i, vu, vu], [vi z]) (qk t u I1 J1) := by
  refine hSG 7 [] _ _ rfl rfl ?_
  have e8 := he 998 (by decide)
  have e9 := he 999 (by decide)
  show (if 0 ≤ wr (i + 1) ∧ wr (i + 1) < I1 998 0 then (254 ≠ q_LED ∧ ∃ v M1, q_Met l false 254 [vr 265, vi (I1 999 (wr (i + 1)).toNat)] (qk t u I1 J1) v M1 ∧ M1.1 = 283 ∧ ((1 : Nat) = 0 → WW (303, 1138, [vr 999, vr 1, vr 265, vr 283, vi i, vu, vu], [vi z]) M1) ∧ ((1 : Nat) ≠ 0 → WW (303, 1138, [vr 999, vr 1, vr 265, vr 283, vi i, vu, vu], [v, vi z]) M1)) else False)
  rw [e8, e9, if_pos (hI 1 (by decide) (by decide))]
  exact h
theorem c_1138 {l : Launch} {WW : qF → qM → Prop} {t u : Nat} {I2 J2 : Nat → Nat → Int} {i z : Int} (hSG : q_SG l WW) (h : WW (303, 2128, [vr 999, vr 1, vr 265, vr 283, vi i, vu, vu], []) (qk t u I2 J2)) : WW (303, 1138, [vr 999, vr 1, vr 265, vr 283, vi i, vu, vu], [vi z, vi z]) (qk t u I2 J2) := by
  refine hSG 1 [] _ _ rfl rfl ?_
  show (if z = z then WW (303, 2128, [vr 999, vr 1, vr 265, vr 283, vi i, vu, vu], []) (qk t u I2 J2) else WW (303, 1141, [vr 999, vr 1, vr 265, vr 283, vi i, vu, vu], []) (qk t u I2 J2))
  rw [if_pos rfl]
  exact h
theorem law_25 {l : Launch} {WW : qF → qM → Prop} {S : St} {t u : Nat} {I J : Nat → Nat → Int} {i : Int} (hJD : q_HJ l) (hOK : q_OK) (hSG : q_SG l WW) (hI : q_IB I i) (hR : q_RB I) (hN : q_NN WW I i) (V : CInv S t u I) (W : MInv S I) : WW (303, 1118, [vr 999, vr 1, vr 265, vr 283, vi i, vu, vu], []) (qk t u I J) := by
  have B := q_bq (J := J) V W (f_ways (I 999 (wr (i + 1)).toNat)) (k_ways V (I 999 (wr (i + 1)).toNat)) (fun I1 W1 => q_bj (m_ways W1 (I 999 (wr (i + 1)).toNat)))
  obtain ⟨t, u, I1, a1, I2, J2, b1, e1, e2, S2, V2, W2⟩ := B
  refine g_1118 hSG (fun _ _ => rfl) hI ⟨by decide, _, _, q_MetE hJD hOK a1 (by decide) (by decide) (by decide), rfl, fun z => absurd z (by decide), fun _ => ?_⟩
  refine g_1128 hSG e1 hI ⟨by decide, _, _, q_MetE hJD hOK b1 (by decide) (by decide) (by decide), rfl, fun z => absurd z (by decide), fun _ => ?_⟩
  exact c_1138 hSG (q_2128 hSG hI e2 V2 W2 hN)
theorem g_1143 {l : Launch} {WW : qF → qM → Prop} {t u : Nat} {I I1 J1 : Nat → Nat → Int} {i : Int} (hSG : q_SG l WW) (he : ∀ a, 998 ≤ a → I1 a = I a) (hI : q_IB I i) (h : (128 ≠ q_LED ∧ ∃ v M1, q_Met l false 128 [vr 1, vi (I 999 (wr (i + 1)).toNat), vi (I 999 (wr (i + 2)).toNat)] (qk t u I1 J1) v M1 ∧ M1.1 = 283 ∧ ((1 : Nat) = 0 → WW (303, 1159, [vr 999, vr 1, vr 265, vr 283, vi i, vu, vu], []) M1) ∧ ((1 : Nat) ≠ 0 → WW (303, 1159, [vr 999, vr 1, vr 265, vr 283, vi i, vu, vu], [v]) M1))) : WW (303, 1143, [vr 999, vr 1, vr 265, vr 283, vi i, vu, vu], []) (qk t u I1 J1) := by
  refine hSG 12 [] _ _ rfl rfl ?_
  have e8 := he 998 (by decide)
  have e9 := he 999 (by decide)
  show (if 0 ≤ wr (i + 1) ∧ wr (i + 1) < I1 998 0 then (if 0 ≤ wr (i + 2) ∧ wr (i + 2) < I1 998 0 then (128 ≠ q_LED ∧ ∃ v M1, q_Met l false 128 [vr 1, vi (I1 999 (wr (i + 1)).toNat), vi (I1 999 (wr (i + 2)).toNat)] (qk t u I1 J1) v M1 ∧ M1.1 = 283 ∧ ((1 : Nat) = 0 → WW (303, 1159, [vr 999, vr 1, vr 265, vr 283, vi i, vu, vu], []) M1) ∧ ((1 : Nat) ≠ 0 → WW (303, 1159, [vr 999, vr 1, vr 265, vr 283, vi i, vu, vu], [v]) M1)) else False) else False)
  rw [e8, e9, if_pos (hI 1 (by decide) (by decide)), if_pos (hI 2 (by decide) (by decide))]
  exact h
theorem g_1159 {l : Launch} {WW : qF → qM → Prop} {t u : Nat} {I I1 J1 : Nat → Nat → Int} {i : Int} {z : Int} (hSG : q_SG l WW) (he : ∀ a, 998 ≤ a → I1 a = I a) (hI : q_IB I i) (h : (255 ≠ q_LED ∧ ∃ v M1, q_Met l false 255 [vr 265, vi (I 999 (wr (i + 1)).toNat), vi (I 999 (wr (i + 2)).toNat)] (qk t u I1 J1) v M1 ∧ M1.1 = 283 ∧ ((1 : Nat) = 0 → WW (303, 1175, [vr 999, vr 1, vr 265, vr 283, vi i, vu, vu], [vi z]) M1) ∧ ((1 : Nat) ≠ 0 → WW (303, 1175, [vr 999, vr 1, vr 265, vr 283, vi i, vu, vu], [v, vi z]) M1))) : WW (303, 1159, [vr 999, vr 1, vr 265, vr 283, vi i, vu, vu], [vi z]) (qk t u I1 J1) := by
  refine hSG 12 [] _ _ rfl rfl ?_
  have e8 := he 998 (by decide)
  have e9 := he 999 (by decide)
  show (if 0 ≤ wr (i + 1) ∧ wr (i + 1) < I1 998 0 then (if 0 ≤ wr (i + 2) ∧ wr (i + 2) < I1 998 0 then (255 ≠ q_LED ∧ ∃ v M1, q_Met l false 255 [vr 265, vi (I1 999 (wr (i + 1)).toNat), vi (I1 999 (wr (i + 2)).toNat)] (qk t u I1 J1) v M1 ∧ M1.1 = 283 ∧ ((1 : Nat) = 0 → WW (303, 1175, [vr 999, vr 1, vr 265, vr 283, vi i, vu, vu], [vi z]) M1) ∧ ((1 : Nat) ≠ 0 → WW (303, 1175, [vr 999, vr 1, vr 265, vr 283, vi i, vu, vu], [v, vi z]) M1)) else False) else False)
  rw [e8, e9, if_pos (hI 1 (by decide) (by decide)), if_pos (hI 2 (by decide) (by decide))]
  exact h
theorem c_1175 {l : Launch} {WW : qF → qM → Prop} {t u : Nat} {I2 J2 : Nat → Nat → Int} {i z : Int} (hSG : q_SG l WW) (h : WW (303, 2128, [vr 999, vr 1, vr 265, vr 283, vi i, vu, vu], []) (qk t u I2 J2)) : WW (303, 1175, [vr 999, vr 1, vr 265, vr 283, vi i, vu, vu], [vi z, vi z]) (qk t u I2 J2) := by
  refine hSG 1 [] _ _ rfl rfl ?_
  show (if z = z then WW (303, 2128, [vr 999, vr 1, vr 265, vr 283, vi i, vu, vu], []) (qk t u I2 J2) else WW (303, 1178, [vr 999, vr 1, vr 265, vr 283, vi i, vu, vu], []) (qk t u I2 J2))
  rw [if_pos rfl]
  exact h
theorem law_26 {l : Launch} {WW : qF → qM → Prop} {S : St} {t u : Nat} {I J : Nat → Nat → Int} {i : Int} (hJD : q_HJ l) (hOK : q_OK) (hSG : q_SG l WW) (hI : q_IB I i) (hR : q_RB I) (hN : q_NN WW I i) (V : CInv S t u I) (W : MInv S I) : WW (303, 1143, [vr 999, vr 1, vr 265, vr 283, vi i, vu, vu], []) (qk t u I J) := by
  have B := q_bq (J := J) V W (f_waysBy (I 999 (wr (i + 1)).toNat) (I 999 (wr (i + 2)).toNat)) (k_waysBy V (I 999 (wr (i + 1)).toNat) (I 999 (wr (i + 2)).toNat)) (fun I1 W1 => q_bj (m_waysBy W1 (I 999 (wr (i + 1)).toNat) (I 999 (wr (i + 2)).toNat)))
  obtain ⟨t, u, I1, a1, I2, J2, b1, e1, e2, S2, V2, W2⟩ := B
  refine g_1143 hSG (fun _ _ => rfl) hI ⟨by decide, _, _, q_MetE hJD hOK a1 (by decide) (by decide) (by decide), rfl, fun z => absurd z (by decide), fun _ => ?_⟩
  refine g_1159 hSG e1 hI ⟨by decide, _, _, q_MetE hJD hOK b1 (by decide) (by decide) (by decide), rfl, fun z => absurd z (by decide), fun _ => ?_⟩
  exact c_1175 hSG (q_2128 hSG hI e2 V2 W2 hN)
theorem g_1180 {l : Launch} {WW : qF → qM → Prop} {t u : Nat} {I I1 J1 : Nat → Nat → Int} {i : Int} (hSG : q_SG l WW) (he : ∀ a, 998 ≤ a → I1 a = I a) (hI : q_IB I i) (h : (129 ≠ q_LED ∧ ∃ v M1, q_Met l false 129 [vr 1, vi (I 999 (wr (i + 1)).toNat)] (qk t u I1 J1) v M1 ∧ M1.1 = 283 ∧ ((1 : Nat) = 0 → WW (303, 1190, [vr 999, vr 1, vr 265, vr 283, vi i, vu, vu], []) M1) ∧ ((1 : Nat) ≠ 0 → WW (303, 1190, [vr 999, vr 1, vr 265, vr 283, vi i, vu, vu], [v]) M1))) : WW (303, 1180, [vr 999, vr 1, vr 265, vr 283, vi i, vu, vu], []) (qk t u I1 J1) := by
  refine hSG 7 [] _ _ rfl rfl ?_
  have e8 := he 998 (by decide)
  have e9 := he 999 (by decide)
  show (if 0 ≤ wr (i + 1) ∧ wr (i + 1) < I1 998 0 then (129 ≠ q_LED ∧ ∃ v M1, q_Met l false 129 [vr 1, vi (I1 999 (wr (i + 1)).toNat)] (qk t u I1 J1) v M1 ∧ M1.1 = 283 ∧ ((1 : Nat) = 0 → WW (303, 1190, [vr 999, vr 1, vr 265, vr 283, vi i, vu, vu], []) M1) ∧ ((1 : Nat) ≠ 0 → WW (303, 1190, [vr 999, vr 1, vr 265, vr 283, vi i, vu, vu], [v]) M1)) else False)
  rw [e8, e9, if_pos (hI 1 (by decide) (by decide))]
  exact h
theorem g_1190 {l : Launch} {WW : qF → qM → Prop} {t u : Nat} {I I1 J1 : Nat → Nat → Int} {i : Int} {z : Int} (hSG : q_SG l WW) (he : ∀ a, 998 ≤ a → I1 a = I a) (hI : q_IB I i) (h : (256 ≠ q_LED ∧ ∃ v M1, q_Met l false 256 [vr 265, vi (I 999 (wr (i + 1)).toNat)] (qk t u I1 J1) v M1 ∧ M1.1 = 283 ∧ ((1 : Nat) = 0 → WW (303, 1200, [vr 999, vr 1, vr 265, vr 283, vi i, vu, vu], [vi z]) M1) ∧ ((1 : Nat) ≠ 0 → WW (303, 1200, [vr 999, vr 1, vr 265, vr 283, vi i, vu, vu], [v, vi z]) M1))) : WW (303, 1190, [vr 999, vr 1, vr 265, vr 283, vi i, vu, vu], [vi z]) (qk t u I1 J1) := by
  refine hSG 7 [] _ _ rfl rfl ?_
  have e8 := he 998 (by decide)
  have e9 := he 999 (by decide)
  show (if 0 ≤ wr (i + 1) ∧ wr (i + 1) < I1 998 0 then (256 ≠ q_LED ∧ ∃ v M1, q_Met l false 256 [vr 265, vi (I1 999 (wr (i + 1)).toNat)] (qk t u I1 J1) v M1 ∧ M1.1 = 283 ∧ ((1 : Nat) = 0 → WW (303, 1200, [vr 999, vr 1, vr 265, vr 283, vi i, vu, vu], [vi z]) M1) ∧ ((1 : Nat) ≠ 0 → WW (303, 1200, [vr 999, vr 1, vr 265, vr 283, vi i, vu, vu], [v, vi z]) M1)) else False)
  rw [e8, e9, if_pos (hI 1 (by decide) (by decide))]
  exact h
theorem c_1200 {l : Launch} {WW : qF → qM → Prop} {t u : Nat} {I2 J2 : Nat → Nat → Int} {i z : Int} (hSG : q_SG l WW) (h : WW (303, 2128, [vr 999, vr 1, vr 265, vr 283, vi i, vu, vu], []) (qk t u I2 J2)) : WW (303, 1200, [vr 999, vr 1, vr 265, vr 283, vi i, vu, vu], [vi z, vi z]) (qk t u I2 J2) := by
  refine hSG 1 [] _ _ rfl rfl ?_
  show (if z = z then WW (303, 2128, [vr 999, vr 1, vr 265, vr 283, vi i, vu, vu], []) (qk t u I2 J2) else WW (303, 1203, [vr 999, vr 1, vr 265, vr 283, vi i, vu, vu], []) (qk t u I2 J2))
  rw [if_pos rfl]
  exact h
theorem law_27 {l : Launch} {WW : qF → qM → Prop} {S : St} {t u : Nat} {I J : Nat → Nat → Int} {i : Int} (hJD : q_HJ l) (hOK : q_OK) (hSG : q_SG l WW) (hI : q_IB I i) (hR : q_RB I) (hN : q_NN WW I i) (V : CInv S t u I) (W : MInv S I) : WW (303, 1180, [vr 999, vr 1, vr 265, vr 283, vi i, vu, vu], []) (qk t u I J) := by
  have B := q_bq (J := J) V W (f_waysUnlike (I 999 (wr (i + 1)).toNat)) (k_waysUnlike V (I 999 (wr (i + 1)).toNat)) (fun I1 W1 => q_bj (m_waysUnlike W1 (I 999 (wr (i + 1)).toNat)))
  obtain ⟨t, u, I1, a1, I2, J2, b1, e1, e2, S2, V2, W2⟩ := B
  refine g_1180 hSG (fun _ _ => rfl) hI ⟨by decide, _, _, q_MetE hJD hOK a1 (by decide) (by decide) (by decide), rfl, fun z => absurd z (by decide), fun _ => ?_⟩
  refine g_1190 hSG e1 hI ⟨by decide, _, _, q_MetE hJD hOK b1 (by decide) (by decide) (by decide), rfl, fun z => absurd z (by decide), fun _ => ?_⟩
  exact c_1200 hSG (q_2128 hSG hI e2 V2 W2 hN)
theorem g_1205 {l : Launch} {WW : qF → qM → Prop} {t u : Nat} {I I1 J1 : Nat → Nat → Int} {i : Int} (hSG : q_SG l WW) (he : ∀ a, 998 ≤ a → I1 a = I a) (hI : q_IB I i) (h : (130 ≠ q_LED ∧ ∃ v M1, q_Met l false 130 [vr 1, vi (I 999 (wr (i + 1)).toNat)] (qk t u I1 J1) v M1 ∧ M1.1 = 283 ∧ ((1 : Nat) = 0 → WW (303, 1215, [vr 999, vr 1, vr 265, vr 283, vi i, vu, vu], []) M1) ∧ ((1 : Nat) ≠ 0 → WW (303, 1215, [vr 999, vr 1, vr 265, vr 283, vi i, vu, vu], [v]) M1))) : WW (303, 1205, [vr 999, vr 1, vr 265, vr 283, vi i, vu, vu], []) (qk t u I1 J1) := by
  refine hSG 7 [] _ _ rfl rfl ?_
  have e8 := he 998 (by decide)
  have e9 := he 999 (by decide)
  show (if 0 ≤ wr (i + 1) ∧ wr (i + 1) < I1 998 0 then (130 ≠ q_LED ∧ ∃ v M1, q_Met l false 130 [vr 1, vi (I1 999 (wr (i + 1)).toNat)] (qk t u I1 J1) v M1 ∧ M1.1 = 283 ∧ ((1 : Nat) = 0 → WW (303, 1215, [vr 999, vr 1, vr 265, vr 283, vi i, vu, vu], []) M1) ∧ ((1 : Nat) ≠ 0 → WW (303, 1215, [vr 999, vr 1, vr 265, vr 283, vi i, vu, vu], [v]) M1)) else False)
  rw [e8, e9, if_pos (hI 1 (by decide) (by decide))]
  exact h
theorem g_1215 {l : Launch} {WW : qF → qM → Prop} {t u : Nat} {I I1 J1 : Nat → Nat → Int} {i : Int} {z : Int} (hSG : q_SG l WW) (he : ∀ a, 998 ≤ a → I1 a = I a) (hI : q_IB I i) (h : (260 ≠ q_LED ∧ ∃ v M1, q_Met l false 260 [vr 265, vi (I 999 (wr (i + 1)).toNat)] (qk t u I1 J1) v M1 ∧ M1.1 = 283 ∧ ((1 : Nat) = 0 → WW (303, 1225, [vr 999, vr 1, vr 265, vr 283, vi i, vu, vu], [vi z]) M1) ∧ ((1 : Nat) ≠ 0 → WW (303, 1225, [vr 999, vr 1, vr 265, vr 283, vi i, vu, vu], [v, vi z]) M1))) : WW (303, 1215, [vr 999, vr 1, vr 265, vr 283, vi i, vu, vu], [vi z]) (qk t u I1 J1) := by
  refine hSG 7 [] _ _ rfl rfl ?_
  have e8 := he 998 (by decide)
  have e9 := he 999 (by decide)
  show (if 0 ≤ wr (i + 1) ∧ wr (i + 1) < I1 998 0 then (260 ≠ q_LED ∧ ∃ v M1, q_Met l false 260 [vr 265, vi (I1 999 (wr (i + 1)).toNat)] (qk t u I1 J1) v M1 ∧ M1.1 = 283 ∧ ((1 : Nat) = 0 → WW (303, 1225, [vr 999, vr 1, vr 265, vr 283, vi i, vu, vu], [vi z]) M1) ∧ ((1 : Nat) ≠ 0 → WW (303, 1225, [vr 999, vr 1, vr 265, vr 283, vi i, vu, vu], [v, vi z]) M1)) else False)
  rw [e8, e9, if_pos (hI 1 (by decide) (by decide))]
  exact h
theorem c_1225 {l : Launch} {WW : qF → qM → Prop} {t u : Nat} {I2 J2 : Nat → Nat → Int} {i z : Int} (hSG : q_SG l WW) (h : WW (303, 2128, [vr 999, vr 1, vr 265, vr 283, vi i, vu, vu], []) (qk t u I2 J2)) : WW (303, 1225, [vr 999, vr 1, vr 265, vr 283, vi i, vu, vu], [vi z, vi z]) (qk t u I2 J2) := by
  refine hSG 1 [] _ _ rfl rfl ?_
  show (if z = z then WW (303, 2128, [vr 999, vr 1, vr 265, vr 283, vi i, vu, vu], []) (qk t u I2 J2) else WW (303, 1228, [vr 999, vr 1, vr 265, vr 283, vi i, vu, vu], []) (qk t u I2 J2))
  rw [if_pos rfl]
  exact h
theorem law_28 {l : Launch} {WW : qF → qM → Prop} {S : St} {t u : Nat} {I J : Nat → Nat → Int} {i : Int} (hJD : q_HJ l) (hOK : q_OK) (hSG : q_SG l WW) (hI : q_IB I i) (hR : q_RB I) (hN : q_NN WW I i) (V : CInv S t u I) (W : MInv S I) : WW (303, 1205, [vr 999, vr 1, vr 265, vr 283, vi i, vu, vu], []) (qk t u I J) := by
  have B := q_bq (J := J) V W (f_eats (I 999 (wr (i + 1)).toNat)) (k_eats V (I 999 (wr (i + 1)).toNat)) (fun I1 W1 => q_bj (m_eats W1 (I 999 (wr (i + 1)).toNat)))
  obtain ⟨t, u, I1, a1, I2, J2, b1, e1, e2, S2, V2, W2⟩ := B
  refine g_1205 hSG (fun _ _ => rfl) hI ⟨by decide, _, _, q_MetE hJD hOK a1 (by decide) (by decide) (by decide), rfl, fun z => absurd z (by decide), fun _ => ?_⟩
  refine g_1215 hSG e1 hI ⟨by decide, _, _, q_MetE hJD hOK b1 (by decide) (by decide) (by decide), rfl, fun z => absurd z (by decide), fun _ => ?_⟩
  exact c_1225 hSG (q_2128 hSG hI e2 V2 W2 hN)
theorem g_1230 {l : Launch} {WW : qF → qM → Prop} {t u : Nat} {I I1 J1 : Nat → Nat → Int} {i : Int} (hSG : q_SG l WW) (he : ∀ a, 998 ≤ a → I1 a = I a) (hI : q_IB I i) (h : (131 ≠ q_LED ∧ ∃ v M1, q_Met l false 131 [vr 1, vi (I 999 (wr (i + 1)).toNat)] (qk t u I1 J1) v M1 ∧ M1.1 = 283 ∧ ((1 : Nat) = 0 → WW (303, 1240, [vr 999, vr 1, vr 265, vr 283, vi i, vu, vu], []) M1) ∧ ((1 : Nat) ≠ 0 → WW (303, 1240, [vr 999, vr 1, vr 265, vr 283, vi i, vu, vu], [v]) M1))) : WW (303, 1230, [vr 999, vr 1, vr 265, vr 283, vi i, vu, vu], []) (qk t u I1 J1) := by
  refine hSG 7 [] _ _ rfl rfl ?_
  have e8 := he 998 (by decide)
  have e9 := he 999 (by decide)
  show (if 0 ≤ wr (i + 1) ∧ wr (i + 1) < I1 998 0 then (131 ≠ q_LED ∧ ∃ v M1, q_Met l false 131 [vr 1, vi (I1 999 (wr (i + 1)).toNat)] (qk t u I1 J1) v M1 ∧ M1.1 = 283 ∧ ((1 : Nat) = 0 → WW (303, 1240, [vr 999, vr 1, vr 265, vr 283, vi i, vu, vu], []) M1) ∧ ((1 : Nat) ≠ 0 → WW (303, 1240, [vr 999, vr 1, vr 265, vr 283, vi i, vu, vu], [v]) M1)) else False)
  rw [e8, e9, if_pos (hI 1 (by decide) (by decide))]
  exact h
theorem g_1240 {l : Launch} {WW : qF → qM → Prop} {t u : Nat} {I I1 J1 : Nat → Nat → Int} {i : Int} {z : Int} (hSG : q_SG l WW) (he : ∀ a, 998 ≤ a → I1 a = I a) (hI : q_IB I i) (h : (261 ≠ q_LED ∧ ∃ v M1, q_Met l false 261 [vr 265, vi (I 999 (wr (i + 1)).toNat)] (qk t u I1 J1) v M1 ∧ M1.1 = 283 ∧ ((1 : Nat) = 0 → WW (303, 1250, [vr 999, vr 1, vr 265, vr 283, vi i, vu, vu], [vi z]) M1) ∧ ((1 : Nat) ≠ 0 → WW (303, 1250, [vr 999, vr 1, vr 265, vr 283, vi i, vu, vu], [v, vi z]) M1))) : WW (303, 1240, [vr 999, vr 1, vr 265, vr 283, vi i, vu, vu], [vi z]) (qk t u I1 J1) := by
  refine hSG 7 [] _ _ rfl rfl ?_
  have e8 := he 998 (by decide)
  have e9 := he 999 (by decide)
  show (if 0 ≤ wr (i + 1) ∧ wr (i + 1) < I1 998 0 then (261 ≠ q_LED ∧ ∃ v M1, q_Met l false 261 [vr 265, vi (I1 999 (wr (i + 1)).toNat)] (qk t u I1 J1) v M1 ∧ M1.1 = 283 ∧ ((1 : Nat) = 0 → WW (303, 1250, [vr 999, vr 1, vr 265, vr 283, vi i, vu, vu], [vi z]) M1) ∧ ((1 : Nat) ≠ 0 → WW (303, 1250, [vr 999, vr 1, vr 265, vr 283, vi i, vu, vu], [v, vi z]) M1)) else False)
  rw [e8, e9, if_pos (hI 1 (by decide) (by decide))]
  exact h
theorem c_1250 {l : Launch} {WW : qF → qM → Prop} {t u : Nat} {I2 J2 : Nat → Nat → Int} {i z : Int} (hSG : q_SG l WW) (h : WW (303, 2128, [vr 999, vr 1, vr 265, vr 283, vi i, vu, vu], []) (qk t u I2 J2)) : WW (303, 1250, [vr 999, vr 1, vr 265, vr 283, vi i, vu, vu], [vi z, vi z]) (qk t u I2 J2) := by
  refine hSG 1 [] _ _ rfl rfl ?_
  show (if z = z then WW (303, 2128, [vr 999, vr 1, vr 265, vr 283, vi i, vu, vu], []) (qk t u I2 J2) else WW (303, 1253, [vr 999, vr 1, vr 265, vr 283, vi i, vu, vu], []) (qk t u I2 J2))
  rw [if_pos rfl]
  exact h
theorem law_29 {l : Launch} {WW : qF → qM → Prop} {S : St} {t u : Nat} {I J : Nat → Nat → Int} {i : Int} (hJD : q_HJ l) (hOK : q_OK) (hSG : q_SG l WW) (hI : q_IB I i) (hR : q_RB I) (hN : q_NN WW I i) (V : CInv S t u I) (W : MInv S I) : WW (303, 1230, [vr 999, vr 1, vr 265, vr 283, vi i, vu, vu], []) (qk t u I J) := by
  have B := q_bq (J := J) V W (f_eatsOf (I 999 (wr (i + 1)).toNat)) (k_eatsOf V (I 999 (wr (i + 1)).toNat)) (fun I1 W1 => q_bj (m_eatsOf W1 (I 999 (wr (i + 1)).toNat)))
  obtain ⟨t, u, I1, a1, I2, J2, b1, e1, e2, S2, V2, W2⟩ := B
  refine g_1230 hSG (fun _ _ => rfl) hI ⟨by decide, _, _, q_MetE hJD hOK a1 (by decide) (by decide) (by decide), rfl, fun z => absurd z (by decide), fun _ => ?_⟩
  refine g_1240 hSG e1 hI ⟨by decide, _, _, q_MetE hJD hOK b1 (by decide) (by decide) (by decide), rfl, fun z => absurd z (by decide), fun _ => ?_⟩
  exact c_1250 hSG (q_2128 hSG hI e2 V2 W2 hN)
theorem g_1255 {l : Launch} {WW : qF → qM → Prop} {t u : Nat} {I I1 J1 : Nat → Nat → Int} {i : Int} (hSG : q_SG l WW) (he : ∀ a, 998 ≤ a → I1 a = I a) (hI : q_IB I i) (h : (132 ≠ q_LED ∧ ∃ v M1, q_Met l false 132 [vr 1, vi (I 999 (wr (i + 1)).toNat)] (qk t u I1 J1) v M1 ∧ M1.1 = 283 ∧ ((1 : Nat) = 0 → WW (303, 1265, [vr 999, vr 1, vr 265, vr 283, vi i, vu, vu], []) M1) ∧ ((1 : Nat) ≠ 0 → WW (303, 1265, [vr 999, vr 1, vr 265, vr 283, vi i, vu, vu], [v]) M1))) : WW (303, 1255, [vr 999, vr 1, vr 265, vr 283, vi i, vu, vu], []) (qk t u I1 J1) := by
  refine hSG 7 [] _ _ rfl rfl ?_
  have e8 := he 998 (by decide)
  have e9 := he 999 (by decide)
  show (if 0 ≤ wr (i + 1) ∧ wr (i + 1) < I1 998 0 then (132 ≠ q_LED ∧ ∃ v M1, q_Met l false 132 [vr 1, vi (I1 999 (wr (i + 1)).toNat)] (qk t u I1 J1) v M1 ∧ M1.1 = 283 ∧ ((1 : Nat) = 0 → WW (303, 1265, [vr 999, vr 1, vr 265, vr 283, vi i, vu, vu], []) M1) ∧ ((1 : Nat) ≠ 0 → WW (303, 1265, [vr 999, vr 1, vr 265, vr 283, vi i, vu, vu], [v]) M1)) else False)
  rw [e8, e9, if_pos (hI 1 (by decide) (by decide))]
  exact h
theorem g_1265 {l : Launch} {WW : qF → qM → Prop} {t u : Nat} {I I1 J1 : Nat → Nat → Int} {i : Int} {z : Int} (hSG : q_SG l WW) (he : ∀ a, 998 ≤ a → I1 a = I a) (hI : q_IB I i) (h : (262 ≠ q_LED ∧ ∃ v M1, q_Met l false 262 [vr 265, vi (I 999 (wr (i + 1)).toNat)] (qk t u I1 J1) v M1 ∧ M1.1 = 283 ∧ ((1 : Nat) = 0 → WW (303, 1275, [vr 999, vr 1, vr 265, vr 283, vi i, vu, vu], [vi z]) M1) ∧ ((1 : Nat) ≠ 0 → WW (303, 1275, [vr 999, vr 1, vr 265, vr 283, vi i, vu, vu], [v, vi z]) M1))) : WW (303, 1265, [vr 999, vr 1, vr 265, vr 283, vi i, vu, vu], [vi z]) (qk t u I1 J1) := by
  refine hSG 7 [] _ _ rfl rfl ?_
  have e8 := he 998 (by decide)
  have e9 := he 999 (by decide)
  show (if 0 ≤ wr (i + 1) ∧ wr (i + 1) < I1 998 0 then (262 ≠ q_LED ∧ ∃ v M1, q_Met l false 262 [vr 265, vi (I1 999 (wr (i + 1)).toNat)] (qk t u I1 J1) v M1 ∧ M1.1 = 283 ∧ ((1 : Nat) = 0 → WW (303, 1275, [vr 999, vr 1, vr 265, vr 283, vi i, vu, vu], [vi z]) M1) ∧ ((1 : Nat) ≠ 0 → WW (303, 1275, [vr 999, vr 1, vr 265, vr 283, vi i, vu, vu], [v, vi z]) M1)) else False)
  rw [e8, e9, if_pos (hI 1 (by decide) (by decide))]
  exact h
theorem c_1275 {l : Launch} {WW : qF → qM → Prop} {t u : Nat} {I2 J2 : Nat → Nat → Int} {i z : Int} (hSG : q_SG l WW) (h : WW (303, 2128, [vr 999, vr 1, vr 265, vr 283, vi i, vu, vu], []) (qk t u I2 J2)) : WW (303, 1275, [vr 999, vr 1, vr 265, vr 283, vi i, vu, vu], [vi z, vi z]) (qk t u I2 J2) := by
  refine hSG 1 [] _ _ rfl rfl ?_
  show (if z = z then WW (303, 2128, [vr 999, vr 1, vr 265, vr 283, vi i, vu, vu], []) (qk t u I2 J2) else WW (303, 1278, [vr 999, vr 1, vr 265, vr 283, vi i, vu, vu], []) (qk t u I2 J2))
  rw [if_pos rfl]
  exact h
theorem law_30 {l : Launch} {WW : qF → qM → Prop} {S : St} {t u : Nat} {I J : Nat → Nat → Int} {i : Int} (hJD : q_HJ l) (hOK : q_OK) (hSG : q_SG l WW) (hI : q_IB I i) (hR : q_RB I) (hN : q_NN WW I i) (V : CInv S t u I) (W : MInv S I) : WW (303, 1255, [vr 999, vr 1, vr 265, vr 283, vi i, vu, vu], []) (qk t u I J) := by
  have B := q_bq (J := J) V W (f_eatsMany (I 999 (wr (i + 1)).toNat)) (k_eatsMany V (I 999 (wr (i + 1)).toNat)) (fun I1 W1 => q_bj (m_eatsMany W1 (I 999 (wr (i + 1)).toNat)))
  obtain ⟨t, u, I1, a1, I2, J2, b1, e1, e2, S2, V2, W2⟩ := B
  refine g_1255 hSG (fun _ _ => rfl) hI ⟨by decide, _, _, q_MetE hJD hOK a1 (by decide) (by decide) (by decide), rfl, fun z => absurd z (by decide), fun _ => ?_⟩
  refine g_1265 hSG e1 hI ⟨by decide, _, _, q_MetE hJD hOK b1 (by decide) (by decide) (by decide), rfl, fun z => absurd z (by decide), fun _ => ?_⟩
  exact c_1275 hSG (q_2128 hSG hI e2 V2 W2 hN)
theorem g_1280 {l : Launch} {WW : qF → qM → Prop} {t u : Nat} {I I1 J1 : Nat → Nat → Int} {i : Int} (hSG : q_SG l WW) (he : ∀ a, 998 ≤ a → I1 a = I a) (hI : q_IB I i) (h : (133 ≠ q_LED ∧ ∃ v M1, q_Met l false 133 [vr 1, vi (I 999 (wr (i + 1)).toNat)] (qk t u I1 J1) v M1 ∧ M1.1 = 283 ∧ ((1 : Nat) = 0 → WW (303, 1290, [vr 999, vr 1, vr 265, vr 283, vi i, vu, vu], []) M1) ∧ ((1 : Nat) ≠ 0 → WW (303, 1290, [vr 999, vr 1, vr 265, vr 283, vi i, vu, vu], [v]) M1))) : WW (303, 1280, [vr 999, vr 1, vr 265, vr 283, vi i, vu, vu], []) (qk t u I1 J1) := by
  refine hSG 7 [] _ _ rfl rfl ?_
  have e8 := he 998 (by decide)
  have e9 := he 999 (by decide)
  show (if 0 ≤ wr (i + 1) ∧ wr (i + 1) < I1 998 0 then (133 ≠ q_LED ∧ ∃ v M1, q_Met l false 133 [vr 1, vi (I1 999 (wr (i + 1)).toNat)] (qk t u I1 J1) v M1 ∧ M1.1 = 283 ∧ ((1 : Nat) = 0 → WW (303, 1290, [vr 999, vr 1, vr 265, vr 283, vi i, vu, vu], []) M1) ∧ ((1 : Nat) ≠ 0 → WW (303, 1290, [vr 999, vr 1, vr 265, vr 283, vi i, vu, vu], [v]) M1)) else False)
  rw [e8, e9, if_pos (hI 1 (by decide) (by decide))]
  exact h
theorem g_1290 {l : Launch} {WW : qF → qM → Prop} {t u : Nat} {I I1 J1 : Nat → Nat → Int} {i : Int} {z : Int} (hSG : q_SG l WW) (he : ∀ a, 998 ≤ a → I1 a = I a) (hI : q_IB I i) (h : (263 ≠ q_LED ∧ ∃ v M1, q_Met l false 263 [vr 265, vi (I 999 (wr (i + 1)).toNat)] (qk t u I1 J1) v M1 ∧ M1.1 = 283 ∧ ((1 : Nat) = 0 → WW (303, 1300, [vr 999, vr 1, vr 265, vr 283, vi i, vu, vu], [vi z]) M1) ∧ ((1 : Nat) ≠ 0 → WW (303, 1300, [vr 999, vr 1, vr 265, vr 283, vi i, vu, vu], [v, vi z]) M1))) : WW (303, 1290, [vr 999, vr 1, vr 265, vr 283, vi i, vu, vu], [vi z]) (qk t u I1 J1) := by
  refine hSG 7 [] _ _ rfl rfl ?_
  have e8 := he 998 (by decide)
  have e9 := he 999 (by decide)
  show (if 0 ≤ wr (i + 1) ∧ wr (i + 1) < I1 998 0 then (263 ≠ q_LED ∧ ∃ v M1, q_Met l false 263 [vr 265, vi (I1 999 (wr (i + 1)).toNat)] (qk t u I1 J1) v M1 ∧ M1.1 = 283 ∧ ((1 : Nat) = 0 → WW (303, 1300, [vr 999, vr 1, vr 265, vr 283, vi i, vu, vu], [vi z]) M1) ∧ ((1 : Nat) ≠ 0 → WW (303, 1300, [vr 999, vr 1, vr 265, vr 283, vi i, vu, vu], [v, vi z]) M1)) else False)
  rw [e8, e9, if_pos (hI 1 (by decide) (by decide))]
  exact h
theorem c_1300 {l : Launch} {WW : qF → qM → Prop} {t u : Nat} {I2 J2 : Nat → Nat → Int} {i z : Int} (hSG : q_SG l WW) (h : WW (303, 2128, [vr 999, vr 1, vr 265, vr 283, vi i, vu, vu], []) (qk t u I2 J2)) : WW (303, 1300, [vr 999, vr 1, vr 265, vr 283, vi i, vu, vu], [vi z, vi z]) (qk t u I2 J2) := by
  refine hSG 1 [] _ _ rfl rfl ?_
  show (if z = z then WW (303, 2128, [vr 999, vr 1, vr 265, vr 283, vi i, vu, vu], []) (qk t u I2 J2) else WW (303, 1303, [vr 999, vr 1, vr 265, vr 283, vi i, vu, vu], []) (qk t u I2 J2))
  rw [if_pos rfl]
  exact h
theorem law_31 {l : Launch} {WW : qF → qM → Prop} {S : St} {t u : Nat} {I J : Nat → Nat → Int} {i : Int} (hJD : q_HJ l) (hOK : q_OK) (hSG : q_SG l WW) (hI : q_IB I i) (hR : q_RB I) (hN : q_NN WW I i) (V : CInv S t u I) (W : MInv S I) : WW (303, 1280, [vr 999, vr 1, vr 265, vr 283, vi i, vu, vu], []) (qk t u I J) := by
  have B := q_bq (J := J) V W (f_carry (I 999 (wr (i + 1)).toNat)) (k_carry V (I 999 (wr (i + 1)).toNat)) (fun I1 W1 => q_bj (m_carry W1 (I 999 (wr (i + 1)).toNat)))
  obtain ⟨t, u, I1, a1, I2, J2, b1, e1, e2, S2, V2, W2⟩ := B
  refine g_1280 hSG (fun _ _ => rfl) hI ⟨by decide, _, _, q_MetE hJD hOK a1 (by decide) (by decide) (by decide), rfl, fun z => absurd z (by decide), fun _ => ?_⟩
  refine g_1290 hSG e1 hI ⟨by decide, _, _, q_MetE hJD hOK b1 (by decide) (by decide) (by decide), rfl, fun z => absurd z (by decide), fun _ => ?_⟩
  exact c_1300 hSG (q_2128 hSG hI e2 V2 W2 hN)

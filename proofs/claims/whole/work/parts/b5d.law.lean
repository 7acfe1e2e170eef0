/-! the law's cases, 4 -/
theorem g_1732 {l : Launch} {WW : qF → qM → Prop} {t u : Nat} {I I1 J1 : Nat → Nat → Int} {i : Int} (hSG : q_SG l WW) (he : ∀ a, 998 ≤ a → I1 a = I a) (hI : q_IB I i) (h : WW (303, 1759, [vr 999, vr 1, vr 265, vr 283, vi i, vu, vu], [vi (if decide (I 999 (wr (i + 3)).toNat ≠ 0) = true then 1 else 0), vi (I 999 (wr (i + 2)).toNat), vi (I 999 (wr (i + 1)).toNat), vr 1]) (qk t u I1 J1)) : WW (303, 1732, [vr 999, vr 1, vr 265, vr 283, vi i, vu, vu], []) (qk t u I1 J1) := by
  refine hSG 20 [1759] _ _ rfl rfl ?_
  have e8 := he 998 (by decide)
  have e9 := he 999 (by decide)
  show (if 0 ≤ wr (i + 1) ∧ wr (i + 1) < I1 998 0 then (if 0 ≤ wr (i + 2) ∧ wr (i + 2) < I1 998 0 then (if 0 ≤ wr (i + 3) ∧ wr (i + 3) < I1 998 0 then (if I1 999 (wr (i + 3)).toNat = 0 then WW (303, 1759, [vr 999, vr 1, vr 265, vr 283, vi i, vu, vu], [vi 0, vi (I1 999 (wr (i + 2)).toNat), vi (I1 999 (wr (i + 1)).toNat), vr 1]) (qk t u I1 J1) else WW (303, 1759, [vr 999, vr 1, vr 265, vr 283, vi i, vu, vu], [vi 1, vi (I1 999 (wr (i + 2)).toNat), vi (I1 999 (wr (i + 1)).toNat), vr 1]) (qk t u I1 J1)) else False) else False) else False)
  rw [e8, e9, if_pos (hI 1 (by decide) (by decide)), if_pos (hI 2 (by decide) (by decide)), if_pos (hI 3 (by decide) (by decide))]
  exact q_bit (P := fun v => WW (303, 1759, [vr 999, vr 1, vr 265, vr 283, vi i, vu, vu], [v, vi (I 999 (wr (i + 2)).toNat), vi (I 999 (wr (i + 1)).toNat), vr 1]) (qk t u I1 J1)) h
theorem g_1759 {l : Launch} {WW : qF → qM → Prop} {t u : Nat} {I I1 J1 : Nat → Nat → Int} {i : Int} {y0 : Int} (hSG : q_SG l WW) (he : ∀ a, 998 ≤ a → I1 a = I a) (hI : q_IB I i) (h : (148 ≠ q_LED ∧ ∃ v M1, q_Met l false 148 [vr 1, vi (I 999 (wr (i + 1)).toNat), vi (I 999 (wr (i + 2)).toNat), vi y0] (qk t u I1 J1) v M1 ∧ M1.1 = 283 ∧ ((2 : Nat) = 0 → WW (303, 1762, [vr 999, vr 1, vr 265, vr 283, vi i, vu, vu], []) M1) ∧ ((2 : Nat) ≠ 0 → WW (303, 1762, [vr 999, vr 1, vr 265, vr 283, vi i, vu, vu], [v]) M1))) : WW (303, 1759, [vr 999, vr 1, vr 265, vr 283, vi i, vu, vu], [vi y0, vi (I 999 (wr (i + 2)).toNat), vi (I 999 (wr (i + 1)).toNat), vr 1]) (qk t u I1 J1) := by
  refine hSG 1 [] _ _ rfl rfl ?_
  have e8 := he 998 (by decide)
  have e9 := he 999 (by decide)
  show (148 ≠ q_LED ∧ ∃ v M1, q_Met l false 148 [vr 1, vi (I 999 (wr (i + 1)).toNat), vi (I 999 (wr (i + 2)).toNat), vi y0] (qk t u I1 J1) v M1 ∧ M1.1 = 283 ∧ ((2 : Nat) = 0 → WW (303, 1762, [vr 999, vr 1, vr 265, vr 283, vi i, vu, vu], []) M1) ∧ ((2 : Nat) ≠ 0 → WW (303, 1762, [vr 999, vr 1, vr 265, vr 283, vi i, vu, vu], [v]) M1))
  exact h
theorem g_1762 {l : Launch} {WW : qF → qM → Prop} {t u : Nat} {I I1 J1 : Nat → Nat → Int} {i : Int} {z : Int} (hSG : q_SG l WW) (he : ∀ a, 998 ≤ a → I1 a = I a) (hI : q_IB I i) (h : WW (303, 1789, [vr 999, vr 1, vr 265, vr 283, vi i, vu, vu], [vi (if decide (I 999 (wr (i + 3)).toNat ≠ 0) = true then 1 else 0), vi (I 999 (wr (i + 2)).toNat), vi (I 999 (wr (i + 1)).toNat), vr 265, vl z]) (qk t u I1 J1)) : WW (303, 1762, [vr 999, vr 1, vr 265, vr 283, vi i, vu, vu], [vl z]) (qk t u I1 J1) := by
  refine hSG 20 [1789] _ _ rfl rfl ?_
  have e8 := he 998 (by decide)
  have e9 := he 999 (by decide)
  show (if 0 ≤ wr (i + 1) ∧ wr (i + 1) < I1 998 0 then (if 0 ≤ wr (i + 2) ∧ wr (i + 2) < I1 998 0 then (if 0 ≤ wr (i + 3) ∧ wr (i + 3) < I1 998 0 then (if I1 999 (wr (i + 3)).toNat = 0 then WW (303, 1789, [vr 999, vr 1, vr 265, vr 283, vi i, vu, vu], [vi 0, vi (I1 999 (wr (i + 2)).toNat), vi (I1 999 (wr (i + 1)).toNat), vr 265, vl z]) (qk t u I1 J1) else WW (303, 1789, [vr 999, vr 1, vr 265, vr 283, vi i, vu, vu], [vi 1, vi (I1 999 (wr (i + 2)).toNat), vi (I1 999 (wr (i + 1)).toNat), vr 265, vl z]) (qk t u I1 J1)) else False) else False) else False)
  rw [e8, e9, if_pos (hI 1 (by decide) (by decide)), if_pos (hI 2 (by decide) (by decide)), if_pos (hI 3 (by decide) (by decide))]
  exact q_bit (P := fun v => WW (303, 1789, [vr 999, vr 1, vr 265, vr 283, vi i, vu, vu], [v, vi (I 999 (wr (i + 2)).toNat), vi (I 999 (wr (i + 1)).toNat), vr 265, vl z]) (qk t u I1 J1)) h
theorem g_1789 {l : Launch} {WW : qF → qM → Prop} {t u : Nat} {I I1 J1 : Nat → Nat → Int} {i : Int} {y0 z : Int} (hSG : q_SG l WW) (he : ∀ a, 998 ≤ a → I1 a = I a) (hI : q_IB I i) (h : (287 ≠ q_LED ∧ ∃ v M1, q_Met l false 287 [vr 265, vi (I 999 (wr (i + 1)).toNat), vi (I 999 (wr (i + 2)).toNat), vi y0] (qk t u I1 J1) v M1 ∧ M1.1 = 283 ∧ ((2 : Nat) = 0 → WW (303, 1792, [vr 999, vr 1, vr 265, vr 283, vi i, vu, vu], [vl z]) M1) ∧ ((2 : Nat) ≠ 0 → WW (303, 1792, [vr 999, vr 1, vr 265, vr 283, vi i, vu, vu], [v, vl z]) M1))) : WW (303, 1789, [vr 999, vr 1, vr 265, vr 283, vi i, vu, vu], [vi y0, vi (I 999 (wr (i + 2)).toNat), vi (I 999 (wr (i + 1)).toNat), vr 265, vl z]) (qk t u I1 J1) := by
  refine hSG 1 [] _ _ rfl rfl ?_
  have e8 := he 998 (by decide)
  have e9 := he 999 (by decide)
  show (287 ≠ q_LED ∧ ∃ v M1, q_Met l false 287 [vr 265, vi (I 999 (wr (i + 1)).toNat), vi (I 999 (wr (i + 2)).toNat), vi y0] (qk t u I1 J1) v M1 ∧ M1.1 = 283 ∧ ((2 : Nat) = 0 → WW (303, 1792, [vr 999, vr 1, vr 265, vr 283, vi i, vu, vu], [vl z]) M1) ∧ ((2 : Nat) ≠ 0 → WW (303, 1792, [vr 999, vr 1, vr 265, vr 283, vi i, vu, vu], [v, vl z]) M1))
  exact h
theorem c_1792 {l : Launch} {WW : qF → qM → Prop} {t u : Nat} {I2 J2 : Nat → Nat → Int} {i z : Int} (hSG : q_SG l WW) (h : WW (303, 2128, [vr 999, vr 1, vr 265, vr 283, vi i, vu, vu], []) (qk t u I2 J2)) : WW (303, 1792, [vr 999, vr 1, vr 265, vr 283, vi i, vu, vu], [vl z, vl z]) (qk t u I2 J2) := by
  refine hSG 2 [] _ _ rfl rfl ?_
  show (if z < z then (if (-1 : Int) = 0 then WW (303, 2128, [vr 999, vr 1, vr 265, vr 283, vi i, vu, vu], []) (qk t u I2 J2) else WW (303, 1796, [vr 999, vr 1, vr 265, vr 283, vi i, vu, vu], []) (qk t u I2 J2)) else (if z = z then (if (0 : Int) = 0 then WW (303, 2128, [vr 999, vr 1, vr 265, vr 283, vi i, vu, vu], []) (qk t u I2 J2) else WW (303, 1796, [vr 999, vr 1, vr 265, vr 283, vi i, vu, vu], []) (qk t u I2 J2)) else (if (1 : Int) = 0 then WW (303, 2128, [vr 999, vr 1, vr 265, vr 283, vi i, vu, vu], []) (qk t u I2 J2) else WW (303, 1796, [vr 999, vr 1, vr 265, vr 283, vi i, vu, vu], []) (qk t u I2 J2))))
  rw [if_neg (Int.lt_irrefl z), if_pos rfl, if_pos rfl]
  exact h
theorem law_46 {l : Launch} {WW : qF → qM → Prop} {S : St} {t u : Nat} {I J : Nat → Nat → Int} {i : Int} (hJD : q_HJ l) (hOK : q_OK) (hSG : q_SG l WW) (hI : q_IB I i) (hR : q_RB I) (hN : q_NN WW I i) (V : CInv S t u I) (W : MInv S I) : WW (303, 1732, [vr 999, vr 1, vr 265, vr 283, vi i, vu, vu], []) (qk t u I J) := by
  have B := q_bq (J := J) V W (f_mean (I 999 (wr (i + 1)).toNat) (I 999 (wr (i + 2)).toNat) (decide (I 999 (wr (i + 3)).toNat ≠ 0))) (k_mean V (I 999 (wr (i + 1)).toNat) (I 999 (wr (i + 2)).toNat) (decide (I 999 (wr (i + 3)).toNat ≠ 0))) (fun I1 W1 => m_mean W1 (I 999 (wr (i + 1)).toNat) (I 999 (wr (i + 2)).toNat) (decide (I 999 (wr (i + 3)).toNat ≠ 0)))
  obtain ⟨t, u, I1, a1, I2, J2, b1, e1, e2, S2, V2, W2⟩ := B
  refine g_1732 hSG (fun _ _ => rfl) hI ?_
  refine g_1759 hSG (fun _ _ => rfl) hI ⟨by decide, _, _, q_MetE hJD hOK a1 (by decide) (by decide) (by decide), rfl, fun z => absurd z (by decide), fun _ => ?_⟩
  refine g_1762 hSG e1 hI ?_
  refine g_1789 hSG e1 hI ⟨by decide, _, _, q_MetE hJD hOK b1 (by decide) (by decide) (by decide), rfl, fun z => absurd z (by decide), fun _ => ?_⟩
  exact c_1792 hSG (q_2128 hSG hI e2 V2 W2 hN)
theorem g_1798 {l : Launch} {WW : qF → qM → Prop} {t u : Nat} {I I1 J1 : Nat → Nat → Int} {i : Int} (hSG : q_SG l WW) (he : ∀ a, 998 ≤ a → I1 a = I a) (hI : q_IB I i) (h : (149 ≠ q_LED ∧ ∃ v M1, q_Met l false 149 [vr 1, vi (I 999 (wr (i + 1)).toNat), vi (I 999 (wr (i + 2)).toNat), vi (I 999 (wr (i + 3)).toNat)] (qk t u I1 J1) v M1 ∧ M1.1 = 283 ∧ ((1 : Nat) = 0 → WW (303, 1820, [vr 999, vr 1, vr 265, vr 283, vi i, vu, vu], []) M1) ∧ ((1 : Nat) ≠ 0 → WW (303, 1820, [vr 999, vr 1, vr 265, vr 283, vi i, vu, vu], [v]) M1))) : WW (303, 1798, [vr 999, vr 1, vr 265, vr 283, vi i, vu, vu], []) (qk t u I1 J1) := by
  refine hSG 17 [] _ _ rfl rfl ?_
  have e8 := he 998 (by decide)
  have e9 := he 999 (by decide)
  show (if 0 ≤ wr (i + 1) ∧ wr (i + 1) < I1 998 0 then (if 0 ≤ wr (i + 2) ∧ wr (i + 2) < I1 998 0 then (if 0 ≤ wr (i + 3) ∧ wr (i + 3) < I1 998 0 then (149 ≠ q_LED ∧ ∃ v M1, q_Met l false 149 [vr 1, vi (I1 999 (wr (i + 1)).toNat), vi (I1 999 (wr (i + 2)).toNat), vi (I1 999 (wr (i + 3)).toNat)] (qk t u I1 J1) v M1 ∧ M1.1 = 283 ∧ ((1 : Nat) = 0 → WW (303, 1820, [vr 999, vr 1, vr 265, vr 283, vi i, vu, vu], []) M1) ∧ ((1 : Nat) ≠ 0 → WW (303, 1820, [vr 999, vr 1, vr 265, vr 283, vi i, vu, vu], [v]) M1)) else False) else False) else False)
  rw [e8, e9, if_pos (hI 1 (by decide) (by decide)), if_pos (hI 2 (by decide) (by decide)), if_pos (hI 3 (by decide) (by decide))]
  exact h
theorem g_1820 {l : Launch} {WW : qF → qM → Prop} {t u : Nat} {I I1 J1 : Nat → Nat → Int} {i : Int} {z : Int} (hSG : q_SG l WW) (he : ∀ a, 998 ≤ a → I1 a = I a) (hI : q_IB I i) (h : (288 ≠ q_LED ∧ ∃ v M1, q_Met l false 288 [vr 265, vi (I 999 (wr (i + 1)).toNat), vi (I 999 (wr (i + 2)).toNat), vi (I 999 (wr (i + 3)).toNat)] (qk t u I1 J1) v M1 ∧ M1.1 = 283 ∧ ((1 : Nat) = 0 → WW (303, 1842, [vr 999, vr 1, vr 265, vr 283, vi i, vu, vu], [vi z]) M1) ∧ ((1 : Nat) ≠ 0 → WW (303, 1842, [vr 999, vr 1, vr 265, vr 283, vi i, vu, vu], [v, vi z]) M1))) : WW (303, 1820, [vr 999, vr 1, vr 265, vr 283, vi i, vu, vu], [vi z]) (qk t u I1 J1) := by
  refine hSG 17 [] _ _ rfl rfl ?_
  have e8 := he 998 (by decide)
  have e9 := he 999 (by decide)
  show (if 0 ≤ wr (i + 1) ∧ wr (i + 1) < I1 998 0 then (if 0 ≤ wr (i + 2) ∧ wr (i + 2) < I1 998 0 then (if 0 ≤ wr (i + 3) ∧ wr (i + 3) < I1 998 0 then (288 ≠ q_LED ∧ ∃ v M1, q_Met l false 288 [vr 265, vi (I1 999 (wr (i + 1)).toNat), vi (I1 999 (wr (i + 2)).toNat), vi (I1 999 (wr (i + 3)).toNat)] (qk t u I1 J1) v M1 ∧ M1.1 = 283 ∧ ((1 : Nat) = 0 → WW (303, 1842, [vr 999, vr 1, vr 265, vr 283, vi i, vu, vu], [vi z]) M1) ∧ ((1 : Nat) ≠ 0 → WW (303, 1842, [vr 999, vr 1, vr 265, vr 283, vi i, vu, vu], [v, vi z]) M1)) else False) else False) else False)
  rw [e8, e9, if_pos (hI 1 (by decide) (by decide)), if_pos (hI 2 (by decide) (by decide)), if_pos (hI 3 (by decide) (by decide))]
  exact h
theorem c_1842 {l : Launch} {WW : qF → qM → Prop} {t u : Nat} {I2 J2 : Nat → Nat → Int} {i z : Int} (hSG : q_SG l WW) (h : WW (303, 2128, [vr 999, vr 1, vr 265, vr 283, vi i, vu, vu], []) (qk t u I2 J2)) : WW (303, 1842, [vr 999, vr 1, vr 265, vr 283, vi i, vu, vu], [vi z, vi z]) (qk t u I2 J2) := by
  refine hSG 1 [] _ _ rfl rfl ?_
  show (if z = z then WW (303, 2128, [vr 999, vr 1, vr 265, vr 283, vi i, vu, vu], []) (qk t u I2 J2) else WW (303, 1845, [vr 999, vr 1, vr 265, vr 283, vi i, vu, vu], []) (qk t u I2 J2))
  rw [if_pos rfl]
  exact h
theorem law_47 {l : Launch} {WW : qF → qM → Prop} {S : St} {t u : Nat} {I J : Nat → Nat → Int} {i : Int} (hJD : q_HJ l) (hOK : q_OK) (hSG : q_SG l WW) (hI : q_IB I i) (hR : q_RB I) (hN : q_NN WW I i) (V : CInv S t u I) (W : MInv S I) : WW (303, 1798, [vr 999, vr 1, vr 265, vr 283, vi i, vu, vu], []) (qk t u I J) := by
  have B := q_bq (J := J) V W (f_drawn (I 999 (wr (i + 1)).toNat) (I 999 (wr (i + 2)).toNat) (I 999 (wr (i + 3)).toNat)) (k_drawn V (I 999 (wr (i + 1)).toNat) (I 999 (wr (i + 2)).toNat) (I 999 (wr (i + 3)).toNat)) (fun I1 W1 => q_bj (m_drawn W1 (I 999 (wr (i + 1)).toNat) (I 999 (wr (i + 2)).toNat) (I 999 (wr (i + 3)).toNat)))
  obtain ⟨t, u, I1, a1, I2, J2, b1, e1, e2, S2, V2, W2⟩ := B
  refine g_1798 hSG (fun _ _ => rfl) hI ⟨by decide, _, _, q_MetE hJD hOK a1 (by decide) (by decide) (by decide), rfl, fun z => absurd z (by decide), fun _ => ?_⟩
  refine g_1820 hSG e1 hI ⟨by decide, _, _, q_MetE hJD hOK b1 (by decide) (by decide) (by decide), rfl, fun z => absurd z (by decide), fun _ => ?_⟩
  exact c_1842 hSG (q_2128 hSG hI e2 V2 W2 hN)
theorem g_1847 {l : Launch} {WW : qF → qM → Prop} {t u : Nat} {I I1 J1 : Nat → Nat → Int} {i : Int} (hSG : q_SG l WW) (he : ∀ a, 998 ≤ a → I1 a = I a) (hI : q_IB I i) (h : (150 ≠ q_LED ∧ ∃ v M1, q_Met l false 150 [vr 1] (qk t u I1 J1) v M1 ∧ M1.1 = 283 ∧ ((1 : Nat) = 0 → WW (303, 1851, [vr 999, vr 1, vr 265, vr 283, vi i, vu, vu], []) M1) ∧ ((1 : Nat) ≠ 0 → WW (303, 1851, [vr 999, vr 1, vr 265, vr 283, vi i, vu, vu], [v]) M1))) : WW (303, 1847, [vr 999, vr 1, vr 265, vr 283, vi i, vu, vu], []) (qk t u I1 J1) := by
  refine hSG 2 [] _ _ rfl rfl ?_
  have e8 := he 998 (by decide)
  have e9 := he 999 (by decide)
  show (150 ≠ q_LED ∧ ∃ v M1, q_Met l false 150 [vr 1] (qk t u I1 J1) v M1 ∧ M1.1 = 283 ∧ ((1 : Nat) = 0 → WW (303, 1851, [vr 999, vr 1, vr 265, vr 283, vi i, vu, vu], []) M1) ∧ ((1 : Nat) ≠ 0 → WW (303, 1851, [vr 999, vr 1, vr 265, vr 283, vi i, vu, vu], [v]) M1))
  exact h
theorem g_1851 {l : Launch} {WW : qF → qM → Prop} {t u : Nat} {I I1 J1 : Nat → Nat → Int} {i : Int} {z : Int} (hSG : q_SG l WW) (he : ∀ a, 998 ≤ a → I1 a = I a) (hI : q_IB I i) (h : (290 ≠ q_LED ∧ ∃ v M1, q_Met l false 290 [vr 265] (qk t u I1 J1) v M1 ∧ M1.1 = 283 ∧ ((1 : Nat) = 0 → WW (303, 1855, [vr 999, vr 1, vr 265, vr 283, vi i, vu, vu], [vi z]) M1) ∧ ((1 : Nat) ≠ 0 → WW (303, 1855, [vr 999, vr 1, vr 265, vr 283, vi i, vu, vu], [v, vi z]) M1))) : WW (303, 1851, [vr 999, vr 1, vr 265, vr 283, vi i, vu, vu], [vi z]) (qk t u I1 J1) := by
  refine hSG 2 [] _ _ rfl rfl ?_
  have e8 := he 998 (by decide)
  have e9 := he 999 (by decide)
  show (290 ≠ q_LED ∧ ∃ v M1, q_Met l false 290 [vr 265] (qk t u I1 J1) v M1 ∧ M1.1 = 283 ∧ ((1 : Nat) = 0 → WW (303, 1855, [vr 999, vr 1, vr 265, vr 283, vi i, vu, vu], [vi z]) M1) ∧ ((1 : Nat) ≠ 0 → WW (303, 1855, [vr 999, vr 1, vr 265, vr 283, vi i, vu, vu], [v, vi z]) M1))
  exact h
theorem c_1855 {l : Launch} {WW : qF → qM → Prop} {t u : Nat} {I2 J2 : Nat → Nat → Int} {i z : Int} (hSG : q_SG l WW) (h : WW (303, 2128, [vr 999, vr 1, vr 265, vr 283, vi i, vu, vu], []) (qk t u I2 J2)) : WW (303, 1855, [vr 999, vr 1, vr 265, vr 283, vi i, vu, vu], [vi z, vi z]) (qk t u I2 J2) := by
  refine hSG 1 [] _ _ rfl rfl ?_
  show (if z = z then WW (303, 2128, [vr 999, vr 1, vr 265, vr 283, vi i, vu, vu], []) (qk t u I2 J2) else WW (303, 1858, [vr 999, vr 1, vr 265, vr 283, vi i, vu, vu], []) (qk t u I2 J2))
  rw [if_pos rfl]
  exact h
theorem law_48 {l : Launch} {WW : qF → qM → Prop} {S : St} {t u : Nat} {I J : Nat → Nat → Int} {i : Int} (hJD : q_HJ l) (hOK : q_OK) (hSG : q_SG l WW) (hI : q_IB I i) (hR : q_RB I) (hN : q_NN WW I i) (V : CInv S t u I) (W : MInv S I) : WW (303, 1847, [vr 999, vr 1, vr 265, vr 283, vi i, vu, vu], []) (qk t u I J) := by
  have B := q_ba (J := J) W (q_bs (k_night V)) (fun t u I1 W1 => m_night W1)
  obtain ⟨t, u, I1, a1, I2, J2, b1, e1, e2, S2, V2, W2⟩ := B
  refine g_1847 hSG (fun _ _ => rfl) hI ⟨by decide, _, _, q_MetE hJD hOK a1 (by decide) (by decide) (by decide), rfl, fun z => absurd z (by decide), fun _ => ?_⟩
  refine g_1851 hSG e1 hI ⟨by decide, _, _, q_MetE hJD hOK b1 (by decide) (by decide) (by decide), rfl, fun z => absurd z (by decide), fun _ => ?_⟩
  exact c_1855 hSG (q_2128 hSG hI e2 V2 W2 hN)
theorem g_1860 {l : Launch} {WW : qF → qM → Prop} {t u : Nat} {I I1 J1 : Nat → Nat → Int} {i : Int} (hSG : q_SG l WW) (he : ∀ a, 998 ≤ a → I1 a = I a) (hI : q_IB I i) (h : (151 ≠ q_LED ∧ ∃ v M1, q_Met l false 151 [vr 1, vi (I 999 (wr (i + 1)).toNat), vi (I 999 (wr (i + 2)).toNat)] (qk t u I1 J1) v M1 ∧ M1.1 = 283 ∧ ((1 : Nat) = 0 → WW (303, 1876, [vr 999, vr 1, vr 265, vr 283, vi i, vu, vu], []) M1) ∧ ((1 : Nat) ≠ 0 → WW (303, 1876, [vr 999, vr 1, vr 265, vr 283, vi i, vu, vu], [v]) M1))) : WW (303, 1860, [vr 999, vr 1, vr 265, vr 283, vi i, vu, vu], []) (qk t u I1 J1) := by
  refine hSG 12 [] _ _ rfl rfl ?_
  have e8 := he 998 (by decide)
  have e9 := he 999 (by decide)
  show (if 0 ≤ wr (i + 1) ∧ wr (i + 1) < I1 998 0 then (if 0 ≤ wr (i + 2) ∧ wr (i + 2) < I1 998 0 then (151 ≠ q_LED ∧ ∃ v M1, q_Met l false 151 [vr 1, vi (I1 999 (wr (i + 1)).toNat), vi (I1 999 (wr (i + 2)).toNat)] (qk t u I1 J1) v M1 ∧ M1.1 = 283 ∧ ((1 : Nat) = 0 → WW (303, 1876, [vr 999, vr 1, vr 265, vr 283, vi i, vu, vu], []) M1) ∧ ((1 : Nat) ≠ 0 → WW (303, 1876, [vr 999, vr 1, vr 265, vr 283, vi i, vu, vu], [v]) M1)) else False) else False)
  rw [e8, e9, if_pos (hI 1 (by decide) (by decide)), if_pos (hI 2 (by decide) (by decide))]
  exact h
theorem g_1876 {l : Launch} {WW : qF → qM → Prop} {t u : Nat} {I I1 J1 : Nat → Nat → Int} {i : Int} {z : Int} (hSG : q_SG l WW) (he : ∀ a, 998 ≤ a → I1 a = I a) (hI : q_IB I i) (h : (291 ≠ q_LED ∧ ∃ v M1, q_Met l false 291 [vr 265, vi (I 999 (wr (i + 1)).toNat), vi (I 999 (wr (i + 2)).toNat)] (qk t u I1 J1) v M1 ∧ M1.1 = 283 ∧ ((1 : Nat) = 0 → WW (303, 1892, [vr 999, vr 1, vr 265, vr 283, vi i, vu, vu], [vi z]) M1) ∧ ((1 : Nat) ≠ 0 → WW (303, 1892, [vr 999, vr 1, vr 265, vr 283, vi i, vu, vu], [v, vi z]) M1))) : WW (303, 1876, [vr 999, vr 1, vr 265, vr 283, vi i, vu, vu], [vi z]) (qk t u I1 J1) := by
  refine hSG 12 [] _ _ rfl rfl ?_
  have e8 := he 998 (by decide)
  have e9 := he 999 (by decide)
  show (if 0 ≤ wr (i + 1) ∧ wr (i + 1) < I1 998 0 then (if 0 ≤ wr (i + 2) ∧ wr (i + 2) < I1 998 0 then (291 ≠ q_LED ∧ ∃ v M1, q_Met l false 291 [vr 265, vi (I1 999 (wr (i + 1)).toNat), vi (I1 999 (wr (i + 2)).toNat)] (qk t u I1 J1) v M1 ∧ M1.1 = 283 ∧ ((1 : Nat) = 0 → WW (303, 1892, [vr 999, vr 1, vr 265, vr 283, vi i, vu, vu], [vi z]) M1) ∧ ((1 : Nat) ≠ 0 → WW (303, 1892, [vr 999, vr 1, vr 265, vr 283, vi i, vu, vu], [v, vi z]) M1)) else False) else False)
  rw [e8, e9, if_pos (hI 1 (by decide) (by decide)), if_pos (hI 2 (by decide) (by decide))]
  exact h
theorem c_1892 {l : Launch} {WW : qF → qM → Prop} {t u : Nat} {I2 J2 : Nat → Nat → Int} {i z : Int} (hSG : q_SG l WW) (h : WW (303, 2128, [vr 999, vr 1, vr 265, vr 283, vi i, vu, vu], []) (qk t u I2 J2)) : WW (303, 1892, [vr 999, vr 1, vr 265, vr 283, vi i, vu, vu], [vi z, vi z]) (qk t u I2 J2) := by
  refine hSG 1 [] _ _ rfl rfl ?_
  show (if z = z then WW (303, 2128, [vr 999, vr 1, vr 265, vr 283, vi i, vu, vu], []) (qk t u I2 J2) else WW (303, 1895, [vr 999, vr 1, vr 265, vr 283, vi i, vu, vu], []) (qk t u I2 J2))
  rw [if_pos rfl]
  exact h
theorem law_49 {l : Launch} {WW : qF → qM → Prop} {S : St} {t u : Nat} {I J : Nat → Nat → Int} {i : Int} (hJD : q_HJ l) (hOK : q_OK) (hSG : q_SG l WW) (hI : q_IB I i) (hR : q_RB I) (hN : q_NN WW I i) (V : CInv S t u I) (W : MInv S I) : WW (303, 1860, [vr 999, vr 1, vr 265, vr 283, vi i, vu, vu], []) (qk t u I J) := by
  have B := q_ba (J := J) W (q_bs (k_add V (I 999 (wr (i + 1)).toNat) (I 999 (wr (i + 2)).toNat) (hR _).1 (hR _).2)) (fun t u I1 W1 => m_add W1 (I 999 (wr (i + 1)).toNat) (I 999 (wr (i + 2)).toNat) (hR _).1 (hR _).2)
  obtain ⟨t, u, I1, a1, I2, J2, b1, e1, e2, S2, V2, W2⟩ := B
  refine g_1860 hSG (fun _ _ => rfl) hI ⟨by decide, _, _, q_MetE hJD hOK a1 (by decide) (by decide) (by decide), rfl, fun z => absurd z (by decide), fun _ => ?_⟩
  refine g_1876 hSG e1 hI ⟨by decide, _, _, q_MetE hJD hOK b1 (by decide) (by decide) (by decide), rfl, fun z => absurd z (by decide), fun _ => ?_⟩
  exact c_1892 hSG (q_2128 hSG hI e2 V2 W2 hN)
theorem g_1897 {l : Launch} {WW : qF → qM → Prop} {t u : Nat} {I I1 J1 : Nat → Nat → Int} {i : Int} (hSG : q_SG l WW) (he : ∀ a, 998 ≤ a → I1 a = I a) (hI : q_IB I i) (h : (152 ≠ q_LED ∧ ∃ v M1, q_Met l false 152 [vr 1, vi (I 999 (wr (i + 1)).toNat), vi (I 999 (wr (i + 2)).toNat)] (qk t u I1 J1) v M1 ∧ M1.1 = 283 ∧ ((1 : Nat) = 0 → WW (303, 1913, [vr 999, vr 1, vr 265, vr 283, vi i, vu, vu], []) M1) ∧ ((1 : Nat) ≠ 0 → WW (303, 1913, [vr 999, vr 1, vr 265, vr 283, vi i, vu, vu], [v]) M1))) : WW (303, 1897, [vr 999, vr 1, vr 265, vr 283, vi i, vu, vu], []) (qk t u I1 J1) := by
  refine hSG 12 [] _ _ rfl rfl ?_
  have e8 := he 998 (by decide)
  have e9 := he 999 (by decide)
  show (if 0 ≤ wr (i + 1) ∧ wr (i + 1) < I1 998 0 then (if 0 ≤ wr (i + 2) ∧ wr (i + 2) < I1 998 0 then (152 ≠ q_LED ∧ ∃ v M1, q_Met l false 152 [vr 1, vi (I1 999 (wr (i + 1)).toNat), vi (I1 999 (wr (i + 2)).toNat)] (qk t u I1 J1) v M1 ∧ M1.1 = 283 ∧ ((1 : Nat) = 0 → WW (303, 1913, [vr 999, vr 1, vr 265, vr 283, vi i, vu, vu], []) M1) ∧ ((1 : Nat) ≠ 0 → WW (303, 1913, [vr 999, vr 1, vr 265, vr 283, vi i, vu, vu], [v]) M1)) else False) else False)
  rw [e8, e9, if_pos (hI 1 (by decide) (by decide)), if_pos (hI 2 (by decide) (by decide))]
  exact h
theorem g_1913 {l : Launch} {WW : qF → qM → Prop} {t u : Nat} {I I1 J1 : Nat → Nat → Int} {i : Int} {z : Int} (hSG : q_SG l WW) (he : ∀ a, 998 ≤ a → I1 a = I a) (hI : q_IB I i) (h : (293 ≠ q_LED ∧ ∃ v M1, q_Met l false 293 [vr 265, vi (I 999 (wr (i + 1)).toNat), vi (I 999 (wr (i + 2)).toNat)] (qk t u I1 J1) v M1 ∧ M1.1 = 283 ∧ ((1 : Nat) = 0 → WW (303, 1929, [vr 999, vr 1, vr 265, vr 283, vi i, vu, vu], [vi z]) M1) ∧ ((1 : Nat) ≠ 0 → WW (303, 1929, [vr 999, vr 1, vr 265, vr 283, vi i, vu, vu], [v, vi z]) M1))) : WW (303, 1913, [vr 999, vr 1, vr 265, vr 283, vi i, vu, vu], [vi z]) (qk t u I1 J1) := by
  refine hSG 12 [] _ _ rfl rfl ?_
  have e8 := he 998 (by decide)
  have e9 := he 999 (by decide)
  show (if 0 ≤ wr (i + 1) ∧ wr (i + 1) < I1 998 0 then (if 0 ≤ wr (i + 2) ∧ wr (i + 2) < I1 998 0 then (293 ≠ q_LED ∧ ∃ v M1, q_Met l false 293 [vr 265, vi (I1 999 (wr (i + 1)).toNat), vi (I1 999 (wr (i + 2)).toNat)] (qk t u I1 J1) v M1 ∧ M1.1 = 283 ∧ ((1 : Nat) = 0 → WW (303, 1929, [vr 999, vr 1, vr 265, vr 283, vi i, vu, vu], [vi z]) M1) ∧ ((1 : Nat) ≠ 0 → WW (303, 1929, [vr 999, vr 1, vr 265, vr 283, vi i, vu, vu], [v, vi z]) M1)) else False) else False)
  rw [e8, e9, if_pos (hI 1 (by decide) (by decide)), if_pos (hI 2 (by decide) (by decide))]
  exact h
theorem c_1929 {l : Launch} {WW : qF → qM → Prop} {t u : Nat} {I2 J2 : Nat → Nat → Int} {i z : Int} (hSG : q_SG l WW) (h : WW (303, 2128, [vr 999, vr 1, vr 265, vr 283, vi i, vu, vu], []) (qk t u I2 J2)) : WW (303, 1929, [vr 999, vr 1, vr 265, vr 283, vi i, vu, vu], [vi z, vi z]) (qk t u I2 J2) := by
  refine hSG 1 [] _ _ rfl rfl ?_
  show (if z = z then WW (303, 2128, [vr 999, vr 1, vr 265, vr 283, vi i, vu, vu], []) (qk t u I2 J2) else WW (303, 1932, [vr 999, vr 1, vr 265, vr 283, vi i, vu, vu], []) (qk t u I2 J2))
  rw [if_pos rfl]
  exact h
theorem law_50 {l : Launch} {WW : qF → qM → Prop} {S : St} {t u : Nat} {I J : Nat → Nat → Int} {i : Int} (hJD : q_HJ l) (hOK : q_OK) (hSG : q_SG l WW) (hI : q_IB I i) (hR : q_RB I) (hN : q_NN WW I i) (V : CInv S t u I) (W : MInv S I) : WW (303, 1897, [vr 999, vr 1, vr 265, vr 283, vi i, vu, vu], []) (qk t u I J) := by
  have B := q_ba (J := J) W (q_bs (k_take V (I 999 (wr (i + 1)).toNat) (I 999 (wr (i + 2)).toNat))) (fun t u I1 W1 => m_take W1 (I 999 (wr (i + 1)).toNat) (I 999 (wr (i + 2)).toNat))
  obtain ⟨t, u, I1, a1, I2, J2, b1, e1, e2, S2, V2, W2⟩ := B
  refine g_1897 hSG (fun _ _ => rfl) hI ⟨by decide, _, _, q_MetE hJD hOK a1 (by decide) (by decide) (by decide), rfl, fun z => absurd z (by decide), fun _ => ?_⟩
  refine g_1913 hSG e1 hI ⟨by decide, _, _, q_MetE hJD hOK b1 (by decide) (by decide) (by decide), rfl, fun z => absurd z (by decide), fun _ => ?_⟩
  exact c_1929 hSG (q_2128 hSG hI e2 V2 W2 hN)
theorem g_1934 {l : Launch} {WW : qF → qM → Prop} {t u : Nat} {I I1 J1 : Nat → Nat → Int} {i : Int} (hSG : q_SG l WW) (he : ∀ a, 998 ≤ a → I1 a = I a) (hI : q_IB I i) (h : (153 ≠ q_LED ∧ ∃ v M1, q_Met l false 153 [vr 1, vi (I 999 (wr (i + 1)).toNat), vi (I 999 (wr (i + 2)).toNat), vi (I 999 (wr (i + 3)).toNat)] (qk t u I1 J1) v M1 ∧ M1.1 = 283 ∧ ((1 : Nat) = 0 → WW (303, 1956, [vr 999, vr 1, vr 265, vr 283, vi i, vu, vu], []) M1) ∧ ((1 : Nat) ≠ 0 → WW (303, 1956, [vr 999, vr 1, vr 265, vr 283, vi i, vu, vu], [v]) M1))) : WW (303, 1934, [vr 999, vr 1, vr 265, vr 283, vi i, vu, vu], []) (qk t u I1 J1) := by
  refine hSG 17 [] _ _ rfl rfl ?_
  have e8 := he 998 (by decide)
  have e9 := he 999 (by decide)
  show (if 0 ≤ wr (i + 1) ∧ wr (i + 1) < I1 998 0 then (if 0 ≤ wr (i + 2) ∧ wr (i + 2) < I1 998 0 then (if 0 ≤ wr (i + 3) ∧ wr (i + 3) < I1 998 0 then (153 ≠ q_LED ∧ ∃ v M1, q_Met l false 153 [vr 1, vi (I1 999 (wr (i + 1)).toNat), vi (I1 999 (wr (i + 2)).toNat), vi (I1 999 (wr (i + 3)).toNat)] (qk t u I1 J1) v M1 ∧ M1.1 = 283 ∧ ((1 : Nat) = 0 → WW (303, 1956, [vr 999, vr 1, vr 265, vr 283, vi i, vu, vu], []) M1) ∧ ((1 : Nat) ≠ 0 → WW (303, 1956, [vr 999, vr 1, vr 265, vr 283, vi i, vu, vu], [v]) M1)) else False) else False) else False)
  rw [e8, e9, if_pos (hI 1 (by decide) (by decide)), if_pos (hI 2 (by decide) (by decide)), if_pos (hI 3 (by decide) (by decide))]
  exact h
theorem g_1956 {l : Launch} {WW : qF → qM → Prop} {t u : Nat} {I I1 J1 : Nat → Nat → Int} {i : Int} {z : Int} (hSG : q_SG l WW) (he : ∀ a, 998 ≤ a → I1 a = I a) (hI : q_IB I i) (h : (294 ≠ q_LED ∧ ∃ v M1, q_Met l false 294 [vr 265, vi (I 999 (wr (i + 1)).toNat), vi (I 999 (wr (i + 2)).toNat), vi (I 999 (wr (i + 3)).toNat)] (qk t u I1 J1) v M1 ∧ M1.1 = 283 ∧ ((1 : Nat) = 0 → WW (303, 1978, [vr 999, vr 1, vr 265, vr 283, vi i, vu, vu], [vi z]) M1) ∧ ((1 : Nat) ≠ 0 → WW (303, 1978, [vr 999, vr 1, vr 265, vr 283, vi i, vu, vu], [v, vi z]) M1))) : WW (303, 1956, [vr 999, vr 1, vr 265, vr 283, vi i, vu, vu], [vi z]) (qk t u I1 J1) := by
  refine hSG 17 [] _ _ rfl rfl ?_
  have e8 := he 998 (by decide)
  have e9 := he 999 (by decide)
  show (if 0 ≤ wr (i + 1) ∧ wr (i + 1) < I1 998 0 then (if 0 ≤ wr (i + 2) ∧ wr (i + 2) < I1 998 0 then (if 0 ≤ wr (i + 3) ∧ wr (i + 3) < I1 998 0 then (294 ≠ q_LED ∧ ∃ v M1, q_Met l false 294 [vr 265, vi (I1 999 (wr (i + 1)).toNat), vi (I1 999 (wr (i + 2)).toNat), vi (I1 999 (wr (i + 3)).toNat)] (qk t u I1 J1) v M1 ∧ M1.1 = 283 ∧ ((1 : Nat) = 0 → WW (303, 1978, [vr 999, vr 1, vr 265, vr 283, vi i, vu, vu], [vi z]) M1) ∧ ((1 : Nat) ≠ 0 → WW (303, 1978, [vr 999, vr 1, vr 265, vr 283, vi i, vu, vu], [v, vi z]) M1)) else False) else False) else False)
  rw [e8, e9, if_pos (hI 1 (by decide) (by decide)), if_pos (hI 2 (by decide) (by decide)), if_pos (hI 3 (by decide) (by decide))]
  exact h
theorem c_1978 {l : Launch} {WW : qF → qM → Prop} {t u : Nat} {I2 J2 : Nat → Nat → Int} {i z : Int} (hSG : q_SG l WW) (h : WW (303, 2128, [vr 999, vr 1, vr 265, vr 283, vi i, vu, vu], []) (qk t u I2 J2)) : WW (303, 1978, [vr 999, vr 1, vr 265, vr 283, vi i, vu, vu], [vi z, vi z]) (qk t u I2 J2) := by
  refine hSG 1 [] _ _ rfl rfl ?_
  show (if z = z then WW (303, 2128, [vr 999, vr 1, vr 265, vr 283, vi i, vu, vu], []) (qk t u I2 J2) else WW (303, 1981, [vr 999, vr 1, vr 265, vr 283, vi i, vu, vu], []) (qk t u I2 J2))
  rw [if_pos rfl]
  exact h
theorem law_51 {l : Launch} {WW : qF → qM → Prop} {S : St} {t u : Nat} {I J : Nat → Nat → Int} {i : Int} (hJD : q_HJ l) (hOK : q_OK) (hSG : q_SG l WW) (hI : q_IB I i) (hR : q_RB I) (hN : q_NN WW I i) (V : CInv S t u I) (W : MInv S I) : WW (303, 1934, [vr 999, vr 1, vr 265, vr 283, vi i, vu, vu], []) (qk t u I J) := by
  have B := q_ba (J := J) W (q_bs (k_join V (I 999 (wr (i + 1)).toNat) (I 999 (wr (i + 2)).toNat) (I 999 (wr (i + 3)).toNat))) (fun t u I1 W1 => m_join W1 (I 999 (wr (i + 1)).toNat) (I 999 (wr (i + 2)).toNat) (I 999 (wr (i + 3)).toNat))
  obtain ⟨t, u, I1, a1, I2, J2, b1, e1, e2, S2, V2, W2⟩ := B
  refine g_1934 hSG (fun _ _ => rfl) hI ⟨by decide, _, _, q_MetE hJD hOK a1 (by decide) (by decide) (by decide), rfl, fun z => absurd z (by decide), fun _ => ?_⟩
  refine g_1956 hSG e1 hI ⟨by decide, _, _, q_MetE hJD hOK b1 (by decide) (by decide) (by decide), rfl, fun z => absurd z (by decide), fun _ => ?_⟩
  exact c_1978 hSG (q_2128 hSG hI e2 V2 W2 hN)
theorem g_1983 {l : Launch} {WW : qF → qM → Prop} {t u : Nat} {I I1 J1 : Nat → Nat → Int} {i : Int} (hSG : q_SG l WW) (he : ∀ a, 998 ≤ a → I1 a = I a) (hI : q_IB I i) (h : (154 ≠ q_LED ∧ ∃ v M1, q_Met l false 154 [vr 1] (qk t u I1 J1) v M1 ∧ M1.1 = 283 ∧ ((1 : Nat) = 0 → WW (303, 1987, [vr 999, vr 1, vr 265, vr 283, vi i, vu, vu], []) M1) ∧ ((1 : Nat) ≠ 0 → WW (303, 1987, [vr 999, vr 1, vr 265, vr 283, vi i, vu, vu], [v]) M1))) : WW (303, 1983, [vr 999, vr 1, vr 265, vr 283, vi i, vu, vu], []) (qk t u I1 J1) := by
  refine hSG 2 [] _ _ rfl rfl ?_
  have e8 := he 998 (by decide)
  have e9 := he 999 (by decide)
  show (154 ≠ q_LED ∧ ∃ v M1, q_Met l false 154 [vr 1] (qk t u I1 J1) v M1 ∧ M1.1 = 283 ∧ ((1 : Nat) = 0 → WW (303, 1987, [vr 999, vr 1, vr 265, vr 283, vi i, vu, vu], []) M1) ∧ ((1 : Nat) ≠ 0 → WW (303, 1987, [vr 999, vr 1, vr 265, vr 283, vi i, vu, vu], [v]) M1))
  exact h
theorem g_1987 {l : Launch} {WW : qF → qM → Prop} {t u : Nat} {I I1 J1 : Nat → Nat → Int} {i : Int} {z : Int} (hSG : q_SG l WW) (he : ∀ a, 998 ≤ a → I1 a = I a) (hI : q_IB I i) (h : (295 ≠ q_LED ∧ ∃ v M1, q_Met l false 295 [vr 265] (qk t u I1 J1) v M1 ∧ M1.1 = 283 ∧ ((1 : Nat) = 0 → WW (303, 1991, [vr 999, vr 1, vr 265, vr 283, vi i, vu, vu], [vi z]) M1) ∧ ((1 : Nat) ≠ 0 → WW (303, 1991, [vr 999, vr 1, vr 265, vr 283, vi i, vu, vu], [v, vi z]) M1))) : WW (303, 1987, [vr 999, vr 1, vr 265, vr 283, vi i, vu, vu], [vi z]) (qk t u I1 J1) := by
  refine hSG 2 [] _ _ rfl rfl ?_
  have e8 := he 998 (by decide)
  have e9 := he 999 (by decide)
  show (295 ≠ q_LED ∧ ∃ v M1, q_Met l false 295 [vr 265] (qk t u I1 J1) v M1 ∧ M1.1 = 283 ∧ ((1 : Nat) = 0 → WW (303, 1991, [vr 999, vr 1, vr 265, vr 283, vi i, vu, vu], [vi z]) M1) ∧ ((1 : Nat) ≠ 0 → WW (303, 1991, [vr 999, vr 1, vr 265, vr 283, vi i, vu, vu], [v, vi z]) M1))
  exact h
theorem c_1991 {l : Launch} {WW : qF → qM → Prop} {t u : Nat} {I2 J2 : Nat → Nat → Int} {i z : Int} (hSG : q_SG l WW) (h : WW (303, 2128, [vr 999, vr 1, vr 265, vr 283, vi i, vu, vu], []) (qk t u I2 J2)) : WW (303, 1991, [vr 999, vr 1, vr 265, vr 283, vi i, vu, vu], [vi z, vi z]) (qk t u I2 J2) := by
  refine hSG 1 [] _ _ rfl rfl ?_
  show (if z = z then WW (303, 2128, [vr 999, vr 1, vr 265, vr 283, vi i, vu, vu], []) (qk t u I2 J2) else WW (303, 1994, [vr 999, vr 1, vr 265, vr 283, vi i, vu, vu], []) (qk t u I2 J2))
  rw [if_pos rfl]
  exact h
theorem law_52 {l : Launch} {WW : qF → qM → Prop} {S : St} {t u : Nat} {I J : Nat → Nat → Int} {i : Int} (hJD : q_HJ l) (hOK : q_OK) (hSG : q_SG l WW) (hI : q_IB I i) (hR : q_RB I) (hN : q_NN WW I i) (V : CInv S t u I) (W : MInv S I) : WW (303, 1983, [vr 999, vr 1, vr 265, vr 283, vi i, vu, vu], []) (qk t u I J) := by
  have B := q_ba (J := J) W (q_bs (k_undo V)) (fun t u I1 W1 => m_undo W1)
  obtain ⟨t, u, I1, a1, I2, J2, b1, e1, e2, S2, V2, W2⟩ := B
  refine g_1983 hSG (fun _ _ => rfl) hI ⟨by decide, _, _, q_MetE hJD hOK a1 (by decide) (by decide) (by decide), rfl, fun z => absurd z (by decide), fun _ => ?_⟩
  refine g_1987 hSG e1 hI ⟨by decide, _, _, q_MetE hJD hOK b1 (by decide) (by decide) (by decide), rfl, fun z => absurd z (by decide), fun _ => ?_⟩
  exact c_1991 hSG (q_2128 hSG hI e2 V2 W2 hN)
theorem g_1996 {l : Launch} {WW : qF → qM → Prop} {t u : Nat} {I I1 J1 : Nat → Nat → Int} {i : Int} (hSG : q_SG l WW) (he : ∀ a, 998 ≤ a → I1 a = I a) (hI : q_IB I i) (h : (155 ≠ q_LED ∧ ∃ v M1, q_Met l false 155 [vr 1] (qk t u I1 J1) v M1 ∧ M1.1 = 283 ∧ ((1 : Nat) = 0 → WW (303, 2000, [vr 999, vr 1, vr 265, vr 283, vi i, vu, vu], []) M1) ∧ ((1 : Nat) ≠ 0 → WW (303, 2000, [vr 999, vr 1, vr 265, vr 283, vi i, vu, vu], [v]) M1))) : WW (303, 1996, [vr 999, vr 1, vr 265, vr 283, vi i, vu, vu], []) (qk t u I1 J1) := by
  refine hSG 2 [] _ _ rfl rfl ?_
  have e8 := he 998 (by decide)
  have e9 := he 999 (by decide)
  show (155 ≠ q_LED ∧ ∃ v M1, q_Met l false 155 [vr 1] (qk t u I1 J1) v M1 ∧ M1.1 = 283 ∧ ((1 : Nat) = 0 → WW (303, 2000, [vr 999, vr 1, vr 265, vr 283, vi i, vu, vu], []) M1) ∧ ((1 : Nat) ≠ 0 → WW (303, 2000, [vr 999, vr 1, vr 265, vr 283, vi i, vu, vu], [v]) M1))
  exact h
theorem g_2000 {l : Launch} {WW : qF → qM → Prop} {t u : Nat} {I I1 J1 : Nat → Nat → Int} {i : Int} {z : Int} (hSG : q_SG l WW) (he : ∀ a, 998 ≤ a → I1 a = I a) (hI : q_IB I i) (h : (296 ≠ q_LED ∧ ∃ v M1, q_Met l false 296 [vr 265] (qk t u I1 J1) v M1 ∧ M1.1 = 283 ∧ ((1 : Nat) = 0 → WW (303, 2004, [vr 999, vr 1, vr 265, vr 283, vi i, vu, vu], [vi z]) M1) ∧ ((1 : Nat) ≠ 0 → WW (303, 2004, [vr 999, vr 1, vr 265, vr 283, vi i, vu, vu], [v, vi z]) M1))) : WW (303, 2000, [vr 999, vr 1, vr 265, vr 283, vi i, vu, vu], [vi z]) (qk t u I1 J1) := by
  refine hSG 2 [] _ _ rfl rfl ?_
  have e8 := he 998 (by decide)
  have e9 := he 999 (by decide)
  show (296 ≠ q_LED ∧ ∃ v M1, q_Met l false 296 [vr 265] (qk t u I1 J1) v M1 ∧ M1.1 = 283 ∧ ((1 : Nat) = 0 → WW (303, 2004, [vr 999, vr 1, vr 265, vr 283, vi i, vu, vu], [vi z]) M1) ∧ ((1 : Nat) ≠ 0 → WW (303, 2004, [vr 999, vr 1, vr 265, vr 283, vi i, vu, vu], [v, vi z]) M1))
  exact h
theorem c_2004 {l : Launch} {WW : qF → qM → Prop} {t u : Nat} {I2 J2 : Nat → Nat → Int} {i z : Int} (hSG : q_SG l WW) (h : WW (303, 2128, [vr 999, vr 1, vr 265, vr 283, vi i, vu, vu], []) (qk t u I2 J2)) : WW (303, 2004, [vr 999, vr 1, vr 265, vr 283, vi i, vu, vu], [vi z, vi z]) (qk t u I2 J2) := by
  refine hSG 1 [] _ _ rfl rfl ?_
  show (if z = z then WW (303, 2128, [vr 999, vr 1, vr 265, vr 283, vi i, vu, vu], []) (qk t u I2 J2) else WW (303, 2007, [vr 999, vr 1, vr 265, vr 283, vi i, vu, vu], []) (qk t u I2 J2))
  rw [if_pos rfl]
  exact h
theorem law_53 {l : Launch} {WW : qF → qM → Prop} {S : St} {t u : Nat} {I J : Nat → Nat → Int} {i : Int} (hJD : q_HJ l) (hOK : q_OK) (hSG : q_SG l WW) (hI : q_IB I i) (hR : q_RB I) (hN : q_NN WW I i) (V : CInv S t u I) (W : MInv S I) : WW (303, 1996, [vr 999, vr 1, vr 265, vr 283, vi i, vu, vu], []) (qk t u I J) := by
  have B := q_ba (J := J) W (q_bs (k_image V)) (fun t u I1 W1 => m_image W1)
  obtain ⟨t, u, I1, a1, I2, J2, b1, e1, e2, S2, V2, W2⟩ := B
  refine g_1996 hSG (fun _ _ => rfl) hI ⟨by decide, _, _, q_MetE hJD hOK a1 (by decide) (by decide) (by decide), rfl, fun z => absurd z (by decide), fun _ => ?_⟩
  refine g_2000 hSG e1 hI ⟨by decide, _, _, q_MetE hJD hOK b1 (by decide) (by decide) (by decide), rfl, fun z => absurd z (by decide), fun _ => ?_⟩
  exact c_2004 hSG (q_2128 hSG hI e2 V2 W2 hN)
theorem g_2009 {l : Launch} {WW : qF → qM → Prop} {t u : Nat} {I I1 J1 : Nat → Nat → Int} {i : Int} (hSG : q_SG l WW) (he : ∀ a, 998 ≤ a → I1 a = I a) (hI : q_IB I i) (h : (156 ≠ q_LED ∧ ∃ v M1, q_Met l false 156 [vr 1, vi (I 999 (wr (i + 1)).toNat)] (qk t u I1 J1) v M1 ∧ M1.1 = 283 ∧ ((1 : Nat) = 0 → WW (303, 2019, [vr 999, vr 1, vr 265, vr 283, vi i, vu, vu], []) M1) ∧ ((1 : Nat) ≠ 0 → WW (303, 2019, [vr 999, vr 1, vr 265, vr 283, vi i, vu, vu], [v]) M1))) : WW (303, 2009, [vr 999, vr 1, vr 265, vr 283, vi i, vu, vu], []) (qk t u I1 J1) := by
  refine hSG 7 [] _ _ rfl rfl ?_
  have e8 := he 998 (by decide)
  have e9 := he 999 (by decide)
  show (if 0 ≤ wr (i + 1) ∧ wr (i + 1) < I1 998 0 then (156 ≠ q_LED ∧ ∃ v M1, q_Met l false 156 [vr 1, vi (I1 999 (wr (i + 1)).toNat)] (qk t u I1 J1) v M1 ∧ M1.1 = 283 ∧ ((1 : Nat) = 0 → WW (303, 2019, [vr 999, vr 1, vr 265, vr 283, vi i, vu, vu], []) M1) ∧ ((1 : Nat) ≠ 0 → WW (303, 2019, [vr 999, vr 1, vr 265, vr 283, vi i, vu, vu], [v]) M1)) else False)
  rw [e8, e9, if_pos (hI 1 (by decide) (by decide))]
  exact h
theorem g_2019 {l : Launch} {WW : qF → qM → Prop} {t u : Nat} {I I1 J1 : Nat → Nat → Int} {i : Int} {z : Int} (hSG : q_SG l WW) (he : ∀ a, 998 ≤ a → I1 a = I a) (hI : q_IB I i) (h : (297 ≠ q_LED ∧ ∃ v M1, q_Met l false 297 [vr 265, vi (I 999 (wr (i + 1)).toNat)] (qk t u I1 J1) v M1 ∧ M1.1 = 283 ∧ ((1 : Nat) = 0 → WW (303, 2029, [vr 999, vr 1, vr 265, vr 283, vi i, vu, vu], [vi z]) M1) ∧ ((1 : Nat) ≠ 0 → WW (303, 2029, [vr 999, vr 1, vr 265, vr 283, vi i, vu, vu], [v, vi z]) M1))) : WW (303, 2019, [vr 999, vr 1, vr 265, vr 283, vi i, vu, vu], [vi z]) (qk t u I1 J1) := by
  refine hSG 7 [] _ _ rfl rfl ?_
  have e8 := he 998 (by decide)
  have e9 := he 999 (by decide)
  show (if 0 ≤ wr (i + 1) ∧ wr (i + 1) < I1 998 0 then (297 ≠ q_LED ∧ ∃ v M1, q_Met l false 297 [vr 265, vi (I1 999 (wr (i + 1)).toNat)] (qk t u I1 J1) v M1 ∧ M1.1 = 283 ∧ ((1 : Nat) = 0 → WW (303, 2029, [vr 999, vr 1, vr 265, vr 283, vi i, vu, vu], [vi z]) M1) ∧ ((1 : Nat) ≠ 0 → WW (303, 2029, [vr 999, vr 1, vr 265, vr 283, vi i, vu, vu], [v, vi z]) M1)) else False)
  rw [e8, e9, if_pos (hI 1 (by decide) (by decide))]
  exact h
theorem c_2029 {l : Launch} {WW : qF → qM → Prop} {t u : Nat} {I2 J2 : Nat → Nat → Int} {i z : Int} (hSG : q_SG l WW) (h : WW (303, 2128, [vr 999, vr 1, vr 265, vr 283, vi i, vu, vu], []) (qk t u I2 J2)) : WW (303, 2029, [vr 999, vr 1, vr 265, vr 283, vi i, vu, vu], [vi z, vi z]) (qk t u I2 J2) := by
  refine hSG 1 [] _ _ rfl rfl ?_
  show (if z = z then WW (303, 2128, [vr 999, vr 1, vr 265, vr 283, vi i, vu, vu], []) (qk t u I2 J2) else WW (303, 2032, [vr 999, vr 1, vr 265, vr 283, vi i, vu, vu], []) (qk t u I2 J2))
  rw [if_pos rfl]
  exact h
theorem law_54 {l : Launch} {WW : qF → qM → Prop} {S : St} {t u : Nat} {I J : Nat → Nat → Int} {i : Int} (hJD : q_HJ l) (hOK : q_OK) (hSG : q_SG l WW) (hI : q_IB I i) (hR : q_RB I) (hN : q_NN WW I i) (V : CInv S t u I) (W : MInv S I) : WW (303, 2009, [vr 999, vr 1, vr 265, vr 283, vi i, vu, vu], []) (qk t u I J) := by
  have B := q_ba (J := J) W (q_bs (k_back V (I 999 (wr (i + 1)).toNat))) (fun t u I1 W1 => m_back W1 (I 999 (wr (i + 1)).toNat) (hR _).1 (hR _).2)
  obtain ⟨t, u, I1, a1, I2, J2, b1, e1, e2, S2, V2, W2⟩ := B
  refine g_2009 hSG (fun _ _ => rfl) hI ⟨by decide, _, _, q_MetE hJD hOK a1 (by decide) (by decide) (by decide), rfl, fun z => absurd z (by decide), fun _ => ?_⟩
  refine g_2019 hSG e1 hI ⟨by decide, _, _, q_MetE hJD hOK b1 (by decide) (by decide) (by decide), rfl, fun z => absurd z (by decide), fun _ => ?_⟩
  exact c_2029 hSG (q_2128 hSG hI e2 V2 W2 hN)
theorem g_2090 {l : Launch} {WW : qF → qM → Prop} {t u : Nat} {I I1 J1 : Nat → Nat → Int} {i : Int} (hSG : q_SG l WW) (he : ∀ a, 998 ≤ a → I1 a = I a) (hI : q_IB I i) (h : (158 ≠ q_LED ∧ ∃ v M1, q_Met l false 158 [vr 1, vi (I 999 (wr (i + 1)).toNat)] (qk t u I1 J1) v M1 ∧ M1.1 = 283 ∧ ((1 : Nat) = 0 → WW (303, 2100, [vr 999, vr 1, vr 265, vr 283, vi i, vu, vu], []) M1) ∧ ((1 : Nat) ≠ 0 → WW (303, 2100, [vr 999, vr 1, vr 265, vr 283, vi i, vu, vu], [v]) M1))) : WW (303, 2090, [vr 999, vr 1, vr 265, vr 283, vi i, vu, vu], []) (qk t u I1 J1) := by
  refine hSG 7 [] _ _ rfl rfl ?_
  have e8 := he 998 (by decide)
  have e9 := he 999 (by decide)
  show (if 0 ≤ wr (i + 1) ∧ wr (i + 1) < I1 998 0 then (158 ≠ q_LED ∧ ∃ v M1, q_Met l false 158 [vr 1, vi (I1 999 (wr (i + 1)).toNat)] (qk t u I1 J1) v M1 ∧ M1.1 = 283 ∧ ((1 : Nat) = 0 → WW (303, 2100, [vr 999, vr 1, vr 265, vr 283, vi i, vu, vu], []) M1) ∧ ((1 : Nat) ≠ 0 → WW (303, 2100, [vr 999, vr 1, vr 265, vr 283, vi i, vu, vu], [v]) M1)) else False)
  rw [e8, e9, if_pos (hI 1 (by decide) (by decide))]
  exact h
theorem g_2100 {l : Launch} {WW : qF → qM → Prop} {t u : Nat} {I I1 J1 : Nat → Nat → Int} {i : Int} {z : Int} (hSG : q_SG l WW) (he : ∀ a, 998 ≤ a → I1 a = I a) (hI : q_IB I i) (h : (300 ≠ q_LED ∧ ∃ v M1, q_Met l false 300 [vr 265, vi (I 999 (wr (i + 1)).toNat)] (qk t u I1 J1) v M1 ∧ M1.1 = 283 ∧ ((1 : Nat) = 0 → WW (303, 2110, [vr 999, vr 1, vr 265, vr 283, vi i, vu, vu], [vi z]) M1) ∧ ((1 : Nat) ≠ 0 → WW (303, 2110, [vr 999, vr 1, vr 265, vr 283, vi i, vu, vu], [v, vi z]) M1))) : WW (303, 2100, [vr 999, vr 1, vr 265, vr 283, vi i, vu, vu], [vi z]) (qk t u I1 J1) := by
  refine hSG 7 [] _ _ rfl rfl ?_
  have e8 := he 998 (by decide)
  have e9 := he 999 (by decide)
  show (if 0 ≤ wr (i + 1) ∧ wr (i + 1) < I1 998 0 then (300 ≠ q_LED ∧ ∃ v M1, q_Met l false 300 [vr 265, vi (I1 999 (wr (i + 1)).toNat)] (qk t u I1 J1) v M1 ∧ M1.1 = 283 ∧ ((1 : Nat) = 0 → WW (303, 2110, [vr 999, vr 1, vr 265, vr 283, vi i, vu, vu], [vi z]) M1) ∧ ((1 : Nat) ≠ 0 → WW (303, 2110, [vr 999, vr 1, vr 265, vr 283, vi i, vu, vu], [v, vi z]) M1)) else False)
  rw [e8, e9, if_pos (hI 1 (by decide) (by decide))]
  exact h
theorem c_2110 {l : Launch} {WW : qF → qM → Prop} {t u : Nat} {I2 J2 : Nat → Nat → Int} {i z : Int} (hSG : q_SG l WW) (h : WW (303, 2128, [vr 999, vr 1, vr 265, vr 283, vi i, vu, vu], []) (qk t u I2 J2)) : WW (303, 2110, [vr 999, vr 1, vr 265, vr 283, vi i, vu, vu], [vi z, vi z]) (qk t u I2 J2) := by
  refine hSG 1 [] _ _ rfl rfl ?_
  show (if z = z then WW (303, 2128, [vr 999, vr 1, vr 265, vr 283, vi i, vu, vu], []) (qk t u I2 J2) else WW (303, 2113, [vr 999, vr 1, vr 265, vr 283, vi i, vu, vu], []) (qk t u I2 J2))
  rw [if_pos rfl]
  exact h
theorem law_56 {l : Launch} {WW : qF → qM → Prop} {S : St} {t u : Nat} {I J : Nat → Nat → Int} {i : Int} (hJD : q_HJ l) (hOK : q_OK) (hSG : q_SG l WW) (hI : q_IB I i) (hR : q_RB I) (hN : q_NN WW I i) (V : CInv S t u I) (W : MInv S I) : WW (303, 2090, [vr 999, vr 1, vr 265, vr 283, vi i, vu, vu], []) (qk t u I J) := by
  have B := q_bf (J := J) V W (k_size V (I 999 (wr (i + 1)).toNat)) (m_size W (I 999 (wr (i + 1)).toNat))
  obtain ⟨t, u, I1, a1, I2, J2, b1, e1, e2, S2, V2, W2⟩ := B
  refine g_2090 hSG (fun _ _ => rfl) hI ⟨by decide, _, _, q_MetE hJD hOK a1 (by decide) (by decide) (by decide), rfl, fun z => absurd z (by decide), fun _ => ?_⟩
  refine g_2100 hSG e1 hI ⟨by decide, _, _, q_MetE hJD hOK b1 (by decide) (by decide) (by decide), rfl, fun z => absurd z (by decide), fun _ => ?_⟩
  exact c_2110 hSG (q_2128 hSG hI e2 V2 W2 hN)
theorem g_2115 {l : Launch} {WW : qF → qM → Prop} {t u : Nat} {I I1 J1 : Nat → Nat → Int} {i : Int} (hSG : q_SG l WW) (he : ∀ a, 998 ≤ a → I1 a = I a) (hI : q_IB I i) (h : (159 ≠ q_LED ∧ ∃ v M1, q_Met l false 159 [vr 1] (qk t u I1 J1) v M1 ∧ M1.1 = 283 ∧ ((1 : Nat) = 0 → WW (303, 2119, [vr 999, vr 1, vr 265, vr 283, vi i, vu, vu], []) M1) ∧ ((1 : Nat) ≠ 0 → WW (303, 2119, [vr 999, vr 1, vr 265, vr 283, vi i, vu, vu], [v]) M1))) : WW (303, 2115, [vr 999, vr 1, vr 265, vr 283, vi i, vu, vu], []) (qk t u I1 J1) := by
  refine hSG 2 [] _ _ rfl rfl ?_
  have e8 := he 998 (by decide)
  have e9 := he 999 (by decide)
  show (159 ≠ q_LED ∧ ∃ v M1, q_Met l false 159 [vr 1] (qk t u I1 J1) v M1 ∧ M1.1 = 283 ∧ ((1 : Nat) = 0 → WW (303, 2119, [vr 999, vr 1, vr 265, vr 283, vi i, vu, vu], []) M1) ∧ ((1 : Nat) ≠ 0 → WW (303, 2119, [vr 999, vr 1, vr 265, vr 283, vi i, vu, vu], [v]) M1))
  exact h
theorem g_2119 {l : Launch} {WW : qF → qM → Prop} {t u : Nat} {I I1 J1 : Nat → Nat → Int} {i : Int} {z : Int} (hSG : q_SG l WW) (he : ∀ a, 998 ≤ a → I1 a = I a) (hI : q_IB I i) (h : (301 ≠ q_LED ∧ ∃ v M1, q_Met l false 301 [vr 265] (qk t u I1 J1) v M1 ∧ M1.1 = 283 ∧ ((1 : Nat) = 0 → WW (303, 2123, [vr 999, vr 1, vr 265, vr 283, vi i, vu, vu], [vi z]) M1) ∧ ((1 : Nat) ≠ 0 → WW (303, 2123, [vr 999, vr 1, vr 265, vr 283, vi i, vu, vu], [v, vi z]) M1))) : WW (303, 2119, [vr 999, vr 1, vr 265, vr 283, vi i, vu, vu], [vi z]) (qk t u I1 J1) := by
  refine hSG 2 [] _ _ rfl rfl ?_
  have e8 := he 998 (by decide)
  have e9 := he 999 (by decide)
  show (301 ≠ q_LED ∧ ∃ v M1, q_Met l false 301 [vr 265] (qk t u I1 J1) v M1 ∧ M1.1 = 283 ∧ ((1 : Nat) = 0 → WW (303, 2123, [vr 999, vr 1, vr 265, vr 283, vi i, vu, vu], [vi z]) M1) ∧ ((1 : Nat) ≠ 0 → WW (303, 2123, [vr 999, vr 1, vr 265, vr 283, vi i, vu, vu], [v, vi z]) M1))
  exact h
theorem c_2123 {l : Launch} {WW : qF → qM → Prop} {t u : Nat} {I2 J2 : Nat → Nat → Int} {i z : Int} (hSG : q_SG l WW) (h : WW (303, 2128, [vr 999, vr 1, vr 265, vr 283, vi i, vu, vu], []) (qk t u I2 J2)) : WW (303, 2123, [vr 999, vr 1, vr 265, vr 283, vi i, vu, vu], [vi z, vi z]) (qk t u I2 J2) := by
  refine hSG 1 [] _ _ rfl rfl ?_
  show (if z = z then WW (303, 2128, [vr 999, vr 1, vr 265, vr 283, vi i, vu, vu], []) (qk t u I2 J2) else WW (303, 2126, [vr 999, vr 1, vr 265, vr 283, vi i, vu, vu], []) (qk t u I2 J2))
  rw [if_pos rfl]
  exact h
theorem law_57 {l : Launch} {WW : qF → qM → Prop} {S : St} {t u : Nat} {I J : Nat → Nat → Int} {i : Int} (hJD : q_HJ l) (hOK : q_OK) (hSG : q_SG l WW) (hI : q_IB I i) (hR : q_RB I) (hN : q_NN WW I i) (V : CInv S t u I) (W : MInv S I) : WW (303, 2115, [vr 999, vr 1, vr 265, vr 283, vi i, vu, vu], []) (qk t u I J) := by
  have B := q_bf (J := J) V W (k_trouble V) (m_trouble W)
  obtain ⟨t, u, I1, a1, I2, J2, b1, e1, e2, S2, V2, W2⟩ := B
  refine g_2115 hSG (fun _ _ => rfl) hI ⟨by decide, _, _, q_MetE hJD hOK a1 (by decide) (by decide) (by decide), rfl, fun z => absurd z (by decide), fun _ => ?_⟩
  refine g_2119 hSG e1 hI ⟨by decide, _, _, q_MetE hJD hOK b1 (by decide) (by decide) (by decide), rfl, fun z => absurd z (by decide), fun _ => ?_⟩
  exact c_2123 hSG (q_2128 hSG hI e2 V2 W2 hN)

/-! 'led' in the loop -/
def q_LD (WWf : Nat → Nat → qF → qM → Prop) : Prop := ∀ (kc ks t u : Nat) (I J I1 : Nat → Nat → Int) (i x : Int) (v : qV), kc < 3072 → ks < 18432 → q_E (157, 0, [vr 1, vi x, vu, vu], []) (qk t u I J) = some (v, qk t u I1 J) → (∀ z, v = vi z → WWf (kc + 1) (ks + 6) (303, 2045, [vr 999, vr 1, vr 265, vr 283, vi i, vu, vu], [vi 0]) (sJ (qk t u I1 J) 283 0 z)) → (v = vu → WWf (kc + 1) (ks + 6) (303, 2045, [vr 999, vr 1, vr 265, vr 283, vi i, vu, vu], [vi 1]) (qk t u I1 J)) → WWf kc ks (303, 2042, [vr 999, vr 1, vr 265, vr 283, vi i, vu, vu], [vr 283, vi x, vr 1]) (qk t u I J)
theorem law_55b {l : Launch} {WW : qF → qM → Prop} {S : St} {t u : Nat} {I I1 J1 : Nat → Nat → Int} {i r : Int} (hJD : q_HJ l) (hOK : q_OK) (hSG : q_SG l WW) (he : ∀ a, 998 ≤ a → I1 a = I a) (hI : q_IB I i) (hN : q_NN WW I i) (V : CInv S t u I1) (W : MInv S I1) (hr : ledT (sp_led S (I 999 (wr (i + 1)).toNat)) = r) (hz : r = 0 → J1 283 0 = ledV (sp_led S (I 999 (wr (i + 1)).toNat))) : WW (303, 2045, [vr 999, vr 1, vr 265, vr 283, vi i, vu, vu], [vi r]) (qk t u I1 J1) := by
  obtain ⟨I2, b1, bt, bq⟩ := m_led (t := t) (u := u) (J := J1) W (I 999 (wr (i + 1)).toNat)
  generalize hw : ledV (sp_led S (I 999 (wr (i + 1)).toNat)) = w at b1 hz
  have b2 := m_thrown (t := t) (u := u) (J := J1) r (I := I2) (bt.trans hr)
  have k2 := QF_km bq
  have e2 : ∀ a, 998 ≤ a → I2 a = I a := fun a ha => (k2 a (Or.inr (by omega))).trans (he a ha)
  have hEnd : WW (303, 2087, [vr 999, vr 1, vr 265, vr 283, vi i, vu, vu], []) (qk t u I2 J1) := by
    refine hSG 1 [] _ _ rfl rfl ?_
    show WW (303, 2128, [vr 999, vr 1, vr 265, vr 283, vi i, vu, vu], []) (qk t u I2 J1)
    exact q_2128 hSG hI e2 (CInv_km V k2) (MInv_q0 W bq) hN
  have e8 := he 998 (by decide)
  have e9 := he 999 (by decide)
  refine hSG 8 [] _ _ rfl rfl ?_
  show (if 0 ≤ wr (i + 1) ∧ wr (i + 1) < I1 998 0 then (298 ≠ q_LED ∧ ∃ v M1, q_Met l false 298 [vr 265, vi (I1 999 (wr (i + 1)).toNat)] (qk t u I1 J1) v M1 ∧ M1.1 = 283 ∧ ((1 : Nat) = 0 → WW (303, 2057, [vr 999, vr 1, vr 265, vr 283, vi i, vi r, vu], []) M1) ∧ ((1 : Nat) ≠ 0 → WW (303, 2057, [vr 999, vr 1, vr 265, vr 283, vi i, vi r, vu], [v]) M1)) else False)
  rw [e8, e9, if_pos (hI 1 (by decide) (by decide))]
  refine ⟨by decide, _, _, q_MetE hJD hOK b1 (by decide) (by decide) (by decide), rfl, fun z => absurd z (by decide), fun _ => ?_⟩
  refine hSG 3 [] _ _ rfl rfl ?_
  show (176 ≠ q_LED ∧ ∃ v M1, q_Met l false 176 [vr 265] (qk t u I2 J1) v M1 ∧ M1.1 = 283 ∧ ((1 : Nat) = 0 → WW (303, 2063, [vr 999, vr 1, vr 265, vr 283, vi i, vi r, vi w], []) M1) ∧ ((1 : Nat) ≠ 0 → WW (303, 2063, [vr 999, vr 1, vr 265, vr 283, vi i, vi r, vi w], [v]) M1))
  refine ⟨by decide, _, _, q_MetE hJD hOK b2 (by decide) (by decide) (by decide), rfl, fun z => absurd z (by decide), fun _ => ?_⟩
  refine hSG 2 [] _ _ rfl rfl ?_
  show (if r = r then WW (303, 2070, [vr 999, vr 1, vr 265, vr 283, vi i, vi r, vi w], []) (qk t u I2 J1) else WW (303, 2068, [vr 999, vr 1, vr 265, vr 283, vi i, vi r, vi w], []) (qk t u I2 J1))
  rw [if_pos rfl]
  refine hSG 2 [] _ _ rfl rfl ?_
  show (if r = 0 then WW (303, 2075, [vr 999, vr 1, vr 265, vr 283, vi i, vi r, vi w], []) (qk t u I2 J1) else WW (303, 2087, [vr 999, vr 1, vr 265, vr 283, vi i, vu, vu], []) (qk t u I2 J1))
  by_cases z : r = 0
  · rw [if_pos z]
    refine hSG 7 [] _ _ rfl rfl ?_
    show (if J1 283 0 < w then (if (-1 : Int) = 0 then WW (303, 2087, [vr 999, vr 1, vr 265, vr 283, vi i, vu, vu], []) (qk t u I2 J1) else WW (303, 2085, [vr 999, vr 1, vr 265, vr 283, vi i, vi r, vi w], []) (qk t u I2 J1)) else (if J1 283 0 = w then (if (0 : Int) = 0 then WW (303, 2087, [vr 999, vr 1, vr 265, vr 283, vi i, vu, vu], []) (qk t u I2 J1) else WW (303, 2085, [vr 999, vr 1, vr 265, vr 283, vi i, vi r, vi w], []) (qk t u I2 J1)) else (if (1 : Int) = 0 then WW (303, 2087, [vr 999, vr 1, vr 265, vr 283, vi i, vu, vu], []) (qk t u I2 J1) else WW (303, 2085, [vr 999, vr 1, vr 265, vr 283, vi i, vi r, vi w], []) (qk t u I2 J1))))
    have h3 := hz z
    rw [if_neg (by omega), if_pos h3, if_pos rfl]
    exact hEnd
  · rw [if_neg z]
    exact hEnd
theorem law_55 {l : Launch} {WWf : Nat → Nat → qF → qM → Prop} {kc ks : Nat} {S : St} {t u : Nat} {I J : Nat → Nat → Int} {i : Int} (hJD : q_HJ l) (hOK : q_OK) (hSG : q_SG l (WWf kc ks)) (hSG2 : q_SG l (WWf (kc + 1) (ks + 6))) (hLD : q_LD WWf) (h1 : kc < 3072) (h2 : ks < 18432) (hI : q_IB I i) (hN : q_NN (WWf (kc + 1) (ks + 6)) I i) (V : CInv S t u I) (W : MInv S I) : WWf kc ks (303, 2034, [vr 999, vr 1, vr 265, vr 283, vi i, vu, vu], []) (qk t u I J) := by
  obtain ⟨I1, a1, K⟩ := k_led (J := J) V (I 999 (wr (i + 1)).toNat)
  have V1 := CInv_kp V K (by decide) (by decide)
  have W1 := MInv_kc W (fun a ha => K a (Or.inr (by omega)))
  have e1 : ∀ a, 998 ≤ a → I1 a = I a := fun a ha => K a (Or.inr (by omega))
  refine hSG 7 [] _ _ rfl rfl ?_
  show (if 0 ≤ wr (i + 1) ∧ wr (i + 1) < I 998 0 then WWf kc ks (303, 2042, [vr 999, vr 1, vr 265, vr 283, vi i, vu, vu], [vr 283, vi (I 999 (wr (i + 1)).toNat), vr 1]) (qk t u I J) else False)
  rw [if_pos (hI 1 (by decide) (by decide))]
  refine hLD kc ks t u I J I1 i _ _ h1 h2 a1 (fun z hz => ?_) (fun hz => ?_)
  · refine law_55b (J1 := (sJ (qk t u I1 J) 283 0 z).2.2.1) hJD hOK hSG2 e1 hI hN V1 W1 ?_ (fun _ => ?_)
    · cases q : sp_led S (I 999 (wr (i + 1)).toNat) with
      | none => rw [q] at hz; cases hz
      | some c => rfl
    · cases q : sp_led S (I 999 (wr (i + 1)).toNat) with
      | none => rw [q] at hz; cases hz
      | some c =>
        rw [q] at hz
        have hz : (c : Int) = z := Sum.inl.inj hz
        show (if 283 = 283 ∧ 0 = 0 then z else J 283 0) = (c : Int)
        rw [if_pos ⟨rfl, rfl⟩, hz]
  · refine law_55b hJD hOK hSG2 e1 hI hN V1 W1 ?_ (fun z => absurd z (by decide))
    cases q : sp_led S (I 999 (wr (i + 1)).toNat) with
    | none => rfl
    | some c => rw [q] at hz; cases hz
/-! the loop -/
theorem q_sw_n {P : Nat → Prop} {d : Nat} {a : Int} (h : P d) : ∀ lo, q_sw a lo [] P d := fun _ => h
theorem q_sw_c {P : Nat → Prop} {d o : Nat} {a : Int} {os : List Nat} (h1 : P o) (h2 : ∀ lo, q_sw a lo os P d) : ∀ lo, q_sw a lo (o :: os) P d := fun lo => by
  show (if a = lo then P o else q_sw a (lo + 1) os P d)
  by_cases z : a = lo
  · rw [if_pos z]; exact h1
  · rw [if_neg z]; exact h2 _
theorem law_p23 {l : Launch} {WW : qF → qM → Prop} {t u : Nat} {I J : Nat → Nat → Int} {i N : Nat} (hSG : q_SG l WW) (hL : I 998 0 = (N : Int)) (hN : N ≤ 3072) (hi : i ≤ N) (hsw : i + 6 ≤ N → ∀ a lo : Int, q_sw a lo [288, 361, 386, 399, 412, 449, 486, 511, 548, 585, 634, 671, 696, 721, 746, 783, 820, 845, 870, 895, 944, 970, 1007, 1044, 1069, 1118, 1143, 1180, 1205, 1230, 1255, 1280, 1305, 1330, 1367, 1392, 1405, 1430, 1443, 1456, 1469, 1482, 1495, 1604, 1629, 1654, 1732, 1798, 1847, 1860, 1897, 1934, 1983, 1996, 2009, 2034, 2090, 2115] (fun x => WW (303, x, [vr 999, vr 1, vr 265, vr 283, vi (i : Int), vu, vu], []) (qk t u I J)) 2128) : WW (303, 23, [vr 999, vr 1, vr 265, vr 283, vi (i : Int), vu, vu], []) (qk t u I J) := by
  refine hSG 12 [] _ _ rfl rfl ?_
  show (if wr (I 998 0 - 6) < (i : Int) then (if ((1 : Int) = 0 ∨ (1 : Int) = 1) then (vi 1 = vi 1) else False) else (if 0 ≤ (i : Int) ∧ (i : Int) < I 998 0 then q_sw (q_and (I 999 (i : Int).toNat) 63) 0 [288, 361, 386, 399, 412, 449, 486, 511, 548, 585, 634, 671, 696, 721, 746, 783, 820, 845, 870, 895, 944, 970, 1007, 1044, 1069, 1118, 1143, 1180, 1205, 1230, 1255, 1280, 1305, 1330, 1367, 1392, 1405, 1430, 1443, 1456, 1469, 1482, 1495, 1604, 1629, 1654, 1732, 1798, 1847, 1860, 1897, 1934, 1983, 1996, 2009, 2034, 2090, 2115] (fun x => WW (303, x, [vr 999, vr 1, vr 265, vr 283, vi (i : Int), vu, vu], []) (qk t u I J)) 2128 else False))
  rw [hL]
  have e : wr ((N : Int) - 6) = (N : Int) - 6 := wr_of (by omega) (by omega)
  rw [e]
  by_cases z : (N : Int) - 6 < (i : Int)
  · rw [if_pos z, if_pos (Or.inr rfl)]
  · rw [if_neg z, if_pos ⟨by omega, by omega⟩]
    exact hsw (by omega) _ _
theorem q_loop {l : Launch} {WWf : Nat → Nat → qF → qM → Prop} {N : Nat} (hJD : q_HJ l) (hOK : q_OK) (hN : N ≤ 3072) (hSG : ∀ kc ks, kc ≤ 3072 → ks ≤ 18432 → q_SG l (WWf kc ks)) (hLD : q_LD WWf) :
    ∀ (n i kc ks : Nat) (S : St) (t u : Nat) (I J : Nat → Nat → Int), N < i + 6 * n + 6 → i ≤ N → kc ≤ i → ks ≤ 6 * i → I 998 0 = (N : Int) → q_RB I → CInv S t u I → MInv S I → WWf kc ks (303, 23, [vr 999, vr 1, vr 265, vr 283, vi (i : Int), vu, vu], []) (qk t u I J) := by
  intro n
  induction n with
  | zero =>
    intro i kc ks S t u I J h1 h2 h3 h4 h5 h6 V W
    exact law_p23 (hSG kc ks (by omega) (by omega)) h5 hN h2 (fun z => absurd h1 (by omega))
  | succ n ih =>
    intro i kc ks S t u I J h1 h2 h3 h4 h5 h6 V W
    refine law_p23 (hSG kc ks (by omega) (by omega)) h5 hN h2 (fun z a => ?_)
    have hw : ∀ p : Int, 1 ≤ p → p ≤ 6 → wr ((i : Int) + p) = (i : Int) + p := fun p a b => wr_of (by omega) (by omega)
    have hI : q_IB I (i : Int) := fun p a b => by
      rw [hw p a (by omega), h5]
      omega
    have hNN : ∀ kc' ks', kc' ≤ i + 6 → ks' ≤ 6 * (i + 6) → q_NN (WWf kc' ks') I (i : Int) := fun kc' ks' q1 q2 S' t' u' I' J' V' W' e => by
      rw [hw 6 (by decide) (by decide), show (i : Int) + 6 = ((i + 6 : Nat) : Int) by omega]
      exact ih (i + 6) kc' ks' S' t' u' I' J' (by omega) (by omega) q1 q2 (by rw [e 998 (by decide)]; exact h5) (fun j => by rw [e 999 (by decide)]; exact h6 j) V' W'
    have sg := hSG kc ks (by omega) (by omega)
    have nn := hNN kc ks (by omega) (by omega)
    have sg2 := hSG (kc + 1) (ks + 6) (by omega) (by omega)
    have nn2 := hNN (kc + 1) (ks + 6) (by omega) (by omega)
    exact q_sw_c (law_0 hJD hOK sg hI h6 nn V W) (q_sw_c (law_1 hJD hOK sg hI h6 nn V W) (q_sw_c (law_2 hJD hOK sg hI h6 nn V W) (q_sw_c (law_3 hJD hOK sg hI h6 nn V W) (q_sw_c (law_4 hJD hOK sg hI h6 nn V W) (q_sw_c (law_5 hJD hOK sg hI h6 nn V W) (q_sw_c (law_6 hJD hOK sg hI h6 nn V W) (q_sw_c (law_7 hJD hOK sg hI h6 nn V W) (q_sw_c (law_8 hJD hOK sg hI h6 nn V W) (q_sw_c (law_9 hJD hOK sg hI h6 nn V W) (q_sw_c (law_10 hJD hOK sg hI h6 nn V W) (q_sw_c (law_11 hJD hOK sg hI h6 nn V W) (q_sw_c (law_12 hJD hOK sg hI h6 nn V W) (q_sw_c (law_13 hJD hOK sg hI h6 nn V W) (q_sw_c (law_14 hJD hOK sg hI h6 nn V W) (q_sw_c (law_15 hJD hOK sg hI h6 nn V W) (q_sw_c (law_16 hJD hOK sg hI h6 nn V W) (q_sw_c (law_17 hJD hOK sg hI h6 nn V W) (q_sw_c (law_18 hJD hOK sg hI h6 nn V W) (q_sw_c (law_19 hJD hOK sg hI h6 nn V W) (q_sw_c (law_20 hJD hOK sg hI h6 nn V W) (q_sw_c (law_21 hJD hOK sg hI h6 nn V W) (q_sw_c (law_22 hJD hOK sg hI h6 nn V W) (q_sw_c (law_23 hJD hOK sg hI h6 nn V W) (q_sw_c (law_24 hJD hOK sg hI h6 nn V W) (q_sw_c (law_25 hJD hOK sg hI h6 nn V W) (q_sw_c (law_26 hJD hOK sg hI h6 nn V W) (q_sw_c (law_27 hJD hOK sg hI h6 nn V W) (q_sw_c (law_28 hJD hOK sg hI h6 nn V W) (q_sw_c (law_29 hJD hOK sg hI h6 nn V W) (q_sw_c (law_30 hJD hOK sg hI h6 nn V W) (q_sw_c (law_31 hJD hOK sg hI h6 nn V W) (q_sw_c (law_32 hJD hOK sg hI h6 nn V W) (q_sw_c (law_33 hJD hOK sg hI h6 nn V W) (q_sw_c (law_34 hJD hOK sg hI h6 nn V W) (q_sw_c (law_35 hJD hOK sg hI h6 nn V W) (q_sw_c (law_36 hJD hOK sg hI h6 nn V W) (q_sw_c (law_37 hJD hOK sg hI h6 nn V W) (q_sw_c (law_38 hJD hOK sg hI h6 nn V W) (q_sw_c (law_39 hJD hOK sg hI h6 nn V W) (q_sw_c (law_40 hJD hOK sg hI h6 nn V W) (q_sw_c (law_41 hJD hOK sg hI h6 nn V W) (q_sw_c (law_42 hJD hOK sg hI h6 nn V W) (q_sw_c (law_43 hJD hOK sg hI h6 nn V W) (q_sw_c (law_44 hJD hOK sg hI h6 nn V W) (q_sw_c (law_45 hJD hOK sg hI h6 nn V W) (q_sw_c (law_46 hJD hOK sg hI h6 nn V W) (q_sw_c (law_47 hJD hOK sg hI h6 nn V W) (q_sw_c (law_48 hJD hOK sg hI h6 nn V W) (q_sw_c (law_49 hJD hOK sg hI h6 nn V W) (q_sw_c (law_50 hJD hOK sg hI h6 nn V W) (q_sw_c (law_51 hJD hOK sg hI h6 nn V W) (q_sw_c (law_52 hJD hOK sg hI h6 nn V W) (q_sw_c (law_53 hJD hOK sg hI h6 nn V W) (q_sw_c (law_54 hJD hOK sg hI h6 nn V W) (q_sw_c (law_55 hJD hOK sg sg2 hLD (by omega) (by omega) hI nn2 V W) (q_sw_c (law_56 hJD hOK sg hI h6 nn V W) (q_sw_c (law_57 hJD hOK sg hI h6 nn V W) (q_sw_n (q_2128 sg hI (fun _ _ => rfl) V W nn)))))))))))))))))))))))))))))))))))))))))))))))))))))))))))

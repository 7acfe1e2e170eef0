section QSTEP4
variable {p : Program} {l : Launch} {e : Env} {R : Room} {s : State} {m : MethodId} {args : Array Value} {below : List Frame} {meth : Method} {c : Code} {Q : State → Prop} {D : va_G} {cA : Nat → ClassId} {ad0 adV : Nat → Nat} {L : Nat} {xs : Nat → Int32} {A : Nat → Prop}
theorem qn_I (M : qM) (a k : Nat) : mI (qnew M) a k = if a = M.1 + 1 then 0 else mI M a k := rfl
theorem qn_J (M : qM) (a k : Nat) : mJ (qnew M) a k = if a = M.1 + 1 then 0 else mJ M a k := rfl
theorem qn_R (M : qM) (a k : Nat) : mR (qnew M) a k = if a = M.1 + 1 then 0 else mR M a k := rfl
theorem q_ce_new {ad ad' : Nat → Nat} {M : qM} (hr : ∀ a k, mR M a k ≤ M.1) (ha : ∀ n, n ≤ M.1 ∨ 999 ≤ n → ad' n = ad n) {n : Nat} (h2 : n ≤ M.1) : q_ce cA ad' (qnew M) n = q_ce cA ad M n := by
  have e1 : ∀ j, mI (qnew M) n j = mI M n j := fun j => if_neg (by omega)
  have e2 : ∀ j, mJ (qnew M) n j = mJ M n j := fun j => if_neg (by omega)
  have e3 : ∀ j, q_ro ad' (mR (qnew M) n j) = q_ro ad (mR M n j) := fun j => by
    rw [show mR (qnew M) n j = mR M n j from if_neg (by omega)]
    unfold q_ro
    rw [ha _ (Or.inl (hr n j))]
  have e4 : ∀ c, q_fs ad' (qnew M) n c = q_fs ad M n c := fun c => by
    unfold q_fs
    congr 1
    funext j
    unfold q_fv
    rw [e1, e2, e3]
  unfold q_ce
  simp only [e1, e2, e3, e4]
theorem q_ws_push {ad ad' : Nat → Nat} {M : qM} (hr : ∀ a k, mR M a k ≤ M.1) (ha : ∀ n, n ≤ M.1 ∨ 999 ≤ n → ad' n = ad n) : q_ws cA ad' (qnew M) = q_ws cA ad M ++ [(ad' (M.1 + 1), q_ce cA ad' (qnew M) (M.1 + 1))] := by
  unfold q_ws
  show (List.range (M.1 + 1)).map _ = _
  rw [List.range_succ, List.map_append]
  congr 1
  apply List.map_congr_left
  intro i hi
  have hi' := List.mem_range.mp hi
  rw [q_ce_new hr ha (by omega), ha (i + 1) (Or.inl (by omega))]
/-- a new cell is there: the world grew by it -/
theorem q_Wd_new {ad : Nat → Nat} {ph : Bool} {M : qM} {U : State} {H H1 : Heap} {q : Nat} (h : q_Wd D cA ad L xs A ph M U H) (hph : ph = true) (hlt : M.1 + 1 ≤ q_NX)
    (hP : va_P D q_cl (q_ws cA ad M ++ [(q, q_ce cA (fun n => if n = M.1 + 1 then q else ad n) (qnew M) (M.1 + 1))]) H1) (hD : va_D A (q_ws cA ad M ++ [(q, q_ce cA (fun n => if n = M.1 + 1 then q else ad n) (qnew M) (M.1 + 1))]))
    (hT : 1 ≤ kd (M.1 + 1) → kd (M.1 + 1) ≤ 5 → ArrOfT U (cA (kd (M.1 + 1))) (q_at (kd (M.1 + 1))) ∧ va_RA U (cA (kd (M.1 + 1))) (q_at (kd (M.1 + 1)))) : q_Wd D cA (fun n => if n = M.1 + 1 then q else ad n) L xs A ph (qnew M) U H1 := by
  obtain ⟨-, -, g3, ⟨r1, r2, r3⟩, ⟨g5, g6⟩, g7, g8⟩ := h
  have hx : q_NX ≤ 990 := by decide
  have e := q_ws_push (cA := cA) (ad := ad) (ad' := fun n => if n = M.1 + 1 then q else ad n) r3 (fun n hn => if_neg (by omega))
  simp only [if_true] at e
  refine ⟨by rw [e]; exact hP, by rw [e]; exact hD, fun n h1 h2 h3 h4 => ?_, ⟨fun a k => ?_, fun a k => ?_, fun a k => ?_⟩, ⟨?_, fun j hj => ?_⟩, hlt, fun q => by rw [hph] at q; cases q⟩
  · by_cases hn : n = M.1 + 1
    · subst hn; exact hT h3 h4
    · exact g3 n h1 (by have : n ≤ M.1 + 1 := h2; omega) h3 h4
  · rw [qn_I]
    split
    · exact q_i0
    · exact r1 a k
  · rw [qn_J]
    split
    · exact q_l0
    · exact r2 a k
  · rw [qn_R]
    show _ ≤ M.1 + 1
    split
    · omega
    · exact Nat.le_succ_of_le (r3 a k)
  · rw [qn_I, if_neg (by omega)]; exact g5
  · rw [qn_I, if_neg (by omega)]; exact g6 j hj
theorem q_map_new {ad : Nat → Nat} {q B : Nat} (hB : B ≤ 990) {st : List qV} (h : ∀ v ∈ st, q_vok B v) : st.map (q_cv (fun n => if n = B + 1 then q else ad n)) = st.map (q_cv ad) := q_map_ext (fun n hn => if_neg (by omega)) h
/-- what a new cell leaves to prove: the common end of new, newarray, anewarray -/
theorem q_new_end {ph : Bool} {y n0 kc ks pc1 : Nat} {M : qM} {ad : Nat → Nat} {H : Heap} {ls : Array Slot} {Lc r : List qV} {nx : List qV → List qV → qM → Prop}
    (had : ∀ n, n ≤ n0 ∨ 999 ≤ n → ad n = ad0 n) (hL : q_LL ad M.1 (q_mxl y) ls Lc) (hst : ∀ v ∈ r, q_vok M.1 v) (hWd : q_Wd D cA ad L xs A ph M s H) (hn0 : n0 ≤ M.1) (hph : ph = true) (hlt : M.1 + 1 ≤ q_NX)
    (hN : q_NX1 p l e R s m args below meth c Q D cA ad0 L xs A ph y n0 kc ks pc1 M nx) (g : nx Lc (vr (M.1 + 1) :: r) (qnew M)) {q : Nat} {H1 : Heap} {locs : List Loc}
    (hP : va_P D q_cl (q_ws cA ad M ++ [(q, q_ce cA (fun n => if n = M.1 + 1 then q else ad n) (qnew M) (M.1 + 1))]) H1) (hD : va_D A (q_ws cA ad M ++ [(q, q_ce cA (fun n => if n = M.1 + 1 then q else ad n) (qnew M) (M.1 + 1))])) (hS : va_S A s.heap H1 locs)
    (hT : 1 ≤ kd (M.1 + 1) → kd (M.1 + 1) ≤ 5 → ArrOfT s (cA (kd (M.1 + 1))) (q_at (kd (M.1 + 1))) ∧ va_RA s (cA (kd (M.1 + 1))) (q_at (kd (M.1 + 1)))) {sl : Nat} (hsl : q_cum (M.1 + 1) = q_cum M.1 + sl) (hmono : q_cum n0 ≤ q_cum M.1) :
    W p l e R s m args below meth c H1 locs (kc + (M.1 - n0) + 1) (ks + (q_cum M.1 - q_cum n0) + sl) Q (F0 m pc1 ls (.ref q :: r.map (q_cv ad))) := by
  have hx : q_NX ≤ 990 := by decide
  have ha : ∀ n, n ≤ M.1 ∨ 999 ≤ n → (fun n => if n = M.1 + 1 then q else ad n) n = ad n := fun n hn => if_neg (by omega)
  have := hN Lc (vr (M.1 + 1) :: r) (qnew M) (fun n => if n = M.1 + 1 then q else ad n) H1 locs ls g (fun n hn => (ha n (by omega)).trans (had n hn)) (q_LL_ext hL ha (Nat.le_succ _)) (List.forall_mem_cons.mpr ⟨Or.inl (Nat.le_refl _), fun v hv => q_vok_le (Nat.le_succ _) (hst v hv)⟩) (q_Wd_new hWd hph hlt hP hD hT) hS (Nat.le_succ _)
  rw [List.map_cons, q_map_ext ha hst, q_cv_ref (by omega)] at this
  simp only [if_true] at this
  have e1 : kc + ((qnew M).1 - n0) = kc + (M.1 - n0) + 1 := by show kc + (M.1 + 1 - n0) = _; omega
  have e2 : ks + (q_cum (qnew M).1 - q_cum n0) = ks + (q_cum M.1 - q_cum n0) + sl := by show ks + (q_cum (M.1 + 1) - q_cum n0) = _; omega
  rw [e1, e2] at this
  exact this
theorem q_cum_le {a b : Nat} (h : a ≤ b) : q_cum a ≤ q_cum b := by
  induction h with
  | refl => exact Nat.le_refl _
  | step _ ih => exact Nat.le_trans ih (Nat.le_add_right _ _)
theorem q_cum_s (n : Nat) : q_cum (n + 1) = q_cum n + (if 10 ≤ kd (n + 1) then q_N (kd (n + 1) - 10) else (q_lay (n + 1)).2) := rfl
theorem q_new_of {ph : Bool} {M : qM} {kind len : Nat} {k : Nat → qM → Prop} (h : q_new ph k False M kind len) : ph = true ∧ q_lay (M.1 + 1) = (kind, len) ∧ k (M.1 + 1) (qnew M) := by
  unfold q_new at h
  cases ph with
  | false => exact h.elim
  | true => exact ⟨rfl, q_if_t h⟩
theorem q_lay_nx {n kind len : Nat} (h : q_lay n = (kind, len)) (h0 : kind ≠ 0) (h6 : kind ≠ 6) (h7 : kind ≠ 7) : kd n = kind ∧ n ≤ q_NX ∧ (q_lay n).2 = len := by
  have e : kd n = kind := by unfold kd; rw [h]
  exact ⟨e, (q_lay_in (by rw [e]; exact h0) (by rw [e]; exact h6) (by rw [e]; exact h7)).2, by rw [h]⟩
set_option maxRecDepth 20000 in
theorem q_s_new {i : Nat} {ph : Bool} {y n0 kc ks pc : Nat} {M : qM} {ad : Nat → Nat} {H : Heap} {locs : List Loc} {ls : Array Slot} {Lc st : List qV} {x : List Nat} {nx : List qV → List qV → qM → Prop} {jp : Nat → List qV → Prop}
    (hF : q_Fx p R s m args meth c D cA ad0 adV L xs A y) (had : ∀ n, n ≤ n0 ∨ 999 ≤ n → ad n = ad0 n) (hL : q_LL ad M.1 (q_mxl y) ls Lc) (hst : ∀ v ∈ st, q_vok M.1 v) (hWd : q_Wd D cA ad L xs A ph M s H) (hS : va_S A s.heap H locs) (hn0 : n0 ≤ M.1)
    (hN : q_NX1 p l e R s m args below meth c Q D cA ad0 L xs A ph y n0 kc ks (pc + 3) M nx) (hroom : ∀ L' st', nx L' st' (qnew M) → kc + ((qnew M).1 - n0) ≤ R.cells ∧ ks + (q_cum (qnew M).1 - q_cum n0) ≤ R.slots) (hd : decode (q_by y) pc = .ok (.new i, 3))
    (hx0 : 10 ≤ qx x 0) (hx1 : qx x 0 < 22) (w1 : Cond.classLink (q_mn y).cls i (q_C (qx x 0 - 10)) ∈ q_words) (w2 : Cond.instantiable (q_C (qx x 0 - 10)) (q_N (qx x 0 - 10)) ∈ q_words) (w3 : Cond.initialized (q_C (qx x 0 - 10)) ∈ q_words)
    (h : q_new ph (fun n M' => nx Lc (vr n :: st) M') False M (qx x 0) 0) : W p l e R s m args below meth c H locs (kc + (M.1 - n0)) (ks + (q_cum M.1 - q_cum n0)) Q (F0 m pc ls (st.map (q_cv ad))) := by
  obtain ⟨hx, hb, hml, hown, hts, hrf, hrl, hnm, hSt, hA⟩ := hF
  obtain ⟨hph, hlay, g⟩ := q_new_of h
  obtain ⟨k1, k2, k3⟩ := q_lay_nx hlay (by omega) (by omega) (by omega)
  obtain ⟨i0, hi0⟩ : ∃ i0, qx x 0 = 10 + i0 := ⟨qx x 0 - 10, by omega⟩
  have hi1 : qx x 0 - 10 = i0 := by omega
  rw [hi1] at w1 w2 w3
  have hi2 : i0 < 12 := by omega
  obtain ⟨g1, g2, g3, g4, g5, g6, g7⟩ := id hWd
  have hcum : q_cum (M.1 + 1) = q_cum M.1 + q_N i0 := by rw [q_cum_s, if_pos (by omega), k1, hi0, show 10 + i0 - 10 = i0 by omega]
  have hr := hroom _ _ g
  have hr1 : kc + (M.1 - n0) + 1 ≤ R.cells := by have : kc + (M.1 + 1 - n0) ≤ R.cells := hr.1; omega
  have hmono : q_cum n0 ≤ q_cum M.1 := q_cum_le hn0
  have hr2 : ks + (q_cum M.1 - q_cum n0) + q_N i0 ≤ R.slots := by have : ks + (q_cum (M.1 + 1) - q_cum n0) ≤ R.slots := hr.2; omega
  refine va_new (ci := i0) (fs := q_fs ad (qnew M) (M.1 + 1) i0) hx hb hts (q_lays hi2) (q_ty i0) (q_ty_ok hi2) hown (hts _ w1) (hts _ w2) (hts _ w3) hSt.1 g1 g2 hS hA (q_cl_at hi2) ?_ hr1 hr2 hd (fun q H1 p1 p2 p3 => ?_)
  · intro j hj
    unfold vp_V
    rw [List.getD_eq_getElem?_getD, q_fs_get hj]
    show _ = q_fv ad (qnew M) (M.1 + 1) i0 j
    unfold q_fv
    rw [qn_I, qn_J, qn_R, if_pos rfl, if_pos rfl, if_pos rfl]
    rcases q_tc_in (q_ty i0 j) with t0 | t0 | t0 | t0
    · rw [q_tc_0 t0]; rfl
    · rw [q_tc_1 t0]; rfl
    · rw [if_neg (by omega), if_pos t0]
      have h1 := List.all_eq_true.mp (List.all_eq_true.mp q_rt_all i0 (List.mem_range.mpr hi2)) j (List.mem_range.mpr hj)
      generalize q_ty i0 j = t at t0 h1 ⊢
      cases t <;> first | rfl | (exfalso; exact absurd t0 (of_decide_eq_true h1))
    · rw [q_tc_3 t0]; rfl
  · have e : q_fs ad (qnew M) (M.1 + 1) i0 = q_fs (fun n => if n = M.1 + 1 then q else ad n) (qnew M) (M.1 + 1) i0 := by
      unfold q_fs
      congr 1
      funext j
      unfold q_fv
      rw [qn_R, if_pos rfl]
      rfl
    rw [e, ← q_ce_obj (cA := cA) (M := qnew M) (a := M.1 + 1) (i := i0) (by rw [k1, hi0])] at p1 p2
    exact q_new_end had hL hst hWd hn0 hph k2 hN g p1 p2 p3 (fun _ q => by omega) hcum hmono
theorem q_zero_i {ad : Nat → Nat} {M : qM} : (fun j => Int32.ofInt (mI (qnew M) (M.1 + 1) j)) = fun _ => (0 : Int32) := by
  funext j
  rw [qn_I, if_pos rfl]
  rfl
theorem q_zero_l {ad : Nat → Nat} {M : qM} : (fun j => Int64.ofInt (mJ (qnew M) (M.1 + 1) j)) = fun _ => (0 : Int64) := by
  funext j
  rw [qn_J, if_pos rfl]
  rfl
set_option maxRecDepth 20000 in
theorem q_s_newa {at9 : ArrayType} {ph : Bool} {y n0 kc ks pc : Nat} {M : qM} {ad : Nat → Nat} {H : Heap} {locs : List Loc} {ls : Array Slot} {Lc st : List qV} {x : List Nat} {nx : List qV → List qV → qM → Prop}
    (hF : q_Fx p R s m args meth c D cA ad0 adV L xs A y) (had : ∀ n, n ≤ n0 ∨ 999 ≤ n → ad n = ad0 n) (hL : q_LL ad M.1 (q_mxl y) ls Lc) (hst : ∀ v ∈ st, q_vok M.1 v) (hWd : q_Wd D cA ad L xs A ph M s H) (hS : va_S A s.heap H locs) (hn0 : n0 ≤ M.1)
    (hN : q_NX1 p l e R s m args below meth c Q D cA ad0 L xs A ph y n0 kc ks (pc + 2) M nx) (hroom : ∀ L' st', nx L' st' (qnew M) → kc + ((qnew M).1 - n0) ≤ R.cells ∧ ks + (q_cum (qnew M).1 - q_cum n0) ≤ R.slots) (hd : decode (q_by y) pc = .ok (.newarray at9, 2))
    (ht9 : newarray.typeOf at9 = q_at (qx x 0)) (hx0 : 1 ≤ qx x 0 ∧ qx x 0 ≤ 3) (w1 : Cond.arrayClass (q_at (qx x 0)) ∈ q_words)
    (h : qi1 st False (fun a r => if a < 0 then False else q_new ph (fun n M' => nx Lc (vr n :: r) M') False M (qx x 0) a.toNat)) : W p l e R s m args below meth c H locs (kc + (M.1 - n0)) (ks + (q_cum M.1 - q_cum n0)) Q (F0 m pc ls (st.map (q_cv ad))) := by
  obtain ⟨hx, hb, hml, hown, hts, hrf, hrl, hnm, hSt, hA⟩ := hF
  obtain ⟨a, r, e1, g⟩ := q_i1_of h
  subst e1
  have h1 := List.forall_mem_cons.mp hst
  rcases q_if_of g with ⟨-, g⟩ | ⟨ha0, g⟩
  · exact g.elim
  obtain ⟨hph, hlay, g⟩ := q_new_of g
  obtain ⟨k1, k2, k3⟩ := q_lay_nx hlay (by omega) (by omega) (by omega)
  obtain ⟨g1, g2, g3, g4, g5, g6, g7⟩ := id hWd
  have hle := q_lay_le (M.1 + 1)
  have hcum : q_cum (M.1 + 1) = q_cum M.1 + a.toNat := by rw [q_cum_s, if_neg (by omega), k3]
  have hr := hroom _ _ g
  have hr1 : kc + (M.1 - n0) + 1 ≤ R.cells := by have : kc + (M.1 + 1 - n0) ≤ R.cells := hr.1; omega
  have hmono : q_cum n0 ≤ q_cum M.1 := q_cum_le hn0
  have hr2 : ks + (q_cum M.1 - q_cum n0) + a.toNat ≤ R.slots := by have : ks + (q_cum (M.1 + 1) - q_cum n0) ≤ R.slots := hr.2; omega
  have hneg : ¬ Int32.ofInt a < 0 := fun q => ha0 ((q_lt h1.1 q_i0).mp q)
  have hA2 : ∀ (q : Nat) (cA2 : ClassId) (H1 : Heap) (a0 : vp_A), va_K D q_cl ([] ++ [(cA2, q_at (qx x 0))]) s → va_P D q_cl (q_ws cA ad M ++ [(q, .inl (cA2, a0))]) H1 → va_D A (q_ws cA ad M ++ [(q, .inl (cA2, a0))]) → va_S A s.heap H1 locs → q_ce cA (fun n => if n = M.1 + 1 then q else ad n) (qnew M) (M.1 + 1) = .inl (cA (qx x 0), a0) → W p l e R s m args below meth c H1 locs (kc + (M.1 - n0) + 1) (ks + (q_cum M.1 - q_cum n0) + a.toNat) Q (F0 m (pc + 2) ls (.ref q :: r.map (q_cv ad))) := by
    intro q cA2 H1 a0 pK p1 p2 p3 hce
    have pk := pK.2 0 _ rfl
    have ecA : cA2 = cA (qx x 0) := by
      refine hSt.2.1 (qx x 0) cA2 ?_
      have := pk.2
      rcases (show qx x 0 = 1 ∨ qx x 0 = 2 ∨ qx x 0 = 3 by omega) with z | z | z <;> rw [z] at this ⊢ <;> exact this
    subst ecA
    rw [← hce] at p1 p2
    exact q_new_end had hL h1.2 hWd hn0 hph k2 hN g p1 p2 p3 (fun _ _ => by rw [k1]; exact pk) hcum hmono
  have hz := q_ti h1.1
  have hN2 : (Int32.ofInt a).toNatClampNeg = a.toNat := q_clN h1.1
  rcases (show qx x 0 = 1 ∨ qx x 0 = 2 ∨ qx x 0 = 3 by omega) with z | z | z
  · refine va_newa (ty := q_at (qx x 0)) (a0 := (a.toNat, .inl (fun _ => 0))) hx hb (by rw [ht9]; exact hts _ w1) ht9 hSt.1 g1 g2 hS hA (fun cA2 => by rw [z]; rfl) hneg hN2 (by rw [z]; show a.toNat * 4 ≤ _; omega) hr1 hr2 hd (fun q cA2 H1 pK p1 p2 p3 => hA2 q cA2 H1 _ pK p1 p2 p3 ?_)
    rw [q_ce_int (k1.trans z) (Or.inl rfl), q_zero_i (ad := ad), k3, z]
  · refine va_newa (ty := q_at (qx x 0)) (a0 := (a.toNat, .inl (fun _ => 0))) hx hb (by rw [ht9]; exact hts _ w1) ht9 hSt.1 g1 g2 hS hA (fun cA2 => by rw [z]; rfl) hneg hN2 (by rw [z]; show a.toNat * 1 ≤ _; omega) hr1 hr2 hd (fun q cA2 H1 pK p1 p2 p3 => hA2 q cA2 H1 _ pK p1 p2 p3 ?_)
    rw [q_ce_int (k1.trans z) (Or.inr rfl), q_zero_i (ad := ad), k3, z]
  · refine va_newa (ty := q_at (qx x 0)) (a0 := (a.toNat, .inr (.inl (fun _ => 0)))) hx hb (by rw [ht9]; exact hts _ w1) ht9 hSt.1 g1 g2 hS hA (fun cA2 => by rw [z]; rfl) hneg hN2 (by rw [z]; show a.toNat * 8 ≤ _; omega) hr1 hr2 hd (fun q cA2 H1 pK p1 p2 p3 => hA2 q cA2 H1 _ pK p1 p2 p3 ?_)
    rw [q_ce_long (k1.trans z), q_zero_l (ad := ad), k3, z]
set_option maxRecDepth 20000 in
theorem q_s_anewa {i : Nat} {ph : Bool} {y n0 kc ks pc : Nat} {M : qM} {ad : Nat → Nat} {H : Heap} {locs : List Loc} {ls : Array Slot} {Lc st : List qV} {x : List Nat} {nx : List qV → List qV → qM → Prop}
    (hF : q_Fx p R s m args meth c D cA ad0 adV L xs A y) (had : ∀ n, n ≤ n0 ∨ 999 ≤ n → ad n = ad0 n) (hL : q_LL ad M.1 (q_mxl y) ls Lc) (hst : ∀ v ∈ st, q_vok M.1 v) (hWd : q_Wd D cA ad L xs A ph M s H) (hS : va_S A s.heap H locs) (hn0 : n0 ≤ M.1)
    (hN : q_NX1 p l e R s m args below meth c Q D cA ad0 L xs A ph y n0 kc ks (pc + 3) M nx) (hroom : ∀ L' st', nx L' st' (qnew M) → kc + ((qnew M).1 - n0) ≤ R.cells ∧ ks + (q_cum (qnew M).1 - q_cum n0) ≤ R.slots) (hd : decode (q_by y) pc = .ok (.anewarray i, 3))
    (hx0 : qx x 0 = 4 ∨ qx x 0 = 5) (w1 : Cond.classLink (q_mn y).cls i (if qx x 0 = 4 then RX3 else RX0) ∈ q_words)
    (h : qi1 st False (fun a r => if a < 0 then False else q_new ph (fun n M' => nx Lc (vr n :: r) M') False M (qx x 0) a.toNat)) : W p l e R s m args below meth c H locs (kc + (M.1 - n0)) (ks + (q_cum M.1 - q_cum n0)) Q (F0 m pc ls (st.map (q_cv ad))) := by
  obtain ⟨hx, hb, hml, hown, hts, hrf, hrl, hnm, hSt, hA⟩ := hF
  obtain ⟨a, r, e1, g⟩ := q_i1_of h
  subst e1
  have h1 := List.forall_mem_cons.mp hst
  rcases q_if_of g with ⟨-, g⟩ | ⟨ha0, g⟩
  · exact g.elim
  obtain ⟨hph, hlay, g⟩ := q_new_of g
  obtain ⟨k1, k2, k3⟩ := q_lay_nx hlay (by omega) (by omega) (by omega)
  obtain ⟨g1, g2, g3, g4, g5, g6, g7⟩ := id hWd
  have hle := q_lay_le (M.1 + 1)
  have hcum : q_cum (M.1 + 1) = q_cum M.1 + a.toNat := by rw [q_cum_s, if_neg (by omega), k3]
  have hr := hroom _ _ g
  have hr1 : kc + (M.1 - n0) + 1 ≤ R.cells := by have : kc + (M.1 + 1 - n0) ≤ R.cells := hr.1; omega
  have hmono : q_cum n0 ≤ q_cum M.1 := q_cum_le hn0
  have hr2 : ks + (q_cum M.1 - q_cum n0) + a.toNat ≤ R.slots := by have : ks + (q_cum (M.1 + 1) - q_cum n0) ≤ R.slots := hr.2; omega
  have hneg : ¬ Int32.ofInt a < 0 := fun q => ha0 ((q_lt h1.1 q_i0).mp q)
  have hN2 : (Int32.ofInt a).toNatClampNeg = a.toNat := q_clN h1.1
  have hzr : ∀ ad' : Nat → Nat, (fun j => q_ro ad' (mR (qnew M) (M.1 + 1) j)) = fun _ => none := fun ad' => by
    funext j
    rw [qn_R, if_pos rfl]
    rfl
  have hA2 : ∀ (q : Nat) (cA2 : ClassId) (H1 : Heap), va_K D q_cl ([] ++ [(cA2, q_at (qx x 0))]) s → va_P D q_cl (q_ws cA ad M ++ [(q, .inl (cA2, a.toNat, .inr (.inr (.inr (.inr (fun _ => none))))))]) H1 → va_D A (q_ws cA ad M ++ [(q, .inl (cA2, a.toNat, .inr (.inr (.inr (.inr (fun _ => none))))))]) → va_S A s.heap H1 locs → W p l e R s m args below meth c H1 locs (kc + (M.1 - n0) + 1) (ks + (q_cum M.1 - q_cum n0) + a.toNat) Q (F0 m (pc + 3) ls (.ref q :: r.map (q_cv ad))) := by
    intro q cA2 H1 pK p1 p2 p3
    have pk := pK.2 0 _ rfl
    have ecA : cA2 = cA (qx x 0) := by
      refine hSt.2.1 (qx x 0) cA2 ?_
      have := pk.2
      rcases hx0 with z | z <;> rw [z] at this ⊢ <;> (obtain ⟨_, _, _, _, _, q9⟩ := this; exact q9)
    subst ecA
    have hce : q_ce cA (fun n => if n = M.1 + 1 then q else ad n) (qnew M) (M.1 + 1) = .inl (cA (qx x 0), a.toNat, .inr (.inr (.inr (.inr (fun _ => none))))) := by
      rw [q_ce_ref k1 hx0, hzr, k3]
    rw [← hce] at p1 p2
    exact q_new_end had hL h1.2 hWd hn0 hph k2 hN g p1 p2 p3 (fun _ _ => by rw [k1]; exact pk) hcum hmono
  rcases hx0 with z | z
  · rw [z] at hA2 w1
    exact va_newq (C := RX3) hx hb hown (hts _ w1) hSt.2.2.2.1 hSt.1 g1 g2 hS hA hneg hN2 (by omega) hr1 hr2 hd (fun q cA2 H1 pK p1 p2 p3 => hA2 q cA2 H1 pK p1 p2 p3)
  · rw [z] at hA2 w1
    exact va_newq (C := RX0) hx hb hown (hts _ w1) hSt.2.2.2.2.1 hSt.1 g1 g2 hS hA hneg hN2 (by omega) hr1 hr2 hd (fun q cA2 H1 pK p1 p2 p3 => hA2 q cA2 H1 pK p1 p2 p3)
end QSTEP4

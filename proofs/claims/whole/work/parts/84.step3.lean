section QSTEP3
variable {p : Program} {l : Launch} {e : Env} {R : Room} {s : State} {m : MethodId} {args : Array Value} {below : List Frame} {meth : Method} {c : Code} {Q : State → Prop} {D : va_G} {cA : Nat → ClassId} {ad0 adV : Nat → Nat} {L : Nat} {xs : Nat → Int32} {A : Nat → Prop}
theorem q_cv_ref {ad : Nat → Nat} {n : Nat} (h : 1 ≤ n) : q_cv ad (vr n) = .ref (ad n) := by
  show va_rf (q_ro ad n) = _
  unfold q_ro
  rw [if_neg (by omega)]
  rfl
theorem q_rt_all : (List.range 12).all (fun i => (List.range (q_N i)).all (fun k => match q_ty i k with
  | .object _ => true
  | .array _ => true
  | t => decide (q_tc t ≠ 2))) = true := by decide +kernel
theorem q_rt_ok {i k : Nat} (hi : i < 12) (hk : k < q_N i) (h : q_tc (q_ty i k) = 2) (r : Option Nat) : narrow (q_ty i k) (va_rf r) = va_rf r ∧ fits (q_ty i k) (va_rf r) = true := by
  have h1 := List.all_eq_true.mp (List.all_eq_true.mp q_rt_all i (List.mem_range.mpr hi)) k (List.mem_range.mpr hk)
  generalize q_ty i k = t at h h1
  cases t <;> first | (cases r <;> exact ⟨rfl, rfl⟩) | (exfalso; revert h1; simp [h]; done) | (exfalso; exact absurd h (of_decide_eq_true h1))
theorem q_tc_in (t : FieldType) : q_tc t = 0 ∨ q_tc t = 1 ∨ q_tc t = 2 ∨ q_tc t = 3 := by
  unfold q_tc
  split <;> simp

set_option maxRecDepth 20000 in
theorem q_s_getf {i : Nat} {ph : Bool} {y n0 kc ks pc : Nat} {M : qM} {ad : Nat → Nat} {H : Heap} {locs : List Loc} {ls : Array Slot} {Lc st : List qV} {x : List Nat} {cl0 : Nat → List qV → Nat → List qV → Prop} {rt0 : qV → qM → Prop} {nx : List qV → List qV → qM → Prop} {jp : Nat → List qV → Prop} {len : Nat}
    (hF : q_Fx p R s m args meth c D cA ad0 adV L xs A y) (had : ∀ n, n ≤ n0 ∨ 999 ≤ n → ad n = ad0 n) (hL : q_LL ad M.1 (q_mxl y) ls Lc) (hst : ∀ v ∈ st, q_vok M.1 v) (hWd : q_Wd D cA ad L xs A ph M s H) (hS : va_S A s.heap H locs) (hn0 : n0 ≤ M.1)
    (hN : q_NX1 p l e R s m args below meth c Q D cA ad0 L xs A ph y n0 kc ks (pc + len) M nx) (hJ : q_JP1 p l e R s m args below meth c Q ad n0 kc ks M H locs ls jp) (hd : decode (q_by y) pc = .ok (.getfield i, len)) (hln : len = 3) (hc1 : qx x 0 < 12) (hc2 : qx x 1 < q_N (qx x 0)) (hc3 : q_tc (q_ty (qx x 0) (qx x 1)) = qx x 2) (hc4 : Cond.fieldLink (q_mn y).cls i (q_T (qx x 0) (qx x 1)).1 (q_T (qx x 0) (qx x 1)).2.1 (q_T (qx x 0) (qx x 1)).2.2.1 ∈ q_words) (h : q_ex (α := Prop) ph cl0 nx jp rt0 False Lc st M x (.getfield i)) : W p l e R s m args below meth c H locs (kc + (M.1 - n0)) (ks + (q_cum M.1 - q_cum n0)) Q (F0 m pc ls (st.map (q_cv ad))) := by
  subst hln
  obtain ⟨hx, hb, hml, hown, hts, hrf, hrl, hnm, hSt, hA⟩ := hF
  have n1 : ∀ (L' st' : List qV) (ls' : Array Slot), nx L' st' M → q_LL ad M.1 (q_mxl y) ls' L' → (∀ v ∈ st', q_vok M.1 v) → W p l e R s m args below meth c H locs (kc + (M.1 - n0)) (ks + (q_cum M.1 - q_cum n0)) Q (F0 m (pc + 3) ls' (st'.map (q_cv ad))) := fun L' st' ls' g h1 h2 => hN L' st' M ad H locs ls' g had h1 h2 hWd hS (Nat.le_refl _)
  obtain ⟨a, r, e1, g⟩ := q_r1_of (show qr1 st False (fun a r => if q_kd ph M a = 10 + qx x 0 then q_get (fun v => nx Lc (v :: r) M) M a (qx x 1) (qx x 2) else False) from h)
  subst e1
  obtain ⟨hk, g⟩ := q_if_t g
  have h1 := List.forall_mem_cons.mp hst
  obtain ⟨g1, g2, g3, g4, g5, g6, g7⟩ := id hWd
  obtain ⟨k1, k2, k3⟩ := q_kd_in g7 g6 hk (by omega) (by omega) (by omega)
  have he := q_ws_at (cA := cA) (ad := ad) k2 k3
  rw [q_ce_obj k1] at he
  rw [List.map_cons, q_cv_ref k2]
  refine va_get (v := q_fv ad M a (qx x 0) (qx x 1)) hx hb hts (q_lays hc1) hown hSt.1 g1 (a - 1) he (q_cl_at hc1) (qx x 1) hc2 (hts _ hc4) (fun _ h => h) (q_fs_get hc2) hd ?_
  unfold q_fv
  rw [hc3]
  unfold q_get at g
  rcases q_tc_in (q_ty (qx x 0) (qx x 1)) with t0 | t0 | t0 | t0 <;> rw [hc3] at t0 <;> rw [t0] at g ⊢
  · exact n1 _ _ _ g hL (List.forall_mem_cons.mpr ⟨g4.1 _ _, h1.2⟩)
  · exact n1 _ _ _ g hL (List.forall_mem_cons.mpr ⟨g4.2.1 _ _, h1.2⟩)
  · exact n1 _ _ _ g hL (List.forall_mem_cons.mpr ⟨Or.inl (g4.2.2 _ _), h1.2⟩)
  · exact n1 _ _ _ g hL (List.forall_mem_cons.mpr ⟨g4.1 _ _, h1.2⟩)
set_option maxRecDepth 20000 in
theorem q_s_putf {i : Nat} {ph : Bool} {y n0 kc ks pc : Nat} {M : qM} {ad : Nat → Nat} {H : Heap} {locs : List Loc} {ls : Array Slot} {Lc st : List qV} {x : List Nat} {cl0 : Nat → List qV → Nat → List qV → Prop} {rt0 : qV → qM → Prop} {nx : List qV → List qV → qM → Prop} {jp : Nat → List qV → Prop} {len : Nat}
    (hF : q_Fx p R s m args meth c D cA ad0 adV L xs A y) (had : ∀ n, n ≤ n0 ∨ 999 ≤ n → ad n = ad0 n) (hL : q_LL ad M.1 (q_mxl y) ls Lc) (hst : ∀ v ∈ st, q_vok M.1 v) (hWd : q_Wd D cA ad L xs A ph M s H) (hS : va_S A s.heap H locs) (hn0 : n0 ≤ M.1)
    (hN : q_NX1 p l e R s m args below meth c Q D cA ad0 L xs A ph y n0 kc ks (pc + len) M nx) (hJ : q_JP1 p l e R s m args below meth c Q ad n0 kc ks M H locs ls jp) (hd : decode (q_by y) pc = .ok (.putfield i, len)) (hln : len = 3) (hc1 : qx x 0 < 12) (hc2 : qx x 1 < q_N (qx x 0)) (hc3 : q_tc (q_ty (qx x 0) (qx x 1)) = qx x 2) (hc4 : Cond.fieldLink (q_mn y).cls i (q_T (qx x 0) (qx x 1)).1 (q_T (qx x 0) (qx x 1)).2.1 (q_T (qx x 0) (qx x 1)).2.2.1 ∈ q_words) (hc5 : (q_T (qx x 0) (qx x 1)).2.2.2 = true → (q_mn y).name = "<init>" ∧ (q_T (qx x 0) (qx x 1)).1 = (q_mn y).cls) (h : q_ex (α := Prop) ph cl0 nx jp rt0 False Lc st M x (.putfield i)) : W p l e R s m args below meth c H locs (kc + (M.1 - n0)) (ks + (q_cum M.1 - q_cum n0)) Q (F0 m pc ls (st.map (q_cv ad))) := by
  subst hln
  obtain ⟨hx, hb, hml, hown, hts, hrf, hrl, hnm, hSt, hA⟩ := hF
  have n1 : ∀ (L' st' : List qV) (ls' : Array Slot), nx L' st' M → q_LL ad M.1 (q_mxl y) ls' L' → (∀ v ∈ st', q_vok M.1 v) → W p l e R s m args below meth c H locs (kc + (M.1 - n0)) (ks + (q_cum M.1 - q_cum n0)) Q (F0 m (pc + 3) ls' (st'.map (q_cv ad))) := fun L' st' ls' g h1 h2 => hN L' st' M ad H locs ls' g had h1 h2 hWd hS (Nat.le_refl _)
  obtain ⟨a, v, r, e1, g⟩ := q_rp_of (show qrp st False (fun a v r => if q_kd ph M a = 10 + qx x 0 then q_put (fun M' => nx Lc r M') False M a (qx x 1) (qx x 2) v else False) from h)
  subst e1
  obtain ⟨hk, g⟩ := q_if_t g
  have h1 := List.forall_mem_cons.mp hst
  have h2 := List.forall_mem_cons.mp h1.2
  obtain ⟨g1, g2, g3, g4, g5, g6, g7⟩ := id hWd
  obtain ⟨k1, k2, k3⟩ := q_kd_in g7 g6 hk (by omega) (by omega) (by omega)
  have he := q_ws_at (cA := cA) (ad := ad) k2 k3
  rw [q_ce_obj k1] at he
  rw [List.map_cons, List.map_cons, q_cv_ref k2]
  have key : ∀ (M' : qM), M'.1 = M.1 → (∀ j, j ≠ qx x 1 → q_fv ad M' a (qx x 0) j = q_fv ad M a (qx x 0) j) → q_fv ad M' a (qx x 0) (qx x 1) = q_cv ad v → narrow (q_ty (qx x 0) (qx x 1)) (q_cv ad v) = q_cv ad v → fits (q_ty (qx x 0) (qx x 1)) (q_cv ad v) = true → (∀ H1, va_P D q_cl ((q_ws cA ad M).set (a - 1) (ad a, q_ce cA ad M' a)) H1 → va_D A ((q_ws cA ad M).set (a - 1) (ad a, q_ce cA ad M' a)) → q_Wd D cA ad L xs A ph M' s H1) → nx Lc r M' → W p l e R s m args below meth c H locs (kc + (M.1 - n0)) (ks + (q_cum M.1 - q_cum n0)) Q (F0 m pc ls (q_cv ad v :: .ref (ad a) :: r.map (q_cv ad))) := by
    intro M' hM' ho hv hn hf hw gg
    have hset : (q_fs ad M a (qx x 0)).set (qx x 1) (q_cv ad v) = q_fs ad M' a (qx x 0) := by rw [← hv]; exact q_fs_set hc2 ho
    have kk : ∀ (H1 : Heap) (locs1 : List Loc), va_P D q_cl ((q_ws cA ad M).set (a - 1) (ad a, .inr (qx x 0, (q_fs ad M a (qx x 0)).set (qx x 1) (q_cv ad v)))) H1 → va_D A ((q_ws cA ad M).set (a - 1) (ad a, .inr (qx x 0, (q_fs ad M a (qx x 0)).set (qx x 1) (q_cv ad v)))) → va_S A s.heap H1 locs1 → W p l e R s m args below meth c H1 locs1 (kc + (M.1 - n0)) (ks + (q_cum M.1 - q_cum n0)) Q (F0 m (pc + 3) ls (r.map (q_cv ad))) := by
      intro H1 locs1 p1 p2 p3
      rw [hset, ← q_ce_obj (cA := cA) k1] at p1 p2
      have := hN Lc r M' ad H1 locs1 ls gg had (by rw [hM']; exact hL) (by rw [hM']; exact h2.2) (hw H1 p1 p2) p3 (by rw [hM']; exact Nat.le_refl _)
      rw [hM'] at this
      exact this
    cases hfin : (q_T (qx x 0) (qx x 1)).2.2.2 with
    | false => exact va_put hx hb hts (q_lays hc1) (q_ty (qx x 0)) (q_ty_ok hc1) (q_nm_ok hc1) hown hSt.1 g1 g2 hS (a - 1) he (q_cl_at hc1) (qx x 1) hc2 (hts _ hc4) (fun _ h => h) hfin (q_ty_ok hc1 _ hc2) hn hf (by rw [q_fs_len]; exact hc2) hd kk
    | true =>
      obtain ⟨hi, hdc⟩ := hc5 hfin
      exact va_putF hx hb hts (q_lays hc1) (q_ty (qx x 0)) (q_ty_ok hc1) (q_nm_ok hc1) hown hSt.1 g1 g2 hS (a - 1) he (q_cl_at hc1) (qx x 1) hc2 (hts _ hc4) (fun _ h => h) hfin (hnm hi) hdc (q_ty_ok hc1 _ hc2) hn hf (by rw [q_fs_len]; exact hc2) hd kk
  have hI : ∀ z j, j ≠ qx x 1 → q_fv ad (sI M a (qx x 1) z) a (qx x 0) j = q_fv ad M a (qx x 0) j := fun z j hj => by
    unfold q_fv
    rw [show mI (sI M a (qx x 1) z) a j = mI M a j from if_neg (fun q => hj q.2)]
    rfl
  have hI2 : ∀ z, mI (sI M a (qx x 1) z) a (qx x 1) = z := fun z => if_pos ⟨rfl, rfl⟩
  unfold q_put at g
  rcases q_tc_in (q_ty (qx x 0) (qx x 1)) with t0 | t0 | t0 | t0 <;> rw [hc3] at t0 <;> rw [t0] at g hc3
  · obtain ⟨z, e2, g⟩ := q_vi_of g
    subst e2
    have t1 := q_tc_0 hc3
    exact key (sI M a (qx x 1) z) rfl (hI z) (by unfold q_fv; rw [hc3, hI2]; rfl) (by rw [t1]; rfl) (by rw [t1]; rfl) (fun H1 p1 p2 => q_Wd_I hWd k2 k3 h1.1 p1 p2) g
  · obtain ⟨z, e2, g⟩ := q_vl_of g
    subst e2
    have t1 := q_tc_1 hc3
    exact key (sJ M a (qx x 1) z) rfl (fun j hj => by
      unfold q_fv
      rw [show mJ (sJ M a (qx x 1) z) a j = mJ M a j from if_neg (fun q => hj q.2)]
      rfl) (by unfold q_fv; rw [hc3, show mJ (sJ M a (qx x 1) z) a (qx x 1) = z from if_pos ⟨rfl, rfl⟩]; rfl) (by rw [t1]; rfl) (by rw [t1]; rfl) (fun H1 p1 p2 => q_Wd_J hWd k2 k3 h1.1 p1 p2) g
  · obtain ⟨n, e2, g⟩ := q_vr_of g
    subst e2
    obtain ⟨hn, g⟩ := q_if_t g
    have hn2 : n ≤ M.1 := by
      rcases h1.1 with q | q
      · exact q
      · omega
    refine key (sR M a (qx x 1) n) rfl (fun j hj => by
      unfold q_fv
      rw [show mR (sR M a (qx x 1) n) a j = mR M a j from if_neg (fun q => hj q.2)]
      rfl) (by unfold q_fv; rw [hc3, show mR (sR M a (qx x 1) n) a (qx x 1) = n from if_pos ⟨rfl, rfl⟩]; rfl) ?_ ?_ (fun H1 p1 p2 => q_Wd_R hWd k2 k3 hn2 p1 p2) g
    · exact (q_rt_ok hc1 hc2 hc3 _).1
    · exact (q_rt_ok hc1 hc2 hc3 _).2
  · obtain ⟨z, e2, g⟩ := q_vi_of g
    subst e2
    obtain ⟨hz, g⟩ := q_if_t g
    have t1 := q_tc_3 hc3
    refine key (sI M a (qx x 1) z) rfl (hI z) (by unfold q_fv; rw [hc3, hI2]; rfl) ?_ ?_ (fun H1 p1 p2 => q_Wd_I hWd k2 k3 h1.1 p1 p2) g
    · rw [t1]; rcases hz with rfl | rfl <;> rfl
    · rw [t1]; rcases hz with rfl | rfl <;> rfl
set_option maxRecDepth 20000 in
theorem q_s_iaload  {ph : Bool} {y n0 kc ks pc : Nat} {M : qM} {ad : Nat → Nat} {H : Heap} {locs : List Loc} {ls : Array Slot} {Lc st : List qV} {x : List Nat} {cl0 : Nat → List qV → Nat → List qV → Prop} {rt0 : qV → qM → Prop} {nx : List qV → List qV → qM → Prop} {jp : Nat → List qV → Prop} {len : Nat}
    (hF : q_Fx p R s m args meth c D cA ad0 adV L xs A y) (had : ∀ n, n ≤ n0 ∨ 999 ≤ n → ad n = ad0 n) (hL : q_LL ad M.1 (q_mxl y) ls Lc) (hst : ∀ v ∈ st, q_vok M.1 v) (hWd : q_Wd D cA ad L xs A ph M s H) (hS : va_S A s.heap H locs) (hn0 : n0 ≤ M.1)
    (hN : q_NX1 p l e R s m args below meth c Q D cA ad0 L xs A ph y n0 kc ks (pc + len) M nx) (hJ : q_JP1 p l e R s m args below meth c Q ad n0 kc ks M H locs ls jp) (hd : decode (q_by y) pc = .ok (.iaload, len)) (hln : len = 1) (h : q_ex (α := Prop) ph cl0 nx jp rt0 False Lc st M x (.iaload)) : W p l e R s m args below meth c H locs (kc + (M.1 - n0)) (ks + (q_cum M.1 - q_cum n0)) Q (F0 m pc ls (st.map (q_cv ad))) := by
  subst hln
  obtain ⟨hx, hb, hml, hown, hts, hrf, hrl, hnm, hSt, hA⟩ := hF
  have n1 : ∀ (L' st' : List qV) (ls' : Array Slot), nx L' st' M → q_LL ad M.1 (q_mxl y) ls' L' → (∀ v ∈ st', q_vok M.1 v) → W p l e R s m args below meth c H locs (kc + (M.1 - n0)) (ks + (q_cum M.1 - q_cum n0)) Q (F0 m (pc + 1) ls' (st'.map (q_cv ad))) := fun L' st' ls' g h1 h2 => hN L' st' M ad H locs ls' g had h1 h2 hWd hS (Nat.le_refl _)
  obtain ⟨a, i, r, e1, g⟩ := q_ri_of (show qri st False (fun a i r => q_m (qx x 0) 0 (if q_kd ph M a = 1 then (if 0 ≤ i ∧ i < ln a then nx Lc (vi (mI M a i.toNat) :: r) M else False) else False) (if a = 999 then (if 0 ≤ i ∧ i < mI M 998 0 then nx Lc (vi (mI M 999 i.toNat) :: r) M else False) else False)) from h)
  subst e1
  rcases q_m_of g with ⟨-, g⟩ | ⟨-, g⟩
  · obtain ⟨hk, g⟩ := q_if_t g
    obtain ⟨⟨hi0, hi1⟩, g⟩ := q_if_t g
    have h1 := List.forall_mem_cons.mp hst
    have h2 := List.forall_mem_cons.mp h1.2
    obtain ⟨g1, g2, g3, g4, g5, g6, g7⟩ := id hWd
    obtain ⟨k1, k2, k3⟩ := q_kd_in g7 g6 hk (by omega) (by omega) (by omega)
    have he := q_ws_at (cA := cA) (ad := ad) k2 k3
    rw [q_ce_int k1 (Or.inl rfl)] at he
    have hK := q_at_tys hSt.1 g3 k2 k3 (by omega) (by omega)
    rw [k1] at hK
    rw [List.map_cons, List.map_cons, q_cv_ref k2]
    refine va_iald hx hb hK g1 (a - 1) 0 he rfl (q_vin h1.1 hi0 hi1) hd ?_
    rw [q_clN h1.1]
    exact n1 _ _ _ g hL (List.forall_mem_cons.mpr ⟨g4.1 _ _, h2.2⟩)
  · obtain ⟨ha, gg0⟩ := q_if_t g
    obtain ⟨⟨hi0, hi1⟩, gg⟩ := q_if_t gg0
    clear g gg0
    subst ha
    have h1 := List.forall_mem_cons.mp hst
    have h2 := List.forall_mem_cons.mp h1.2
    obtain ⟨g1, g2, g3, g4, ⟨g5, g51⟩, g6, g7⟩ := id hWd
    obtain ⟨-, -, -, -, -, -, -, sX, sB, sA, sL⟩ := hSt
    rw [List.map_cons, List.map_cons, q_cv_ref (by omega), had 999 (Or.inr (Nat.le_refl _))]
    have hin : vp_in (Int32.ofInt i) L := q_vin h1.1 hi0 (by omega)
    refine va_sld hx hb sX sB sA hS hin hd ?_
    rw [q_clN h1.1]
    have e3 : q_cv ad (vi (mI M 999 i.toNat)) = .int (xs i.toNat) := by
      show Value.int (Int32.ofInt (mI M 999 i.toNat)) = _
      rw [g51 _ (by omega), Int32.ofInt_toInt]
    have := n1 _ _ _ gg hL (List.forall_mem_cons.mpr ⟨g4.1 _ _, h2.2⟩)
    rw [List.map_cons, e3] at this
    exact this
set_option maxRecDepth 20000 in
theorem q_s_baload  {ph : Bool} {y n0 kc ks pc : Nat} {M : qM} {ad : Nat → Nat} {H : Heap} {locs : List Loc} {ls : Array Slot} {Lc st : List qV} {x : List Nat} {cl0 : Nat → List qV → Nat → List qV → Prop} {rt0 : qV → qM → Prop} {nx : List qV → List qV → qM → Prop} {jp : Nat → List qV → Prop} {len : Nat}
    (hF : q_Fx p R s m args meth c D cA ad0 adV L xs A y) (had : ∀ n, n ≤ n0 ∨ 999 ≤ n → ad n = ad0 n) (hL : q_LL ad M.1 (q_mxl y) ls Lc) (hst : ∀ v ∈ st, q_vok M.1 v) (hWd : q_Wd D cA ad L xs A ph M s H) (hS : va_S A s.heap H locs) (hn0 : n0 ≤ M.1)
    (hN : q_NX1 p l e R s m args below meth c Q D cA ad0 L xs A ph y n0 kc ks (pc + len) M nx) (hJ : q_JP1 p l e R s m args below meth c Q ad n0 kc ks M H locs ls jp) (hd : decode (q_by y) pc = .ok (.baload, len)) (hln : len = 1) (h : q_ex (α := Prop) ph cl0 nx jp rt0 False Lc st M x (.baload)) : W p l e R s m args below meth c H locs (kc + (M.1 - n0)) (ks + (q_cum M.1 - q_cum n0)) Q (F0 m pc ls (st.map (q_cv ad))) := by
  subst hln
  obtain ⟨hx, hb, hml, hown, hts, hrf, hrl, hnm, hSt, hA⟩ := hF
  have n1 : ∀ (L' st' : List qV) (ls' : Array Slot), nx L' st' M → q_LL ad M.1 (q_mxl y) ls' L' → (∀ v ∈ st', q_vok M.1 v) → W p l e R s m args below meth c H locs (kc + (M.1 - n0)) (ks + (q_cum M.1 - q_cum n0)) Q (F0 m (pc + 1) ls' (st'.map (q_cv ad))) := fun L' st' ls' g h1 h2 => hN L' st' M ad H locs ls' g had h1 h2 hWd hS (Nat.le_refl _)
  obtain ⟨a, i, r, e1, g⟩ := q_ri_of (show qri st False (fun a i r => if q_kd ph M a = 2 then (if 0 ≤ i ∧ i < ln a then nx Lc (vi (mI M a i.toNat) :: r) M else False) else False) from h)
  subst e1
  obtain ⟨hk, g⟩ := q_if_t g
  obtain ⟨⟨hi0, hi1⟩, g⟩ := q_if_t g
  have h1 := List.forall_mem_cons.mp hst
  have h2 := List.forall_mem_cons.mp h1.2
  obtain ⟨g1, g2, g3, g4, g5, g6, g7⟩ := id hWd
  obtain ⟨k1, k2, k3⟩ := q_kd_in g7 g6 hk (by omega) (by omega) (by omega)
  have he := q_ws_at (cA := cA) (ad := ad) k2 k3
  rw [q_ce_int k1 (Or.inr rfl)] at he
  have hK := q_at_tys hSt.1 g3 k2 k3 (by omega) (by omega)
  rw [k1] at hK
  rw [List.map_cons, List.map_cons, q_cv_ref k2]
  refine va_bald hx hb hK g1 (a - 1) 0 he rfl (q_vin h1.1 hi0 hi1) hd ?_
  rw [q_clN h1.1]
  exact n1 _ _ _ g hL (List.forall_mem_cons.mpr ⟨g4.1 _ _, h2.2⟩)
set_option maxRecDepth 20000 in
theorem q_s_laload  {ph : Bool} {y n0 kc ks pc : Nat} {M : qM} {ad : Nat → Nat} {H : Heap} {locs : List Loc} {ls : Array Slot} {Lc st : List qV} {x : List Nat} {cl0 : Nat → List qV → Nat → List qV → Prop} {rt0 : qV → qM → Prop} {nx : List qV → List qV → qM → Prop} {jp : Nat → List qV → Prop} {len : Nat}
    (hF : q_Fx p R s m args meth c D cA ad0 adV L xs A y) (had : ∀ n, n ≤ n0 ∨ 999 ≤ n → ad n = ad0 n) (hL : q_LL ad M.1 (q_mxl y) ls Lc) (hst : ∀ v ∈ st, q_vok M.1 v) (hWd : q_Wd D cA ad L xs A ph M s H) (hS : va_S A s.heap H locs) (hn0 : n0 ≤ M.1)
    (hN : q_NX1 p l e R s m args below meth c Q D cA ad0 L xs A ph y n0 kc ks (pc + len) M nx) (hJ : q_JP1 p l e R s m args below meth c Q ad n0 kc ks M H locs ls jp) (hd : decode (q_by y) pc = .ok (.laload, len)) (hln : len = 1) (h : q_ex (α := Prop) ph cl0 nx jp rt0 False Lc st M x (.laload)) : W p l e R s m args below meth c H locs (kc + (M.1 - n0)) (ks + (q_cum M.1 - q_cum n0)) Q (F0 m pc ls (st.map (q_cv ad))) := by
  subst hln
  obtain ⟨hx, hb, hml, hown, hts, hrf, hrl, hnm, hSt, hA⟩ := hF
  have n1 : ∀ (L' st' : List qV) (ls' : Array Slot), nx L' st' M → q_LL ad M.1 (q_mxl y) ls' L' → (∀ v ∈ st', q_vok M.1 v) → W p l e R s m args below meth c H locs (kc + (M.1 - n0)) (ks + (q_cum M.1 - q_cum n0)) Q (F0 m (pc + 1) ls' (st'.map (q_cv ad))) := fun L' st' ls' g h1 h2 => hN L' st' M ad H locs ls' g had h1 h2 hWd hS (Nat.le_refl _)
  obtain ⟨a, i, r, e1, g⟩ := q_ri_of (show qri st False (fun a i r => if q_kd ph M a = 3 then (if 0 ≤ i ∧ i < ln a then nx Lc (vl (mJ M a i.toNat) :: r) M else False) else False) from h)
  subst e1
  obtain ⟨hk, g⟩ := q_if_t g
  obtain ⟨⟨hi0, hi1⟩, g⟩ := q_if_t g
  have h1 := List.forall_mem_cons.mp hst
  have h2 := List.forall_mem_cons.mp h1.2
  obtain ⟨g1, g2, g3, g4, g5, g6, g7⟩ := id hWd
  obtain ⟨k1, k2, k3⟩ := q_kd_in g7 g6 hk (by omega) (by omega) (by omega)
  have he := q_ws_at (cA := cA) (ad := ad) k2 k3
  rw [q_ce_long k1] at he
  have hK := q_at_tys hSt.1 g3 k2 k3 (by omega) (by omega)
  rw [k1] at hK
  rw [List.map_cons, List.map_cons, q_cv_ref k2]
  refine va_lald hx hb hK g1 (a - 1) 0 he rfl (q_vin h1.1 hi0 hi1) hd ?_
  rw [q_clN h1.1]
  exact n1 _ _ _ g hL (List.forall_mem_cons.mpr ⟨g4.2.1 _ _, h2.2⟩)
set_option maxRecDepth 20000 in
theorem q_s_aaload  {ph : Bool} {y n0 kc ks pc : Nat} {M : qM} {ad : Nat → Nat} {H : Heap} {locs : List Loc} {ls : Array Slot} {Lc st : List qV} {x : List Nat} {cl0 : Nat → List qV → Nat → List qV → Prop} {rt0 : qV → qM → Prop} {nx : List qV → List qV → qM → Prop} {jp : Nat → List qV → Prop} {len : Nat}
    (hF : q_Fx p R s m args meth c D cA ad0 adV L xs A y) (had : ∀ n, n ≤ n0 ∨ 999 ≤ n → ad n = ad0 n) (hL : q_LL ad M.1 (q_mxl y) ls Lc) (hst : ∀ v ∈ st, q_vok M.1 v) (hWd : q_Wd D cA ad L xs A ph M s H) (hS : va_S A s.heap H locs) (hn0 : n0 ≤ M.1)
    (hN : q_NX1 p l e R s m args below meth c Q D cA ad0 L xs A ph y n0 kc ks (pc + len) M nx) (hJ : q_JP1 p l e R s m args below meth c Q ad n0 kc ks M H locs ls jp) (hd : decode (q_by y) pc = .ok (.aaload, len)) (hln : len = 1) (hx45 : qx x 0 = 4 ∨ qx x 0 = 5) (h : q_ex (α := Prop) ph cl0 nx jp rt0 False Lc st M x (.aaload)) : W p l e R s m args below meth c H locs (kc + (M.1 - n0)) (ks + (q_cum M.1 - q_cum n0)) Q (F0 m pc ls (st.map (q_cv ad))) := by
  subst hln
  obtain ⟨hx, hb, hml, hown, hts, hrf, hrl, hnm, hSt, hA⟩ := hF
  have n1 : ∀ (L' st' : List qV) (ls' : Array Slot), nx L' st' M → q_LL ad M.1 (q_mxl y) ls' L' → (∀ v ∈ st', q_vok M.1 v) → W p l e R s m args below meth c H locs (kc + (M.1 - n0)) (ks + (q_cum M.1 - q_cum n0)) Q (F0 m (pc + 1) ls' (st'.map (q_cv ad))) := fun L' st' ls' g h1 h2 => hN L' st' M ad H locs ls' g had h1 h2 hWd hS (Nat.le_refl _)
  obtain ⟨a, i, r, e1, g⟩ := q_ri_of (show qri st False (fun a i r => if q_kd ph M a = qx x 0 then (if 0 ≤ i ∧ i < ln a then nx Lc (vr (mR M a i.toNat) :: r) M else False) else False) from h)
  subst e1
  obtain ⟨hk, g⟩ := q_if_t g
  obtain ⟨⟨hi0, hi1⟩, g⟩ := q_if_t g
  have h1 := List.forall_mem_cons.mp hst
  have h2 := List.forall_mem_cons.mp h1.2
  obtain ⟨g1, g2, g3, g4, g5, g6, g7⟩ := id hWd
  obtain ⟨k1, k2, k3⟩ := q_kd_in g7 g6 hk (by omega) (by omega) (by omega)
  have he := q_ws_at (cA := cA) (ad := ad) k2 k3
  rw [q_ce_ref k1 hx45] at he
  have hK := q_at_tys hSt.1 g3 k2 k3 (by omega) (by omega)
  rw [k1] at hK
  rw [List.map_cons, List.map_cons, q_cv_ref k2]
  have gg := n1 _ _ _ g hL (List.forall_mem_cons.mpr ⟨Or.inl (g4.2.2 _ _), h2.2⟩)
  rcases hx45 with q | q <;> rw [q] at he hK
  · refine va_aldq (C := RX3) hx hb hK g1 (a - 1) 0 he rfl (q_vin h1.1 hi0 hi1) hd ?_
    rw [q_clN h1.1]
    exact gg
  · refine va_aldq (C := RX0) hx hb hK g1 (a - 1) 0 he rfl (q_vin h1.1 hi0 hi1) hd ?_
    rw [q_clN h1.1]
    exact gg
set_option maxRecDepth 20000 in
theorem q_s_iastore  {ph : Bool} {y n0 kc ks pc : Nat} {M : qM} {ad : Nat → Nat} {H : Heap} {locs : List Loc} {ls : Array Slot} {Lc st : List qV} {x : List Nat} {cl0 : Nat → List qV → Nat → List qV → Prop} {rt0 : qV → qM → Prop} {nx : List qV → List qV → qM → Prop} {jp : Nat → List qV → Prop} {len : Nat}
    (hF : q_Fx p R s m args meth c D cA ad0 adV L xs A y) (had : ∀ n, n ≤ n0 ∨ 999 ≤ n → ad n = ad0 n) (hL : q_LL ad M.1 (q_mxl y) ls Lc) (hst : ∀ v ∈ st, q_vok M.1 v) (hWd : q_Wd D cA ad L xs A ph M s H) (hS : va_S A s.heap H locs) (hn0 : n0 ≤ M.1)
    (hN : q_NX1 p l e R s m args below meth c Q D cA ad0 L xs A ph y n0 kc ks (pc + len) M nx) (hJ : q_JP1 p l e R s m args below meth c Q ad n0 kc ks M H locs ls jp) (hd : decode (q_by y) pc = .ok (.iastore, len)) (hln : len = 1) (h : q_ex (α := Prop) ph cl0 nx jp rt0 False Lc st M x (.iastore)) : W p l e R s m args below meth c H locs (kc + (M.1 - n0)) (ks + (q_cum M.1 - q_cum n0)) Q (F0 m pc ls (st.map (q_cv ad))) := by
  subst hln
  obtain ⟨hx, hb, hml, hown, hts, hrf, hrl, hnm, hSt, hA⟩ := hF
  have n1 : ∀ (L' st' : List qV) (ls' : Array Slot), nx L' st' M → q_LL ad M.1 (q_mxl y) ls' L' → (∀ v ∈ st', q_vok M.1 v) → W p l e R s m args below meth c H locs (kc + (M.1 - n0)) (ks + (q_cum M.1 - q_cum n0)) Q (F0 m (pc + 1) ls' (st'.map (q_cv ad))) := fun L' st' ls' g h1 h2 => hN L' st' M ad H locs ls' g had h1 h2 hWd hS (Nat.le_refl _)
  obtain ⟨a, i, v, r, e1, g⟩ := q_rv_of (show qrv st False (fun a i v r => qvi v False (fun z => if q_kd ph M a = 1 then (if 0 ≤ i ∧ i < ln a then nx Lc r (sI M a i.toNat z) else False) else False)) from h)
  subst e1
  obtain ⟨z, e2, g⟩ := q_vi_of g
  subst e2
  obtain ⟨hk, g⟩ := q_if_t g
  obtain ⟨⟨hi0, hi1⟩, g⟩ := q_if_t g
  have h1 := List.forall_mem_cons.mp hst
  have h2 := List.forall_mem_cons.mp h1.2
  have h3 := List.forall_mem_cons.mp h2.2
  obtain ⟨g1, g2, g3, g4, g5, g6, g7⟩ := id hWd
  obtain ⟨k1, k2, k3⟩ := q_kd_in g7 g6 hk (by omega) (by omega) (by omega)
  have he := q_ws_at (cA := cA) (ad := ad) k2 k3
  rw [q_ce_int k1 (Or.inl rfl)] at he
  have hK := q_at_tys hSt.1 g3 k2 k3 (by omega) (by omega)
  rw [k1] at hK
  rw [List.map_cons, List.map_cons, List.map_cons, q_cv_ref k2]
  refine va_iast hx hb hK g1 g2 hS (a - 1) 0 he rfl (q_vin h2.1 hi0 hi1) hd (fun H1 locs1 p1 p2 p3 => ?_)
  rw [q_clN h2.1] at p1 p2
  have e3 : upd (fun j => Int32.ofInt (mI M a j)) i.toNat (Int32.ofInt z) = fun j => Int32.ofInt (mI (sI M a i.toNat z) a j) := by
    funext j
    show (if j = i.toNat then Int32.ofInt z else Int32.ofInt (mI M a j)) = Int32.ofInt (if a = a ∧ j = i.toNat then z else mI M a j)
    by_cases q : j = i.toNat
    · rw [if_pos q, if_pos ⟨rfl, q⟩]
    · rw [if_neg q, if_neg (fun q2 => q q2.2)]
  
  rw [e3, ← q_ce_int (cA := cA) (M := (sI M a i.toNat z)) k1 (Or.inl rfl)] at p1 p2
  exact hN Lc r (sI M a i.toNat z) ad H1 locs1 ls g had hL h3.2 (q_Wd_I hWd k2 k3 h1.1 p1 p2) p3 (Nat.le_refl _)
set_option maxRecDepth 20000 in
theorem q_s_bastore  {ph : Bool} {y n0 kc ks pc : Nat} {M : qM} {ad : Nat → Nat} {H : Heap} {locs : List Loc} {ls : Array Slot} {Lc st : List qV} {x : List Nat} {cl0 : Nat → List qV → Nat → List qV → Prop} {rt0 : qV → qM → Prop} {nx : List qV → List qV → qM → Prop} {jp : Nat → List qV → Prop} {len : Nat}
    (hF : q_Fx p R s m args meth c D cA ad0 adV L xs A y) (had : ∀ n, n ≤ n0 ∨ 999 ≤ n → ad n = ad0 n) (hL : q_LL ad M.1 (q_mxl y) ls Lc) (hst : ∀ v ∈ st, q_vok M.1 v) (hWd : q_Wd D cA ad L xs A ph M s H) (hS : va_S A s.heap H locs) (hn0 : n0 ≤ M.1)
    (hN : q_NX1 p l e R s m args below meth c Q D cA ad0 L xs A ph y n0 kc ks (pc + len) M nx) (hJ : q_JP1 p l e R s m args below meth c Q ad n0 kc ks M H locs ls jp) (hd : decode (q_by y) pc = .ok (.bastore, len)) (hln : len = 1) (h : q_ex (α := Prop) ph cl0 nx jp rt0 False Lc st M x (.bastore)) : W p l e R s m args below meth c H locs (kc + (M.1 - n0)) (ks + (q_cum M.1 - q_cum n0)) Q (F0 m pc ls (st.map (q_cv ad))) := by
  subst hln
  obtain ⟨hx, hb, hml, hown, hts, hrf, hrl, hnm, hSt, hA⟩ := hF
  have n1 : ∀ (L' st' : List qV) (ls' : Array Slot), nx L' st' M → q_LL ad M.1 (q_mxl y) ls' L' → (∀ v ∈ st', q_vok M.1 v) → W p l e R s m args below meth c H locs (kc + (M.1 - n0)) (ks + (q_cum M.1 - q_cum n0)) Q (F0 m (pc + 1) ls' (st'.map (q_cv ad))) := fun L' st' ls' g h1 h2 => hN L' st' M ad H locs ls' g had h1 h2 hWd hS (Nat.le_refl _)
  obtain ⟨a, i, v, r, e1, g⟩ := q_rv_of (show qrv st False (fun a i v r => qvi v False (fun z => if q_kd ph M a = 2 then (if 0 ≤ i ∧ i < ln a then nx Lc r (sI M a i.toNat (Int.bmod z 256)) else False) else False)) from h)
  subst e1
  obtain ⟨z, e2, g⟩ := q_vi_of g
  subst e2
  obtain ⟨hk, g⟩ := q_if_t g
  obtain ⟨⟨hi0, hi1⟩, g⟩ := q_if_t g
  have h1 := List.forall_mem_cons.mp hst
  have h2 := List.forall_mem_cons.mp h1.2
  have h3 := List.forall_mem_cons.mp h2.2
  obtain ⟨g1, g2, g3, g4, g5, g6, g7⟩ := id hWd
  obtain ⟨k1, k2, k3⟩ := q_kd_in g7 g6 hk (by omega) (by omega) (by omega)
  have he := q_ws_at (cA := cA) (ad := ad) k2 k3
  rw [q_ce_int k1 (Or.inr rfl)] at he
  have hK := q_at_tys hSt.1 g3 k2 k3 (by omega) (by omega)
  rw [k1] at hK
  rw [List.map_cons, List.map_cons, List.map_cons, q_cv_ref k2]
  refine va_bast hx hb hK g1 g2 hS (a - 1) 0 he rfl (q_vin h2.1 hi0 hi1) hd (fun H1 locs1 p1 p2 p3 => ?_)
  rw [q_clN h2.1] at p1 p2
  have e3 : upd (fun j => Int32.ofInt (mI M a j)) i.toNat (vp_nar .byte (Int32.ofInt z)) = fun j => Int32.ofInt (mI (sI M a i.toNat (Int.bmod z 256)) a j) := by
    funext j
    show (if j = i.toNat then vp_nar .byte (Int32.ofInt z) else Int32.ofInt (mI M a j)) = Int32.ofInt (if a = a ∧ j = i.toNat then Int.bmod z 256 else mI M a j)
    by_cases q : j = i.toNat
    · rw [if_pos q, if_pos ⟨rfl, q⟩, vp_nar_byte, q_byte z h1.1]
    · rw [if_neg q, if_neg (fun q2 => q q2.2)]
  
  rw [e3, ← q_ce_int (cA := cA) (M := (sI M a i.toNat (Int.bmod z 256))) k1 (Or.inr rfl)] at p1 p2
  exact hN Lc r (sI M a i.toNat (Int.bmod z 256)) ad H1 locs1 ls g had hL h3.2 (q_Wd_I hWd k2 k3 (q_byte_ok z h1.1) p1 p2) p3 (Nat.le_refl _)
set_option maxRecDepth 20000 in
theorem q_s_lastore  {ph : Bool} {y n0 kc ks pc : Nat} {M : qM} {ad : Nat → Nat} {H : Heap} {locs : List Loc} {ls : Array Slot} {Lc st : List qV} {x : List Nat} {cl0 : Nat → List qV → Nat → List qV → Prop} {rt0 : qV → qM → Prop} {nx : List qV → List qV → qM → Prop} {jp : Nat → List qV → Prop} {len : Nat}
    (hF : q_Fx p R s m args meth c D cA ad0 adV L xs A y) (had : ∀ n, n ≤ n0 ∨ 999 ≤ n → ad n = ad0 n) (hL : q_LL ad M.1 (q_mxl y) ls Lc) (hst : ∀ v ∈ st, q_vok M.1 v) (hWd : q_Wd D cA ad L xs A ph M s H) (hS : va_S A s.heap H locs) (hn0 : n0 ≤ M.1)
    (hN : q_NX1 p l e R s m args below meth c Q D cA ad0 L xs A ph y n0 kc ks (pc + len) M nx) (hJ : q_JP1 p l e R s m args below meth c Q ad n0 kc ks M H locs ls jp) (hd : decode (q_by y) pc = .ok (.lastore, len)) (hln : len = 1) (h : q_ex (α := Prop) ph cl0 nx jp rt0 False Lc st M x (.lastore)) : W p l e R s m args below meth c H locs (kc + (M.1 - n0)) (ks + (q_cum M.1 - q_cum n0)) Q (F0 m pc ls (st.map (q_cv ad))) := by
  subst hln
  obtain ⟨hx, hb, hml, hown, hts, hrf, hrl, hnm, hSt, hA⟩ := hF
  have n1 : ∀ (L' st' : List qV) (ls' : Array Slot), nx L' st' M → q_LL ad M.1 (q_mxl y) ls' L' → (∀ v ∈ st', q_vok M.1 v) → W p l e R s m args below meth c H locs (kc + (M.1 - n0)) (ks + (q_cum M.1 - q_cum n0)) Q (F0 m (pc + 1) ls' (st'.map (q_cv ad))) := fun L' st' ls' g h1 h2 => hN L' st' M ad H locs ls' g had h1 h2 hWd hS (Nat.le_refl _)
  obtain ⟨a, i, v, r, e1, g⟩ := q_rv_of (show qrv st False (fun a i v r => qvl v False (fun z => if q_kd ph M a = 3 then (if 0 ≤ i ∧ i < ln a then nx Lc r (sJ M a i.toNat z) else False) else False)) from h)
  subst e1
  obtain ⟨z, e2, g⟩ := q_vl_of g
  subst e2
  obtain ⟨hk, g⟩ := q_if_t g
  obtain ⟨⟨hi0, hi1⟩, g⟩ := q_if_t g
  have h1 := List.forall_mem_cons.mp hst
  have h2 := List.forall_mem_cons.mp h1.2
  have h3 := List.forall_mem_cons.mp h2.2
  obtain ⟨g1, g2, g3, g4, g5, g6, g7⟩ := id hWd
  obtain ⟨k1, k2, k3⟩ := q_kd_in g7 g6 hk (by omega) (by omega) (by omega)
  have he := q_ws_at (cA := cA) (ad := ad) k2 k3
  rw [q_ce_long k1] at he
  have hK := q_at_tys hSt.1 g3 k2 k3 (by omega) (by omega)
  rw [k1] at hK
  rw [List.map_cons, List.map_cons, List.map_cons, q_cv_ref k2]
  refine va_last hx hb hK g1 g2 hS (a - 1) 0 he rfl (q_vin h2.1 hi0 hi1) hd (fun H1 locs1 p1 p2 p3 => ?_)
  rw [q_clN h2.1] at p1 p2
  have e3 : vp_updL (fun j => Int64.ofInt (mJ M a j)) i.toNat (Int64.ofInt z) = fun j => Int64.ofInt (mJ (sJ M a i.toNat z) a j) := by
    funext j
    show (if j = i.toNat then Int64.ofInt z else Int64.ofInt (mJ M a j)) = Int64.ofInt (if a = a ∧ j = i.toNat then z else mJ M a j)
    by_cases q : j = i.toNat
    · rw [if_pos q, if_pos ⟨rfl, q⟩]
    · rw [if_neg q, if_neg (fun q2 => q q2.2)]
  
  rw [e3, ← q_ce_long (cA := cA) (M := (sJ M a i.toNat z)) k1] at p1 p2
  exact hN Lc r (sJ M a i.toNat z) ad H1 locs1 ls g had hL h3.2 (q_Wd_J hWd k2 k3 h1.1 p1 p2) p3 (Nat.le_refl _)
set_option maxRecDepth 20000 in
theorem q_s_aastore  {ph : Bool} {y n0 kc ks pc : Nat} {M : qM} {ad : Nat → Nat} {H : Heap} {locs : List Loc} {ls : Array Slot} {Lc st : List qV} {x : List Nat} {cl0 : Nat → List qV → Nat → List qV → Prop} {rt0 : qV → qM → Prop} {nx : List qV → List qV → qM → Prop} {jp : Nat → List qV → Prop} {len : Nat}
    (hF : q_Fx p R s m args meth c D cA ad0 adV L xs A y) (had : ∀ n, n ≤ n0 ∨ 999 ≤ n → ad n = ad0 n) (hL : q_LL ad M.1 (q_mxl y) ls Lc) (hst : ∀ v ∈ st, q_vok M.1 v) (hWd : q_Wd D cA ad L xs A ph M s H) (hS : va_S A s.heap H locs) (hn0 : n0 ≤ M.1)
    (hN : q_NX1 p l e R s m args below meth c Q D cA ad0 L xs A ph y n0 kc ks (pc + len) M nx) (hJ : q_JP1 p l e R s m args below meth c Q ad n0 kc ks M H locs ls jp) (hd : decode (q_by y) pc = .ok (.aastore, len)) (hln : len = 1) (hx45 : (qx x 0 = 4 ∧ qx x 1 = 12) ∨ (qx x 0 = 5 ∧ qx x 1 = 10)) (h : q_ex (α := Prop) ph cl0 nx jp rt0 False Lc st M x (.aastore)) : W p l e R s m args below meth c H locs (kc + (M.1 - n0)) (ks + (q_cum M.1 - q_cum n0)) Q (F0 m pc ls (st.map (q_cv ad))) := by
  subst hln
  obtain ⟨hx, hb, hml, hown, hts, hrf, hrl, hnm, hSt, hA⟩ := hF
  have n1 : ∀ (L' st' : List qV) (ls' : Array Slot), nx L' st' M → q_LL ad M.1 (q_mxl y) ls' L' → (∀ v ∈ st', q_vok M.1 v) → W p l e R s m args below meth c H locs (kc + (M.1 - n0)) (ks + (q_cum M.1 - q_cum n0)) Q (F0 m (pc + 1) ls' (st'.map (q_cv ad))) := fun L' st' ls' g h1 h2 => hN L' st' M ad H locs ls' g had h1 h2 hWd hS (Nat.le_refl _)
  obtain ⟨a, i, v, r, e1, g⟩ := q_rv_of (show qrv st False (fun a i v r => qvr v False (fun n => if q_kd ph M a = qx x 0 then (if q_kd ph M n = qx x 1 then (if 0 ≤ i ∧ i < ln a then nx Lc r (sR M a i.toNat n) else False) else False) else False)) from h)
  subst e1
  obtain ⟨n, e2, g⟩ := q_vr_of g
  subst e2
  obtain ⟨hk, g⟩ := q_if_t g
  obtain ⟨hk2, g⟩ := q_if_t g
  obtain ⟨⟨hi0, hi1⟩, g⟩ := q_if_t g
  have h1 := List.forall_mem_cons.mp hst
  have h2 := List.forall_mem_cons.mp h1.2
  have h3 := List.forall_mem_cons.mp h2.2
  obtain ⟨g1, g2, g3, g4, g5, g6, g7⟩ := id hWd
  obtain ⟨k1, k2, k3⟩ := q_kd_in g7 g6 hk (by omega) (by omega) (by omega)
  rw [List.map_cons, List.map_cons, List.map_cons, q_cv_ref k2]
  rcases hx45 with ⟨q1, q2⟩ | ⟨q1, q2⟩
  · have hkn := q_kd_in g7 g6 hk2 (by omega) (by omega) (by omega)
    obtain ⟨j1, j2, j3⟩ := hkn
    rw [q1] at k1
    rw [q2] at j1
    have he := q_ws_at (cA := cA) (ad := ad) k2 k3
    rw [q_ce_ref k1 (Or.inl rfl)] at he
    have hen := q_ws_at (cA := cA) (ad := ad) j2 j3
    rw [q_ce_obj (i := 2) j1] at hen
    have hK := q_at_tys hSt.1 g3 k2 k3 (by omega) (by omega)
    rw [k1] at hK
    rw [q_cv_ref j2]
    refine va_astq (r := (q_C 2, q_T 2, q_N 2)) hx hb hK g1 g2 hS (a - 1) 0 (n - 1) 2 he rfl hen rfl (q_vin h2.1 hi0 hi1) hd (fun H1 locs1 p1 p2 p3 => ?_)
    rw [q_clN h2.1] at p1 p2
    have e3 : va_up (fun j => q_ro ad (mR M a j)) i.toNat (some (ad n)) = fun j => q_ro ad (mR (sR M a i.toNat n) a j) := by
      funext j
      show (if j = i.toNat then some (ad n) else q_ro ad (mR M a j)) = q_ro ad (if a = a ∧ j = i.toNat then n else mR M a j)
      by_cases q : j = i.toNat
      · rw [if_pos q, if_pos ⟨rfl, q⟩]; unfold q_ro; rw [if_neg (by omega)]
      · rw [if_neg q, if_neg (fun q2 => q q2.2)]
    rw [e3, ← q_ce_ref (cA := cA) (M := (sR M a i.toNat n)) k1 (Or.inl rfl)] at p1 p2
    exact hN Lc r (sR M a i.toNat n) ad H1 locs1 ls g had hL h3.2 (q_Wd_R hWd k2 k3 j3 p1 p2) p3 (Nat.le_refl _)
  · have hkn := q_kd_in g7 g6 hk2 (by omega) (by omega) (by omega)
    obtain ⟨j1, j2, j3⟩ := hkn
    rw [q1] at k1
    rw [q2] at j1
    have he := q_ws_at (cA := cA) (ad := ad) k2 k3
    rw [q_ce_ref k1 (Or.inr rfl)] at he
    have hen := q_ws_at (cA := cA) (ad := ad) j2 j3
    rw [q_ce_obj (i := 0) j1] at hen
    have hK := q_at_tys hSt.1 g3 k2 k3 (by omega) (by omega)
    rw [k1] at hK
    rw [q_cv_ref j2]
    refine va_astq (r := (q_C 0, q_T 0, q_N 0)) hx hb hK g1 g2 hS (a - 1) 0 (n - 1) 0 he rfl hen rfl (q_vin h2.1 hi0 hi1) hd (fun H1 locs1 p1 p2 p3 => ?_)
    rw [q_clN h2.1] at p1 p2
    have e3 : va_up (fun j => q_ro ad (mR M a j)) i.toNat (some (ad n)) = fun j => q_ro ad (mR (sR M a i.toNat n) a j) := by
      funext j
      show (if j = i.toNat then some (ad n) else q_ro ad (mR M a j)) = q_ro ad (if a = a ∧ j = i.toNat then n else mR M a j)
      by_cases q : j = i.toNat
      · rw [if_pos q, if_pos ⟨rfl, q⟩]; unfold q_ro; rw [if_neg (by omega)]
      · rw [if_neg q, if_neg (fun q2 => q q2.2)]
    rw [e3, ← q_ce_ref (cA := cA) (M := (sR M a i.toNat n)) k1 (Or.inr rfl)] at p1 p2
    exact hN Lc r (sR M a i.toNat n) ad H1 locs1 ls g had hL h3.2 (q_Wd_R hWd k2 k3 j3 p1 p2) p3 (Nat.le_refl _)
set_option maxRecDepth 20000 in
theorem q_s_alen  {ph : Bool} {y n0 kc ks pc : Nat} {M : qM} {ad : Nat → Nat} {H : Heap} {locs : List Loc} {ls : Array Slot} {Lc st : List qV} {x : List Nat} {cl0 : Nat → List qV → Nat → List qV → Prop} {rt0 : qV → qM → Prop} {nx : List qV → List qV → qM → Prop} {jp : Nat → List qV → Prop} {len : Nat}
    (hF : q_Fx p R s m args meth c D cA ad0 adV L xs A y) (had : ∀ n, n ≤ n0 ∨ 999 ≤ n → ad n = ad0 n) (hL : q_LL ad M.1 (q_mxl y) ls Lc) (hst : ∀ v ∈ st, q_vok M.1 v) (hWd : q_Wd D cA ad L xs A ph M s H) (hS : va_S A s.heap H locs) (hn0 : n0 ≤ M.1)
    (hN : q_NX1 p l e R s m args below meth c Q D cA ad0 L xs A ph y n0 kc ks (pc + len) M nx) (hJ : q_JP1 p l e R s m args below meth c Q ad n0 kc ks M H locs ls jp) (hd : decode (q_by y) pc = .ok (.arraylength, len)) (hln : len = 1) (hlt : qx x 0 < 6) (h : q_ex (α := Prop) ph cl0 nx jp rt0 False Lc st M x (.arraylength)) : W p l e R s m args below meth c H locs (kc + (M.1 - n0)) (ks + (q_cum M.1 - q_cum n0)) Q (F0 m pc ls (st.map (q_cv ad))) := by
  subst hln
  obtain ⟨hx, hb, hml, hown, hts, hrf, hrl, hnm, hSt, hA⟩ := hF
  have n1 : ∀ (L' st' : List qV) (ls' : Array Slot), nx L' st' M → q_LL ad M.1 (q_mxl y) ls' L' → (∀ v ∈ st', q_vok M.1 v) → W p l e R s m args below meth c H locs (kc + (M.1 - n0)) (ks + (q_cum M.1 - q_cum n0)) Q (F0 m (pc + 1) ls' (st'.map (q_cv ad))) := fun L' st' ls' g h1 h2 => hN L' st' M ad H locs ls' g had h1 h2 hWd hS (Nat.le_refl _)
  obtain ⟨a, r, e1, g⟩ := q_r1_of (show qr1 st False (fun a r => q_m (qx x 0) 0 (if a = 999 then nx Lc (vi (mI M 998 0) :: r) M else False) (if q_kd ph M a = qx x 0 then nx Lc (vi (ln a) :: r) M else False)) from h)
  subst e1
  have h1 := List.forall_mem_cons.mp hst
  obtain ⟨g1, g2, g3, g4, g5, g6, g7⟩ := id hWd
  rcases q_m_of g with ⟨-, g⟩ | ⟨hz, g⟩
  · obtain ⟨ha, gg⟩ := q_if_t g
    clear g
    subst ha
    obtain ⟨-, -, -, -, -, -, -, sX, sB, sA, sL⟩ := hSt
    rw [List.map_cons, q_cv_ref (by omega), had 999 (Or.inr (Nat.le_refl _))]
    refine va_slen hx hb sX sB sA hS hd ?_
    have := n1 _ _ _ gg hL (List.forall_mem_cons.mpr ⟨g4.1 _ _, h1.2⟩)
    rw [g5.1] at this
    exact this
  · obtain ⟨hk, g⟩ := q_if_t g
    obtain ⟨k1, k2, k3⟩ := q_kd_in g7 g6 hk (by omega) (by omega) (by omega)
    have he := q_ws_at (cA := cA) (ad := ad) k2 k3
    have hK := q_at_tys hSt.1 g3 k2 k3 (by omega) (by omega)
    rw [List.map_cons, q_cv_ref k2]
    have gg := n1 _ _ _ g hL (List.forall_mem_cons.mpr ⟨⟨by show (-2147483648 : Int) ≤ ((q_lay a).2 : Int); omega, by show ((q_lay a).2 : Int) < 2147483648; have := q_lay_le a; omega⟩, h1.2⟩)
    have e3 : ∃ xx : vp_A, q_ce cA ad M a = .inl (cA (kd a), xx) ∧ xx.1 = (q_lay a).2 := by
      rcases (show kd a = 1 ∨ kd a = 2 ∨ kd a = 3 ∨ kd a = 4 ∨ kd a = 5 by omega) with q | q | q | q | q
      · exact ⟨_, by rw [q_ce_int q (Or.inl rfl), q], rfl⟩
      · exact ⟨_, by rw [q_ce_int q (Or.inr rfl), q], rfl⟩
      · exact ⟨_, by rw [q_ce_long q, q], rfl⟩
      · exact ⟨_, by rw [q_ce_ref q (Or.inl rfl), q], rfl⟩
      · exact ⟨_, by rw [q_ce_ref q (Or.inr rfl), q], rfl⟩
    obtain ⟨xx, e3, e4⟩ := e3
    rw [e3] at he
    exact va_alen hx hb hK g1 (a - 1) 0 he rfl (v := Int32.ofInt (ln a)) (by rw [e4]; rfl) hd gg
end QSTEP3

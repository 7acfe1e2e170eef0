section QSTEP6
variable {p : Program} {l : Launch} {e : Env} {R : Room} {s : State} {m : MethodId} {args : Array Value} {below : List Frame} {meth : Method} {c : Code} {Q : State → Prop} {D : va_G} {cA : Nat → ClassId} {ad0 adV : Nat → Nat} {L : Nat} {xs : Nat → Int32} {A : Nat → Prop}
theorem q_good : q_words.all goodWord = true := List.all_eq_true.mpr fun w hw => (List.mem_filter.mp hw).2
theorem q_goodIn {y : Nat} (h : Cond.code (q_mn y) (q_by y) (q_mxl y) (q_rt y) ∈ q_words) : GoodIn q_words (q_wsm y) := by
  intro w hw
  rcases List.mem_cons.mp hw with q | q
  · rw [q]; exact ⟨h, good_of_word (List.all_eq_true.mp q_good _ h)⟩
  · exact ⟨q, good_of_word (List.all_eq_true.mp q_good _ q)⟩
theorem q_goodIn2 {z : Cond} (h : z ∈ q_words) : GoodIn q_words (z :: q_words) := by
  intro w hw
  rcases List.mem_cons.mp hw with q | q
  · rw [q]; exact ⟨h, good_of_word (List.all_eq_true.mp q_good _ h)⟩
  · exact ⟨q, good_of_word (List.all_eq_true.mp q_good _ q)⟩
/-- what a call needs of the tables -/
def q_cok (y : Nat) (x : List Nat) : Prop := q_rf (qx x 1) + 1 ≤ q_rf y ∧ 8 + (q_mxl (qx x 1) + 11) + q_rl (qx x 1) ≤ q_rl y ∧ (q_mn (qx x 1)).cls ≠ "java/lang/invoke/MethodHandle" ∧ (q_mn (qx x 1)).cls ≠ "java/lang/invoke/VarHandle" ∧ (qx x 3 = 0 ↔ q_rt (qx x 1) = none)
/-- what is asked of a called method -/
def q_CN (l : Launch) (ph : Bool) (M : qM) (nx : List qV → List qV → qM → Prop) (Lc : List qV) (call : Nat → List qV → Nat → List qV → Prop) : Prop := ∀ y' as rt r, call y' as rt r → y' ≠ q_LED → ∃ v M1, q_Met l ph y' as M v M1 ∧ (rt = 0 → nx Lc r M1) ∧ (rt ≠ 0 → nx Lc (v :: r) M1)
theorem q_inv_of {ph : Bool} {call : Nat → List qV → Nat → List qV → Prop} {st : List qV} {M : qM} {x : List Nat} {virt : Bool} (h : q_inv ph call False st M x virt) : ∃ as r, st = as.reverse ++ r ∧ as.length = qx x 2 ∧ qcat r ≤ 8 ∧ (q_args as).length ≤ q_mxl (qx x 1) ∧ (virt = true → ∃ a as', as = vr a :: as' ∧ q_kd ph M a = qx x 4) ∧ call (qx x 1) as (qx x 3) r := by
  obtain ⟨ps, r, h1, h2, h3⟩ := q_pop_of _ _ _ h
  rw [List.append_nil] at h3
  obtain ⟨h4, h5⟩ := q_m_t h3
  refine ⟨ps.reverse, r, by rw [List.reverse_reverse]; exact h1, by rw [List.length_reverse]; exact h2, by omega, by omega, ?_⟩
  cases virt with
  | false => exact ⟨fun q => (by cases q), h5⟩
  | true =>
    obtain ⟨a, as', e1, h6⟩ := q_hd_of h5
    obtain ⟨h7, h8⟩ := q_if_t h6
    exact ⟨fun _ => ⟨a, as', e1, h7⟩, h8⟩
theorem q_Met_use {ph : Bool} {y' : Nat} {as : List qV} {M : qM} {v : qV} {M1 : qM} (h : q_Met l ph y' as M v M1) (ha : (q_args as).length ≤ q_mxl y') (ad : Nat → Nat) (sz : Nat) : Met l (q_mn y') (q_wsm y') ({ frames := q_rf y', cells := M1.1 - M.1, slots := q_cum M1.1 - q_cum M.1, locals := q_rl y' }) (q_Pc D cA ad adV L xs ph M as sz) (fun _ st o t => ∃ ad' : Nat → Nat, (∀ n, n ≤ M.1 ∨ 999 ≤ n → ad' n = ad n) ∧ o = .returned (q_rv (q_rt y') (q_cv ad' v)) ∧ q_vok M1.1 v ∧ q_Wd D cA ad' L xs (va_A (q_ws cA ad M) sz) ph M1 t t.heap ∧ va_F (va_A (q_ws cA ad M) sz) st t) (M1.1 - M.1) (q_cum M1.1 - q_cum M.1) (va_A (q_ws cA ad M) sz) := h.2 ha D cA ad adV L xs sz
set_option maxRecDepth 20000 in
theorem q_s_invV {i : Nat} {ph : Bool} {y n0 kc ks pc : Nat} {M : qM} {ad : Nat → Nat} {H : Heap} {locs : List Loc} {ls : Array Slot} {Lc st : List qV} {x : List Nat} {nx : List qV → List qV → qM → Prop} {call : Nat → List qV → Nat → List qV → Prop}
    (hF : q_Fx p R s m args meth c D cA ad0 adV L xs A y) (had : ∀ n, n ≤ n0 ∨ 999 ≤ n → ad n = ad0 n) (hL : q_LL ad M.1 (q_mxl y) ls Lc) (hst : ∀ v ∈ st, q_vok M.1 v) (hWd : q_Wd D cA ad L xs A ph M s H) (hS : va_S A s.heap H locs) (hn0 : n0 ≤ M.1)
    (hN : q_NX1 p l e R s m args below meth c Q D cA ad0 L xs A ph y n0 kc ks (pc + 3) M nx) (hroom : ∀ L' st' M', nx L' st' M' → M.1 ≤ M'.1 → kc + (M'.1 - n0) ≤ R.cells ∧ ks + (q_cum M'.1 - q_cum n0) ≤ R.slots) (hC : q_CN l ph M nx Lc call) (hd : decode (q_by y) pc = .ok (.invokevirtual i, 3)) (hnl : qx x 1 ≠ q_LED)
    (hok : q_cok y x) (hpr : q_prm (qx x 1) = some (qx x 2 - 1)) (hx4 : 10 ≤ qx x 4 ∧ qx x 4 < 22) (hcl : (q_mn (qx x 1)).cls = q_C (qx x 4 - 10))
    (w1 : Cond.methodLink (q_mn y).cls i (q_mn (qx x 1)) ∈ q_words) (w2 : Cond.instanceMethod (q_mn (qx x 1)) ∈ q_words) (w3 : Cond.selects (q_mn (qx x 1)).cls (q_mn (qx x 1)) (q_mn (qx x 1)) ∈ q_words) (w4 : Cond.initialized (q_mn (qx x 1)).cls ∈ q_words) (w5 : Cond.code (q_mn (qx x 1)) (q_by (qx x 1)) (q_mxl (qx x 1)) (q_rt (qx x 1)) ∈ q_words)
    (h : q_inv ph call False st M x true) : W p l e R s m args below meth c H locs (kc + (M.1 - n0)) (ks + (q_cum M.1 - q_cum n0)) Q (F0 m pc ls (st.map (q_cv ad))) := by
  obtain ⟨hx, hb, hml, hown, hts, hrf, hrl, hnm, hSt, hA⟩ := hF
  obtain ⟨as, r, e1, hlen, hcat, harg, hv, hcall⟩ := q_inv_of h
  obtain ⟨a, as', e2, hk⟩ := hv rfl
  obtain ⟨v, M1, hMet, g0, g1⟩ := hC _ _ _ _ hcall hnl
  have hMM := hMet.1
  obtain ⟨o1, o2, o3, o4, o5⟩ := hok
  obtain ⟨k1, k2, k3⟩ := q_kd_in hWd.2.2.2.2.2.2 hWd.2.2.2.2.2.1 hk (by omega) (by omega) (by omega)
  have has : ∀ v ∈ as, q_vok M.1 v := fun v hv => hst v (by rw [e1]; exact List.mem_append_left _ (List.mem_reverse.mpr hv))
  have hr' : ∀ v ∈ r, q_vok M.1 v := fun v hv => hst v (by rw [e1]; exact List.mem_append_right _ hv)
  have hroom1 : kc + (M1.1 - n0) ≤ R.cells ∧ ks + (q_cum M1.1 - q_cum n0) ≤ R.slots := by
    by_cases z : qx x 3 = 0
    · exact hroom _ _ _ (g0 z) hMM
    · exact hroom _ _ _ (g1 z) hMM
  have hm1 := q_cum_le hMM
  have hm0 := q_cum_le hn0
  have he := q_ws_at (cA := cA) (ad := ad) k2 k3
  obtain ⟨i0, hi0⟩ : ∃ i0, qx x 4 = 10 + i0 := ⟨qx x 4 - 10, by omega⟩
  rw [q_ce_obj (i := i0) (by rw [k1, hi0])] at he
  have hcl2 : (q_mn (qx x 1)).cls = q_C i0 := by rw [hcl, hi0]; congr 1; omega
  have hrecv := va_recv hSt.1 hWd.1 (q_cl_at (i := i0) (by omega)) he
  have cw : CallW R s args (q_mn y).cls (q_mn (qx x 1)).cls i (q_mn (qx x 1)) (q_by (qx x 1)) (q_mxl (qx x 1)) (q_rt (qx x 1)) (q_wsm (qx x 1)) ({ frames := q_rf (qx x 1), cells := M1.1 - M.1, slots := q_cum M1.1 - q_cum M.1, locals := q_rl (qx x 1) }) (M1.1 - M.1) (q_cum M1.1 - q_cum M.1) (qx x 2 - 1) :=
    ⟨callB_of (qx x 2 - 1) hts (q_goodIn w5) rfl rfl rfl (hts _ w4) (hts _ w1) ⟨o3, o4, hpr⟩ ⟨by show q_rf (qx x 1) + 1 ≤ R.frames; omega, by show 8 + (q_mxl (qx x 1) + 11) + q_rl (qx x 1) ≤ R.locals; omega⟩, hts _ w2, hts _ w3⟩
  have hstk : st.map (q_cv ad) = (as'.map (q_cv ad)).reverse ++ Value.ref (ad a) :: r.map (q_cv ad) := by
    rw [e1, e2, List.map_append, List.map_reverse, List.map_cons, q_cv_ref k2, List.reverse_cons, List.append_assoc]
    rfl
  have hasm : as.map (q_cv ad) = Value.ref (ad a) :: as'.map (q_cv ad) := by rw [e2, List.map_cons, q_cv_ref k2]
  have hpre := q_pre (as := as) hSt (fun n hn => had n (Or.inr hn)) hS hWd hA has
  rw [hasm] at hpre
  rw [hstk]
  refine q_call_end had hL hr' hWd hS hA hn0 hMM hN (fun z => g0 (o5.mpr z)) (fun z => g1 (fun q => z (o5.mp q))) (as := as) ?_
  rw [hasm]
  exact va_runV ⟨hx, hb, hml, hown, hts⟩ (q_Met_use hMet harg ad H.size) cw ⟨q_blind, by rw [hcl2]; exact hrecv, hpre⟩ rfl (by rw [List.length_map]; rw [e2, List.length_cons] at hlen; omega) hL.2.1.1 rfl (lv_room (by rw [q_cat_sum]; exact hcat)) hd ⟨by omega, by omega⟩
set_option maxRecDepth 20000 in
theorem q_s_invI {i : Nat} {ph : Bool} {y n0 kc ks pc : Nat} {M : qM} {ad : Nat → Nat} {H : Heap} {locs : List Loc} {ls : Array Slot} {Lc st : List qV} {x : List Nat} {nx : List qV → List qV → qM → Prop} {call : Nat → List qV → Nat → List qV → Prop}
    (hF : q_Fx p R s m args meth c D cA ad0 adV L xs A y) (had : ∀ n, n ≤ n0 ∨ 999 ≤ n → ad n = ad0 n) (hL : q_LL ad M.1 (q_mxl y) ls Lc) (hst : ∀ v ∈ st, q_vok M.1 v) (hWd : q_Wd D cA ad L xs A ph M s H) (hS : va_S A s.heap H locs) (hn0 : n0 ≤ M.1)
    (hN : q_NX1 p l e R s m args below meth c Q D cA ad0 L xs A ph y n0 kc ks (pc + 3) M nx) (hroom : ∀ L' st' M', nx L' st' M' → M.1 ≤ M'.1 → kc + (M'.1 - n0) ≤ R.cells ∧ ks + (q_cum M'.1 - q_cum n0) ≤ R.slots) (hC : q_CN l ph M nx Lc call) (hd : decode (q_by y) pc = .ok (.invokespecial i, 3)) (hnl : qx x 1 ≠ q_LED)
    (hok : q_cok y x) (hpr : q_prm (qx x 1) = some (qx x 2 - 1)) (hx4 : 10 ≤ qx x 4 ∧ qx x 4 < 22) (hnm1 : (q_mn (qx x 1)).name = "<init>") (hrt : q_rt (qx x 1) = none)
    (w1 : Cond.methodLink (q_mn y).cls i (q_mn (qx x 1)) ∈ q_words ∨ Cond.methodLinkNest (q_mn y).cls i (q_mn (qx x 1)) RX11 ∈ q_nst) (w2 : Cond.instanceMethod (q_mn (qx x 1)) ∈ q_words) (w4 : Cond.initialized (q_mn (qx x 1)).cls ∈ q_words) (w5 : Cond.code (q_mn (qx x 1)) (q_by (qx x 1)) (q_mxl (qx x 1)) (q_rt (qx x 1)) ∈ q_words)
    (h : q_inv ph call False st M x true) : W p l e R s m args below meth c H locs (kc + (M.1 - n0)) (ks + (q_cum M.1 - q_cum n0)) Q (F0 m pc ls (st.map (q_cv ad))) := by
  obtain ⟨hx, hb, hml, hown, hts, hrf, hrl, hnm, hSt, hA⟩ := hF
  obtain ⟨as, r, e1, hlen, hcat, harg, hv, hcall⟩ := q_inv_of h
  obtain ⟨a, as', e2, hk⟩ := hv rfl
  obtain ⟨v, M1, hMet, g0, g1⟩ := hC _ _ _ _ hcall hnl
  have hMM := hMet.1
  obtain ⟨o1, o2, o3, o4, o5⟩ := hok
  obtain ⟨k1, k2, k3⟩ := q_kd_in hWd.2.2.2.2.2.2 hWd.2.2.2.2.2.1 hk (by omega) (by omega) (by omega)
  have has : ∀ v ∈ as, q_vok M.1 v := fun v hv => hst v (by rw [e1]; exact List.mem_append_left _ (List.mem_reverse.mpr hv))
  have hr' : ∀ v ∈ r, q_vok M.1 v := fun v hv => hst v (by rw [e1]; exact List.mem_append_right _ hv)
  have hroom1 : kc + (M1.1 - n0) ≤ R.cells ∧ ks + (q_cum M1.1 - q_cum n0) ≤ R.slots := by
    by_cases z : qx x 3 = 0
    · exact hroom _ _ _ (g0 z) hMM
    · exact hroom _ _ _ (g1 z) hMM
  have hm1 := q_cum_le hMM
  have hm0 := q_cum_le hn0
  have hstk : st.map (q_cv ad) = (as'.map (q_cv ad)).reverse ++ Value.ref (ad a) :: r.map (q_cv ad) := by
    rw [e1, e2, List.map_append, List.map_reverse, List.map_cons, q_cv_ref k2, List.reverse_cons, List.append_assoc]
    rfl
  have hasm : as.map (q_cv ad) = Value.ref (ad a) :: as'.map (q_cv ad) := by rw [e2, List.map_cons, q_cv_ref k2]
  have hpre := q_pre (as := as) hSt (fun n hn => had n (Or.inr hn)) hS hWd hA has
  rw [hasm] at hpre
  rw [hstk]
  have hM0 := q_Met_use (D := D) (cA := cA) (adV := adV) (L := L) (xs := xs) hMet harg ad H.size
  have hws : q_wsm (qx x 1) = Cond.code (q_mn (qx x 1)) (q_by (qx x 1)) (q_mxl (qx x 1)) none :: q_words := by unfold q_wsm; rw [hrt]
  have hroomf : q_rf (qx x 1) + 1 ≤ R.frames ∧ 8 + (q_mxl (qx x 1) + 11) + q_rl (qx x 1) ≤ R.locals := ⟨by omega, by omega⟩
  refine q_call_end had hL hr' hWd hS hA hn0 hMM hN (fun z => g0 (o5.mpr z)) (fun z => g1 (fun q => z (o5.mp q))) (as := as) ?_
  rw [hasm]
  rcases w1 with w1 | w1
  · exact va_runI ⟨hx, hb, hml, hown, hts⟩ hM0 (cwI (qx x 2 - 1) hts (q_goodIn w5) hws rfl rfl (hts _ w4) (hts _ w1) (hts _ w2) hnm1 ⟨o3, o4, hpr⟩ hroomf) ⟨q_blind, hpre⟩ rfl (by rw [List.length_map]; rw [e2, List.length_cons] at hlen; omega) hL.2.1.1 rfl (lv_room (by rw [q_cat_sum]; exact hcat)) hd ⟨by omega, by omega⟩
  · exact va_runIN ⟨hx, hb, hml, hown, hts⟩ hM0 ⟨va_cnB (qx x 2 - 1) hts (q_goodIn w5) hws rfl rfl (hSt.2.2.1 _ w1) (hts _ w4) ⟨o3, o4, hpr⟩ hroomf, hnm1, hts _ w2⟩ ⟨q_blind, hpre⟩ rfl (by rw [List.length_map]; rw [e2, List.length_cons] at hlen; omega) hL.2.1.1 rfl (lv_room (by rw [q_cat_sum]; exact hcat)) hd ⟨by omega, by omega⟩
set_option maxRecDepth 20000 in
theorem q_s_invS {i : Nat} {ph : Bool} {y n0 kc ks pc : Nat} {M : qM} {ad : Nat → Nat} {H : Heap} {locs : List Loc} {ls : Array Slot} {Lc st : List qV} {x : List Nat} {nx : List qV → List qV → qM → Prop} {call : Nat → List qV → Nat → List qV → Prop}
    (hF : q_Fx p R s m args meth c D cA ad0 adV L xs A y) (had : ∀ n, n ≤ n0 ∨ 999 ≤ n → ad n = ad0 n) (hL : q_LL ad M.1 (q_mxl y) ls Lc) (hst : ∀ v ∈ st, q_vok M.1 v) (hWd : q_Wd D cA ad L xs A ph M s H) (hS : va_S A s.heap H locs) (hn0 : n0 ≤ M.1)
    (hN : q_NX1 p l e R s m args below meth c Q D cA ad0 L xs A ph y n0 kc ks (pc + 3) M nx) (hroom : ∀ L' st' M', nx L' st' M' → M.1 ≤ M'.1 → kc + (M'.1 - n0) ≤ R.cells ∧ ks + (q_cum M'.1 - q_cum n0) ≤ R.slots) (hC : q_CN l ph M nx Lc call) (hd : decode (q_by y) pc = .ok (.invokestatic i, 3)) (hnl : qx x 1 ≠ q_LED)
    (hok : q_cok y x) (hpr : q_prm (qx x 1) = some (qx x 2))
    (w1 : Cond.methodLink (q_mn y).cls i (q_mn (qx x 1)) ∈ q_words) (w2 : Cond.static (q_mn (qx x 1)) ∈ q_words) (w4 : Cond.initialized (q_mn (qx x 1)).cls ∈ q_words) (w5 : Cond.code (q_mn (qx x 1)) (q_by (qx x 1)) (q_mxl (qx x 1)) (q_rt (qx x 1)) ∈ q_words)
    (h : q_inv ph call False st M x false) : W p l e R s m args below meth c H locs (kc + (M.1 - n0)) (ks + (q_cum M.1 - q_cum n0)) Q (F0 m pc ls (st.map (q_cv ad))) := by
  obtain ⟨hx, hb, hml, hown, hts, hrf, hrl, hnm, hSt, hA⟩ := hF
  obtain ⟨as, r, e1, hlen, hcat, harg, -, hcall⟩ := q_inv_of h
  obtain ⟨v, M1, hMet, g0, g1⟩ := hC _ _ _ _ hcall hnl
  have hMM := hMet.1
  obtain ⟨o1, o2, o3, o4, o5⟩ := hok
  have has : ∀ v ∈ as, q_vok M.1 v := fun v hv => hst v (by rw [e1]; exact List.mem_append_left _ (List.mem_reverse.mpr hv))
  have hr' : ∀ v ∈ r, q_vok M.1 v := fun v hv => hst v (by rw [e1]; exact List.mem_append_right _ hv)
  have hroom1 : kc + (M1.1 - n0) ≤ R.cells ∧ ks + (q_cum M1.1 - q_cum n0) ≤ R.slots := by
    by_cases z : qx x 3 = 0
    · exact hroom _ _ _ (g0 z) hMM
    · exact hroom _ _ _ (g1 z) hMM
  have hm1 := q_cum_le hMM
  have hm0 := q_cum_le hn0
  have hstk : st.map (q_cv ad) = (as.map (q_cv ad)).reverse ++ r.map (q_cv ad) := by rw [e1, List.map_append, List.map_reverse]
  have hpre := q_pre (as := as) hSt (fun n hn => had n (Or.inr hn)) hS hWd hA has
  rw [hstk]
  refine q_call_end had hL hr' hWd hS hA hn0 hMM hN (fun z => g0 (o5.mpr z)) (fun z => g1 (fun q => z (o5.mp q))) (as := as) ?_
  exact va_runS ⟨hx, hb, hml, hown, hts⟩ (q_Met_use hMet harg ad H.size) ⟨callB_of (qx x 2) hts (q_goodIn w5) rfl rfl rfl (hts _ w4) (hts _ w1) ⟨o3, o4, hpr⟩ ⟨by show q_rf (qx x 1) + 1 ≤ R.frames; omega, by show 8 + (q_mxl (qx x 1) + 11) + q_rl (qx x 1) ≤ R.locals; omega⟩, hts _ w2⟩ ⟨q_blind, hpre⟩ rfl (by rw [List.length_map]; exact hlen) hL.2.1.1 rfl (lv_room (by rw [q_cat_sum]; exact hcat)) hd ⟨by omega, by omega⟩
end QSTEP6

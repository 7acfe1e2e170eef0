/-! 'led' in the law: its own way is asked, and the law goes on -/
theorem q_gin {ws : List Cond} (hm : ∀ w ∈ ws, w ∈ q_words) : GoodIn q_words ws := fun w hw => ⟨hm w hw, good_of_word (List.mem_filter.mp (hm w hw)).2⟩
theorem q_ledG : GoodIn q_words (va_wsS RL 249 yL_led q_wsL) := by
  refine q_gin (fun w hw => ?_)
  unfold va_wsS at hw
  rcases List.mem_append.mp hw with h | h
  · rcases List.mem_cons.mp h with q | h
    · rw [q]; exact q_w_in (p := 1187) (by decide +kernel)
    · rcases List.mem_cons.mp h with q | h
      · rw [q]; exact q_w_in (p := 1188) (by decide +kernel)
      · rw [List.mem_singleton.mp h]; exact q_w_in (p := 90) (by decide +kernel)
  · rcases List.mem_cons.mp h with q | h
    · rw [q]; exact q_w_in (p := 1189) (by decide +kernel)
    · exact h
theorem dL_2042 : decode cL_law 2042 = .ok (.invokestatic 249, 3) := by decide +kernel
section QLEDW
variable {p : Program} {l : Launch} {e : Env} {R : Room} {s : State} {m : MethodId} {args : Array Value} {below : List Frame} {meth : Method} {c : Code} {Q : State → Prop} {D : va_G} {cA : Nat → ClassId} {ad0 adV : Nat → Nat} {L : Nat} {xs : Nat → Int32} {A : Nat → Prop}
set_option maxHeartbeats 4000000 in
set_option maxRecDepth 20000 in
theorem q_ledW (hJD : q_HJ l) (hOK : q_OK) (hlst : l.stackTraces = false) (hF : q_Fx p R s m args meth c D cA ad0 adV L xs A q_LAW) (hU : q_Ux A s s.heap) (hfr : q_rf q_XLED + 7 + 1 ≤ R.frames) (hlr : 8 + (4 + 11) + (q_rl q_XLED + 111) ≤ R.locals) {kc ks : Nat} (hc1 : kc + 283 + 1 ≤ R.cells) (hc2 : ks + (q_cum 283 - q_cum 0) + 6 ≤ R.slots) {t u : Nat} {I J I1 : Nat → Nat → Int} {i x : Int} {v : qV} (he : q_E (157, 0, [vr 1, vi x, vu, vu], []) (qk t u I J) = some (v, qk t u I1 J))
    (h1 : ∀ z, v = vi z → q_W p l e R s m args below meth c Q D cA ad0 L xs A false q_LAW 0 (kc + 1) (ks + 6) (303, 2045, [vr 999, vr 1, vr 265, vr 283, vi i, vu, vu], [vi 0]) (sJ (qk t u I1 J) 283 0 z))
    (h2 : v = vu → q_W p l e R s m args below meth c Q D cA ad0 L xs A false q_LAW 0 (kc + 1) (ks + 6) (303, 2045, [vr 999, vr 1, vr 265, vr 283, vi i, vu, vu], [vi 1]) (qk t u I1 J)) :
    q_W p l e R s m args below meth c Q D cA ad0 L xs A false q_LAW 0 kc ks (303, 2042, [vr 999, vr 1, vr 265, vr 283, vi i, vu, vu], [vr 283, vi x, vr 1]) (qk t u I J) := by
  obtain ⟨n, hrun⟩ := q_E_iff.mp he
  have hrun : q_run false n (q_ent q_XLED [vr 1, vi x]) (qk t u I J) = some (v, qk t u I1 J) := hrun
  obtain ⟨hx, hb, hml, hown, hts, hrf, hrl, hnm, hSt, hA⟩ := hF
  have hown : s.vm.findClass RL = some m.cls := hown
  have hb : c.code = cL_law := hb
  have hml : c.maxLocals = 7 := hml
  intro ad H locs ls had hL hst hWd hS hn0
  have hA' : ∀ q, va_A (q_ws cA ad (qk t u I J)) H.size q → A q := by
    intro q h
    rcases h with ⟨k, e, h⟩ | h
    · exact hWd.2.1.2 k (q, e) h
    · exact hA q (Nat.le_trans hS.1 h)
  have hMx := x_ledL (i := x) hJD hOK hlst hrun rfl rfl D cA ad adV L xs H.size
  have hvok : ∀ w ∈ [vr 1, vi x, vr 283], q_vok (qk t u I J).1 w := fun w hw => hst w (by
    rcases List.mem_cons.mp hw with q | hw
    · rw [q]; exact List.mem_cons_of_mem _ (List.mem_cons_of_mem _ List.mem_cons_self)
    · rcases List.mem_cons.mp hw with q | hw
      · rw [q]; exact List.mem_cons_of_mem _ List.mem_cons_self
      · rw [List.mem_singleton.mp hw]; exact List.mem_cons_self)
  have hk := hS.2.1
  have hpre : ∀ U : State, U.heap = H → s.WarmedH U.vm → q_PcX D cA ad adV L xs (qk t u I J) [vr 1, vi x, vr 283] H.size ([vr 1, vi x, vr 283].map (q_cv ad)).toArray U := by
    intro U hU' hW'
    refine ⟨rfl, by rw [hU'], q_St_call hSt (fun n hn => had n (Or.inr hn)) hS hWd.2.1 hA hU' hW', ?_, hvok, ?_, ?_, ?_⟩
    · rw [hU']; exact q_Wd_vm (q_Wd_A hWd (fun _ _ _ _ => trivial)) hW'.alike
    · rw [hU']; exact ((hU.1.kept hk).narrow hA').moved hW'.alike
    · rw [hU']; exact ((hU.2.1.kept hk).narrow hA').moved hW'.alike
    · exact q_Cs_al hW'.alike hU.2.2
  have cw := vx_cwSW (R := R) (s := s) (args := args) (own := RL) (index := 249) (maxL := 4) (mc := 1) (ms := 6) (y := yL_led) (bytes := cL_led) (ret := some .int) (hh := q_tabL) (Ts := q_words) (ws := q_wsL) (ws' := q_words) (rm := ({ frames := q_rf q_XLED + 7, cells := 1, slots := 6, locals := q_rl q_XLED + 111 } : Room)) 3 hts q_ledG rfl rfl rfl ⟨by decide +kernel, by decide +kernel, by decide +kernel⟩ ⟨hfr, hlr⟩
  have hr := vx_runSX (below := below) (e := e) (l := l) (meth := meth) (H := H) (locs := locs) (cells := kc + (283 - 0)) (slots := ks + (q_cum 283 - q_cum 0)) (g := F0 m 2042 ls [.ref (ad 283), .int (Int32.ofInt x), .ref (ad 1)]) (rest := []) (As := [.ref (ad 1), .int (Int32.ofInt x), .ref (ad 283)]) ⟨hx, hb, hml, hown, hts⟩ hMx cw ⟨q_blindX, hpre⟩ rfl rfl hL.2.1.1 rfl (lv_room (Nat.le_of_ble_eq_true rfl)) dL_2042 ⟨by omega, by omega⟩
  show W p l e R s m args below meth c H locs (kc + (283 - 0)) (ks + (q_cum 283 - q_cum 0)) Q (F0 m 2042 ls [.ref (ad 283), .int (Int32.ofInt x), .ref (ad 1)])
  have ec : kc + 1 + (283 - 0) = kc + (283 - 0) + 1 := by omega
  have es : ks + 6 + (q_cum 283 - q_cum 0) = ks + (q_cum 283 - q_cum 0) + 6 := by omega
  have hend : ∀ (st₀ t2 T' : State) (Lx : List Loc) (M2 : qM) (ad' : Nat → Nat), st₀.heap = H → T'.vm = t2.vm → s.WarmedH T'.vm → (∀ q ∈ Lx, va_A (q_ws cA ad (qk t u I J)) H.size q.base) → q_Wd D cA ad' L xs (va_A (q_ws cA ad (qk t u I J)) H.size) false M2 t2 t2.heap → va_F (va_A (q_ws cA ad (qk t u I J)) H.size) st₀ t2 → q_Wd D cA ad' L xs A false M2 s t2.heap ∧ va_S A s.heap t2.heap (locs ++ Lx) := by
    intro st₀ t2 T' Lx M2 ad' h0 e2 hW hLx hWx hFx
    obtain ⟨hz, hkk⟩ := hFx
    rw [h0] at hz hkk
    refine ⟨?_, ⟨Nat.le_trans hS.1 hz, fun q h1 h2 => by rw [hkk q (Nat.lt_of_lt_of_le h1 hS.1) (fun z => h2 (hA' q z))]; exact hS.2.1 q h1 h2, fun q hq => ?_⟩⟩
    · have h1 : s.vm.Alike t2.vm := by rw [← e2]; exact hW.alike
      exact q_Wd_vm (q_Wd_A hWx (fun _ q _ h => hA' q.1 h)) h1.symm
    · rcases List.mem_append.mp hq with h | h
      · exact hS.2.2 q h
      · exact hA' _ (hLx q h)
  intro T hT X
  rcases hr T hT X with ⟨v0, st₀, t2, T', Lx, h0, X', hLx, e1, e2, hq, st⟩ | ⟨q, st₀, t2, T', Lx, E, ce, h0, X', hLx, e1, e2, hxc, -⟩
  · rcases hq with ⟨z, ev, ho, ad', had', hWx, hFx⟩ | ⟨ev, ho, ad', had', hWx, hFx⟩
    · cases ho
      obtain ⟨g1, g2⟩ := hend st₀ t2 T' Lx _ ad' h0 e2 X'.warmed hLx hWx hFx
      have k : W p l e R s m args below meth c t2.heap (locs ++ Lx) (kc + 1 + (283 - 0)) (ks + 6 + (q_cum 283 - q_cum 0)) Q (F0 m 2045 ls [.int 0]) := h1 z ev ad' t2.heap (locs ++ Lx) ls (fun n hn => (had' n (by rcases hn with q | q; exact Or.inl (Nat.le_trans q (Nat.zero_le _)); exact Or.inr q)).trans (had n hn)) (q_LL_ext hL had' (Nat.le_refl _)) (fun w hw => by rw [List.mem_singleton.mp hw]; exact ⟨by decide, by decide⟩) g1 g2 (Nat.zero_le _)
      rw [ec, es] at k
      obtain ⟨t3, a1, b1⟩ := k T' e1 X'
      exact ⟨t3, st t3 a1, b1⟩
    · cases ho
      obtain ⟨g1, g2⟩ := hend st₀ t2 T' Lx _ ad' h0 e2 X'.warmed hLx hWx hFx
      have k : W p l e R s m args below meth c t2.heap (locs ++ Lx) (kc + 1 + (283 - 0)) (ks + 6 + (q_cum 283 - q_cum 0)) Q (F0 m 2045 ls [.int 1]) := h2 ev ad' t2.heap (locs ++ Lx) ls (fun n hn => (had' n (by rcases hn with q | q; exact Or.inl (Nat.le_trans q (Nat.zero_le _)); exact Or.inr q)).trans (had n hn)) (q_LL_ext hL had' (Nat.le_refl _)) (fun w hw => by rw [List.mem_singleton.mp hw]; exact ⟨by decide, by decide⟩) g1 g2 (Nat.zero_le _)
      rw [ec, es] at k
      obtain ⟨t3, a1, b1⟩ := k T' e1 X'
      exact ⟨t3, st t3 a1, b1⟩
  · exact hxc.elim
end QLEDW

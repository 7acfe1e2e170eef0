section QSTEP5
variable {p : Program} {l : Launch} {e : Env} {R : Room} {s : State} {m : MethodId} {args : Array Value} {below : List Frame} {meth : Method} {c : Code} {Q : State → Prop} {D : va_G} {cA : Nat → ClassId} {ad0 adV : Nat → Nat} {L : Nat} {xs : Nat → Int32} {A : Nat → Prop}
theorem q_after {H : Heap} {locs : List Loc} {cells slots mc ms pc : Nat} {ls : Array Slot} {st0 rest : List Value} {Qa : State → Outcome → State → Prop} {free : Addr → Prop} (hr : va_Run p l e R s m args below meth c H locs cells slots mc ms (F0 m pc ls st0) rest Qa free)
    (kk : ∀ (v : Option Value) (st t T' : State) (Lx : List Loc), st.heap = H → T'.heap = t.heap → T'.vm = t.vm → s.WarmedH T'.vm → (∀ q ∈ Lx, free q.base) → Qa st (.returned v) t → W p l e R s m args below meth c t.heap (locs ++ Lx) (cells + mc) (slots + ms) Q (F0 m (pc + 3) ls (v.toList ++ rest))) : W p l e R s m args below meth c H locs cells slots Q (F0 m pc ls st0) := by
  intro T hT X
  obtain ⟨v, st₀, t, T', Lx, h0, X', hL, e1, e2, hq, st⟩ := hr T hT X
  obtain ⟨t2, a1, b1⟩ := kk v st₀ t T' Lx h0 e1 e2 X'.warmed hL hq T' e1 X'
  exact ⟨t2, st t2 a1, b1⟩
theorem q_nst_ok : q_nst.all (fun w => match w with
  | .methodLinkNest _ _ _ _ => true
  | _ => false) = true := by decide +kernel
theorem q_nst_warm {U : State} (hW : s.WarmedH U.vm) (h : ∀ w ∈ q_nst, va_Nw w s) : ∀ w ∈ q_nst, va_Nw w U := by
  intro w hw
  have h1 := List.all_eq_true.mp q_nst_ok w hw
  have h2 := h w hw
  cases w with
  | methodLinkNest a i x hh => exact va_Nw.warmM hW h2
  | _ => cases h1
/-- what holds beside the memory holds for one who is called -/
theorem q_St_call {ad : Nat → Nat} {M : qM} {H : Heap} {locs : List Loc} (hSt : q_St D cA ad0 adV L xs A s s.heap) (had : ∀ n, 999 ≤ n → ad n = ad0 n) (hS : va_S A s.heap H locs) (hD : va_D A (q_ws cA ad M)) (hA : ∀ q, s.heap.size ≤ q → A q) {U : State} (hU : U.heap = H) (hW : s.WarmedH U.vm) : q_St D cA ad adV L xs (va_A (q_ws cA ad M) H.size) U U.heap := by
  obtain ⟨s1, s2, s3, s4, s5, s6, s7, s8, s9, s10, s11, s12, s13⟩ := hSt
  have hf : ∀ q, va_A (q_ws cA ad M) H.size q → A q := by
    intro q h
    rcases h with ⟨k, e, h⟩ | h
    · exact hD.2 k (q, e) h
    · exact hA q (Nat.le_trans hS.1 h)
  have hk := hS.2.1
  rw [hU]
  refine ⟨va_K.moved hW.alike s1, fun k c h => s2 k c (by rw [← hW.alike.findClass]; exact h), q_nst_warm hW s3, va_AO.moved hW.alike s4, va_AO.moved hW.alike s5, fun t ht => ?_, ?_, ?_, ?_, ?_, s11, ?_, ?_⟩
  · rw [had _ (by omega)]; exact vk_R.warm hW (s6 t ht)
  · have e : (fun k => ad (1000 + k)) = fun k => ad0 (1000 + k) := by funext k; exact had _ (by omega)
    rw [e]
    exact vk_S.moved hW.alike ((s7.kept hk).narrow hf)
  · rw [had _ (Nat.le_refl _)]
    exact va_X.moved hW.alike (s8.kept (hk _ s9 s10))
  · rw [had _ (Nat.le_refl _)]; exact Nat.lt_of_lt_of_le s9 hS.1
  · rw [had _ (Nat.le_refl _)]; exact fun q => s10 (hf _ q)
  · exact va_Z.moved hW.alike ((s12.kept hk).narrow hf)
  · exact va_Zq.moved hW.alike ((s13.kept hk).narrow hf)
theorem q_St_vm {A' : Nat → Prop} {U U' : State} {H : Heap} (h : q_St D cA ad0 adV L xs A' U H) (hv : U'.vm = U.vm) : q_St D cA ad0 adV L xs A' U' H := by
  obtain ⟨s1, s2, s3, s4, s5, s6, s7, s8, s9, s10, s11, s12, s13⟩ := h
  have hal : U.vm.Alike U'.vm := by rw [hv]; exact Vm.Alike.refl _
  refine ⟨va_K.moved hal s1, fun k c h => s2 k c (by rw [← hv]; exact h), fun w hw => ?_, va_AO.moved hal s4, va_AO.moved hal s5, fun t ht => vk_R.same hv (s6 t ht), vk_S.moved hal s7, va_X.moved hal s8, s9, s10, s11, va_Z.moved hal s12, va_Zq.moved hal s13⟩
  have h1 := List.all_eq_true.mp q_nst_ok w hw
  have h2 := s3 w hw
  cases w with
  | methodLinkNest a i x hh => exact va_Nw.same rfl hv.symm h2
  | _ => cases h1
theorem q_Wd_vm {A' : Nat → Prop} {ad : Nat → Nat} {ph : Bool} {M : qM} {U U' : State} {H : Heap} (h : q_Wd D cA ad L xs A' ph M U H) (hal : U.vm.Alike U'.vm) : q_Wd D cA ad L xs A' ph M U' H := by
  obtain ⟨g1, g2, g3, g4, g5, g6, g7⟩ := h
  exact ⟨g1, g2, fun n h1 h2 h3 h4 => ⟨arrOfT_moved hal (g3 n h1 h2 h3 h4).1, (g3 n h1 h2 h3 h4).2.moved hal⟩, g4, g5, g6, g7⟩
theorem q_Wd_A {A1 A2 : Nat → Prop} {ad : Nat → Nat} {ph : Bool} {M : qM} {U : State} {H : Heap} (h : q_Wd D cA ad L xs A1 ph M U H) (hA : ∀ (k : Nat) (q : Nat × va_E), (q_ws cA ad M)[k]? = some q → A1 q.1 → A2 q.1) : q_Wd D cA ad L xs A2 ph M U H := by
  obtain ⟨g1, g2, g3⟩ := h
  exact ⟨g1, g2.weaken hA, g3⟩
/-- a method's start -/
def q_Pc (D : va_G) (cA : Nat → ClassId) (ad adV : Nat → Nat) (L : Nat) (xs : Nat → Int32) (ph : Bool) (M : qM) (as : List qV) (sz : Nat) : Array Value → State → Prop := va_Pc (as.map (q_cv ad)) (fun U => U.heap.size = sz ∧ q_St D cA ad adV L xs (va_A (q_ws cA ad M) sz) U U.heap ∧ q_Wd D cA ad L xs (fun _ => True) ph M U U.heap ∧ ∀ v ∈ as, q_vok M.1 v)
theorem q_blind {ad : Nat → Nat} {ph : Bool} {M : qM} {as : List qV} {sz : Nat} : FrameBlind (q_Pc D cA ad adV L xs ph M as sz) := by
  intro a U g mk h
  obtain ⟨h1, h2, h3, h4, h5⟩ := h
  exact ⟨h1, h2, q_St_vm h3 rfl, q_Wd_vm h4 (Vm.Alike.refl _), h5⟩
theorem q_pre {ad : Nat → Nat} {ph : Bool} {M : qM} {as : List qV} {H : Heap} {locs : List Loc} (hSt : q_St D cA ad0 adV L xs A s s.heap) (had : ∀ n, 999 ≤ n → ad n = ad0 n) (hS : va_S A s.heap H locs) (hWd : q_Wd D cA ad L xs A ph M s H) (hA : ∀ q, s.heap.size ≤ q → A q) (has : ∀ v ∈ as, q_vok M.1 v) : ∀ U : State, U.heap = H → s.WarmedH U.vm → q_Pc D cA ad adV L xs ph M as H.size (as.map (q_cv ad)).toArray U := by
  intro U hU hW
  refine ⟨rfl, by rw [hU], q_St_call hSt had hS hWd.2.1 hA hU hW, ?_, has⟩
  rw [hU]
  exact q_Wd_vm (q_Wd_A hWd (fun _ _ _ _ => trivial)) hW.alike
/-- behind a call: the answer is on top, the memory is the one that the callee left -/
theorem q_call_end {ph : Bool} {y n0 kc ks pc : Nat} {M M1 : qM} {ad : Nat → Nat} {H : Heap} {locs : List Loc} {ls : Array Slot} {Lc r : List qV} {nx : List qV → List qV → qM → Prop} {rt : Option FieldType} {v : qV} {as : List qV}
    (had : ∀ n, n ≤ n0 ∨ 999 ≤ n → ad n = ad0 n) (hL : q_LL ad M.1 (q_mxl y) ls Lc) (hst : ∀ v ∈ r, q_vok M.1 v) (hWd : q_Wd D cA ad L xs A ph M s H) (hS : va_S A s.heap H locs) (hA : ∀ q, s.heap.size ≤ q → A q) (hn0 : n0 ≤ M.1) (hM1 : M.1 ≤ M1.1)
    (hN : q_NX1 p l e R s m args below meth c Q D cA ad0 L xs A ph y n0 kc ks (pc + 3) M nx) (g0 : rt = none → nx Lc r M1) (g1 : rt ≠ none → nx Lc (v :: r) M1) {st0 : List Value}
    (hr : va_Run p l e R s m args below meth c H locs (kc + (M.1 - n0)) (ks + (q_cum M.1 - q_cum n0)) (M1.1 - M.1) (q_cum M1.1 - q_cum M.1) (F0 m pc ls st0) (r.map (q_cv ad)) ((fun (_ : Array Value) (st : State) (o : Outcome) (t : State) => ∃ ad' : Nat → Nat, (∀ n, n ≤ M.1 ∨ 999 ≤ n → ad' n = ad n) ∧ o = .returned (q_rv rt (q_cv ad' v)) ∧ q_vok M1.1 v ∧ q_Wd D cA ad' L xs (va_A (q_ws cA ad M) H.size) ph M1 t t.heap ∧ va_F (va_A (q_ws cA ad M) H.size) st t) (as.map (q_cv ad)).toArray) (va_A (q_ws cA ad M) H.size)) :
    W p l e R s m args below meth c H locs (kc + (M.1 - n0)) (ks + (q_cum M.1 - q_cum n0)) Q (F0 m pc ls st0) := by
  have hf : ∀ q, va_A (q_ws cA ad M) H.size q → A q := by
    intro q h
    rcases h with ⟨k, e, h⟩ | h
    · exact hWd.2.1.2 k (q, e) h
    · exact hA q (Nat.le_trans hS.1 h)
  refine q_after hr (fun v' st t T' Lx h0 e1 e2 hW hLx hq => ?_)
  obtain ⟨ad', ha, ho, hv, hWd', hz, hk⟩ := hq
  rw [h0] at hz hk
  cases ho
  have hS' : va_S A s.heap t.heap (locs ++ Lx) := ⟨Nat.le_trans hS.1 hz, fun q h1 h2 => by rw [hk q (Nat.lt_of_lt_of_le h1 hS.1) (fun z => h2 (hf q z))]; exact hS.2.1 q h1 h2, fun q hq => by
    rcases List.mem_append.mp hq with h | h
    · exact hS.2.2 q h
    · exact hf _ (hLx q h)⟩
  have hWd2 : q_Wd D cA ad' L xs A ph M1 s t.heap := by
    have h1 : s.vm.Alike t.vm := by rw [← e2]; exact hW.alike
    have h2 : t.vm.Alike s.vm := h1.symm
    exact q_Wd_vm (q_Wd_A hWd' (fun _ q _ h => hf q.1 h)) h2
  have ec : kc + (M1.1 - n0) = kc + (M.1 - n0) + (M1.1 - M.1) := by omega
  have hm1 := q_cum_le hM1
  have hm0 := q_cum_le hn0
  have es : ks + (q_cum M1.1 - q_cum n0) = ks + (q_cum M.1 - q_cum n0) + (q_cum M1.1 - q_cum M.1) := by omega
  have hmap : r.map (q_cv ad') = r.map (q_cv ad) := q_map_ext ha hst
  have hst' : ∀ v ∈ r, q_vok M1.1 v := fun v hv => q_vok_le hM1 (hst v hv)
  have had' : ∀ n, n ≤ n0 ∨ 999 ≤ n → ad' n = ad0 n := fun n hn => (ha n (by omega)).trans (had n hn)
  cases rt with
  | none =>
    have := hN Lc r M1 ad' t.heap (locs ++ Lx) ls (g0 rfl) had' (q_LL_ext hL ha hM1) hst' hWd2 hS' hM1
    rw [ec, es, hmap] at this
    exact this
  | some ty =>
    have := hN Lc (v :: r) M1 ad' t.heap (locs ++ Lx) ls (g1 (by intro q; cases q)) had' (q_LL_ext hL ha hM1) (List.forall_mem_cons.mpr ⟨hv, hst'⟩) hWd2 hS' hM1
    rw [ec, es, List.map_cons, hmap] at this
    exact this
end QSTEP5

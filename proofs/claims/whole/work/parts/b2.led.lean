/-! 'led': the class's method that throws, the law's own way to ask it -/
abbrev q_nse : String := "java/util/NoSuchElementException"
abbrev q_nms : List String := ["java/lang/RuntimeException", "java/lang/Exception"]
/-- words of a throw that are not good ones: the tables alone decide them -/
def x_bad : List Cond := (vx_at0 RX11 366 q_nse q_nms).filter (fun w => !goodWord w)
set_option maxRecDepth 100000 in
theorem x_bad_f : x_bad.all (fun w => w.faceAtom && w.onTables) = true := by decide +kernel
set_option maxRecDepth 100000 in
theorem x_bad_c : x_bad.any (fun w => decide (w = .castable q_nse q_nse)) = true := by decide +kernel
set_option maxRecDepth 100000 in
theorem x_at_ot : (vx_at0 RX11 366 q_nse q_nms).all vx_ot = true := by decide +kernel
set_option maxRecDepth 100000 in
theorem x_at_in : (vx_at0 RX11 366 q_nse q_nms).all (fun w => lw_tbl.any (fun v => decide (v = w))) = true := by decide +kernel
def q_Cs (U : State) : Prop := ∀ w ∈ x_bad, va_Nw w U
theorem q_Cs_al {s U : State} (hal : s.vm.Alike U.vm) (h : q_Cs s) : q_Cs U := fun w hw => by
  obtain ⟨h1, h2⟩ := Bool.and_eq_true_iff.mp (List.all_eq_true.mp x_bad_f w hw)
  exact va_tabs h2 (rfl : (s.setVm U.vm).vm = U.vm) (Cond.faceAtom_setVm hal w h1 (h w hw))
theorem q_Cs_use {s : State} {args : Array Value} (h : q_Cs s) {w : Cond} (hw : w ∈ x_bad) : w.before args s = true := by
  obtain ⟨h1, h2⟩ := Bool.and_eq_true_iff.mp (List.all_eq_true.mp x_bad_f w hw)
  exact va_Nw.use h2 (h w hw)
theorem q_Cs_c {s : State} {args : Array Value} (h : q_Cs s) : (Cond.castable q_nse q_nse).before args s = true := by
  obtain ⟨w, hw, e⟩ := List.any_eq_true.mp x_bad_c
  have e : w = .castable q_nse q_nse := of_decide_eq_true e
  rw [← e]
  exact q_Cs_use h hw
def q_Ux (A : Nat → Prop) (U : State) (H : Heap) : Prop := vx_Zq Bundle.tN "UNASSIGNED_STACK" Bundle.steD A U H ∧ vx_Zq Bundle.tN "SUPPRESSED_SENTINEL" Bundle.listD A U H ∧ q_Cs U
theorem x_at {args : Array Value} {s : State} (h : ∀ w ∈ q_words, w.before args s = true) (hc : q_Cs s) : ∀ w ∈ vx_at0 RX11 366 q_nse q_nms, w.before args s = true := fun w hw => by
  by_cases g : goodWord w = true
  · obtain ⟨v, hv, e⟩ := List.any_eq_true.mp (List.all_eq_true.mp x_at_in w hw)
    have e : v = w := of_decide_eq_true e
    exact h w (List.mem_filter.mpr ⟨e ▸ hv, g⟩)
  · refine q_Cs_use hc (List.mem_filter.mpr ⟨hw, ?_⟩)
    show (!goodWord w) = true
    cases q : goodWord w
    · rfl
    · exact absurd q g
set_option maxRecDepth 100000 in
theorem x_pcs : (List.range 47).all (fun pc => match decode cX11_led pc with
  | .ok (.new i, _) => decide (pc = 39 ∧ i = 364)
  | _ => true) = true := by decide +kernel
theorem dx_39 : decode cX11_led 39 = .ok (.new 364, 3) := by decide +kernel
theorem dx_42 : decode cX11_led 42 = .ok (.dup, 1) := by decide +kernel
theorem dx_43 : decode cX11_led 43 = .ok (.invokespecial 366, 3) := by decide +kernel
theorem dx_46 : decode cX11_led 46 = .ok (.athrow, 1) := by decide +kernel
theorem dl_0 : decode cL_led 0 = .ok (.aload_n 2, 1) := by decide +kernel
theorem dl_1 : decode cL_led 1 = .ok (.iconst 0, 1) := by decide +kernel
theorem dl_2 : decode cL_led 2 = .ok (.aload_n 0, 1) := by decide +kernel
theorem dl_3 : decode cL_led 3 = .ok (.iload_n 1, 1) := by decide +kernel
theorem dl_4 : decode cL_led 4 = .ok (.invokevirtual 7, 3) := by decide +kernel
theorem dl_7 : decode cL_led 7 = .ok (.i2l, 1) := by decide +kernel
theorem dl_8 : decode cL_led 8 = .ok (.lastore, 1) := by decide +kernel
theorem dl_9 : decode cL_led 9 = .ok (.goto 6, 3) := by decide +kernel
theorem dl_12 : decode cL_led 12 = .ok (.astore_n 3, 1) := by decide +kernel
theorem dl_13 : decode cL_led 13 = .ok (.iconst 1, 1) := by decide +kernel
theorem dl_14 : decode cL_led 14 = .ok (.ireturn, 1) := by decide +kernel
theorem dl_15 : decode cL_led 15 = .ok (.iconst 0, 1) := by decide +kernel
theorem dl_16 : decode cL_led 16 = .ok (.ireturn, 1) := by decide +kernel
/-- the world behind: nothing is made but what is thrown -/
def q_Wx (D : va_G) (cA : Nat → ClassId) (ad0 : Nat → Nat) (L : Nat) (xs : Nat → Int32) (A : Nat → Prop) (M1 : qM) (st t : State) : Prop := ∃ ad' : Nat → Nat, (∀ n, n ≤ q_NX ∨ 999 ≤ n → ad' n = ad0 n) ∧ q_Wd D cA ad' L xs A false M1 t t.heap ∧ va_F A st t
def q_QcX (D : va_G) (cA : Nat → ClassId) (ad0 : Nat → Nat) (L : Nat) (xs : Nat → Int32) (A : Nat → Prop) (v : qV) (M1 : qM) : Array Value → State → Outcome → State → Prop := fun _ st o t => ∃ z : Int, v = vi z ∧ q_i32 z ∧ o = .returned (some (.int (Int32.ofInt z))) ∧ q_Wx D cA ad0 L xs A M1 st t
def q_XCX (D : va_G) (cA : Nat → ClassId) (ad0 : Nat → Nat) (L : Nat) (xs : Nat → Int32) (A : Nat → Prop) (v : qV) (M1 : qM) : String → State → State → Prop := fun E st t => v = vu ∧ E = q_nse ∧ q_Wx D cA ad0 L xs A M1 st t
def q_PcX (D : va_G) (cA : Nat → ClassId) (ad adV : Nat → Nat) (L : Nat) (xs : Nat → Int32) (M : qM) (as : List qV) (sz : Nat) : Array Value → State → Prop := va_Pc (as.map (q_cv ad)) (fun U => U.heap.size = sz ∧ q_St D cA ad adV L xs (va_A (q_ws cA ad M) sz) U U.heap ∧ q_Wd D cA ad L xs (fun _ => True) false M U U.heap ∧ (∀ v ∈ as, q_vok M.1 v) ∧ q_Ux (va_A (q_ws cA ad M) sz) U U.heap)
theorem q_blindX {D : va_G} {cA : Nat → ClassId} {ad adV : Nat → Nat} {L : Nat} {xs : Nat → Int32} {M : qM} {as : List qV} {sz : Nat} : FrameBlind (q_PcX D cA ad adV L xs M as sz) := by
  intro a U g mk h
  obtain ⟨h1, h2, h3, h4, h5, h6, h7, h8⟩ := h
  exact ⟨h1, h2, q_St_vm h3 rfl, q_Wd_vm h4 (Vm.Alike.refl _), h5, h6.moved (Vm.Alike.refl _), h7.moved (Vm.Alike.refl _), q_Cs_al (s := U) (Vm.Alike.refl _) h8⟩
/-- a world, its heap grown -/
theorem q_Wd_grow {D : va_G} {cA : Nat → ClassId} {ad : Nat → Nat} {L : Nat} {xs : Nat → Int32} {A : Nat → Prop} {ph : Bool} {M : qM} {U U' : State} {H H1 : Heap} (h : q_Wd D cA ad L xs A ph M U H) (hal : U.vm.Alike U'.vm) (hk : ∀ q : Nat, q < H.size → H1[q]? = H[q]?) : q_Wd D cA ad L xs A ph M U' H1 := by
  obtain ⟨g1, g2⟩ := q_Wd_vm h hal
  exact ⟨g1.kept (fun k q hq => hk q.1 (g1 k q hq).lt), g2⟩
section QBODYX
variable {p : Program} {l : Launch} {e : Env} {R : Room} {s : State} {m : MethodId} {args : Array Value} {below : List Frame} {meth : Method} {c : Code} {D : va_G} {cA : Nat → ClassId} {ad0 adV : Nat → Nat} {L : Nat} {xs : Nat → Int32} {A : Nat → Prop}
set_option maxRecDepth 20000 in
theorem q_bodyX (hJD : q_HJ l) (hOK : q_OK) (hlst : l.stackTraces = false) {v : qV} {M1 : qM} (hF : q_Fx p R s m args meth c D cA ad0 adV L xs A q_XLED) (hr : meth.sig.returnType = q_rt q_XLED) (hlocks : meth.locks = false) (htab : ∀ x ∈ c.exceptionTable.toList, False) (hU : q_Ux A s s.heap) (hM1 : M1.1 = q_NX) (hRf : 6 ≤ R.frames) (hRl : 81 ≤ R.locals) (hRc : 1 ≤ R.cells) (hRs : 6 ≤ R.slots) :
    ∀ (n : Nat) (f : qF) (M : qM), f.1 = q_XLED → q_NX ≤ M.1 → q_run false n f M = some (v, M1) → q_W p l e R s m args below meth c (vx_MQ below (q_QcX D cA ad0 L xs A v M1) (q_XCX D cA ad0 L xs A v M1) args s 1 6 A) D cA ad0 L xs A false q_XLED q_NX 0 0 f M := by
  have hrt : q_rt q_XLED = some .int := rfl
  intro n
  induction n with
  | zero => intro f M _ _ h; cases h
  | succ n ih =>
    intro f M hy hn0 h
    have hle := q_run_nx _ _ _ _ h
    simp only at hle
    have hM : M.1 = q_NX := by omega
    obtain ⟨y', pc, Lc, st⟩ := f
    simp only at hy
    subst hy
    have hpc : pc < 47 := by
      obtain ⟨t, ht⟩ := q_run_code h
      exact Nat.lt_of_lt_of_le (q_code_y ht).2 (show q_bd q_XLED ≤ 47 by decide)
    unfold q_run at h
    have hP : q_stp false (fun y2 as rt fr => (q_bnd rt (q_cal (q_run false n) y2 as M) (q_run false n) fr = some (v, M1)) ∧ fr.1 = q_XLED ∧ y2 ≠ q_XLED ∧ y2 ≠ q_LAW ∧ y2 ≠ q_LED) (fun f' M' => q_run false n f' M' = some (v, M1)) (fun v' M' => (v', M') = (v, M1) ∧ M' = M) False (q_XLED, pc, Lc, st) M := by
      rcases q_stp_th false (q_XLED, pc, Lc, st) M with ⟨f', M', h1, hM', e⟩ | ⟨v', e⟩ | e | ⟨as, rt, fr, t, h1, h2, h3, h4, e⟩
      · rw [e] at h ⊢; exact h
      · rw [e] at h ⊢; exact ⟨Option.some.inj h, rfl⟩
      · rw [e] at h; cases h
      · rw [e] at h ⊢
        obtain ⟨g1, g2, g3⟩ := hOK.2 _ _ _ h2 h3 h4
        exact ⟨h, h1, g1, g2, fun q => absurd (g3 q) (show ¬ q_XLED = q_LAW by decide)⟩
    refine q_step hF (hOK.1 q_XLED) hJD hn0 ?_ ?_ ?_ ?_ ?_ hP
    · rw [hM]; exact ⟨by omega, by omega⟩
    · intro f' M' hg hf'
      intro ad H locs ls had hL hst hWd hS hn0'
      exact ih f' M' hf' hn0' hg ad H locs ls had hL hst hWd hS hn0'
    · intro f' M' hg hM'
      have h1 := q_run_nx _ _ _ _ hg
      simp only at h1
      have e : M'.1 = q_NX := by omega
      rw [e]; exact ⟨by omega, by omega⟩
    · intro y2 as rt fr hg
      obtain ⟨hg, hfr, g1, g2, g3⟩ := hg
      refine ⟨g3, ?_⟩
      obtain ⟨v2, M2, h1, h2, h3⟩ := q_bnd_some hg
      have h4 : q_run false n (q_ent y2 as) M = some (v2, M2) := by
        unfold q_cal at h1
        have hb : Nat.beq y2 q_LED = false := by
          cases hb : Nat.beq y2 q_LED with
          | false => rfl
          | true => exact absurd (Nat.eq_of_beq_eq_true hb) g3
        rw [hb] at h1
        exact h1
      exact ⟨v2, M2, q_met hJD hOK n y2 as M v2 M2 h4 g1 g2 g3, h2, h3⟩
    · intro v' ins hg hd hrk
      obtain ⟨hg, hMM⟩ := hg
      have e1 : v' = v := congrArg Prod.fst hg
      have e2 : M = M1 := by rw [← hMM]; exact congrArg Prod.snd hg
      obtain ⟨hxx, hb, hml, hown, hts, hrf, hrl, hnm, hSt, hA⟩ := hF
      have hcM : q_cum M.1 = q_cum q_NX := by rw [hM]
      intro ad H locs ls had hL hst hWd hS hn0'
      rcases hrk with ⟨rfl, z, e3, e4, hty⟩ | ⟨rfl, z, -, -, hty⟩ | ⟨rfl, n, C, -, -, hty⟩ | ⟨rfl, -, -, hty⟩ | ⟨-, ⟨i, rfl⟩, e3, e4⟩
      · simp only at e3 hst ⊢
        rw [e3] at hst ⊢
        have hv := hst _ List.mem_cons_self
        refine vx_ret (W.widen (k := 1) (n := 6) (by omega) (by omega) (W.iret hxx hb (hr.trans hrt) (fun t ht hW => ⟨z, by rw [← e1, e4], hv, rfl, ad, had, ?_, hS.F ht⟩) hS.2.2 hd hlocks))
        rw [ht, ← e2]
        exact q_Wd_vm hWd hW.alike
      · rw [hrt] at hty; cases hty
      · rw [hrt] at hty; cases hty
      · rw [hrt] at hty; cases hty
      · simp only at e3 hst ⊢
        rw [e3]
        have hx := List.all_eq_true.mp x_pcs pc (List.mem_range.mpr hpc)
        have hd' : decode cX11_led pc = .ok (.new i, 3) := hd
        rw [hd'] at hx
        obtain ⟨hpc, hi⟩ := of_decide_eq_true hx
        subst hpc; subst hi
        refine vx_throw0 (cc := cX11_led) (A := A) (rest := []) hxx hb hlst (own := RX11) (cls := q_nse) (names := q_nms) (ik := 364) (ic := 366) hown (by decide +kernel) (by decide +kernel) (hts _ (q_w_in (p := 1195) (by decide +kernel))) (hts _ (q_w_in (p := 113) (by decide +kernel))) (x_at hts hU.2.2) ?_ hU.1 hU.2.1 hS (hL.2.1.1.trans hml.symm) dx_39 dx_42 dx_43 dx_46 (fun x hx => absurd hx (fun z => htab x z)) (by show 2 + 3 < R.frames; omega) (by show 0 + (13 * (2 + 1) + 42) ≤ R.locals; omega) (by omega) (by omega) hlocks ?_ hS.2.2 (by omega) (by omega)
        · intro w hw
          rcases List.mem_cons.mp hw with q | q
          · rw [q]; exact (Bool.or_eq_true _ _).mpr (Or.inr (by decide +kernel))
          · rcases List.mem_cons.mp q with q | q
            · rw [q]; exact (Bool.or_eq_true _ _).mpr (Or.inr (by decide +kernel))
            · exact List.all_eq_true.mp x_at_ot w q
        · intro t hal hsz hk
          refine ⟨by rw [← e1, e4], rfl, ad, had, by rw [← e2]; exact q_Wd_grow hWd hal hk, Nat.le_trans hS.1 hsz, fun q h1 h2 => ?_⟩
          rw [hk q (Nat.lt_of_lt_of_le h1 hS.1)]
          exact hS.2.1 q h1 h2
end QBODYX
set_option maxHeartbeats 4000000 in
set_option maxRecDepth 20000 in
theorem x_led {l : Launch} (hJD : q_HJ l) (hOK : q_OK) (hlst : l.stackTraces = false) {as : List qV} {M : qM} {v : qV} {M1 : qM} {n : Nat} (hrun : q_run false n (q_ent q_XLED as) M = some (v, M1)) (hM : M.1 = q_NX) (hM1 : M1.1 = q_NX) (harg : (q_args as).length ≤ q_mxl q_XLED) (D : va_G) (cA : Nat → ClassId) (ad adV : Nat → Nat) (L : Nat) (xs : Nat → Int32) (sz : Nat) :
    vx_Met l (q_mn q_XLED) (q_wsm q_XLED) ({ frames := q_rf q_XLED + 6, cells := 1, slots := 6, locals := q_rl q_XLED + 81 } : Room) (q_PcX D cA ad adV L xs M as sz) (q_QcX D cA ad L xs (va_A (q_ws cA ad M) sz) v M1) (q_XCX D cA ad L xs (va_A (q_ws cA ad M) sz) v M1) 1 6 (va_A (q_ws cA ad M) sz) := by
  refine vx_ofW (cc := q_by q_XLED) (maxL := q_mxl q_XLED) (ret := q_rt q_XLED) (by decide +kernel) rfl ?_
  intro p e s m args below meth c s₁ B hml htab hv
  obtain ⟨rfl, hsz, hSt, hWd, hvok, hU⟩ := hv
  subst hsz
  have hts := atoms_spec (ws := q_wsm q_XLED) B.pre
  have hF : q_Fx p (headSpec (q_wsm q_XLED) ({ frames := q_rf q_XLED + 6, cells := 1, slots := 6, locals := q_rl q_XLED + 81 } : Room)).room s m (as.map (q_cv ad)).toArray meth c D cA ad adV L xs (va_A (q_ws cA ad M) s.heap.size) q_XLED :=
    ⟨B.exec, B.bytes, hml, findClass_of_methodNamed B.named, fun w hw => hts w (List.mem_cons_of_mem _ hw), Nat.le_add_right _ _, Nat.le_add_right _ _, fun h => ((name_of_methodNamed B.named B.method).1).trans h, hSt, fun q hq => Or.inr hq⟩
  have hbody := q_bodyX (l := l) (e := e) (below := below) (v := v) (M1 := M1) hJD hOK hlst hF B.returns B.notSynchronized htab hU hM1 (Nat.le_add_left _ _) (Nat.le_add_left _ _) (Nat.le_refl _) (Nat.le_refl _) n (q_ent q_XLED as) M rfl (Nat.le_of_eq hM.symm) hrun
  rw [lg_entry_eq]
  have hWd2 : q_Wd D cA ad L xs (va_A (q_ws cA ad M) s.heap.size) false M s s.heap := q_Wd_A hWd (fun k q hk _ => Or.inl ⟨k, q.2, hk⟩)
  have hW := hbody ad s.heap [] _ (fun _ _ => rfl) (q_entry harg hvok) (fun v hv => by cases hv) hWd2 va_S.rf (Nat.le_of_eq hM.symm)
  rw [hM] at hW
  simp only [Nat.sub_self, Nat.zero_add] at hW
  exact hW
/-- what the law's own way answers: 0 and the answer laid down, or 1 -/
def q_QcL (D : va_G) (cA : Nat → ClassId) (ad0 : Nat → Nat) (L : Nat) (xs : Nat → Int32) (A : Nat → Prop) (v : qV) (M1 : qM) : Array Value → State → Outcome → State → Prop := fun _ st o t => (∃ z : Int, v = vi z ∧ o = .returned (some (.int 0)) ∧ q_Wx D cA ad0 L xs A (sJ M1 283 0 z) st t) ∨ (v = vu ∧ o = .returned (some (.int 1)) ∧ q_Wx D cA ad0 L xs A M1 st t)
def q_tabL : List (Nat × Nat × Nat × Nat) := [(0, 9, 12, 13)]
def q_wsL : List Cond := Cond.codeWith yL_led cL_led 4 (some .int) q_tabL :: q_words
set_option maxHeartbeats 4000000 in
set_option maxRecDepth 20000 in
theorem x_ledL {l : Launch} (hJD : q_HJ l) (hOK : q_OK) (hlst : l.stackTraces = false) {i : Int} {M : qM} {v : qV} {M1 : qM} {n : Nat} (hrun : q_run false n (q_ent q_XLED [vr 1, vi i]) M = some (v, M1)) (hM : M.1 = q_NX) (hM1 : M1.1 = q_NX) (D : va_G) (cA : Nat → ClassId) (ad adV : Nat → Nat) (L : Nat) (xs : Nat → Int32) (sz : Nat) :
    vx_Met l yL_led q_wsL ({ frames := q_rf q_XLED + 7, cells := 1, slots := 6, locals := q_rl q_XLED + 111 } : Room) (q_PcX D cA ad adV L xs M [vr 1, vi i, vr 283] sz) (q_QcL D cA ad L xs (va_A (q_ws cA ad M) sz) v M1) (fun _ _ _ => False) 1 6 (va_A (q_ws cA ad M) sz) := by
  refine vx_ofWH (cc := cL_led) (maxL := 4) (ret := some .int) (hh := q_tabL) (by decide +kernel) rfl ?_
  intro p e s m args below meth c s₁ B hml hv
  obtain ⟨rfl, hsz, hSt, hWd, hvok, hU⟩ := hv
  subst hsz
  have hx := B.exec
  have hb := B.bytes
  have hr := B.returns
  have hlocks := B.notSynchronized
  have hown : s.vm.findClass RL = some m.cls := findClass_of_methodNamed B.named
  have hts0 := atoms_spec (ws := q_wsL) B.pre
  have hts : ∀ w ∈ q_words, w.before _ s = true := fun w hw => hts0 w (List.mem_cons_of_mem _ hw)
  have htab := vx_table (x := yL_led) B (hts0 _ List.mem_cons_self)
  have hvx : ∀ w ∈ [vr 1, vi i], q_vok M.1 w := fun w hw => hvok w (by
    rcases List.mem_cons.mp hw with q | q
    · rw [q]; exact List.mem_cons_self
    · rw [List.mem_singleton.mp q]; exact List.mem_cons_of_mem _ List.mem_cons_self)
  have hMx := x_led hJD hOK hlst hrun hM hM1 (Nat.le_of_ble_eq_true rfl) D cA ad adV L xs s.heap.size
  have hWd2 : q_Wd D cA ad L xs (va_A (q_ws cA ad M) s.heap.size) false M s s.heap := q_Wd_A hWd (fun k q hk _ => Or.inl ⟨k, q.2, hk⟩)
  have hl := lv_entry ([.ref (ad 1), .int (Int32.ofInt i), .ref (ad 283)]) (n := 4) (Nat.le_of_ble_eq_true rfl)
  rw [lg_entry_eq]
  show W p l e _ s m _ below meth c s.heap [] 0 0 _ (F0 m 0 ((lg_sl ([.ref (ad 1), .int (Int32.ofInt i), .ref (ad 283)]) ++ List.replicate (4 - (lg_sl ([.ref (ad 1), .int (Int32.ofInt i), .ref (ad 283)])).length) Slot.unset).toArray) [])
  generalize (lg_sl ([.ref (ad 1), .int (Int32.ofInt i), .ref (ad 283)]) ++ List.replicate (4 - (lg_sl ([.ref (ad 1), .int (Int32.ofInt i), .ref (ad 283)])).length) Slot.unset).toArray = ls at hl ⊢
  have hl : lv_has ls 4 [(0, .ref (ad 1)), (1, .int (Int32.ofInt i)), (2, .ref (ad 283))] := hl
  refine lv_aload_n hx hb dl_0 rfl (lv_at hl 2 rfl) ?_
  refine lv_iconst hx hb dl_1 rfl ?_
  refine lv_aload_n hx hb dl_2 rfl (lv_at hl 0 rfl) ?_
  refine lv_iload_n hx hb dl_3 rfl (lv_at hl 1 rfl) ?_
  have k1 : kd 1 = 20 := rfl
  have he := q_ws_at (cA := cA) (ad := ad) (M := M) (n := 1) (Nat.le_refl _) (by rw [hM]; decide)
  rw [q_ce_obj (i := 10) k1] at he
  have hrecv := va_recv hSt.1 hWd.1 (q_cl_at (i := 10) (by omega)) he
  have hpre : ∀ U : State, U.heap = s.heap → s.WarmedH U.vm → q_PcX D cA ad adV L xs M [vr 1, vi i] s.heap.size [.ref (ad 1), .int (Int32.ofInt i)].toArray U := by
    intro U hU' hW'
    refine ⟨rfl, by rw [hU'], q_St_call hSt (fun _ _ => rfl) va_S.rf hWd2.2.1 (fun q hq => Or.inr hq) hU' hW', ?_, hvx, ?_, ?_, ?_⟩
    · rw [hU']; exact q_Wd_vm hWd hW'.alike
    · rw [hU']; exact hU.1.moved hW'.alike
    · rw [hU']; exact hU.2.1.moved hW'.alike
    · exact q_Cs_al hW'.alike hU.2.2
  have cw : CallW (headSpec q_wsL ({ frames := q_rf q_XLED + 7, cells := 1, slots := 6, locals := q_rl q_XLED + 111 } : Room)).room s ([vr 1, vi i, vr 283].map (q_cv ad)).toArray RL RX11 7 (q_mn q_XLED) (q_by q_XLED) (q_mxl q_XLED) (q_rt q_XLED) (q_wsm q_XLED) ({ frames := q_rf q_XLED + 6, cells := 1, slots := 6, locals := q_rl q_XLED + 81 } : Room) 1 6 1 :=
    ⟨callB_of 1 hts (q_goodIn (q_w_in (p := 1194) (by decide +kernel))) rfl rfl rfl (hts (.initialized RX11) (q_w_in (p := 91) (by decide +kernel))) (hts (.methodLink RL 7 (q_mn q_XLED)) (q_w_in (p := 1191) (by decide +kernel))) ⟨by decide +kernel, by decide +kernel, by decide +kernel⟩ ⟨Nat.le_refl _, by show 8 + (q_mxl q_XLED + 11) + (q_rl q_XLED + 81) ≤ q_rl q_XLED + 111; decide⟩, hts (.instanceMethod (q_mn q_XLED)) (q_w_in (p := 1192) (by decide +kernel)), hts (.selects RX11 (q_mn q_XLED) (q_mn q_XLED)) (q_w_in (p := 1193) (by decide +kernel))⟩
  have hrun := vx_runV (below := below) (e := e) (l := l) (meth := meth) (H := s.heap) (locs := []) (cells := 0) (slots := 0) (g := F0 m 4 ls [.int (Int32.ofInt i), .ref (ad 1), .int 0, .ref (ad 283)]) (rest := [.int 0, .ref (ad 283)]) (As := [.int (Int32.ofInt i)]) (b := ad 1) ⟨hx, hb, hml, hown, hts⟩ hMx cw ⟨q_blindX, hrecv, hpre⟩ rfl rfl hl.1 rfl (lv_room (Nat.le_of_ble_eq_true rfl)) dl_4 ⟨Nat.le_refl _, Nat.le_refl _⟩
  intro T hT X
  have hAA : ∀ q, va_A (q_ws cA ad M) s.heap.size q → va_A (q_ws cA ad M) s.heap.size q := fun _ h => h
  rcases hrun T hT X with ⟨v0, st₀, t, T', Lx, h0, X', hLx, e1, e2, ⟨z, ev, hz, ho, ad', had, hWx, hFx⟩, st⟩ | ⟨q, st₀, t, T', Lx, E, ce, h0, X', hLx, e1, e2, ⟨ev, hE, ad', had, hWx, hFx⟩, hce, hcv, hcl, st⟩
  · cases ho
    have hSx : va_S (va_A (q_ws cA ad M) s.heap.size) s.heap t.heap Lx := by
      obtain ⟨f1, f2⟩ := hFx
      rw [h0] at f1 f2
      exact ⟨f1, f2, hLx⟩
    have hal : s.vm.Alike t.vm := by rw [← e2]; exact X'.warmed.alike
    have hWs : q_Wd D cA ad' L xs (va_A (q_ws cA ad M) s.heap.size) false M1 s t.heap := q_Wd_vm hWx hal.symm
    obtain ⟨g1, g2, g3, g4, g5, g6, g7⟩ := id hWs
    have kk : W p l e (headSpec q_wsL ({ frames := q_rf q_XLED + 7, cells := 1, slots := 6, locals := q_rl q_XLED + 111 } : Room)).room s m ([vr 1, vi i, vr 283].map (q_cv ad)).toArray below meth c t.heap Lx (0 + 1) (0 + 6) (vx_MQ below (q_QcL D cA ad L xs (va_A (q_ws cA ad M) s.heap.size) v M1) (fun _ _ _ => False) ([vr 1, vi i, vr 283].map (q_cv ad)).toArray s 1 6 (va_A (q_ws cA ad M) s.heap.size)) (F0 m 7 ls [.int (Int32.ofInt z), .int 0, .ref (ad 283)]) := by
      refine lv_i2l hx hb dl_7 (q_i2l hz) ?_
      have k3 : kd 283 = 3 := rfl
      have he3 := q_ws_at (cA := cA) (ad := ad') (M := M1) (n := 283) (by omega) (by rw [hM1]; decide)
      rw [q_ce_long k3, had 283 (Or.inl (by decide))] at he3
      have hK := q_at_tys hSt.1 g3 (n := 283) (by omega) (by rw [hM1]; decide) (by decide) (by decide)
      rw [k3] at hK
      refine va_last hx hb hK g1 g2 hSx (283 - 1) 0 he3 rfl (show ¬ ((0 : Int32) < 0 ∨ (q_lay 283).2 ≤ Int32.toNatClampNeg 0) by decide +kernel) dl_8 (fun H1 locs1 p1 p2 p3 => ?_)
      have e3 : vp_updL (fun j => Int64.ofInt (mJ M1 283 j)) (Int32.toNatClampNeg 0) (Int64.ofInt z) = fun j => Int64.ofInt (mJ (sJ M1 283 0 z) 283 j) := by
        funext j
        show (if j = 0 then Int64.ofInt z else Int64.ofInt (mJ M1 283 j)) = Int64.ofInt (if 283 = 283 ∧ j = 0 then z else mJ M1 283 j)
        by_cases q : j = 0
        · rw [if_pos q, if_pos ⟨rfl, q⟩]
        · rw [if_neg q, if_neg (fun q2 => q q2.2)]
      rw [e3, ← q_ce_long (cA := cA) (M := (sJ M1 283 0 z)) k3, ← had 283 (Or.inl (by decide))] at p1 p2
      have hW3 : q_Wd D cA ad' L xs (va_A (q_ws cA ad M) s.heap.size) false (sJ M1 283 0 z) s H1 := q_Wd_J hWs (a := 283) (k := 0) (z := z) (by omega) (by rw [hM1]; decide) (q_i2l_ok hz) p1 p2
      refine lv_goto (tgt := 15) hx hb dl_9 (by decide) ?_
      refine lv_iconst hx hb dl_15 rfl ?_
      refine vx_ret (W.iret hx hb hr (fun t2 ht2 hW2 => Or.inl ⟨z, ev, rfl, ad', fun n hn => had n hn, ?_, p3.F ht2⟩) p3.2.2 dl_16 hlocks)
      rw [ht2]
      exact q_Wd_vm hW3 hW2.alike
    obtain ⟨t2, a1, b1⟩ := kk T' e1 X'
    exact ⟨t2, st t2 a1, b1⟩
  · have hSx : va_S (va_A (q_ws cA ad M) s.heap.size) s.heap t.heap Lx := by
      obtain ⟨f1, f2⟩ := hFx
      rw [h0] at f1 f2
      exact ⟨f1, f2, hLx⟩
    have hal : s.vm.Alike t.vm := by rw [← e2]; exact X'.warmed.alike
    have hWs : q_Wd D cA ad' L xs (va_A (q_ws cA ad M) s.heap.size) false M1 s t.heap := q_Wd_vm hWx hal.symm
    subst hE
    have kx : vx_W p l e (headSpec q_wsL ({ frames := q_rf q_XLED + 7, cells := 1, slots := 6, locals := q_rl q_XLED + 111 } : Room)).room s m ([vr 1, vi i, vr 283].map (q_cv ad)).toArray below meth c t.heap Lx (0 + 1) (0 + 6) (vx_MQ below (q_QcL D cA ad L xs (va_A (q_ws cA ad M) s.heap.size) v M1) (fun _ _ _ => False) ([vr 1, vi i, vr 283].map (q_cv ad)).toArray s 1 6 (va_A (q_ws cA ad M) s.heap.size)) (F0 m 4 ls [.int 0, .ref (ad 283)]) q := by
      refine vx_catch (own := RL) (name := q_nse) (E := q_nse) hown [] ⟨0, 9, 12, 13⟩ [] (by rw [htab]; rfl) (fun z hz => by cases hz) (by decide) (by decide) (hts (.classLink RL 13 q_nse) (q_w_in (p := 1190) (by decide +kernel))) (q_Cs_c hU.2.2) hce hcv hcl ?_
      refine lv_astore_n hx hb dl_12 rfl hl (by omega) rfl (fun ls2 hl2 => ?_)
      refine lv_iconst hx hb dl_13 rfl ?_
      refine vx_ret (W.iret hx hb hr (fun t2 ht2 hW2 => Or.inr ⟨ev, rfl, ad', had, ?_, hSx.F ht2⟩) hSx.2.2 dl_14 hlocks)
      rw [ht2]
      exact q_Wd_vm hWs hW2.alike
    obtain ⟨t2, a1, b1⟩ := kx T' e1 X'
    exact ⟨t2, st.trans a1, b1⟩

/-! THE CLAIM OUT OF ONE WALK OF THE LAW'S BODY. Your part is whole_start (and what it stands on); all else here is the same for every law, but numbers. -/
def R_law : String := "StewardHeapsLaw"
def lw_P (b : Addr) (xs : List Int32) (args : Array Value) (s : State) : Prop := args = #[.ref b] ∧ s.IntsAt b xs ∧ xs.length ≤ 3072 ∧ (Jvm.Cond.and given_1 narrow_1).before args s = true
def lw_Q (_ : Array Value) (s : State) (o : Outcome) (t : State) : Prop := o = .returned (some (.int 1)) ∧ Framed s o t [] 601024 7293034
def lw_Z (below : List Frame) (a : Array Value) (s : State) : State → Prop := fun t => ∃ o, t.status = .running ∧ Ended t below o ∧ lw_Q a s o t
/-- the law's own end, with 1 on the stack, nothing written that was there before, its room as the claim has it -/
theorem lw_ret {p : Program} {l : Launch} {e : Env} {s : State} {m : MethodId} {below : List Frame} {meth : Method} {c : Code} {b : Nat} (hx : p.tables.exec = Jvm.exec) (hb : c.code = code) (hr : meth.sig.returnType = ret) (hlocks : meth.locks = false) {pc : Nat} {H : Heap} {ls : Array Slot} (hdg : decode code pc = .ok (.ireturn, 1)) : W p l e room_1 s m #[Value.ref b] below meth c H [] 601024 7293034 (lw_Z below #[Value.ref b] s) (F0 m pc ls [.int 1]) := by
  intro T hT X
  obtain ⟨fs, hret, hrun, hended, hW, hframe⟩ := X.leave (v := some (.int 1)) (hlocks := hlocks) (fun h => by rw [hr] at h; cases h)
  have hmeth' : T.vm.method? m = some meth := X.method'
  refine ⟨T.setFrames fs, ?_, .returned (some (.int 1)), hrun, hended, rfl, ⟨_, rfl⟩, hW, hframe⟩
  jvm_step X.here [X.here.top, hx, hb, hdg, hmeth', hr, ret, narrow_b1]
  (try refine ⟨rfl, ?_⟩); (try refine ⟨rfl, ?_⟩)
  first | (intro acts; rw [hret _ acts rfl rfl rfl]) | rw [hret _ _ rfl rfl rfl]
  exact Steps.refl _
/-- what holds at the law's entry: the machine, the code, the tables' words (any of lw_tbl by 'hts w (by decide +kernel)'), the script of L ints xs at the cell b, what the Statement gives of the start (any of its parts by flat_of_before) -/
def lw_At (p : Program) (s : State) (m : MethodId) (meth : Method) (c : Code) (b L : Nat) (xs : Nat → Int32) : Prop :=
  p.tables.exec = Jvm.exec ∧ c.code = code ∧ meth.sig.returnType = ret ∧ c.maxLocals = 7 ∧ s.vm.findClass R_law = some m.cls ∧ (∀ w ∈ lw_tbl, w.before #[Value.ref b] s = true) ∧ va_X b L xs s s.heap ∧ b < s.heap.size ∧ meth.locks = false ∧ (Jvm.Cond.and given_1 narrow_1).before #[Value.ref b] s = true
/-! the law from its entry -/
def z_sc (L : Nat) (xs : Nat → Int32) (a k : Nat) : Int := if a = 998 then (L : Int) else (xs k).toInt
theorem ov_n {S : Nat → Nat → Int} {M : qM} : (ov S M).1 = M.1 := rfl
theorem z_end_ov {S : Nat → Nat → Int} {n : Nat} {f f1 : qF} {M M1 : qM} (h : z_preS n f M = some (f1, M1)) : z_pre n f (ov S M) = some (f1, ov S M1) := z_preS_ov n f M (f1, M1) h
section
variable {p : Program} {l : Launch} {e : Env} {R : Room} {s : State} {m : MethodId} {args : Array Value} {below : List Frame} {meth : Method} {c : Code} {Q : State → Prop} {D : va_G} {cA : Nat → ClassId} {ad0 : Nat → Nat} {L : Nat} {xs : Nat → Int32} {A : Nat → Prop}
theorem q_W_to {S : Nat → Nat → Int} {M : qM} (hM : M.1 = 283) (hr : z_refsM M = true) {kc ks : Nat} {f : qF} (h : q_W p l e R s m args below meth c Q D cA ad0 L xs A false q_LAW 0 kc ks f (qk 248 7 (ov S M).2.1 M.2.2.1)) : q_W p l e R s m args below meth c Q D cA ad0 L xs A true q_LAW 0 kc ks f (ov S M) := by
  intro ad H locs ls had hL hst hWd hS hn0
  have e : (ov S M).1 = 283 := hM
  have hWd2 := z_toM hM hr hWd
  rw [e] at hL hst ⊢
  exact h ad H locs ls had hL hst hWd2 hS (Nat.zero_le _)
end
theorem law_ret {p : Program} {l : Launch} {e : Env} {s : State} {m : MethodId} {below : List Frame} {meth : Method} {c : Code} {b : Nat} {D : va_G} {cA : Nat → ClassId} {sp : Nat → Nat} {L : Nat} {xs : Nat → Int32} (hx : p.tables.exec = Jvm.exec) (hb : c.code = code) (hr : meth.sig.returnType = ret) (hlocks : meth.locks = false) {kc ks : Nat} (h1 : kc + (q_NX - 0) ≤ 601024) (h2 : ks + (q_cum q_NX - q_cum 0) ≤ 7293034) : ∀ (v : qV) (M : qM) (pc : Nat) (Lc st : List qV) (ins : Instr), v = vi 1 → decode (q_by q_LAW) pc = .ok (ins, q_len ins 0) → q_rok q_LAW ins st v → M.1 = q_NX → q_W p l e room_1 s m #[Value.ref b] below meth c (lw_Z below #[Value.ref b] s) D cA sp L xs (fun q => s.heap.size ≤ q) false q_LAW 0 kc ks (q_LAW, pc, Lc, st) M := by
  intro v M pc Lc st ins hv hd hrk hM
  intro ad H locs ls had hLL hst hWd hS hn0
  show W p l e room_1 s m #[Value.ref b] below meth c H locs (kc + (M.1 - 0)) (ks + (q_cum M.1 - q_cum 0)) (lw_Z below #[Value.ref b] s) (F0 m pc ls (st.map (q_cv ad)))
  rw [hM]
  rcases hrk with ⟨rfl, z, e3, e4, -⟩ | ⟨rfl, z, e3, e4, -⟩ | ⟨rfl, n, C, e3, e4, -⟩ | ⟨rfl, e3, e4, -⟩ | ⟨hy, -⟩
  · rw [hv] at e4
    have ez : 1 = z := Sum.inl.inj e4
    subst e3
    subst ez
    exact va_forget (fun q hq => hS.2.2 q hq) (W.widen h1 h2 (lw_ret hx hb hr hlocks hd))
  · rw [hv] at e4; cases e4
  · rw [hv] at e4; cases e4
  · rw [hv] at e4; cases e4
  · exact absurd hy (by decide)
theorem whole_start {p : Program} {e : Env} {s : State} {m : MethodId} {below : List Frame} {meth : Method} {c : Code} (l : Launch) (hflags : l.flags = flags0) {b L : Nat} {xs : Nat → Int32} (hL : L ≤ 3072) (C0 : lw_At p s m meth c b L xs) : W p l e room_1 s m #[Value.ref b] below meth c s.heap [] 0 0 (lw_Z below #[Value.ref b] s) (entryFrame m ([Value.ref b] : List Value).toArray 7) := by
  obtain ⟨hx, hb, hr, hml, hown, hts, hX, hbl, hlocks, hg⟩ := C0
  have hlst : l.stackTraces = false := by
    unfold Launch.stackTraces
    rw [hflags]
    decide +kernel
  obtain ⟨D, cA, sp, adV, h999, hSt, hU⟩ := z_St m.cls hts hX hbl hL hg
  subst h999
  have hJD : q_HJ l := q_hj
  have hOK : q_OK := q_ok
  have hF : q_Fx p room_1 s m #[Value.ref (sp 999)] meth c D cA sp adV L xs (fun q => s.heap.size ≤ q) q_LAW := ⟨hx, hb, hml, hown, fun w hw => hts w (List.mem_filter.mp hw).1, by decide +kernel, by decide +kernel, fun h => absurd h (by decide +kernel), hSt, fun _ h => h⟩
  have ecum : q_cum q_NX - q_cum 0 = 42173 := by decide +kernel
  have ecu3 : q_cum 283 - q_cum 0 = 42173 := by decide +kernel
  have hf0 : z_f0.1 = q_LAW := by decide +kernel
  have enx : q_NX = 283 := rfl
  have hSG : ∀ kc ks, kc ≤ 3072 → ks ≤ 18432 → q_SG l (q_W p l e room_1 s m #[Value.ref (sp 999)] below meth c (lw_Z below #[Value.ref (sp 999)] s) D cA sp L xs (fun q => s.heap.size ≤ q) false q_LAW 0 kc ks) := fun kc ks g1 g2 n C f M h3 h4 h5 => q_itW_of hJD hOK hF (Nat.zero_le _) ⟨by show kc + (q_NX - 0) ≤ 601024; omega, by show ks + (q_cum q_NX - q_cum 0) ≤ 7293034; omega⟩ (law_ret hx hb hr hlocks (by omega) (by omega)) n C f M h3 h4 h5
  have hLD : q_LD (fun kc ks => q_W p l e room_1 s m #[Value.ref (sp 999)] below meth c (lw_Z below #[Value.ref (sp 999)] s) D cA sp L xs (fun q => s.heap.size ≤ q) false q_LAW 0 kc ks) := fun kc ks t u I J I1 i x v g1 g2 he k1 k2 => q_ledW hJD hOK hlst hF hU (by decide +kernel) (by decide +kernel) (by show kc + 283 + 1 ≤ 601024; omega) (by rw [ecu3]; show ks + 42173 + 6 ≤ 7293034; omega) he k1 k2
  have hRB : q_RB (z_I (z_sc L xs)) := fun j => by
    rw [z_I_hi (by decide)]
    have h1 : q_i32 (xs j).toInt := q_i32_of _
    have h2 : z_sc L xs 999 j = (xs j).toInt := if_neg (by decide)
    rw [h2]
    exact ⟨h1.1, Int.le_of_lt_add_one h1.2⟩
  have h998 : z_I (z_sc L xs) 998 0 = (L : Int) := by
    rw [z_I_hi (by decide)]
    exact if_pos rfl
  have hloop := q_loop hJD hOK hL hSG hLD L 0 0 0 z_S 248 7 (z_I (z_sc L xs)) z_J (by omega) (Nat.zero_le _) (Nat.le_refl _) (Nat.le_refl _) h998 hRB z_C z_Mi
  have hW1 : q_W p l e room_1 s m #[Value.ref (sp 999)] below meth c (lw_Z below #[Value.ref (sp 999)] s) D cA sp L xs (fun q => s.heap.size ≤ q) true q_LAW 0 0 0 z_f1 (ov (z_sc L xs) cM) := q_W_to z_n z_refs_t hloop
  have hN1 : (ov (z_sc L xs) cM).1 = q_NX := ov_n.trans z_n
  have hW0 := z_preW hJD hOK hF (f1 := z_f1) (M1 := ov (z_sc L xs) cM) (by rw [hN1]; exact ⟨by decide +kernel, by decide +kernel⟩) hW1 13 z_f0 (ov (z_sc L xs) z_M0) hf0 (z_end_ov z_end_eq)
  have hWd0 : q_Wd D cA sp L xs (fun q => s.heap.size ≤ q) true (ov (z_sc L xs) z_M0) s s.heap := by
    have i998 : mI (ov (z_sc L xs) z_M0) 998 0 = (L : Int) := by
      show (if (998 : Nat) ≤ 998 then (if (998 : Nat) = 998 then (L : Int) else (xs 0).toInt) else 0) = (L : Int)
      rw [if_pos (Nat.le_refl 998), if_pos rfl]
    have i999 : ∀ j, mI (ov (z_sc L xs) z_M0) 999 j = (xs j).toInt := fun j => by
      show (if (998 : Nat) ≤ 999 then (if (999 : Nat) = 998 then (L : Int) else (xs j).toInt) else 0) = (xs j).toInt
      rw [if_pos (by decide), if_neg (by decide)]
    refine ⟨fun k q hk => absurd (q_ws_mem hk).1 (Nat.not_lt_zero k), ⟨fun i j a q hi hj e => absurd (q_ws_mem hi).1 (Nat.not_lt_zero i), fun k q hk => absurd (q_ws_mem hk).1 (Nat.not_lt_zero k)⟩, fun n h1 h2 => absurd (Nat.lt_of_lt_of_le h1 h2) (Nat.not_lt_zero 0), ⟨fun a k => ?_, fun a k => ⟨show (-9223372036854775808 : Int) ≤ 0 by decide, show (0 : Int) < 9223372036854775808 by decide⟩, fun a k => Nat.le_refl _⟩, ⟨i998, fun j _ => i999 j⟩, Nat.zero_le _, fun h => by cases h⟩
    show q_i32 (if 998 ≤ a then (if a = 998 then (L : Int) else (xs k).toInt) else 0)
    by_cases z : 998 ≤ a
    · rw [if_pos z]
      by_cases y : a = 998
      · rw [if_pos y]; exact ⟨by omega, by omega⟩
      · rw [if_neg y]; exact q_i32_of _
    · rw [if_neg z]; exact ⟨by decide, by decide⟩
  rw [lg_entry_eq]
  exact hW0 sp s.heap [] _ (fun _ _ => rfl) (q_entry (as := [vr 999]) (by decide) (fun v hv => by rw [List.mem_singleton.mp hv]; exact Or.inr (Nat.le_refl _))) (fun v hv => by cases hv) hWd0 va_S.rf (Nat.zero_le _)
set_option maxHeartbeats 4000000 in
theorem lw_walk (l : Launch) (hflags : l.flags = flags0) (b : Addr) (xs : List Int32) : MetFree l x (headSpec (Jvm.Cond.code x code maxLocals ret :: tables_1) room_1) (lw_P b xs) (fun _ _ _ _ _ => True) lw_Q := by
  refine MetFree.of_bodyS (code := code) (maxLocals := maxLocals) (ret := ret) (by decide) ?_ ?_
  · intro args s m h hn
    obtain ⟨meth, c, h1, h2, h3, h4, h5, h6, -, -⟩ := Cond.code_spec hn (atoms_spec (ws := Jvm.Cond.code x code maxLocals ret :: tables_1) h _ List.mem_cons_self)
    exact ⟨meth, c, h1, h2, h3, h4, h5, h6⟩
  · intro p e s m args below meth c s₁ B hml0 hP _
    obtain ⟨rfl, hx, hbd, hgv⟩ := hP
    obtain ⟨scr, harrAt, hlist, hof, hsmall⟩ := hx
    obtain ⟨hcb, hkn, -, -⟩ := State.arrayAt?_spec harrAt
    have hown : s.vm.findClass R_law = some m.cls := findClass_of_methodNamed B.named
    have hts0 : ∀ c ∈ (Jvm.Cond.code x code maxLocals ret :: tables_1), c.before #[Value.ref b] s = true := atoms_spec (ws := Jvm.Cond.code x code maxLocals ret :: tables_1) B.pre
    have hts : ∀ w ∈ lw_tbl, w.before #[Value.ref b] s = true := k2_hts_sels lw_privs (fun w hw => hts0 w (List.mem_cons_of_mem _ hw)) lw_privs_ok
    have hml : c.maxLocals = 7 := B.maxLocals_eq (hts0 _ List.mem_cons_self)
    have X₀ : Stand p l e room_1 s m #[Value.ref b] below meth c s₁ [] 0 0 := Stand.of_body B
    have hh0 : s₁.heap = s.heap := by rw [B.state]; rfl
    have hsz : scr.slots.size = xs.length := by rw [← Array.length_toList, hlist, List.length_map]
    have hval : ∀ j : Nat, j < xs.length → scr.slots[j]? = some (.int (xs.getD j 0)) := fun j hj => by
      rw [← Array.getElem?_toList, hlist]
      simp [hj]
    have hbl : b < s.heap.size := (Array.getElem?_eq_some_iff.mp hcb).1
    have hX : va_X b xs.length (fun j => xs.getD j 0) s s.heap := ⟨scr, hcb, hof, hkn, hsz, hval⟩
    have K : W p l e room_1 s m #[Value.ref b] below meth c s₁.heap [] 0 0 (lw_Z below #[Value.ref b] s) (entryFrame m ([Value.ref b] : List Value).toArray 7) := by
      rw [hh0]
      exact whole_start l hflags hbd ⟨B.exec, B.bytes, B.returns, hml, hown, hts, hX, hbl, B.notSynchronized, hgv⟩
    obtain ⟨t, a1, o, b1, b2, b3⟩ := K s₁ rfl X₀
    exact ⟨t, o, a1, b1, b2, b3⟩
theorem lw_pre_spec {args : Array Value} {s : State} (h : (Jvm.Cond.and given_1 narrow_1).before args s = true) (hr : rest_1_c.before args s = true) : ∃ (b : Addr) (xs : List Int32), lw_P b xs args s := by
  have hs := flat_of_before _ h
  have hq := flat_of_before _ hr
  have hc : (Cond.count 1).before args s = true := hs _ (by decide +kernel)
  have harr : (Cond.arrayOf (.arg 0) .int).before args s = true := hs _ (by decide +kernel)
  have hle : (Cond.le (.length (.arg 0)) (.int 3072)).before args s = true := hs _ (by decide +kernel)
  have hlen : (Cond.isInt (.length (.arg 0))).before args s = true := hq _ (by decide +kernel)
  have hall : (Cond.all (.arg 0) (.isInt (.elem (.arg 0) (.index 0)))).before args s = true := hq _ (by decide +kernel)
  obtain ⟨b, xs, hb, hx⟩ := State.ints_of_pre rfl harr hlen hall
  have hsm : xs.length < 2 ^ 31 := hx.choose_spec.2.2.2
  have hev : (Term.length (.arg 0)).eval args s none [] s = some (.int xs.length.toInt32) := hx.length_eval hb
  have hv := Cond.le_ints hev (show (Term.int 3072).eval args s none [] s = some (.int 3072) from rfl)
  have hd : xs.length.toInt32 ≤ 3072 := by
    simpa [Cond.before, Cond.holds, hv] using hle
  have hN : xs.length ≤ 3072 := (Int32.ofNat_le_ofNat hsm (by decide)).mp (show Int32.ofNat xs.length ≤ Int32.ofNat 3072 from hd)
  exact ⟨b, xs, Cond.one_arg hc (show args[0]? = some (.ref b) from hb), hx, hN, h⟩
theorem lw_comes (l : Launch) (hflags : l.flags = flags0) : Comes l x (Jvm.Cond.code x code maxLocals ret :: tables_1) room_1 (fun tb e args s => Calls_1 tb e args s ∧ rest_1 tb e args s ∧ Pre_1 tb e args s)
    (fun _ _ args s o t => lw_Q args s o t) := by
  intro p e ha hc hk s m args below hf hfit hheap happ hpre
  obtain ⟨b, xs, hP⟩ := lw_pre_spec hpre.2.2 hpre.2.1
  obtain ⟨k, o, h1, h2, h3, hQ⟩ := lw_walk l hflags b xs p e ha hc hk s m args below hf ((Spec.applies_iff_loose hf).mp happ).1 hP trivial
  exact ⟨k, o, h1, h2, h3, hQ⟩
theorem lw_frame {s t : State} {o : Outcome} {args : Array Value} (h : Framed s o t [] 601024 7293034) :
    Framed s o t (fieldLocs frame_1_writes args s ++ arrayLocs frame_1_arrays args s ++ staticLocs frame_1_statics s) 601024 7293034 := h
theorem lw_limb (L : Cond) (hL : ∀ (args : Array Value) (s t : State), L.after args s (.returned (some (.int 1))) t = true) :
    ArmFor flags0 classFile x code maxLocals ret World_1 tables_1 room_1 Calls_1 rest_1 Pre_1
      (fun tb e a s o t => postC L tb e a s o t ∧ Framed s o t (fieldLocs frame_1_writes a s ++ arrayLocs frame_1_arrays a s ++ staticLocs frame_1_statics s) 601024 7293034) := by
  intro l hflags _ _ p e ha hc hk s m args below hf hfit hheap happ hpre
  obtain ⟨k, o, h1, h2, h3, rfl, hF⟩ := lw_comes l hflags p e ha hc hk s m args below hf hfit hheap happ hpre
  exact ⟨k, _, h1, h2, h3, hL args s _, lw_frame hF⟩
theorem i_vc : Claimed_1_1 ∧ Claimed_1_2 := ⟨lw_limb limb_1_1 (fun args s t => by simp [limb_1_1, Cond.after, Cond.holds, Cond.value]), lw_limb limb_1_2 (fun args s t => Cond.after_iff.mpr (by
  first | (rw [show limb_1_2 = Cond.eq .result (.int 1) from rfl, Cond.eq_ints (x := 1) (y := 1) rfl rfl]; simp; done) | (simp [limb_1_2, Cond.value, Term.eval]; done)))⟩

/-! A STEP OF THE ABSTRACT MACHINE IS A STEP OF THE MACHINE -/
def q_wsm (y : Nat) : List Cond := Cond.code (q_mn y) (q_by y) (q_mxl y) (q_rt y) :: q_words
def q_rv (rt : Option FieldType) (v : Value) : Option Value := match rt with
  | none => none
  | some _ => some v
/-- what a method asks, and what it gives: the answer v, the memory M1 behind it -/
def q_Met (l : Launch) (ph : Bool) (y : Nat) (as : List qV) (M : qM) (v : qV) (M1 : qM) : Prop :=
  M.1 ≤ M1.1 ∧ ((q_args as).length ≤ q_mxl y → ∀ (D : va_G) (cA : Nat → ClassId) (ad adV : Nat → Nat) (L : Nat) (xs : Nat → Int32) (sz : Nat), Met l (q_mn y) (q_wsm y) ({ frames := q_rf y, cells := M1.1 - M.1, slots := q_cum M1.1 - q_cum M.1, locals := q_rl y }) (va_Pc (as.map (q_cv ad)) (fun U => U.heap.size = sz ∧ q_St D cA ad adV L xs (va_A (q_ws cA ad M) sz) U U.heap ∧ q_Wd D cA ad L xs (fun _ => True) ph M U U.heap ∧ ∀ v ∈ as, q_vok M.1 v)) (fun _ st o t => ∃ ad' : Nat → Nat, (∀ n, n ≤ M.1 ∨ 999 ≤ n → ad' n = ad n) ∧ o = .returned (q_rv (q_rt y) (q_cv ad' v)) ∧ q_vok M1.1 v ∧ q_Wd D cA ad' L xs (va_A (q_ws cA ad M) sz) ph M1 t t.heap ∧ va_F (va_A (q_ws cA ad M) sz) st t) (M1.1 - M.1) (q_cum M1.1 - q_cum M.1) (va_A (q_ws cA ad M) sz))
section QSTEP
variable {p : Program} {l : Launch} {e : Env} {R : Room} {s : State} {m : MethodId} {args : Array Value} {below : List Frame} {meth : Method} {c : Code} {Q : State → Prop} {D : va_G} {cA : Nat → ClassId} {ad0 adV : Nat → Nat} {L : Nat} {xs : Nat → Int32} {A : Nat → Prop}
def q_Fx (p : Program) (R : Room) (s : State) (m : MethodId) (args : Array Value) (meth : Method) (c : Code) (D : va_G) (cA : Nat → ClassId) (ad0 adV : Nat → Nat) (L : Nat) (xs : Nat → Int32) (A : Nat → Prop) (y : Nat) : Prop :=
  p.tables.exec = Jvm.exec ∧ c.code = q_by y ∧ c.maxLocals = q_mxl y ∧ s.vm.findClass (q_mn y).cls = some m.cls ∧ (∀ w ∈ q_words, w.before args s = true) ∧ q_rf y ≤ R.frames ∧ q_rl y ≤ R.locals ∧ ((q_mn y).name = "<init>" → meth.name = "<init>") ∧ q_St D cA ad0 adV L xs A s s.heap ∧ (∀ q, s.heap.size ≤ q → A q)
def q_W (p : Program) (l : Launch) (e : Env) (R : Room) (s : State) (m : MethodId) (args : Array Value) (below : List Frame) (meth : Method) (c : Code) (Q : State → Prop) (D : va_G) (cA : Nat → ClassId) (ad0 : Nat → Nat) (L : Nat) (xs : Nat → Int32) (A : Nat → Prop) (ph : Bool) (y n0 kc ks : Nat) (f : qF) (M : qM) : Prop :=
  ∀ (ad : Nat → Nat) (H : Heap) (locs : List Loc) (ls : Array Slot), (∀ n, n ≤ n0 ∨ 999 ≤ n → ad n = ad0 n) → q_LL ad M.1 (q_mxl y) ls f.2.2.1 → (∀ v ∈ f.2.2.2, q_vok M.1 v) → q_Wd D cA ad L xs A ph M s H → va_S A s.heap H locs → n0 ≤ M.1 → W p l e R s m args below meth c H locs (kc + (M.1 - n0)) (ks + (q_cum M.1 - q_cum n0)) Q (F0 m f.2.1 ls (f.2.2.2.map (q_cv ad)))
/-- at a return, or where an exception is made: what is on top, and the instruction -/
def q_rok (y : Nat) (ins : Instr) (st : List qV) (v : qV) : Prop :=
  (ins = .ireturn ∧ ∃ z, st = [vi z] ∧ v = vi z ∧ (q_rt y = some .int ∨ (q_rt y = some .boolean ∧ (z = 0 ∨ z = 1)))) ∨ (ins = .lreturn ∧ ∃ z, st = [vl z] ∧ v = vl z ∧ q_rt y = some .long) ∨ (ins = .areturn ∧ ∃ n C, st = [vr n] ∧ v = vr n ∧ q_rt y = some (.object C)) ∨ (ins = .return_ ∧ st = [] ∧ v = vu ∧ q_rt y = none) ∨ (y = q_XLED ∧ (∃ i, ins = .new i) ∧ st = [] ∧ v = vu)
theorem q_at_tys {U : State} {M : qM} {n : Nat} (hK : va_K D q_cl [] U) (hT : ∀ n, 1 ≤ n → n ≤ M.1 → 1 ≤ kd n → kd n ≤ 5 → ArrOfT U (cA (kd n)) (q_at (kd n)) ∧ va_RA U (cA (kd n)) (q_at (kd n))) (h1 : 1 ≤ n) (h2 : n ≤ M.1) (h3 : 1 ≤ kd n) (h4 : kd n ≤ 5) : va_K D q_cl [(cA (kd n), q_at (kd n))] U :=
  ⟨hK.1, fun k q hk => by
    have hz : k < 1 := (List.getElem?_eq_some_iff.mp hk).1
    rw [show k = 0 by omega] at hk
    cases hk
    exact hT n h1 h2 h3 h4⟩
/-- a world whose one cell changed in its ints -/
theorem q_Wd_I {ad : Nat → Nat} {ph : Bool} {M : qM} {U : State} {H H1 : Heap} {a k : Nat} {z : Int} (h : q_Wd D cA ad L xs A ph M U H) (h1 : 1 ≤ a) (h2 : a ≤ M.1) (hz : q_i32 z) (hP : va_P D q_cl ((q_ws cA ad M).set (a - 1) (ad a, q_ce cA ad (sI M a k z) a)) H1) (hD : va_D A ((q_ws cA ad M).set (a - 1) (ad a, q_ce cA ad (sI M a k z) a))) : q_Wd D cA ad L xs A ph (sI M a k z) U H1 := by
  obtain ⟨-, -, g3, ⟨r1, r2, r3⟩, ⟨g5, g6⟩, g7, g8⟩ := h
  have hx : a ≠ 998 ∧ a ≠ 999 := by
    have : q_NX ≤ 990 := by decide
    constructor <;> omega
  have hs : (q_ws cA ad M).set (a - 1) (ad a, q_ce cA ad (sI M a k z) a) = q_ws cA ad (sI M a k z) := q_ws_set (M := M) (M' := sI M a k z) (show (sI M a k z).1 = M.1 from rfl) h1 h2 (fun n hn => by
    have e : ∀ j, mI (sI M a k z) n j = mI M n j := fun j => if_neg (fun q => hn q.1)
    have e2 : ∀ c, q_fs ad (sI M a k z) n c = q_fs ad M n c := fun c => by
      unfold q_fs
      congr 1
      funext j
      unfold q_fv
      rw [e]
      rfl
    unfold q_ce
    simp only [e, e2]
    try rfl)
  rw [hs] at hP hD
  refine ⟨hP, hD, g3, ⟨fun b j => ?_, r2, r3⟩, ⟨?_, fun j hj => ?_⟩, g7, g8⟩
  · show q_i32 (if b = a ∧ j = k then z else mI M b j)
    split
    · exact hz
    · exact r1 b j
  · show (if 998 = a ∧ 0 = k then z else mI M 998 0) = _
    rw [if_neg (fun q => hx.1 q.1.symm)]; exact g5
  · show (if 999 = a ∧ j = k then z else mI M 999 j) = _
    rw [if_neg (fun q => hx.2 q.1.symm)]; exact g6 j hj
theorem q_Wd_J {ad : Nat → Nat} {ph : Bool} {M : qM} {U : State} {H H1 : Heap} {a k : Nat} {z : Int} (h : q_Wd D cA ad L xs A ph M U H) (h1 : 1 ≤ a) (h2 : a ≤ M.1) (hz : q_i64 z) (hP : va_P D q_cl ((q_ws cA ad M).set (a - 1) (ad a, q_ce cA ad (sJ M a k z) a)) H1) (hD : va_D A ((q_ws cA ad M).set (a - 1) (ad a, q_ce cA ad (sJ M a k z) a))) : q_Wd D cA ad L xs A ph (sJ M a k z) U H1 := by
  obtain ⟨-, -, g3, ⟨r1, r2, r3⟩, ⟨g5, g6⟩, g7, g8⟩ := h
  have hs : (q_ws cA ad M).set (a - 1) (ad a, q_ce cA ad (sJ M a k z) a) = q_ws cA ad (sJ M a k z) := q_ws_set (M := M) (M' := sJ M a k z) (show (sJ M a k z).1 = M.1 from rfl) h1 h2 (fun n hn => by
    have e : ∀ j, mJ (sJ M a k z) n j = mJ M n j := fun j => if_neg (fun q => hn q.1)
    have e2 : ∀ c, q_fs ad (sJ M a k z) n c = q_fs ad M n c := fun c => by
      unfold q_fs
      congr 1
      funext j
      unfold q_fv
      rw [e]
      rfl
    unfold q_ce
    simp only [e, e2]
    try rfl)
  rw [hs] at hP hD
  refine ⟨hP, hD, g3, ⟨r1, fun b j => ?_, r3⟩, ⟨g5, g6⟩, g7, g8⟩
  show q_i64 (if b = a ∧ j = k then z else mJ M b j)
  split
  · exact hz
  · exact r2 b j
theorem q_Wd_R {ad : Nat → Nat} {ph : Bool} {M : qM} {U : State} {H H1 : Heap} {a k r : Nat} (h : q_Wd D cA ad L xs A ph M U H) (h1 : 1 ≤ a) (h2 : a ≤ M.1) (hr : r ≤ M.1) (hP : va_P D q_cl ((q_ws cA ad M).set (a - 1) (ad a, q_ce cA ad (sR M a k r) a)) H1) (hD : va_D A ((q_ws cA ad M).set (a - 1) (ad a, q_ce cA ad (sR M a k r) a))) : q_Wd D cA ad L xs A ph (sR M a k r) U H1 := by
  obtain ⟨-, -, g3, ⟨r1, r2, r3⟩, ⟨g5, g6⟩, g7, g8⟩ := h
  have hs : (q_ws cA ad M).set (a - 1) (ad a, q_ce cA ad (sR M a k r) a) = q_ws cA ad (sR M a k r) := q_ws_set (M := M) (M' := sR M a k r) (show (sR M a k r).1 = M.1 from rfl) h1 h2 (fun n hn => by
    have e : ∀ j, mR (sR M a k r) n j = mR M n j := fun j => if_neg (fun q => hn q.1)
    have e2 : ∀ c, q_fs ad (sR M a k r) n c = q_fs ad M n c := fun c => by
      unfold q_fs
      congr 1
      funext j
      unfold q_fv
      rw [e]
      rfl
    unfold q_ce
    simp only [e, e2]
    try rfl)
  rw [hs] at hP hD
  refine ⟨hP, hD, g3, ⟨r1, r2, fun b j => ?_⟩, ⟨g5, g6⟩, g7, g8⟩
  show (if b = a ∧ j = k then r else mR M b j) ≤ M.1
  split
  · exact hr
  · exact r3 b j
theorem q_ce_obj {ad : Nat → Nat} {M : qM} {a i : Nat} (h : kd a = 10 + i) : q_ce cA ad M a = .inr (i, q_fs ad M a i) := by
  unfold q_ce
  rw [if_neg (by omega), if_neg (by omega), if_neg (by omega), h, show 10 + i - 10 = i by omega]
theorem q_ce_int {ad : Nat → Nat} {M : qM} {a i : Nat} (h : kd a = i) (hi : i = 1 ∨ i = 2) : q_ce cA ad M a = .inl (cA i, (q_lay a).2, .inl (fun j => Int32.ofInt (mI M a j))) := by
  unfold q_ce
  rw [if_pos (by rw [h]; exact hi), h]
theorem q_ce_long {ad : Nat → Nat} {M : qM} {a : Nat} (h : kd a = 3) : q_ce cA ad M a = .inl (cA 3, (q_lay a).2, .inr (.inl (fun j => Int64.ofInt (mJ M a j)))) := by
  unfold q_ce
  rw [if_neg (by omega), if_pos h, h]
theorem q_ce_ref {ad : Nat → Nat} {M : qM} {a i : Nat} (h : kd a = i) (hi : i = 4 ∨ i = 5) : q_ce cA ad M a = .inl (cA i, (q_lay a).2, .inr (.inr (.inr (.inr (fun j => q_ro ad (mR M a j)))))) := by
  unfold q_ce
  rw [if_neg (by omega), if_neg (by omega), if_pos (by rw [h]; exact hi), h]
theorem q_fs_get {ad : Nat → Nat} {M : qM} {a i k : Nat} (h : k < q_N i) : (q_fs ad M a i)[k]? = some (q_fv ad M a i k) := by
  unfold q_fs
  rw [List.getElem?_map, List.getElem?_range h]
  rfl
theorem q_fs_len {ad : Nat → Nat} {M : qM} {a i : Nat} : (q_fs ad M a i).length = q_N i := by
  unfold q_fs
  rw [List.length_map, List.length_range]
theorem q_fs_set {ad : Nat → Nat} {M M' : qM} {a i k : Nat} (h : k < q_N i) (ho : ∀ j, j ≠ k → q_fv ad M' a i j = q_fv ad M a i j) : (q_fs ad M a i).set k (q_fv ad M' a i k) = q_fs ad M' a i := by
  apply List.ext_getElem?
  intro j
  rw [List.getElem?_set]
  by_cases hj : j < q_N i
  · rw [q_fs_get hj, q_fs_get hj, q_fs_len]
    split
    · rename_i e
      subst e
      rfl
    · rename_i e
      rw [ho j (fun q => e q.symm)]
  · have e1 : (q_fs ad M' a i)[j]? = none := List.getElem?_eq_none (by rw [q_fs_len]; omega)
    have e2 : (q_fs ad M a i)[j]? = none := List.getElem?_eq_none (by rw [q_fs_len]; omega)
    rw [e1, e2]
    split
    · omega
    · rfl
theorem q_cl_at {i : Nat} (h : i < 12) : q_cl[i]? = some (q_C i, q_T i, q_N i) := by
  rcases (show i = 0 ∨ i = 1 ∨ i = 2 ∨ i = 3 ∨ i = 4 ∨ i = 5 ∨ i = 6 ∨ i = 7 ∨ i = 8 ∨ i = 9 ∨ i = 10 ∨ i = 11 by omega) with rfl | rfl | rfl | rfl | rfl | rfl | rfl | rfl | rfl | rfl | rfl | rfl <;> rfl
theorem q_ty_ok {i : Nat} (h : i < 12) : ∀ k, k < q_N i → parseFieldDescriptor (q_T i k).2.2.1 = some (q_ty i k) := by
  rcases (show i = 0 ∨ i = 1 ∨ i = 2 ∨ i = 3 ∨ i = 4 ∨ i = 5 ∨ i = 6 ∨ i = 7 ∨ i = 8 ∨ i = 9 ∨ i = 10 ∨ i = 11 by omega) with rfl | rfl | rfl | rfl | rfl | rfl | rfl | rfl | rfl | rfl | rfl | rfl
  · exact tyX0_ok
  · exact tyX2_ok
  · exact tyX3_ok
  · exact tyX4_ok
  · exact tyX5_ok
  · exact tyX6_ok
  · exact tyX7_ok
  · exact tyX8_ok
  · exact tyX9_ok
  · exact tyX10_ok
  · exact tyX11_ok
  · exact tyX12_ok
theorem q_nm_ok {i : Nat} (h : i < 12) : ∀ a, a < q_N i → ∀ b, b < q_N i → a ≠ b → (q_T i a).2.1 ≠ (q_T i b).2.1 := by
  rcases (show i = 0 ∨ i = 1 ∨ i = 2 ∨ i = 3 ∨ i = 4 ∨ i = 5 ∨ i = 6 ∨ i = 7 ∨ i = 8 ∨ i = 9 ∨ i = 10 ∨ i = 11 by omega) with rfl | rfl | rfl | rfl | rfl | rfl | rfl | rfl | rfl | rfl | rfl | rfl
  · exact nmX0
  · exact nmX2
  · exact nmX3
  · exact nmX4
  · exact nmX5
  · exact nmX6
  · exact nmX7
  · exact nmX8
  · exact nmX9
  · exact nmX10
  · exact nmX11
  · exact nmX12
set_option maxRecDepth 100000 in
theorem q_lp_ok : (List.range 12).all (fun i => decide (u_ws (q_C i) (q_T i) (q_N i) = (q_lp i).filterMap (fun p => lw_tbl[p]?)) && (u_ws (q_C i) (q_T i) (q_N i)).all goodWord) = true := by decide +kernel
theorem q_lays {i : Nat} (h : i < 12) : ∀ w ∈ u_ws (q_C i) (q_T i) (q_N i), w ∈ q_words := by
  intro w hw
  have h1 := List.all_eq_true.mp q_lp_ok i (List.mem_range.mpr h)
  rw [Bool.and_eq_true] at h1
  have h2 := of_decide_eq_true h1.1
  have h3 := List.all_eq_true.mp h1.2 w hw
  rw [h2] at hw
  obtain ⟨k, -, hk⟩ := List.mem_filterMap.mp hw
  exact List.mem_filter.mpr ⟨List.mem_of_getElem? hk, h3⟩
theorem q_tc_0 {t : FieldType} (h : q_tc t = 0) : t = .int := by
  cases t <;> first | rfl | (exfalso; revert h; decide) | (exfalso; unfold q_tc at h; simp at h)
theorem q_tc_1 {t : FieldType} (h : q_tc t = 1) : t = .long := by
  cases t <;> first | rfl | (exfalso; revert h; decide) | (exfalso; unfold q_tc at h; simp at h)
theorem q_tc_3 {t : FieldType} (h : q_tc t = 3) : t = .boolean := by
  cases t <;> first | rfl | (exfalso; revert h; decide) | (exfalso; unfold q_tc at h; simp at h)
end QSTEP

section QSTEP7
variable {p : Program} {l : Launch} {e : Env} {R : Room} {s : State} {m : MethodId} {args : Array Value} {below : List Frame} {meth : Method} {c : Code} {Q : State → Prop} {D : va_G} {cA : Nat → ClassId} {ad0 adV : Nat → Nat} {L : Nat} {xs : Nat → Int32} {A : Nat → Prop}
def q_PJ (adK adV : Nat → Nat) (A : Nat → Prop) (sz : Nat) (as : List Value) : Array Value → State → Prop := va_Pc as (fun U => U.heap.size = sz ∧ vk_S 12 q_tl q_tb adK adV A U U.heap ∧ va_Z "java/lang/String" "COMPACT_STRINGS" "Z" (.int 1) A U U.heap ∧ va_Zq "jdk/internal/util/Preconditions" "SIOOBE_FORMATTER" "Ljava/util/function/BiFunction;" A U U.heap)
/-- what the JDK's length and charAt answer of the texts -/
def q_HJ (l : Launch) : Prop :=
  (∀ (adK adV : Nat → Nat) (k sz : Nat) (A : Nat → Prop), k < 12 → (∀ q, sz ≤ q → A q) → Met l yJ0_length_8abf5 (Cond.code yJ0_length_8abf5 cJ0_length_8abf5 1 (some .int) :: q_words) ({ frames := 1, cells := 0, slots := 0, locals := 20 }) (q_PJ adK adV A sz [.ref (adK k)]) (vp_Si (fun r => r = Int32.ofInt (q_slen (1000 + k)))) 0 0 (fun _ => False)) ∧
  (∀ (adK adV : Nat → Nat) (k sz : Nat) (A : Nat → Prop) (i : Int), k < 12 → (∀ q, sz ≤ q → A q) → 0 ≤ i → i < q_slen (1000 + k) → Met l yJ0_charAt_5068e (Cond.code yJ0_charAt_5068e cJ0_charAt_5068e 2 (some .char) :: q_words) ({ frames := 3, cells := 0, slots := 0, locals := 64 }) (q_PJ adK adV A sz [.ref (adK k), .int (Int32.ofInt i)]) (vp_Si (fun r => r = Int32.ofInt (q_sat (1000 + k) i.toNat))) 0 0 (fun _ => False))
theorem q_kd7 {n : Nat} (h : kd n = 7) : ∃ k, k < 12 ∧ n = 1000 + k := by
  have h7 : ¬ n ≤ q_NX := fun q => (q_lay_kd q).2.1 h
  unfold kd q_lay at h
  have a : Nat.ble n 0 = false := by rw [← Bool.not_eq_true]; exact fun q => absurd (Nat.le_of_ble_eq_true q) (by omega)
  have b : Nat.ble n 283 = false := by rw [← Bool.not_eq_true]; exact fun q => h7 (Nat.le_of_ble_eq_true q)
  rw [a, b] at h
  simp only [cond_false] at h
  cases c : Nat.ble n 998 with
  | true => rw [c] at h; cases h
  | false =>
    cases d : Nat.ble n 999 with
    | true => rw [c, d] at h; cases h
    | false =>
      cases e : Nat.ble n 1011 with
      | true =>
        have := Nat.le_of_ble_eq_true e
        have d2 : ¬ n ≤ 999 := fun q => by rw [Nat.ble_eq_true_of_le q] at d; cases d
        exact ⟨n - 1000, by omega, by omega⟩
      | false => rw [c, d, e] at h; cases h
theorem q_PJ_blind {adK adV : Nat → Nat} {A : Nat → Prop} {sz : Nat} {as : List Value} : FrameBlind (q_PJ adK adV A sz as) := by
  intro a U g mk h
  obtain ⟨h1, h2, h3, h4, h5⟩ := h
  exact ⟨h1, h2, vk_S.moved (u := U) (U := U.calling g mk a) (Vm.Alike.refl U.vm) h3, va_Z.moved (u := U) (U := U.calling g mk a) (Vm.Alike.refl U.vm) h4, va_Zq.moved (u := U) (U := U.calling g mk a) (Vm.Alike.refl U.vm) h5⟩
/-- behind a call that only reads -/
theorem q_read_end {H : Heap} {locs : List Loc} {cells slots pc : Nat} {ls : Array Slot} {st0 rest : List Value} {r0 : Int32} {a : Array Value} (hS : va_S A s.heap H locs) (hr : va_Run p l e R s m args below meth c H locs cells slots 0 0 (F0 m pc ls st0) rest (vp_Si (fun r => r = r0) a) (fun _ => False)) (kk : ∀ locs1, va_S A s.heap H locs1 → (∀ q ∈ locs1, q ∈ locs) → W p l e R s m args below meth c H locs1 cells slots Q (F0 m (pc + 3) ls (.int r0 :: rest))) : W p l e R s m args below meth c H locs cells slots Q (F0 m pc ls st0) := by
  refine q_after hr (fun v st t T' Lx h0 e1 e2 hW hLx hq => ?_)
  obtain ⟨r, ho, rfl, hh⟩ := hq
  cases ho
  rw [hh, h0]
  exact kk _ ⟨hS.1, hS.2.1, fun q hq => by
    rcases List.mem_append.mp hq with h | h
    · exact hS.2.2 q h
    · exact (hLx q h).elim⟩ (fun q hq => by
    rcases List.mem_append.mp hq with h | h
    · exact h
    · exact (hLx q h).elim)
theorem q_read_endV {H : Heap} {locs : List Loc} {cells slots pc : Nat} {ls : Array Slot} {st0 rest : List Value} {a : Array Value} (hS : va_S A s.heap H locs) (hr : va_Run p l e R s m args below meth c H locs cells slots 0 0 (F0 m pc ls st0) rest ((fun (_ : Array Value) (st : State) (o : Outcome) (t : State) => o = .returned none ∧ t.heap = st.heap) a) (fun _ => False)) (kk : ∀ locs1, va_S A s.heap H locs1 → (∀ q ∈ locs1, q ∈ locs) → W p l e R s m args below meth c H locs1 cells slots Q (F0 m (pc + 3) ls rest)) : W p l e R s m args below meth c H locs cells slots Q (F0 m pc ls st0) := by
  refine q_after hr (fun v st t T' Lx h0 e1 e2 hW hLx hq => ?_)
  obtain ⟨ho, hh⟩ := hq
  cases ho
  rw [hh, h0]
  exact kk _ ⟨hS.1, hS.2.1, fun q hq => by
    rcases List.mem_append.mp hq with h | h
    · exact hS.2.2 q h
    · exact (hLx q h).elim⟩ (fun q hq => by
    rcases List.mem_append.mp hq with h | h
    · exact h
    · exact (hLx q h).elim)

theorem q_str_all : (List.range 12).all (fun k => decide ((q_str (1000 + k)).length < 100) && (q_str (1000 + k)).all (fun z => decide (z < 256))) = true := by decide +kernel
theorem q_slen_ok {B k : Nat} (h : k < 12) : q_vok B (vi (q_slen (1000 + k))) := by
  have h1 := List.all_eq_true.mp q_str_all k (List.mem_range.mpr h)
  rw [Bool.and_eq_true] at h1
  have h2 := of_decide_eq_true h1.1
  exact ⟨by show (-2147483648 : Int) ≤ ((q_str (1000 + k)).length : Int); omega, by show ((q_str (1000 + k)).length : Int) < 2147483648; omega⟩
theorem q_sat_ok {B k : Nat} (h : k < 12) (i : Nat) : q_vok B (vi (q_sat (1000 + k) i)) := by
  have h1 := List.all_eq_true.mp q_str_all k (List.mem_range.mpr h)
  rw [Bool.and_eq_true] at h1
  have h2 : (q_str (1000 + k)).getD i 0 < 256 := by
    rw [List.getD_eq_getElem?_getD]
    cases hl : (q_str (1000 + k))[i]? with
    | none => exact by decide
    | some z => exact of_decide_eq_true (List.all_eq_true.mp h1.2 z (List.mem_of_getElem? hl))
  exact ⟨by show (-2147483648 : Int) ≤ (((q_str (1000 + k)).getD i 0 : Nat) : Int); omega, by show (((q_str (1000 + k)).getD i 0 : Nat) : Int) < 2147483648; omega⟩

set_option maxRecDepth 20000 in
theorem q_s_ldcI {i : Nat} {ph : Bool} {y n0 kc ks pc : Nat} {M : qM} {ad : Nat → Nat} {H : Heap} {locs : List Loc} {ls : Array Slot} {Lc st : List qV} {x : List Nat} {cl0 : Nat → List qV → Nat → List qV → Prop} {rt0 : qV → qM → Prop} {nx : List qV → List qV → qM → Prop} {jp : Nat → List qV → Prop} {len : Nat}
    (hF : q_Fx p R s m args meth c D cA ad0 adV L xs A y) (had : ∀ n, n ≤ n0 ∨ 999 ≤ n → ad n = ad0 n) (hL : q_LL ad M.1 (q_mxl y) ls Lc) (hst : ∀ v ∈ st, q_vok M.1 v) (hWd : q_Wd D cA ad L xs A ph M s H) (hS : va_S A s.heap H locs) (hn0 : n0 ≤ M.1)
    (hN : q_NX1 p l e R s m args below meth c Q D cA ad0 L xs A ph y n0 kc ks (pc + len) M nx) (hJ : q_JP1 p l e R s m args below meth c Q ad n0 kc ks M H locs ls jp) (hd : decode (q_by y) pc = .ok (.ldc i, len)) (hln : len = 2) (hz : qx x 0 = 0) (w1 : Cond.constant (q_mn y).cls i (Int32.ofInt (qx x 1 : Int)) ∈ q_words) (hlt : qx x 1 < 2147483648) (h : q_ex (α := Prop) ph cl0 nx jp rt0 False Lc st M x (.ldc i)) : W p l e R s m args below meth c H locs (kc + (M.1 - n0)) (ks + (q_cum M.1 - q_cum n0)) Q (F0 m pc ls (st.map (q_cv ad))) := by
  subst hln
  obtain ⟨hx, hb, hml, hown, hts, hrf, hrl, hnm, hSt, hA⟩ := hF
  have n1 : ∀ (L' st' : List qV) (ls' : Array Slot), nx L' st' M → q_LL ad M.1 (q_mxl y) ls' L' → (∀ v ∈ st', q_vok M.1 v) → W p l e R s m args below meth c H locs (kc + (M.1 - n0)) (ks + (q_cum M.1 - q_cum n0)) Q (F0 m (pc + 2) ls' (st'.map (q_cv ad))) := fun L' st' ls' g h1 h2 => hN L' st' M ad H locs ls' g had h1 h2 hWd hS (Nat.le_refl _)
  exact lv_ldc hx hb hown (hts _ w1) hd (n1 _ _ _ (show nx Lc (vi (qx x 1 : Int) :: st) M by unfold q_ex q_m at h; rw [hz] at h; exact h) hL (List.forall_mem_cons.mpr ⟨⟨by omega, by omega⟩, hst⟩))
set_option maxRecDepth 20000 in
theorem q_s_ldcwI {i : Nat} {ph : Bool} {y n0 kc ks pc : Nat} {M : qM} {ad : Nat → Nat} {H : Heap} {locs : List Loc} {ls : Array Slot} {Lc st : List qV} {x : List Nat} {cl0 : Nat → List qV → Nat → List qV → Prop} {rt0 : qV → qM → Prop} {nx : List qV → List qV → qM → Prop} {jp : Nat → List qV → Prop} {len : Nat}
    (hF : q_Fx p R s m args meth c D cA ad0 adV L xs A y) (had : ∀ n, n ≤ n0 ∨ 999 ≤ n → ad n = ad0 n) (hL : q_LL ad M.1 (q_mxl y) ls Lc) (hst : ∀ v ∈ st, q_vok M.1 v) (hWd : q_Wd D cA ad L xs A ph M s H) (hS : va_S A s.heap H locs) (hn0 : n0 ≤ M.1)
    (hN : q_NX1 p l e R s m args below meth c Q D cA ad0 L xs A ph y n0 kc ks (pc + len) M nx) (hJ : q_JP1 p l e R s m args below meth c Q ad n0 kc ks M H locs ls jp) (hd : decode (q_by y) pc = .ok (.ldc_w i, len)) (hln : len = 3) (hz : qx x 0 = 0) (w1 : Cond.constant (q_mn y).cls i (Int32.ofInt (qx x 1 : Int)) ∈ q_words) (hlt : qx x 1 < 2147483648) (h : q_ex (α := Prop) ph cl0 nx jp rt0 False Lc st M x (.ldc_w i)) : W p l e R s m args below meth c H locs (kc + (M.1 - n0)) (ks + (q_cum M.1 - q_cum n0)) Q (F0 m pc ls (st.map (q_cv ad))) := by
  subst hln
  obtain ⟨hx, hb, hml, hown, hts, hrf, hrl, hnm, hSt, hA⟩ := hF
  have n1 : ∀ (L' st' : List qV) (ls' : Array Slot), nx L' st' M → q_LL ad M.1 (q_mxl y) ls' L' → (∀ v ∈ st', q_vok M.1 v) → W p l e R s m args below meth c H locs (kc + (M.1 - n0)) (ks + (q_cum M.1 - q_cum n0)) Q (F0 m (pc + 3) ls' (st'.map (q_cv ad))) := fun L' st' ls' g h1 h2 => hN L' st' M ad H locs ls' g had h1 h2 hWd hS (Nat.le_refl _)
  exact lv_ldcw hx hb hown (hts _ w1) hd (n1 _ _ _ (show nx Lc (vi (qx x 1 : Int) :: st) M by unfold q_ex q_m at h; rw [hz] at h; exact h) hL (List.forall_mem_cons.mpr ⟨⟨by omega, by omega⟩, hst⟩))
set_option maxRecDepth 20000 in
theorem q_s_ldcS {i : Nat} {ph : Bool} {y n0 kc ks pc : Nat} {M : qM} {ad : Nat → Nat} {H : Heap} {locs : List Loc} {ls : Array Slot} {Lc st : List qV} {x : List Nat} {cl0 : Nat → List qV → Nat → List qV → Prop} {rt0 : qV → qM → Prop} {nx : List qV → List qV → qM → Prop} {jp : Nat → List qV → Prop} {len : Nat}
    (hF : q_Fx p R s m args meth c D cA ad0 adV L xs A y) (had : ∀ n, n ≤ n0 ∨ 999 ≤ n → ad n = ad0 n) (hL : q_LL ad M.1 (q_mxl y) ls Lc) (hst : ∀ v ∈ st, q_vok M.1 v) (hWd : q_Wd D cA ad L xs A ph M s H) (hS : va_S A s.heap H locs) (hn0 : n0 ≤ M.1)
    (hN : q_NX1 p l e R s m args below meth c Q D cA ad0 L xs A ph y n0 kc ks (pc + len) M nx) (hJ : q_JP1 p l e R s m args below meth c Q ad n0 kc ks M H locs ls jp) (hd : decode (q_by y) pc = .ok (.ldc i, len)) (hln : len = 2) {tx : String} (hz : qx x 0 ≠ 0) (w1 : ((q_mn y).cls, i, tx, qx x 1) ∈ q_strs) (h : q_ex (α := Prop) ph cl0 nx jp rt0 False Lc st M x (.ldc i)) : W p l e R s m args below meth c H locs (kc + (M.1 - n0)) (ks + (q_cum M.1 - q_cum n0)) Q (F0 m pc ls (st.map (q_cv ad))) := by
  subst hln
  obtain ⟨hx, hb, hml, hown, hts, hrf, hrl, hnm, hSt, hA⟩ := hF
  have n1 : ∀ (L' st' : List qV) (ls' : Array Slot), nx L' st' M → q_LL ad M.1 (q_mxl y) ls' L' → (∀ v ∈ st', q_vok M.1 v) → W p l e R s m args below meth c H locs (kc + (M.1 - n0)) (ks + (q_cum M.1 - q_cum n0)) Q (F0 m (pc + 2) ls' (st'.map (q_cv ad))) := fun L' st' ls' g h1 h2 => hN L' st' M ad H locs ls' g had h1 h2 hWd hS (Nat.le_refl _)
  have g : nx Lc (vr (1000 + qx x 1) :: st) M := by
    unfold q_ex q_m at h
    cases hb9 : Nat.beq (qx x 0) 0 with
    | true => exact absurd (Nat.eq_of_beq_eq_true hb9) hz
    | false => rw [hb9] at h; exact h
  have hv := hSt.2.2.2.2.2.1 _ w1
  simp only at hv
  have g2 := n1 _ _ _ g hL (List.forall_mem_cons.mpr ⟨Or.inr (by omega), hst⟩)
  rw [List.map_cons, q_cv_ref (by omega), had _ (Or.inr (by omega))] at g2
  exact va_ldcS hx hb hown hv hd g2
set_option maxRecDepth 20000 in
theorem q_s_ldc2 {i : Nat} {ph : Bool} {y n0 kc ks pc : Nat} {M : qM} {ad : Nat → Nat} {H : Heap} {locs : List Loc} {ls : Array Slot} {Lc st : List qV} {x : List Nat} {cl0 : Nat → List qV → Nat → List qV → Prop} {rt0 : qV → qM → Prop} {nx : List qV → List qV → qM → Prop} {jp : Nat → List qV → Prop} {len : Nat}
    (hF : q_Fx p R s m args meth c D cA ad0 adV L xs A y) (had : ∀ n, n ≤ n0 ∨ 999 ≤ n → ad n = ad0 n) (hL : q_LL ad M.1 (q_mxl y) ls Lc) (hst : ∀ v ∈ st, q_vok M.1 v) (hWd : q_Wd D cA ad L xs A ph M s H) (hS : va_S A s.heap H locs) (hn0 : n0 ≤ M.1)
    (hN : q_NX1 p l e R s m args below meth c Q D cA ad0 L xs A ph y n0 kc ks (pc + len) M nx) (hJ : q_JP1 p l e R s m args below meth c Q ad n0 kc ks M H locs ls jp) (hd : decode (q_by y) pc = .ok (.ldc2_w i, len)) (hln : len = 3) (w1 : Cond.constantLong (q_mn y).cls i (-1) ∈ q_words) (h : q_ex (α := Prop) ph cl0 nx jp rt0 False Lc st M x (.ldc2_w i)) : W p l e R s m args below meth c H locs (kc + (M.1 - n0)) (ks + (q_cum M.1 - q_cum n0)) Q (F0 m pc ls (st.map (q_cv ad))) := by
  subst hln
  obtain ⟨hx, hb, hml, hown, hts, hrf, hrl, hnm, hSt, hA⟩ := hF
  have n1 : ∀ (L' st' : List qV) (ls' : Array Slot), nx L' st' M → q_LL ad M.1 (q_mxl y) ls' L' → (∀ v ∈ st', q_vok M.1 v) → W p l e R s m args below meth c H locs (kc + (M.1 - n0)) (ks + (q_cum M.1 - q_cum n0)) Q (F0 m (pc + 3) ls' (st'.map (q_cv ad))) := fun L' st' ls' g h1 h2 => hN L' st' M ad H locs ls' g had h1 h2 hWd hS (Nat.le_refl _)
  exact lv_ldc2 hx hb hown (hts _ w1) hd (n1 _ _ _ h hL (List.forall_mem_cons.mpr ⟨⟨by decide, by decide⟩, hst⟩))
set_option maxRecDepth 20000 in
theorem q_s_slen {i : Nat} {ph : Bool} {y n0 kc ks pc : Nat} {M : qM} {ad : Nat → Nat} {H : Heap} {locs : List Loc} {ls : Array Slot} {Lc st : List qV} {x : List Nat} {cl0 : Nat → List qV → Nat → List qV → Prop} {rt0 : qV → qM → Prop} {nx : List qV → List qV → qM → Prop} {jp : Nat → List qV → Prop} {len : Nat}
    (hF : q_Fx p R s m args meth c D cA ad0 adV L xs A y) (had : ∀ n, n ≤ n0 ∨ 999 ≤ n → ad n = ad0 n) (hL : q_LL ad M.1 (q_mxl y) ls Lc) (hst : ∀ v ∈ st, q_vok M.1 v) (hWd : q_Wd D cA ad L xs A ph M s H) (hS : va_S A s.heap H locs) (hn0 : n0 ≤ M.1)
    (hN : q_NX1 p l e R s m args below meth c Q D cA ad0 L xs A ph y n0 kc ks (pc + len) M nx) (hJ : q_JP1 p l e R s m args below meth c Q ad n0 kc ks M H locs ls jp) (hd : decode (q_by y) pc = .ok (.invokevirtual i, len)) (hln : len = 3) (hz : qx x 0 = 1) (hJD : q_HJ l) (hf2 : 2 ≤ q_rf y) (hl40 : 40 ≤ q_rl y) (hcr : kc + (M.1 - n0) ≤ R.cells ∧ ks + (q_cum M.1 - q_cum n0) ≤ R.slots) (w1 : Cond.methodLink (q_mn y).cls i yJ0_length_8abf5 ∈ q_words) (w2 : Cond.instanceMethod yJ0_length_8abf5 ∈ q_words) (w3 : Cond.selects RJ0 yJ0_length_8abf5 yJ0_length_8abf5 ∈ q_words) (w4 : Cond.initialized RJ0 ∈ q_words) (w5 : Cond.code yJ0_length_8abf5 cJ0_length_8abf5 1 (some .int) ∈ q_words) (h : q_ex (α := Prop) ph cl0 nx jp rt0 False Lc st M x (.invokevirtual i)) : W p l e R s m args below meth c H locs (kc + (M.1 - n0)) (ks + (q_cum M.1 - q_cum n0)) Q (F0 m pc ls (st.map (q_cv ad))) := by
  subst hln
  obtain ⟨hx, hb, hml, hown, hts, hrf, hrl, hnm, hSt, hA⟩ := hF
  have n1 : ∀ (L' st' : List qV) (ls' : Array Slot), nx L' st' M → q_LL ad M.1 (q_mxl y) ls' L' → (∀ v ∈ st', q_vok M.1 v) → W p l e R s m args below meth c H locs (kc + (M.1 - n0)) (ks + (q_cum M.1 - q_cum n0)) Q (F0 m (pc + 3) ls' (st'.map (q_cv ad))) := fun L' st' ls' g h1 h2 => hN L' st' M ad H locs ls' g had h1 h2 hWd hS (Nat.le_refl _)
  obtain ⟨k, r, e1, g⟩ := q_r1_of (show qr1 st False (fun s r => q_m (qcat r - 8) 0 (if kd s = 7 then nx Lc (vi (q_slen s) :: r) M else False) False) by unfold q_ex q_m at h; rw [hz] at h; exact h)
  subst e1
  obtain ⟨hc, g⟩ := q_m_t g
  obtain ⟨hk7, g⟩ := q_if_t g
  obtain ⟨k0, hk0, rfl⟩ := q_kd7 hk7
  have h1 := List.forall_mem_cons.mp hst
  obtain ⟨s1, s2, s3, s4, s5, s6, s7, s8, s9, s10, s11, s12, s13⟩ := hSt
  have hadk : ad (1000 + k0) = ad0 (1000 + k0) := had _ (Or.inr (by omega))
  rw [List.map_cons, q_cv_ref (by omega), hadk]
  have hrecv := vk_recv s7 hk0 hS
  have cw : CallW R s args (q_mn y).cls RJ0 i yJ0_length_8abf5 cJ0_length_8abf5 1 (some .int) (Cond.code yJ0_length_8abf5 cJ0_length_8abf5 1 (some .int) :: q_words) ({ frames := 1, cells := 0, slots := 0, locals := 20 }) 0 0 0 :=
    ⟨callB_of 0 hts (q_goodIn2 w5) rfl rfl rfl (hts _ w4) (hts _ w1) ⟨by decide, by decide, by decide +kernel⟩ ⟨by show 1 + 1 ≤ R.frames; omega, by show 8 + (1 + 11) + 20 ≤ R.locals; omega⟩, hts _ w2, hts _ w3⟩
  have hpre : ∀ U : State, U.heap = H → s.WarmedH U.vm → q_PJ (fun k => ad0 (1000 + k)) adV A H.size [.ref (ad0 (1000 + k0))] (Value.ref (ad0 (1000 + k0)) :: []).toArray U := fun U hU hW => ⟨rfl, by rw [hU], by rw [hU]; exact vk_S.moved hW.alike (s7.kept hS.2.1), by rw [hU]; exact va_Z.moved hW.alike (s12.kept hS.2.1), by rw [hU]; exact va_Zq.moved hW.alike (s13.kept hS.2.1)⟩
  refine q_read_end (r0 := Int32.ofInt (q_slen (1000 + k0))) hS (va_runV (As := []) (rest := r.map (q_cv ad)) ⟨hx, hb, hml, hown, hts⟩ (hJD.1 (fun k => ad0 (1000 + k)) adV k0 H.size A hk0 (fun q hq => hA q (Nat.le_trans hS.1 hq))) cw ⟨q_PJ_blind, hrecv, hpre⟩ rfl rfl hL.2.1.1 rfl (lv_room (by rw [q_cat_sum]; omega)) hd ⟨by omega, by omega⟩) (fun locs1 hS1 _ => ?_)
  exact hN Lc (vi (q_slen (1000 + k0)) :: r) M ad H locs1 ls g had hL (List.forall_mem_cons.mpr ⟨q_slen_ok hk0, h1.2⟩) hWd hS1 (Nat.le_refl _)
set_option maxRecDepth 20000 in
theorem q_s_scha {i : Nat} {ph : Bool} {y n0 kc ks pc : Nat} {M : qM} {ad : Nat → Nat} {H : Heap} {locs : List Loc} {ls : Array Slot} {Lc st : List qV} {x : List Nat} {cl0 : Nat → List qV → Nat → List qV → Prop} {rt0 : qV → qM → Prop} {nx : List qV → List qV → qM → Prop} {jp : Nat → List qV → Prop} {len : Nat}
    (hF : q_Fx p R s m args meth c D cA ad0 adV L xs A y) (had : ∀ n, n ≤ n0 ∨ 999 ≤ n → ad n = ad0 n) (hL : q_LL ad M.1 (q_mxl y) ls Lc) (hst : ∀ v ∈ st, q_vok M.1 v) (hWd : q_Wd D cA ad L xs A ph M s H) (hS : va_S A s.heap H locs) (hn0 : n0 ≤ M.1)
    (hN : q_NX1 p l e R s m args below meth c Q D cA ad0 L xs A ph y n0 kc ks (pc + len) M nx) (hJ : q_JP1 p l e R s m args below meth c Q ad n0 kc ks M H locs ls jp) (hd : decode (q_by y) pc = .ok (.invokevirtual i, len)) (hln : len = 3) (hz : qx x 0 ≠ 0 ∧ qx x 0 ≠ 1) (hJD : q_HJ l) (hf2 : 4 ≤ q_rf y) (hl40 : 85 ≤ q_rl y) (hcr : kc + (M.1 - n0) ≤ R.cells ∧ ks + (q_cum M.1 - q_cum n0) ≤ R.slots) (w1 : Cond.methodLink (q_mn y).cls i yJ0_charAt_5068e ∈ q_words) (w2 : Cond.instanceMethod yJ0_charAt_5068e ∈ q_words) (w3 : Cond.selects RJ0 yJ0_charAt_5068e yJ0_charAt_5068e ∈ q_words) (w4 : Cond.initialized RJ0 ∈ q_words) (w5 : Cond.code yJ0_charAt_5068e cJ0_charAt_5068e 2 (some .char) ∈ q_words) (h : q_ex (α := Prop) ph cl0 nx jp rt0 False Lc st M x (.invokevirtual i)) : W p l e R s m args below meth c H locs (kc + (M.1 - n0)) (ks + (q_cum M.1 - q_cum n0)) Q (F0 m pc ls (st.map (q_cv ad))) := by
  subst hln
  obtain ⟨hx, hb, hml, hown, hts, hrf, hrl, hnm, hSt, hA⟩ := hF
  have n1 : ∀ (L' st' : List qV) (ls' : Array Slot), nx L' st' M → q_LL ad M.1 (q_mxl y) ls' L' → (∀ v ∈ st', q_vok M.1 v) → W p l e R s m args below meth c H locs (kc + (M.1 - n0)) (ks + (q_cum M.1 - q_cum n0)) Q (F0 m (pc + 3) ls' (st'.map (q_cv ad))) := fun L' st' ls' g h1 h2 => hN L' st' M ad H locs ls' g had h1 h2 hWd hS (Nat.le_refl _)
  obtain ⟨k, j, r, e1, g⟩ := q_ri_of (show qri st False (fun s i r => q_m (qcat r - 8) 0 (if kd s = 7 then (if 0 ≤ i ∧ i < q_slen s then nx Lc (vi (q_sat s i.toNat) :: r) M else False) else False) False) by
    unfold q_ex q_m at h
    cases hb9 : Nat.beq (qx x 0) 0 with
    | true => exact absurd (Nat.eq_of_beq_eq_true hb9) hz.1
    | false =>
      rw [hb9] at h
      cases hb8 : Nat.beq (qx x 0) 1 with
      | true => exact absurd (Nat.eq_of_beq_eq_true hb8) hz.2
      | false => rw [hb8] at h; exact h)
  subst e1
  obtain ⟨hc, g⟩ := q_m_t g
  obtain ⟨hk7, g⟩ := q_if_t g
  obtain ⟨⟨hj0, hj1⟩, g⟩ := q_if_t g
  obtain ⟨k0, hk0, rfl⟩ := q_kd7 hk7
  have h1 := List.forall_mem_cons.mp hst
  have h2 := List.forall_mem_cons.mp h1.2
  obtain ⟨s1, s2, s3, s4, s5, s6, s7, s8, s9, s10, s11, s12, s13⟩ := hSt
  have hadk : ad (1000 + k0) = ad0 (1000 + k0) := had _ (Or.inr (by omega))
  rw [List.map_cons, List.map_cons, q_cv_ref (by omega), hadk]
  have hrecv := vk_recv s7 hk0 hS
  have cw : CallW R s args (q_mn y).cls RJ0 i yJ0_charAt_5068e cJ0_charAt_5068e 2 (some .char) (Cond.code yJ0_charAt_5068e cJ0_charAt_5068e 2 (some .char) :: q_words) ({ frames := 3, cells := 0, slots := 0, locals := 64 }) 0 0 1 :=
    ⟨callB_of 1 hts (q_goodIn2 w5) rfl rfl rfl (hts _ w4) (hts _ w1) ⟨by decide, by decide, by decide +kernel⟩ ⟨by show 3 + 1 ≤ R.frames; omega, by show 8 + (2 + 11) + 64 ≤ R.locals; omega⟩, hts _ w2, hts _ w3⟩
  have hpre : ∀ U : State, U.heap = H → s.WarmedH U.vm → q_PJ (fun k => ad0 (1000 + k)) adV A H.size [.ref (ad0 (1000 + k0)), .int (Int32.ofInt j)] (Value.ref (ad0 (1000 + k0)) :: [.int (Int32.ofInt j)]).toArray U := fun U hU hW => ⟨rfl, by rw [hU], by rw [hU]; exact vk_S.moved hW.alike (s7.kept hS.2.1), by rw [hU]; exact va_Z.moved hW.alike (s12.kept hS.2.1), by rw [hU]; exact va_Zq.moved hW.alike (s13.kept hS.2.1)⟩
  refine q_read_end (r0 := Int32.ofInt (q_sat (1000 + k0) j.toNat)) hS (va_runV (As := [.int (Int32.ofInt j)]) (rest := r.map (q_cv ad)) ⟨hx, hb, hml, hown, hts⟩ (hJD.2 (fun k => ad0 (1000 + k)) adV k0 H.size A j hk0 (fun q hq => hA q (Nat.le_trans hS.1 hq)) hj0 hj1) cw ⟨q_PJ_blind, hrecv, hpre⟩ rfl rfl hL.2.1.1 rfl (lv_room (by rw [q_cat_sum]; omega)) hd ⟨by omega, by omega⟩) (fun locs1 hS1 _ => ?_)
  exact hN Lc (vi (q_sat (1000 + k0) j.toNat) :: r) M ad H locs1 ls g had hL (List.forall_mem_cons.mpr ⟨q_sat_ok hk0 _, h2.2⟩) hWd hS1 (Nat.le_refl _)
set_option maxRecDepth 20000 in
theorem q_s_mmax {i : Nat} {ph : Bool} {y n0 kc ks pc : Nat} {M : qM} {ad : Nat → Nat} {H : Heap} {locs : List Loc} {ls : Array Slot} {Lc st : List qV} {x : List Nat} {cl0 : Nat → List qV → Nat → List qV → Prop} {rt0 : qV → qM → Prop} {nx : List qV → List qV → qM → Prop} {jp : Nat → List qV → Prop} {len : Nat}
    (hF : q_Fx p R s m args meth c D cA ad0 adV L xs A y) (had : ∀ n, n ≤ n0 ∨ 999 ≤ n → ad n = ad0 n) (hL : q_LL ad M.1 (q_mxl y) ls Lc) (hst : ∀ v ∈ st, q_vok M.1 v) (hWd : q_Wd D cA ad L xs A ph M s H) (hS : va_S A s.heap H locs) (hn0 : n0 ≤ M.1)
    (hN : q_NX1 p l e R s m args below meth c Q D cA ad0 L xs A ph y n0 kc ks (pc + len) M nx) (hJ : q_JP1 p l e R s m args below meth c Q ad n0 kc ks M H locs ls jp) (hd : decode (q_by y) pc = .ok (.invokestatic i, len)) (hln : len = 3) (hz : qx x 0 = 3) (hf2 : 1 ≤ q_rf y) (hl21 : 21 ≤ q_rl y) (hcr : kc + (M.1 - n0) ≤ R.cells ∧ ks + (q_cum M.1 - q_cum n0) ≤ R.slots) (w1 : Cond.methodLink (q_mn y).cls i Lib.Math.max.name ∈ q_words) (w2 : Cond.static Lib.Math.max.name ∈ q_words) (w3 : Cond.initialized "java/lang/Math" ∈ q_words) (w4 : Cond.code Lib.Math.max.name Lib.Math.max.code 2 (some .int) ∈ q_words) (h : q_ex (α := Prop) ph cl0 nx jp rt0 False Lc st M x (.invokestatic i)) : W p l e R s m args below meth c H locs (kc + (M.1 - n0)) (ks + (q_cum M.1 - q_cum n0)) Q (F0 m pc ls (st.map (q_cv ad))) := by
  subst hln
  obtain ⟨hx, hb, hml, hown, hts, hrf, hrl, hnm, hSt, hA⟩ := hF
  have n1 : ∀ (L' st' : List qV) (ls' : Array Slot), nx L' st' M → q_LL ad M.1 (q_mxl y) ls' L' → (∀ v ∈ st', q_vok M.1 v) → W p l e R s m args below meth c H locs (kc + (M.1 - n0)) (ks + (q_cum M.1 - q_cum n0)) Q (F0 m (pc + 3) ls' (st'.map (q_cv ad))) := fun L' st' ls' g h1 h2 => hN L' st' M ad H locs ls' g had h1 h2 hWd hS (Nat.le_refl _)
  obtain ⟨a, b, r, e1, g⟩ := q_i2_of (show qi2 st False (fun a b r => q_m (qcat r - 8) 0 (if a < b then nx Lc (vi b :: r) M else nx Lc (vi a :: r) M) False) by
    unfold q_ex q_m at h
    rw [hz] at h
    exact h)
  subst e1
  obtain ⟨hc, g⟩ := q_m_t g
  have h1 := List.forall_mem_cons.mp hst
  have h2 := List.forall_mem_cons.mp h1.2
  refine va_mmax hx hb (by rw [hml]; exact hL.2.1.1.symm) hown (hts _ w1) (hts _ w2) (hts _ w3) (hts _ w4) (by omega) (by rw [q_cat_sum]; omega) hcr.1 hcr.2 hd ?_
  by_cases q : a < b
  · rw [if_pos q] at g
    rw [if_pos ((q_lt h2.1 h1.1).mpr q)]
    exact n1 _ _ _ g hL (List.forall_mem_cons.mpr ⟨h1.1, h2.2⟩)
  · rw [if_neg q] at g
    rw [if_neg (fun z => q ((q_lt h2.1 h1.1).mp z))]
    exact n1 _ _ _ g hL (List.forall_mem_cons.mpr ⟨h2.1, h2.2⟩)
set_option maxRecDepth 20000 in
theorem q_s_mmin {i : Nat} {ph : Bool} {y n0 kc ks pc : Nat} {M : qM} {ad : Nat → Nat} {H : Heap} {locs : List Loc} {ls : Array Slot} {Lc st : List qV} {x : List Nat} {cl0 : Nat → List qV → Nat → List qV → Prop} {rt0 : qV → qM → Prop} {nx : List qV → List qV → qM → Prop} {jp : Nat → List qV → Prop} {len : Nat}
    (hF : q_Fx p R s m args meth c D cA ad0 adV L xs A y) (had : ∀ n, n ≤ n0 ∨ 999 ≤ n → ad n = ad0 n) (hL : q_LL ad M.1 (q_mxl y) ls Lc) (hst : ∀ v ∈ st, q_vok M.1 v) (hWd : q_Wd D cA ad L xs A ph M s H) (hS : va_S A s.heap H locs) (hn0 : n0 ≤ M.1)
    (hN : q_NX1 p l e R s m args below meth c Q D cA ad0 L xs A ph y n0 kc ks (pc + len) M nx) (hJ : q_JP1 p l e R s m args below meth c Q ad n0 kc ks M H locs ls jp) (hd : decode (q_by y) pc = .ok (.invokestatic i, len)) (hln : len = 3) (hz : qx x 0 = 4) (hf2 : 1 ≤ q_rf y) (hl21 : 21 ≤ q_rl y) (hcr : kc + (M.1 - n0) ≤ R.cells ∧ ks + (q_cum M.1 - q_cum n0) ≤ R.slots) (w1 : Cond.methodLink (q_mn y).cls i Lib.Math.min.name ∈ q_words) (w2 : Cond.static Lib.Math.min.name ∈ q_words) (w3 : Cond.initialized "java/lang/Math" ∈ q_words) (w4 : Cond.code Lib.Math.min.name Lib.Math.min.code 2 (some .int) ∈ q_words) (h : q_ex (α := Prop) ph cl0 nx jp rt0 False Lc st M x (.invokestatic i)) : W p l e R s m args below meth c H locs (kc + (M.1 - n0)) (ks + (q_cum M.1 - q_cum n0)) Q (F0 m pc ls (st.map (q_cv ad))) := by
  subst hln
  obtain ⟨hx, hb, hml, hown, hts, hrf, hrl, hnm, hSt, hA⟩ := hF
  have n1 : ∀ (L' st' : List qV) (ls' : Array Slot), nx L' st' M → q_LL ad M.1 (q_mxl y) ls' L' → (∀ v ∈ st', q_vok M.1 v) → W p l e R s m args below meth c H locs (kc + (M.1 - n0)) (ks + (q_cum M.1 - q_cum n0)) Q (F0 m (pc + 3) ls' (st'.map (q_cv ad))) := fun L' st' ls' g h1 h2 => hN L' st' M ad H locs ls' g had h1 h2 hWd hS (Nat.le_refl _)
  obtain ⟨a, b, r, e1, g⟩ := q_i2_of (show qi2 st False (fun a b r => q_m (qcat r - 8) 0 (if a < b then nx Lc (vi a :: r) M else nx Lc (vi b :: r) M) False) by
    unfold q_ex q_m at h
    rw [hz] at h
    exact h)
  subst e1
  obtain ⟨hc, g⟩ := q_m_t g
  have h1 := List.forall_mem_cons.mp hst
  have h2 := List.forall_mem_cons.mp h1.2
  refine va_mmin hx hb (by rw [hml]; exact hL.2.1.1.symm) hown (hts _ w1) (hts _ w2) (hts _ w3) (hts _ w4) (by omega) (by rw [q_cat_sum]; omega) hcr.1 hcr.2 hd ?_
  by_cases q : a < b
  · rw [if_pos q] at g
    rw [if_neg (fun z => by have := (q_lt h1.1 h2.1).mp z; omega)]
    exact n1 _ _ _ g hL (List.forall_mem_cons.mpr ⟨h2.1, h2.2⟩)
  · rw [if_neg q] at g
    have gg := n1 _ _ _ g hL (List.forall_mem_cons.mpr ⟨h1.1, h2.2⟩)
    by_cases z : b < a
    · rw [if_pos ((q_lt h1.1 h2.1).mpr z)]
      exact gg
    · rw [if_neg (fun z2 => z ((q_lt h1.1 h2.1).mp z2))]
      have e9 : a = b := by omega
      subst e9
      exact gg
set_option maxRecDepth 20000 in
theorem q_s_oini {i : Nat} {ph : Bool} {y n0 kc ks pc : Nat} {M : qM} {ad : Nat → Nat} {H : Heap} {locs : List Loc} {ls : Array Slot} {Lc st : List qV} {x : List Nat} {cl0 : Nat → List qV → Nat → List qV → Prop} {rt0 : qV → qM → Prop} {nx : List qV → List qV → qM → Prop} {jp : Nat → List qV → Prop} {len : Nat}
    (hF : q_Fx p R s m args meth c D cA ad0 adV L xs A y) (had : ∀ n, n ≤ n0 ∨ 999 ≤ n → ad n = ad0 n) (hL : q_LL ad M.1 (q_mxl y) ls Lc) (hst : ∀ v ∈ st, q_vok M.1 v) (hWd : q_Wd D cA ad L xs A ph M s H) (hS : va_S A s.heap H locs) (hn0 : n0 ≤ M.1)
    (hN : q_NX1 p l e R s m args below meth c Q D cA ad0 L xs A ph y n0 kc ks (pc + len) M nx) (hJ : q_JP1 p l e R s m args below meth c Q ad n0 kc ks M H locs ls jp) (hd : decode (q_by y) pc = .ok (.invokespecial i, len)) (hln : len = 3) (hz : qx x 0 ≠ 0) (hf2 : 1 ≤ q_rf y) (hl12 : 12 ≤ q_rl y) (w1 : Cond.methodLink (q_mn y).cls i Lib.objectInit ∈ q_words) (w2 : Cond.instanceMethod Lib.objectInit ∈ q_words) (w3 : Cond.code Lib.objectInit ⟨#[0xb1]⟩ 1 none ∈ q_words) (h : q_ex (α := Prop) ph cl0 nx jp rt0 False Lc st M x (.invokespecial i)) : W p l e R s m args below meth c H locs (kc + (M.1 - n0)) (ks + (q_cum M.1 - q_cum n0)) Q (F0 m pc ls (st.map (q_cv ad))) := by
  subst hln
  obtain ⟨hx, hb, hml, hown, hts, hrf, hrl, hnm, hSt, hA⟩ := hF
  have n1 : ∀ (L' st' : List qV) (ls' : Array Slot), nx L' st' M → q_LL ad M.1 (q_mxl y) ls' L' → (∀ v ∈ st', q_vok M.1 v) → W p l e R s m args below meth c H locs (kc + (M.1 - n0)) (ks + (q_cum M.1 - q_cum n0)) Q (F0 m (pc + 3) ls' (st'.map (q_cv ad))) := fun L' st' ls' g h1 h2 => hN L' st' M ad H locs ls' g had h1 h2 hWd hS (Nat.le_refl _)
  obtain ⟨a, r, e1, g⟩ := q_r1_of (show qr1 st False (fun a r => q_nil r False (if 1 ≤ a then nx Lc [] M else False)) by
    unfold q_ex q_m at h
    cases hb9 : Nat.beq (qx x 0) 0 with
    | true => exact absurd (Nat.eq_of_beq_eq_true hb9) hz
    | false => rw [hb9] at h; exact h)
  subst e1
  obtain ⟨e2, g⟩ := q_nil_of g
  subst e2
  have h1 := List.forall_mem_cons.mp hst
  obtain ⟨ha, g⟩ := q_if_t g
  rw [List.map_cons, q_cv_ref ha]
  refine W.objInit hx hb hown (hts _ w1) (hts _ w2) (hts _ w3) rfl (by rw [hml]; exact hL.2.1.1) rfl hd (by omega) (by show 2 * 0 + 0 + 12 ≤ R.locals; omega) ?_
  exact n1 _ _ _ g hL (fun v hv => by cases hv)
end QSTEP7

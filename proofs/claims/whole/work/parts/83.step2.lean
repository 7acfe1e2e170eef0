section QSTEP2
variable {p : Program} {l : Launch} {e : Env} {R : Room} {s : State} {m : MethodId} {args : Array Value} {below : List Frame} {meth : Method} {c : Code} {Q : State → Prop} {D : va_G} {cA : Nat → ClassId} {ad0 adV : Nat → Nat} {L : Nat} {xs : Nat → Int32} {A : Nat → Prop}
/-- the places of a step: what goes on, what jumps -/
def q_NX1 (p : Program) (l : Launch) (e : Env) (R : Room) (s : State) (m : MethodId) (args : Array Value) (below : List Frame) (meth : Method) (c : Code) (Q : State → Prop) (D : va_G) (cA : Nat → ClassId) (ad0 : Nat → Nat) (L : Nat) (xs : Nat → Int32) (A : Nat → Prop) (ph : Bool) (y n0 kc ks pc1 : Nat) (M : qM) (g : List qV → List qV → qM → Prop) : Prop :=
  ∀ (L' st' : List qV) (M' : qM) (ad' : Nat → Nat) (H' : Heap) (locs' : List Loc) (ls' : Array Slot), g L' st' M' → (∀ n, n ≤ n0 ∨ 999 ≤ n → ad' n = ad0 n) → q_LL ad' M'.1 (q_mxl y) ls' L' → (∀ v ∈ st', q_vok M'.1 v) → q_Wd D cA ad' L xs A ph M' s H' → va_S A s.heap H' locs' → M.1 ≤ M'.1 → W p l e R s m args below meth c H' locs' (kc + (M'.1 - n0)) (ks + (q_cum M'.1 - q_cum n0)) Q (F0 m pc1 ls' (st'.map (q_cv ad')))
def q_JP1 (p : Program) (l : Launch) (e : Env) (R : Room) (s : State) (m : MethodId) (args : Array Value) (below : List Frame) (meth : Method) (c : Code) (Q : State → Prop) (ad : Nat → Nat) (n0 kc ks : Nat) (M : qM) (H : Heap) (locs : List Loc) (ls : Array Slot) (g : Nat → List qV → Prop) : Prop :=
  ∀ (t : Nat) (st' : List qV), g t st' → (∀ v ∈ st', q_vok M.1 v) → W p l e R s m args below meth c H locs (kc + (M.1 - n0)) (ks + (q_cum M.1 - q_cum n0)) Q (F0 m t ls (st'.map (q_cv ad)))

set_option maxRecDepth 20000 in
theorem q_s_iload {i : Nat} {ph : Bool} {y n0 kc ks pc : Nat} {M : qM} {ad : Nat → Nat} {H : Heap} {locs : List Loc} {ls : Array Slot} {Lc st : List qV} {x : List Nat} {cl0 : Nat → List qV → Nat → List qV → Prop} {rt0 : qV → qM → Prop} {nx : List qV → List qV → qM → Prop} {jp : Nat → List qV → Prop} {len : Nat}
    (hF : q_Fx p R s m args meth c D cA ad0 adV L xs A y) (had : ∀ n, n ≤ n0 ∨ 999 ≤ n → ad n = ad0 n) (hL : q_LL ad M.1 (q_mxl y) ls Lc) (hst : ∀ v ∈ st, q_vok M.1 v) (hWd : q_Wd D cA ad L xs A ph M s H) (hS : va_S A s.heap H locs) (hn0 : n0 ≤ M.1)
    (hN : q_NX1 p l e R s m args below meth c Q D cA ad0 L xs A ph y n0 kc ks (pc + len) M nx) (hJ : q_JP1 p l e R s m args below meth c Q ad n0 kc ks M H locs ls jp) (hd : decode (q_by y) pc = .ok (.iload i, len)) (hln : len = 2) (h : q_ex (α := Prop) ph cl0 nx jp rt0 False Lc st M x (.iload i)) : W p l e R s m args below meth c H locs (kc + (M.1 - n0)) (ks + (q_cum M.1 - q_cum n0)) Q (F0 m pc ls (st.map (q_cv ad))) := by
  subst hln
  obtain ⟨hx, hb, hml, hown, hts, hrf, hrl, hnm, hSt, hA⟩ := hF
  have n1 : ∀ (L' st' : List qV) (ls' : Array Slot), nx L' st' M → q_LL ad M.1 (q_mxl y) ls' L' → (∀ v ∈ st', q_vok M.1 v) → W p l e R s m args below meth c H locs (kc + (M.1 - n0)) (ks + (q_cum M.1 - q_cum n0)) Q (F0 m (pc + 2) ls' (st'.map (q_cv ad))) := fun L' st' ls' g h1 h2 => hN L' st' M ad H locs ls' g had h1 h2 hWd hS (Nat.le_refl _)
  obtain ⟨z, e1, g⟩ := q_vi_of (show qvi (Lc.getD i vu) False (fun z => nx Lc (vi z :: st) M) from h)
  have hv := q_LL_at hL e1 (by intro q; cases q)
  have ho := q_LL_ok hL e1 (by intro q; cases q)
  exact lv_iload hx hb hd  hv (n1 _ _ _ g hL (List.forall_mem_cons.mpr ⟨ho, hst⟩))
set_option maxRecDepth 20000 in
theorem q_s_iload_n {i : Fin 4} {ph : Bool} {y n0 kc ks pc : Nat} {M : qM} {ad : Nat → Nat} {H : Heap} {locs : List Loc} {ls : Array Slot} {Lc st : List qV} {x : List Nat} {cl0 : Nat → List qV → Nat → List qV → Prop} {rt0 : qV → qM → Prop} {nx : List qV → List qV → qM → Prop} {jp : Nat → List qV → Prop} {len : Nat}
    (hF : q_Fx p R s m args meth c D cA ad0 adV L xs A y) (had : ∀ n, n ≤ n0 ∨ 999 ≤ n → ad n = ad0 n) (hL : q_LL ad M.1 (q_mxl y) ls Lc) (hst : ∀ v ∈ st, q_vok M.1 v) (hWd : q_Wd D cA ad L xs A ph M s H) (hS : va_S A s.heap H locs) (hn0 : n0 ≤ M.1)
    (hN : q_NX1 p l e R s m args below meth c Q D cA ad0 L xs A ph y n0 kc ks (pc + len) M nx) (hJ : q_JP1 p l e R s m args below meth c Q ad n0 kc ks M H locs ls jp) (hd : decode (q_by y) pc = .ok (.iload_n i, len)) (hln : len = 1) (h : q_ex (α := Prop) ph cl0 nx jp rt0 False Lc st M x (.iload_n i)) : W p l e R s m args below meth c H locs (kc + (M.1 - n0)) (ks + (q_cum M.1 - q_cum n0)) Q (F0 m pc ls (st.map (q_cv ad))) := by
  subst hln
  obtain ⟨hx, hb, hml, hown, hts, hrf, hrl, hnm, hSt, hA⟩ := hF
  have n1 : ∀ (L' st' : List qV) (ls' : Array Slot), nx L' st' M → q_LL ad M.1 (q_mxl y) ls' L' → (∀ v ∈ st', q_vok M.1 v) → W p l e R s m args below meth c H locs (kc + (M.1 - n0)) (ks + (q_cum M.1 - q_cum n0)) Q (F0 m (pc + 1) ls' (st'.map (q_cv ad))) := fun L' st' ls' g h1 h2 => hN L' st' M ad H locs ls' g had h1 h2 hWd hS (Nat.le_refl _)
  obtain ⟨z, e1, g⟩ := q_vi_of (show qvi (Lc.getD i.val vu) False (fun z => nx Lc (vi z :: st) M) from h)
  have hv := q_LL_at hL e1 (by intro q; cases q)
  have ho := q_LL_ok hL e1 (by intro q; cases q)
  exact lv_iload_n hx hb hd rfl hv (n1 _ _ _ g hL (List.forall_mem_cons.mpr ⟨ho, hst⟩))
set_option maxRecDepth 20000 in
theorem q_s_lload {i : Nat} {ph : Bool} {y n0 kc ks pc : Nat} {M : qM} {ad : Nat → Nat} {H : Heap} {locs : List Loc} {ls : Array Slot} {Lc st : List qV} {x : List Nat} {cl0 : Nat → List qV → Nat → List qV → Prop} {rt0 : qV → qM → Prop} {nx : List qV → List qV → qM → Prop} {jp : Nat → List qV → Prop} {len : Nat}
    (hF : q_Fx p R s m args meth c D cA ad0 adV L xs A y) (had : ∀ n, n ≤ n0 ∨ 999 ≤ n → ad n = ad0 n) (hL : q_LL ad M.1 (q_mxl y) ls Lc) (hst : ∀ v ∈ st, q_vok M.1 v) (hWd : q_Wd D cA ad L xs A ph M s H) (hS : va_S A s.heap H locs) (hn0 : n0 ≤ M.1)
    (hN : q_NX1 p l e R s m args below meth c Q D cA ad0 L xs A ph y n0 kc ks (pc + len) M nx) (hJ : q_JP1 p l e R s m args below meth c Q ad n0 kc ks M H locs ls jp) (hd : decode (q_by y) pc = .ok (.lload i, len)) (hln : len = 2) (h : q_ex (α := Prop) ph cl0 nx jp rt0 False Lc st M x (.lload i)) : W p l e R s m args below meth c H locs (kc + (M.1 - n0)) (ks + (q_cum M.1 - q_cum n0)) Q (F0 m pc ls (st.map (q_cv ad))) := by
  subst hln
  obtain ⟨hx, hb, hml, hown, hts, hrf, hrl, hnm, hSt, hA⟩ := hF
  have n1 : ∀ (L' st' : List qV) (ls' : Array Slot), nx L' st' M → q_LL ad M.1 (q_mxl y) ls' L' → (∀ v ∈ st', q_vok M.1 v) → W p l e R s m args below meth c H locs (kc + (M.1 - n0)) (ks + (q_cum M.1 - q_cum n0)) Q (F0 m (pc + 2) ls' (st'.map (q_cv ad))) := fun L' st' ls' g h1 h2 => hN L' st' M ad H locs ls' g had h1 h2 hWd hS (Nat.le_refl _)
  obtain ⟨z, e1, g⟩ := q_vl_of (show qvl (Lc.getD i vu) False (fun z => nx Lc (vl z :: st) M) from h)
  have hv := q_LL_at hL e1 (by intro q; cases q)
  have ho := q_LL_ok hL e1 (by intro q; cases q)
  exact lv_lload hx hb hd  hv (n1 _ _ _ g hL (List.forall_mem_cons.mpr ⟨ho, hst⟩))
set_option maxRecDepth 20000 in
theorem q_s_lload_n {i : Fin 4} {ph : Bool} {y n0 kc ks pc : Nat} {M : qM} {ad : Nat → Nat} {H : Heap} {locs : List Loc} {ls : Array Slot} {Lc st : List qV} {x : List Nat} {cl0 : Nat → List qV → Nat → List qV → Prop} {rt0 : qV → qM → Prop} {nx : List qV → List qV → qM → Prop} {jp : Nat → List qV → Prop} {len : Nat}
    (hF : q_Fx p R s m args meth c D cA ad0 adV L xs A y) (had : ∀ n, n ≤ n0 ∨ 999 ≤ n → ad n = ad0 n) (hL : q_LL ad M.1 (q_mxl y) ls Lc) (hst : ∀ v ∈ st, q_vok M.1 v) (hWd : q_Wd D cA ad L xs A ph M s H) (hS : va_S A s.heap H locs) (hn0 : n0 ≤ M.1)
    (hN : q_NX1 p l e R s m args below meth c Q D cA ad0 L xs A ph y n0 kc ks (pc + len) M nx) (hJ : q_JP1 p l e R s m args below meth c Q ad n0 kc ks M H locs ls jp) (hd : decode (q_by y) pc = .ok (.lload_n i, len)) (hln : len = 1) (h : q_ex (α := Prop) ph cl0 nx jp rt0 False Lc st M x (.lload_n i)) : W p l e R s m args below meth c H locs (kc + (M.1 - n0)) (ks + (q_cum M.1 - q_cum n0)) Q (F0 m pc ls (st.map (q_cv ad))) := by
  subst hln
  obtain ⟨hx, hb, hml, hown, hts, hrf, hrl, hnm, hSt, hA⟩ := hF
  have n1 : ∀ (L' st' : List qV) (ls' : Array Slot), nx L' st' M → q_LL ad M.1 (q_mxl y) ls' L' → (∀ v ∈ st', q_vok M.1 v) → W p l e R s m args below meth c H locs (kc + (M.1 - n0)) (ks + (q_cum M.1 - q_cum n0)) Q (F0 m (pc + 1) ls' (st'.map (q_cv ad))) := fun L' st' ls' g h1 h2 => hN L' st' M ad H locs ls' g had h1 h2 hWd hS (Nat.le_refl _)
  obtain ⟨z, e1, g⟩ := q_vl_of (show qvl (Lc.getD i.val vu) False (fun z => nx Lc (vl z :: st) M) from h)
  have hv := q_LL_at hL e1 (by intro q; cases q)
  have ho := q_LL_ok hL e1 (by intro q; cases q)
  exact lv_lload_n hx hb hd rfl hv (n1 _ _ _ g hL (List.forall_mem_cons.mpr ⟨ho, hst⟩))
set_option maxRecDepth 20000 in
theorem q_s_aload {i : Nat} {ph : Bool} {y n0 kc ks pc : Nat} {M : qM} {ad : Nat → Nat} {H : Heap} {locs : List Loc} {ls : Array Slot} {Lc st : List qV} {x : List Nat} {cl0 : Nat → List qV → Nat → List qV → Prop} {rt0 : qV → qM → Prop} {nx : List qV → List qV → qM → Prop} {jp : Nat → List qV → Prop} {len : Nat}
    (hF : q_Fx p R s m args meth c D cA ad0 adV L xs A y) (had : ∀ n, n ≤ n0 ∨ 999 ≤ n → ad n = ad0 n) (hL : q_LL ad M.1 (q_mxl y) ls Lc) (hst : ∀ v ∈ st, q_vok M.1 v) (hWd : q_Wd D cA ad L xs A ph M s H) (hS : va_S A s.heap H locs) (hn0 : n0 ≤ M.1)
    (hN : q_NX1 p l e R s m args below meth c Q D cA ad0 L xs A ph y n0 kc ks (pc + len) M nx) (hJ : q_JP1 p l e R s m args below meth c Q ad n0 kc ks M H locs ls jp) (hd : decode (q_by y) pc = .ok (.aload i, len)) (hln : len = 2) (h : q_ex (α := Prop) ph cl0 nx jp rt0 False Lc st M x (.aload i)) : W p l e R s m args below meth c H locs (kc + (M.1 - n0)) (ks + (q_cum M.1 - q_cum n0)) Q (F0 m pc ls (st.map (q_cv ad))) := by
  subst hln
  obtain ⟨hx, hb, hml, hown, hts, hrf, hrl, hnm, hSt, hA⟩ := hF
  have n1 : ∀ (L' st' : List qV) (ls' : Array Slot), nx L' st' M → q_LL ad M.1 (q_mxl y) ls' L' → (∀ v ∈ st', q_vok M.1 v) → W p l e R s m args below meth c H locs (kc + (M.1 - n0)) (ks + (q_cum M.1 - q_cum n0)) Q (F0 m (pc + 2) ls' (st'.map (q_cv ad))) := fun L' st' ls' g h1 h2 => hN L' st' M ad H locs ls' g had h1 h2 hWd hS (Nat.le_refl _)
  obtain ⟨z, e1, g⟩ := q_vr_of (show qvr (Lc.getD i vu) False (fun z => nx Lc (vr z :: st) M) from h)
  have hv := q_LL_at hL e1 (by intro q; cases q)
  have ho := q_LL_ok hL e1 (by intro q; cases q)
  have g2 := n1 _ _ _ g hL (List.forall_mem_cons.mpr ⟨ho, hst⟩)
  rw [List.map_cons] at g2
  by_cases hz : z = 0
  · have e2 : q_cv ad (vr z) = .null := by rw [hz]; rfl
    rw [e2] at g2 hv
    exact lv_aloadN hx hb hd  hv g2
  · have e2 : q_cv ad (vr z) = .ref (ad z) := by show va_rf (q_ro ad z) = _; unfold q_ro; rw [if_neg hz]; rfl
    rw [e2] at g2 hv
    exact lv_aload hx hb hd  hv g2
set_option maxRecDepth 20000 in
theorem q_s_aload_n {i : Fin 4} {ph : Bool} {y n0 kc ks pc : Nat} {M : qM} {ad : Nat → Nat} {H : Heap} {locs : List Loc} {ls : Array Slot} {Lc st : List qV} {x : List Nat} {cl0 : Nat → List qV → Nat → List qV → Prop} {rt0 : qV → qM → Prop} {nx : List qV → List qV → qM → Prop} {jp : Nat → List qV → Prop} {len : Nat}
    (hF : q_Fx p R s m args meth c D cA ad0 adV L xs A y) (had : ∀ n, n ≤ n0 ∨ 999 ≤ n → ad n = ad0 n) (hL : q_LL ad M.1 (q_mxl y) ls Lc) (hst : ∀ v ∈ st, q_vok M.1 v) (hWd : q_Wd D cA ad L xs A ph M s H) (hS : va_S A s.heap H locs) (hn0 : n0 ≤ M.1)
    (hN : q_NX1 p l e R s m args below meth c Q D cA ad0 L xs A ph y n0 kc ks (pc + len) M nx) (hJ : q_JP1 p l e R s m args below meth c Q ad n0 kc ks M H locs ls jp) (hd : decode (q_by y) pc = .ok (.aload_n i, len)) (hln : len = 1) (h : q_ex (α := Prop) ph cl0 nx jp rt0 False Lc st M x (.aload_n i)) : W p l e R s m args below meth c H locs (kc + (M.1 - n0)) (ks + (q_cum M.1 - q_cum n0)) Q (F0 m pc ls (st.map (q_cv ad))) := by
  subst hln
  obtain ⟨hx, hb, hml, hown, hts, hrf, hrl, hnm, hSt, hA⟩ := hF
  have n1 : ∀ (L' st' : List qV) (ls' : Array Slot), nx L' st' M → q_LL ad M.1 (q_mxl y) ls' L' → (∀ v ∈ st', q_vok M.1 v) → W p l e R s m args below meth c H locs (kc + (M.1 - n0)) (ks + (q_cum M.1 - q_cum n0)) Q (F0 m (pc + 1) ls' (st'.map (q_cv ad))) := fun L' st' ls' g h1 h2 => hN L' st' M ad H locs ls' g had h1 h2 hWd hS (Nat.le_refl _)
  obtain ⟨z, e1, g⟩ := q_vr_of (show qvr (Lc.getD i.val vu) False (fun z => nx Lc (vr z :: st) M) from h)
  have hv := q_LL_at hL e1 (by intro q; cases q)
  have ho := q_LL_ok hL e1 (by intro q; cases q)
  have g2 := n1 _ _ _ g hL (List.forall_mem_cons.mpr ⟨ho, hst⟩)
  rw [List.map_cons] at g2
  by_cases hz : z = 0
  · have e2 : q_cv ad (vr z) = .null := by rw [hz]; rfl
    rw [e2] at g2 hv
    exact lv_aload_nN hx hb hd rfl hv g2
  · have e2 : q_cv ad (vr z) = .ref (ad z) := by show va_rf (q_ro ad z) = _; unfold q_ro; rw [if_neg hz]; rfl
    rw [e2] at g2 hv
    exact lv_aload_n hx hb hd rfl hv g2
set_option maxRecDepth 20000 in
theorem q_s_istore {i : Nat} {ph : Bool} {y n0 kc ks pc : Nat} {M : qM} {ad : Nat → Nat} {H : Heap} {locs : List Loc} {ls : Array Slot} {Lc st : List qV} {x : List Nat} {cl0 : Nat → List qV → Nat → List qV → Prop} {rt0 : qV → qM → Prop} {nx : List qV → List qV → qM → Prop} {jp : Nat → List qV → Prop} {len : Nat}
    (hF : q_Fx p R s m args meth c D cA ad0 adV L xs A y) (had : ∀ n, n ≤ n0 ∨ 999 ≤ n → ad n = ad0 n) (hL : q_LL ad M.1 (q_mxl y) ls Lc) (hst : ∀ v ∈ st, q_vok M.1 v) (hWd : q_Wd D cA ad L xs A ph M s H) (hS : va_S A s.heap H locs) (hn0 : n0 ≤ M.1)
    (hN : q_NX1 p l e R s m args below meth c Q D cA ad0 L xs A ph y n0 kc ks (pc + len) M nx) (hJ : q_JP1 p l e R s m args below meth c Q ad n0 kc ks M H locs ls jp) (hd : decode (q_by y) pc = .ok (.istore i, len)) (hln : len = 2) (hi : i < q_mxl y) (h : q_ex (α := Prop) ph cl0 nx jp rt0 False Lc st M x (.istore i)) : W p l e R s m args below meth c H locs (kc + (M.1 - n0)) (ks + (q_cum M.1 - q_cum n0)) Q (F0 m pc ls (st.map (q_cv ad))) := by
  subst hln
  obtain ⟨hx, hb, hml, hown, hts, hrf, hrl, hnm, hSt, hA⟩ := hF
  have n1 : ∀ (L' st' : List qV) (ls' : Array Slot), nx L' st' M → q_LL ad M.1 (q_mxl y) ls' L' → (∀ v ∈ st', q_vok M.1 v) → W p l e R s m args below meth c H locs (kc + (M.1 - n0)) (ks + (q_cum M.1 - q_cum n0)) Q (F0 m (pc + 2) ls' (st'.map (q_cv ad))) := fun L' st' ls' g h1 h2 => hN L' st' M ad H locs ls' g had h1 h2 hWd hS (Nat.le_refl _)
  obtain ⟨z, r, e1, g⟩ := q_i1_of (show qi1 st False (fun z r => nx (q_set Lc i (vi z)) r M) from h)
  subst e1
  have h1 := List.forall_mem_cons.mp hst
  exact lv_istore hx hb hd  (q_LL_lv hL) hi rfl (fun ls' h' => n1 _ _ _ g (q_LL_set hL h1.1 h') h1.2)
set_option maxRecDepth 20000 in
theorem q_s_istore_n {i : Fin 4} {ph : Bool} {y n0 kc ks pc : Nat} {M : qM} {ad : Nat → Nat} {H : Heap} {locs : List Loc} {ls : Array Slot} {Lc st : List qV} {x : List Nat} {cl0 : Nat → List qV → Nat → List qV → Prop} {rt0 : qV → qM → Prop} {nx : List qV → List qV → qM → Prop} {jp : Nat → List qV → Prop} {len : Nat}
    (hF : q_Fx p R s m args meth c D cA ad0 adV L xs A y) (had : ∀ n, n ≤ n0 ∨ 999 ≤ n → ad n = ad0 n) (hL : q_LL ad M.1 (q_mxl y) ls Lc) (hst : ∀ v ∈ st, q_vok M.1 v) (hWd : q_Wd D cA ad L xs A ph M s H) (hS : va_S A s.heap H locs) (hn0 : n0 ≤ M.1)
    (hN : q_NX1 p l e R s m args below meth c Q D cA ad0 L xs A ph y n0 kc ks (pc + len) M nx) (hJ : q_JP1 p l e R s m args below meth c Q ad n0 kc ks M H locs ls jp) (hd : decode (q_by y) pc = .ok (.istore_n i, len)) (hln : len = 1) (hi : i.val < q_mxl y) (h : q_ex (α := Prop) ph cl0 nx jp rt0 False Lc st M x (.istore_n i)) : W p l e R s m args below meth c H locs (kc + (M.1 - n0)) (ks + (q_cum M.1 - q_cum n0)) Q (F0 m pc ls (st.map (q_cv ad))) := by
  subst hln
  obtain ⟨hx, hb, hml, hown, hts, hrf, hrl, hnm, hSt, hA⟩ := hF
  have n1 : ∀ (L' st' : List qV) (ls' : Array Slot), nx L' st' M → q_LL ad M.1 (q_mxl y) ls' L' → (∀ v ∈ st', q_vok M.1 v) → W p l e R s m args below meth c H locs (kc + (M.1 - n0)) (ks + (q_cum M.1 - q_cum n0)) Q (F0 m (pc + 1) ls' (st'.map (q_cv ad))) := fun L' st' ls' g h1 h2 => hN L' st' M ad H locs ls' g had h1 h2 hWd hS (Nat.le_refl _)
  obtain ⟨z, r, e1, g⟩ := q_i1_of (show qi1 st False (fun z r => nx (q_set Lc i.val (vi z)) r M) from h)
  subst e1
  have h1 := List.forall_mem_cons.mp hst
  exact lv_istore_n hx hb hd rfl (q_LL_lv hL) hi rfl (fun ls' h' => n1 _ _ _ g (q_LL_set hL h1.1 h') h1.2)
set_option maxRecDepth 20000 in
theorem q_s_lstore {i : Nat} {ph : Bool} {y n0 kc ks pc : Nat} {M : qM} {ad : Nat → Nat} {H : Heap} {locs : List Loc} {ls : Array Slot} {Lc st : List qV} {x : List Nat} {cl0 : Nat → List qV → Nat → List qV → Prop} {rt0 : qV → qM → Prop} {nx : List qV → List qV → qM → Prop} {jp : Nat → List qV → Prop} {len : Nat}
    (hF : q_Fx p R s m args meth c D cA ad0 adV L xs A y) (had : ∀ n, n ≤ n0 ∨ 999 ≤ n → ad n = ad0 n) (hL : q_LL ad M.1 (q_mxl y) ls Lc) (hst : ∀ v ∈ st, q_vok M.1 v) (hWd : q_Wd D cA ad L xs A ph M s H) (hS : va_S A s.heap H locs) (hn0 : n0 ≤ M.1)
    (hN : q_NX1 p l e R s m args below meth c Q D cA ad0 L xs A ph y n0 kc ks (pc + len) M nx) (hJ : q_JP1 p l e R s m args below meth c Q ad n0 kc ks M H locs ls jp) (hd : decode (q_by y) pc = .ok (.lstore i, len)) (hln : len = 2) (hi : i + 1 < q_mxl y) (h : q_ex (α := Prop) ph cl0 nx jp rt0 False Lc st M x (.lstore i)) : W p l e R s m args below meth c H locs (kc + (M.1 - n0)) (ks + (q_cum M.1 - q_cum n0)) Q (F0 m pc ls (st.map (q_cv ad))) := by
  subst hln
  obtain ⟨hx, hb, hml, hown, hts, hrf, hrl, hnm, hSt, hA⟩ := hF
  have n1 : ∀ (L' st' : List qV) (ls' : Array Slot), nx L' st' M → q_LL ad M.1 (q_mxl y) ls' L' → (∀ v ∈ st', q_vok M.1 v) → W p l e R s m args below meth c H locs (kc + (M.1 - n0)) (ks + (q_cum M.1 - q_cum n0)) Q (F0 m (pc + 2) ls' (st'.map (q_cv ad))) := fun L' st' ls' g h1 h2 => hN L' st' M ad H locs ls' g had h1 h2 hWd hS (Nat.le_refl _)
  obtain ⟨z, r, e1, g⟩ := q_l1_of (show ql1 st False (fun z r => nx (q_setl Lc i (vl z)) r M) from h)
  subst e1
  have h1 := List.forall_mem_cons.mp hst
  exact lv_lstore hx hb hd  (q_LL_lv hL) hi rfl (fun ls' h' => n1 _ _ _ g (q_LL_setl hL h1.1 h') h1.2)
set_option maxRecDepth 20000 in
theorem q_s_lstore_n {i : Fin 4} {ph : Bool} {y n0 kc ks pc : Nat} {M : qM} {ad : Nat → Nat} {H : Heap} {locs : List Loc} {ls : Array Slot} {Lc st : List qV} {x : List Nat} {cl0 : Nat → List qV → Nat → List qV → Prop} {rt0 : qV → qM → Prop} {nx : List qV → List qV → qM → Prop} {jp : Nat → List qV → Prop} {len : Nat}
    (hF : q_Fx p R s m args meth c D cA ad0 adV L xs A y) (had : ∀ n, n ≤ n0 ∨ 999 ≤ n → ad n = ad0 n) (hL : q_LL ad M.1 (q_mxl y) ls Lc) (hst : ∀ v ∈ st, q_vok M.1 v) (hWd : q_Wd D cA ad L xs A ph M s H) (hS : va_S A s.heap H locs) (hn0 : n0 ≤ M.1)
    (hN : q_NX1 p l e R s m args below meth c Q D cA ad0 L xs A ph y n0 kc ks (pc + len) M nx) (hJ : q_JP1 p l e R s m args below meth c Q ad n0 kc ks M H locs ls jp) (hd : decode (q_by y) pc = .ok (.lstore_n i, len)) (hln : len = 1) (hi : i.val + 1 < q_mxl y) (h : q_ex (α := Prop) ph cl0 nx jp rt0 False Lc st M x (.lstore_n i)) : W p l e R s m args below meth c H locs (kc + (M.1 - n0)) (ks + (q_cum M.1 - q_cum n0)) Q (F0 m pc ls (st.map (q_cv ad))) := by
  subst hln
  obtain ⟨hx, hb, hml, hown, hts, hrf, hrl, hnm, hSt, hA⟩ := hF
  have n1 : ∀ (L' st' : List qV) (ls' : Array Slot), nx L' st' M → q_LL ad M.1 (q_mxl y) ls' L' → (∀ v ∈ st', q_vok M.1 v) → W p l e R s m args below meth c H locs (kc + (M.1 - n0)) (ks + (q_cum M.1 - q_cum n0)) Q (F0 m (pc + 1) ls' (st'.map (q_cv ad))) := fun L' st' ls' g h1 h2 => hN L' st' M ad H locs ls' g had h1 h2 hWd hS (Nat.le_refl _)
  obtain ⟨z, r, e1, g⟩ := q_l1_of (show ql1 st False (fun z r => nx (q_setl Lc i.val (vl z)) r M) from h)
  subst e1
  have h1 := List.forall_mem_cons.mp hst
  exact lv_lstore_n hx hb hd rfl (q_LL_lv hL) hi rfl (fun ls' h' => n1 _ _ _ g (q_LL_setl hL h1.1 h') h1.2)
set_option maxRecDepth 20000 in
theorem q_s_astore {i : Nat} {ph : Bool} {y n0 kc ks pc : Nat} {M : qM} {ad : Nat → Nat} {H : Heap} {locs : List Loc} {ls : Array Slot} {Lc st : List qV} {x : List Nat} {cl0 : Nat → List qV → Nat → List qV → Prop} {rt0 : qV → qM → Prop} {nx : List qV → List qV → qM → Prop} {jp : Nat → List qV → Prop} {len : Nat}
    (hF : q_Fx p R s m args meth c D cA ad0 adV L xs A y) (had : ∀ n, n ≤ n0 ∨ 999 ≤ n → ad n = ad0 n) (hL : q_LL ad M.1 (q_mxl y) ls Lc) (hst : ∀ v ∈ st, q_vok M.1 v) (hWd : q_Wd D cA ad L xs A ph M s H) (hS : va_S A s.heap H locs) (hn0 : n0 ≤ M.1)
    (hN : q_NX1 p l e R s m args below meth c Q D cA ad0 L xs A ph y n0 kc ks (pc + len) M nx) (hJ : q_JP1 p l e R s m args below meth c Q ad n0 kc ks M H locs ls jp) (hd : decode (q_by y) pc = .ok (.astore i, len)) (hln : len = 2) (hi : i < q_mxl y) (h : q_ex (α := Prop) ph cl0 nx jp rt0 False Lc st M x (.astore i)) : W p l e R s m args below meth c H locs (kc + (M.1 - n0)) (ks + (q_cum M.1 - q_cum n0)) Q (F0 m pc ls (st.map (q_cv ad))) := by
  subst hln
  obtain ⟨hx, hb, hml, hown, hts, hrf, hrl, hnm, hSt, hA⟩ := hF
  have n1 : ∀ (L' st' : List qV) (ls' : Array Slot), nx L' st' M → q_LL ad M.1 (q_mxl y) ls' L' → (∀ v ∈ st', q_vok M.1 v) → W p l e R s m args below meth c H locs (kc + (M.1 - n0)) (ks + (q_cum M.1 - q_cum n0)) Q (F0 m (pc + 2) ls' (st'.map (q_cv ad))) := fun L' st' ls' g h1 h2 => hN L' st' M ad H locs ls' g had h1 h2 hWd hS (Nat.le_refl _)
  obtain ⟨z, r, e1, g⟩ := q_r1_of (show qr1 st False (fun z r => nx (q_set Lc i (vr z)) r M) from h)
  subst e1
  have h1 := List.forall_mem_cons.mp hst
  rw [List.map_cons]
  have key : ∀ (ls' : Array Slot), lv_has ls' (q_mxl y) ((i, q_cv ad (vr z)) :: (q_lvl ad 0 Lc).filter (fun q => !(q.1 == i) && !(q.1 + 1 == i && q.2.category == 2))) → W p l e R s m args below meth c H locs (kc + (M.1 - n0)) (ks + (q_cum M.1 - q_cum n0)) Q (F0 m (pc + 2) ls' (r.map (q_cv ad))) := fun ls' h' => n1 _ _ _ g (q_LL_set hL h1.1 h') h1.2
  by_cases hz : z = 0
  · have e2 : q_cv ad (vr z) = .null := by rw [hz]; rfl
    rw [e2] at key ⊢
    exact lv_astoreN hx hb hd  (q_LL_lv hL) hi rfl key
  · have e2 : q_cv ad (vr z) = .ref (ad z) := by show va_rf (q_ro ad z) = _; unfold q_ro; rw [if_neg hz]; rfl
    rw [e2] at key ⊢
    exact lv_astore hx hb hd  (q_LL_lv hL) hi rfl key
set_option maxRecDepth 20000 in
theorem q_s_astore_n {i : Fin 4} {ph : Bool} {y n0 kc ks pc : Nat} {M : qM} {ad : Nat → Nat} {H : Heap} {locs : List Loc} {ls : Array Slot} {Lc st : List qV} {x : List Nat} {cl0 : Nat → List qV → Nat → List qV → Prop} {rt0 : qV → qM → Prop} {nx : List qV → List qV → qM → Prop} {jp : Nat → List qV → Prop} {len : Nat}
    (hF : q_Fx p R s m args meth c D cA ad0 adV L xs A y) (had : ∀ n, n ≤ n0 ∨ 999 ≤ n → ad n = ad0 n) (hL : q_LL ad M.1 (q_mxl y) ls Lc) (hst : ∀ v ∈ st, q_vok M.1 v) (hWd : q_Wd D cA ad L xs A ph M s H) (hS : va_S A s.heap H locs) (hn0 : n0 ≤ M.1)
    (hN : q_NX1 p l e R s m args below meth c Q D cA ad0 L xs A ph y n0 kc ks (pc + len) M nx) (hJ : q_JP1 p l e R s m args below meth c Q ad n0 kc ks M H locs ls jp) (hd : decode (q_by y) pc = .ok (.astore_n i, len)) (hln : len = 1) (hi : i.val < q_mxl y) (h : q_ex (α := Prop) ph cl0 nx jp rt0 False Lc st M x (.astore_n i)) : W p l e R s m args below meth c H locs (kc + (M.1 - n0)) (ks + (q_cum M.1 - q_cum n0)) Q (F0 m pc ls (st.map (q_cv ad))) := by
  subst hln
  obtain ⟨hx, hb, hml, hown, hts, hrf, hrl, hnm, hSt, hA⟩ := hF
  have n1 : ∀ (L' st' : List qV) (ls' : Array Slot), nx L' st' M → q_LL ad M.1 (q_mxl y) ls' L' → (∀ v ∈ st', q_vok M.1 v) → W p l e R s m args below meth c H locs (kc + (M.1 - n0)) (ks + (q_cum M.1 - q_cum n0)) Q (F0 m (pc + 1) ls' (st'.map (q_cv ad))) := fun L' st' ls' g h1 h2 => hN L' st' M ad H locs ls' g had h1 h2 hWd hS (Nat.le_refl _)
  obtain ⟨z, r, e1, g⟩ := q_r1_of (show qr1 st False (fun z r => nx (q_set Lc i.val (vr z)) r M) from h)
  subst e1
  have h1 := List.forall_mem_cons.mp hst
  rw [List.map_cons]
  have key : ∀ (ls' : Array Slot), lv_has ls' (q_mxl y) ((i.val, q_cv ad (vr z)) :: (q_lvl ad 0 Lc).filter (fun q => !(q.1 == i.val) && !(q.1 + 1 == i.val && q.2.category == 2))) → W p l e R s m args below meth c H locs (kc + (M.1 - n0)) (ks + (q_cum M.1 - q_cum n0)) Q (F0 m (pc + 1) ls' (r.map (q_cv ad))) := fun ls' h' => n1 _ _ _ g (q_LL_set hL h1.1 h') h1.2
  by_cases hz : z = 0
  · have e2 : q_cv ad (vr z) = .null := by rw [hz]; rfl
    rw [e2] at key ⊢
    exact lv_astore_nN hx hb hd rfl (q_LL_lv hL) hi rfl key
  · have e2 : q_cv ad (vr z) = .ref (ad z) := by show va_rf (q_ro ad z) = _; unfold q_ro; rw [if_neg hz]; rfl
    rw [e2] at key ⊢
    exact lv_astore_n hx hb hd rfl (q_LL_lv hL) hi rfl key
set_option maxRecDepth 20000 in
theorem q_s_iconst {k : Int} {ph : Bool} {y n0 kc ks pc : Nat} {M : qM} {ad : Nat → Nat} {H : Heap} {locs : List Loc} {ls : Array Slot} {Lc st : List qV} {x : List Nat} {cl0 : Nat → List qV → Nat → List qV → Prop} {rt0 : qV → qM → Prop} {nx : List qV → List qV → qM → Prop} {jp : Nat → List qV → Prop} {len : Nat}
    (hF : q_Fx p R s m args meth c D cA ad0 adV L xs A y) (had : ∀ n, n ≤ n0 ∨ 999 ≤ n → ad n = ad0 n) (hL : q_LL ad M.1 (q_mxl y) ls Lc) (hst : ∀ v ∈ st, q_vok M.1 v) (hWd : q_Wd D cA ad L xs A ph M s H) (hS : va_S A s.heap H locs) (hn0 : n0 ≤ M.1)
    (hN : q_NX1 p l e R s m args below meth c Q D cA ad0 L xs A ph y n0 kc ks (pc + len) M nx) (hJ : q_JP1 p l e R s m args below meth c Q ad n0 kc ks M H locs ls jp) (hd : decode (q_by y) pc = .ok (.iconst k, len)) (hln : len = 1) (hk : q_i32 k) (h : q_ex (α := Prop) ph cl0 nx jp rt0 False Lc st M x (.iconst k)) : W p l e R s m args below meth c H locs (kc + (M.1 - n0)) (ks + (q_cum M.1 - q_cum n0)) Q (F0 m pc ls (st.map (q_cv ad))) := by
  subst hln
  obtain ⟨hx, hb, hml, hown, hts, hrf, hrl, hnm, hSt, hA⟩ := hF
  have n1 : ∀ (L' st' : List qV) (ls' : Array Slot), nx L' st' M → q_LL ad M.1 (q_mxl y) ls' L' → (∀ v ∈ st', q_vok M.1 v) → W p l e R s m args below meth c H locs (kc + (M.1 - n0)) (ks + (q_cum M.1 - q_cum n0)) Q (F0 m (pc + 1) ls' (st'.map (q_cv ad))) := fun L' st' ls' g h1 h2 => hN L' st' M ad H locs ls' g had h1 h2 hWd hS (Nat.le_refl _)
  exact lv_iconst hx hb hd rfl (n1 _ _ _ h hL (List.forall_mem_cons.mpr ⟨hk, hst⟩))
set_option maxRecDepth 20000 in
theorem q_s_bipush {k : Int} {ph : Bool} {y n0 kc ks pc : Nat} {M : qM} {ad : Nat → Nat} {H : Heap} {locs : List Loc} {ls : Array Slot} {Lc st : List qV} {x : List Nat} {cl0 : Nat → List qV → Nat → List qV → Prop} {rt0 : qV → qM → Prop} {nx : List qV → List qV → qM → Prop} {jp : Nat → List qV → Prop} {len : Nat}
    (hF : q_Fx p R s m args meth c D cA ad0 adV L xs A y) (had : ∀ n, n ≤ n0 ∨ 999 ≤ n → ad n = ad0 n) (hL : q_LL ad M.1 (q_mxl y) ls Lc) (hst : ∀ v ∈ st, q_vok M.1 v) (hWd : q_Wd D cA ad L xs A ph M s H) (hS : va_S A s.heap H locs) (hn0 : n0 ≤ M.1)
    (hN : q_NX1 p l e R s m args below meth c Q D cA ad0 L xs A ph y n0 kc ks (pc + len) M nx) (hJ : q_JP1 p l e R s m args below meth c Q ad n0 kc ks M H locs ls jp) (hd : decode (q_by y) pc = .ok (.bipush k, len)) (hln : len = 2) (hk : -128 ≤ k ∧ k < 128) (h : q_ex (α := Prop) ph cl0 nx jp rt0 False Lc st M x (.bipush k)) : W p l e R s m args below meth c H locs (kc + (M.1 - n0)) (ks + (q_cum M.1 - q_cum n0)) Q (F0 m pc ls (st.map (q_cv ad))) := by
  subst hln
  obtain ⟨hx, hb, hml, hown, hts, hrf, hrl, hnm, hSt, hA⟩ := hF
  have n1 : ∀ (L' st' : List qV) (ls' : Array Slot), nx L' st' M → q_LL ad M.1 (q_mxl y) ls' L' → (∀ v ∈ st', q_vok M.1 v) → W p l e R s m args below meth c H locs (kc + (M.1 - n0)) (ks + (q_cum M.1 - q_cum n0)) Q (F0 m (pc + 2) ls' (st'.map (q_cv ad))) := fun L' st' ls' g h1 h2 => hN L' st' M ad H locs ls' g had h1 h2 hWd hS (Nat.le_refl _)
  exact lv_bipush hx hb hd (q_bip hk.1 hk.2) (n1 _ _ _ h hL (List.forall_mem_cons.mpr ⟨⟨by omega, by omega⟩, hst⟩))
set_option maxRecDepth 20000 in
theorem q_s_sipush {k : Int} {ph : Bool} {y n0 kc ks pc : Nat} {M : qM} {ad : Nat → Nat} {H : Heap} {locs : List Loc} {ls : Array Slot} {Lc st : List qV} {x : List Nat} {cl0 : Nat → List qV → Nat → List qV → Prop} {rt0 : qV → qM → Prop} {nx : List qV → List qV → qM → Prop} {jp : Nat → List qV → Prop} {len : Nat}
    (hF : q_Fx p R s m args meth c D cA ad0 adV L xs A y) (had : ∀ n, n ≤ n0 ∨ 999 ≤ n → ad n = ad0 n) (hL : q_LL ad M.1 (q_mxl y) ls Lc) (hst : ∀ v ∈ st, q_vok M.1 v) (hWd : q_Wd D cA ad L xs A ph M s H) (hS : va_S A s.heap H locs) (hn0 : n0 ≤ M.1)
    (hN : q_NX1 p l e R s m args below meth c Q D cA ad0 L xs A ph y n0 kc ks (pc + len) M nx) (hJ : q_JP1 p l e R s m args below meth c Q ad n0 kc ks M H locs ls jp) (hd : decode (q_by y) pc = .ok (.sipush k, len)) (hln : len = 3) (hk : -32768 ≤ k ∧ k < 32768) (h : q_ex (α := Prop) ph cl0 nx jp rt0 False Lc st M x (.sipush k)) : W p l e R s m args below meth c H locs (kc + (M.1 - n0)) (ks + (q_cum M.1 - q_cum n0)) Q (F0 m pc ls (st.map (q_cv ad))) := by
  subst hln
  obtain ⟨hx, hb, hml, hown, hts, hrf, hrl, hnm, hSt, hA⟩ := hF
  have n1 : ∀ (L' st' : List qV) (ls' : Array Slot), nx L' st' M → q_LL ad M.1 (q_mxl y) ls' L' → (∀ v ∈ st', q_vok M.1 v) → W p l e R s m args below meth c H locs (kc + (M.1 - n0)) (ks + (q_cum M.1 - q_cum n0)) Q (F0 m (pc + 3) ls' (st'.map (q_cv ad))) := fun L' st' ls' g h1 h2 => hN L' st' M ad H locs ls' g had h1 h2 hWd hS (Nat.le_refl _)
  exact lv_sipush hx hb hd (q_sip hk.1 hk.2) (n1 _ _ _ h hL (List.forall_mem_cons.mpr ⟨⟨by omega, by omega⟩, hst⟩))
set_option maxRecDepth 20000 in
theorem q_s_lconst {k : Fin 2} {ph : Bool} {y n0 kc ks pc : Nat} {M : qM} {ad : Nat → Nat} {H : Heap} {locs : List Loc} {ls : Array Slot} {Lc st : List qV} {x : List Nat} {cl0 : Nat → List qV → Nat → List qV → Prop} {rt0 : qV → qM → Prop} {nx : List qV → List qV → qM → Prop} {jp : Nat → List qV → Prop} {len : Nat}
    (hF : q_Fx p R s m args meth c D cA ad0 adV L xs A y) (had : ∀ n, n ≤ n0 ∨ 999 ≤ n → ad n = ad0 n) (hL : q_LL ad M.1 (q_mxl y) ls Lc) (hst : ∀ v ∈ st, q_vok M.1 v) (hWd : q_Wd D cA ad L xs A ph M s H) (hS : va_S A s.heap H locs) (hn0 : n0 ≤ M.1)
    (hN : q_NX1 p l e R s m args below meth c Q D cA ad0 L xs A ph y n0 kc ks (pc + len) M nx) (hJ : q_JP1 p l e R s m args below meth c Q ad n0 kc ks M H locs ls jp) (hd : decode (q_by y) pc = .ok (.lconst k, len)) (hln : len = 1) (h : q_ex (α := Prop) ph cl0 nx jp rt0 False Lc st M x (.lconst k)) : W p l e R s m args below meth c H locs (kc + (M.1 - n0)) (ks + (q_cum M.1 - q_cum n0)) Q (F0 m pc ls (st.map (q_cv ad))) := by
  subst hln
  obtain ⟨hx, hb, hml, hown, hts, hrf, hrl, hnm, hSt, hA⟩ := hF
  have n1 : ∀ (L' st' : List qV) (ls' : Array Slot), nx L' st' M → q_LL ad M.1 (q_mxl y) ls' L' → (∀ v ∈ st', q_vok M.1 v) → W p l e R s m args below meth c H locs (kc + (M.1 - n0)) (ks + (q_cum M.1 - q_cum n0)) Q (F0 m (pc + 1) ls' (st'.map (q_cv ad))) := fun L' st' ls' g h1 h2 => hN L' st' M ad H locs ls' g had h1 h2 hWd hS (Nat.le_refl _)
  exact lv_lconst hx hb hd rfl (n1 _ _ _ h hL (List.forall_mem_cons.mpr ⟨⟨by have := k.isLt; show (-9223372036854775808 : Int) ≤ ((k.val : Nat) : Int); omega, by have := k.isLt; show ((k.val : Nat) : Int) < 9223372036854775808; omega⟩, hst⟩))
set_option maxRecDepth 20000 in
theorem q_s_iadd  {ph : Bool} {y n0 kc ks pc : Nat} {M : qM} {ad : Nat → Nat} {H : Heap} {locs : List Loc} {ls : Array Slot} {Lc st : List qV} {x : List Nat} {cl0 : Nat → List qV → Nat → List qV → Prop} {rt0 : qV → qM → Prop} {nx : List qV → List qV → qM → Prop} {jp : Nat → List qV → Prop} {len : Nat}
    (hF : q_Fx p R s m args meth c D cA ad0 adV L xs A y) (had : ∀ n, n ≤ n0 ∨ 999 ≤ n → ad n = ad0 n) (hL : q_LL ad M.1 (q_mxl y) ls Lc) (hst : ∀ v ∈ st, q_vok M.1 v) (hWd : q_Wd D cA ad L xs A ph M s H) (hS : va_S A s.heap H locs) (hn0 : n0 ≤ M.1)
    (hN : q_NX1 p l e R s m args below meth c Q D cA ad0 L xs A ph y n0 kc ks (pc + len) M nx) (hJ : q_JP1 p l e R s m args below meth c Q ad n0 kc ks M H locs ls jp) (hd : decode (q_by y) pc = .ok (.iadd, len)) (hln : len = 1) (h : q_ex (α := Prop) ph cl0 nx jp rt0 False Lc st M x (.iadd)) : W p l e R s m args below meth c H locs (kc + (M.1 - n0)) (ks + (q_cum M.1 - q_cum n0)) Q (F0 m pc ls (st.map (q_cv ad))) := by
  subst hln
  obtain ⟨hx, hb, hml, hown, hts, hrf, hrl, hnm, hSt, hA⟩ := hF
  have n1 : ∀ (L' st' : List qV) (ls' : Array Slot), nx L' st' M → q_LL ad M.1 (q_mxl y) ls' L' → (∀ v ∈ st', q_vok M.1 v) → W p l e R s m args below meth c H locs (kc + (M.1 - n0)) (ks + (q_cum M.1 - q_cum n0)) Q (F0 m (pc + 1) ls' (st'.map (q_cv ad))) := fun L' st' ls' g h1 h2 => hN L' st' M ad H locs ls' g had h1 h2 hWd hS (Nat.le_refl _)
  obtain ⟨a, b, r, e1, g⟩ := q_i2_of (show qi2 st False (fun a b r => nx Lc (vi (wr (a + b)) :: r) M) from h)
  subst e1
  have h1 := List.forall_mem_cons.mp hst
  have h2 := List.forall_mem_cons.mp h1.2
  refine lv_iadd hx hb hd ?_
  rw [q_add]
  exact n1 _ _ _ g hL (List.forall_mem_cons.mpr ⟨q_wr_ok _, h2.2⟩)
set_option maxRecDepth 20000 in
theorem q_s_isub  {ph : Bool} {y n0 kc ks pc : Nat} {M : qM} {ad : Nat → Nat} {H : Heap} {locs : List Loc} {ls : Array Slot} {Lc st : List qV} {x : List Nat} {cl0 : Nat → List qV → Nat → List qV → Prop} {rt0 : qV → qM → Prop} {nx : List qV → List qV → qM → Prop} {jp : Nat → List qV → Prop} {len : Nat}
    (hF : q_Fx p R s m args meth c D cA ad0 adV L xs A y) (had : ∀ n, n ≤ n0 ∨ 999 ≤ n → ad n = ad0 n) (hL : q_LL ad M.1 (q_mxl y) ls Lc) (hst : ∀ v ∈ st, q_vok M.1 v) (hWd : q_Wd D cA ad L xs A ph M s H) (hS : va_S A s.heap H locs) (hn0 : n0 ≤ M.1)
    (hN : q_NX1 p l e R s m args below meth c Q D cA ad0 L xs A ph y n0 kc ks (pc + len) M nx) (hJ : q_JP1 p l e R s m args below meth c Q ad n0 kc ks M H locs ls jp) (hd : decode (q_by y) pc = .ok (.isub, len)) (hln : len = 1) (h : q_ex (α := Prop) ph cl0 nx jp rt0 False Lc st M x (.isub)) : W p l e R s m args below meth c H locs (kc + (M.1 - n0)) (ks + (q_cum M.1 - q_cum n0)) Q (F0 m pc ls (st.map (q_cv ad))) := by
  subst hln
  obtain ⟨hx, hb, hml, hown, hts, hrf, hrl, hnm, hSt, hA⟩ := hF
  have n1 : ∀ (L' st' : List qV) (ls' : Array Slot), nx L' st' M → q_LL ad M.1 (q_mxl y) ls' L' → (∀ v ∈ st', q_vok M.1 v) → W p l e R s m args below meth c H locs (kc + (M.1 - n0)) (ks + (q_cum M.1 - q_cum n0)) Q (F0 m (pc + 1) ls' (st'.map (q_cv ad))) := fun L' st' ls' g h1 h2 => hN L' st' M ad H locs ls' g had h1 h2 hWd hS (Nat.le_refl _)
  obtain ⟨a, b, r, e1, g⟩ := q_i2_of (show qi2 st False (fun a b r => nx Lc (vi (wr (a - b)) :: r) M) from h)
  subst e1
  have h1 := List.forall_mem_cons.mp hst
  have h2 := List.forall_mem_cons.mp h1.2
  refine lv_isub hx hb hd ?_
  rw [q_sub]
  exact n1 _ _ _ g hL (List.forall_mem_cons.mpr ⟨q_wr_ok _, h2.2⟩)
set_option maxRecDepth 20000 in
theorem q_s_imul  {ph : Bool} {y n0 kc ks pc : Nat} {M : qM} {ad : Nat → Nat} {H : Heap} {locs : List Loc} {ls : Array Slot} {Lc st : List qV} {x : List Nat} {cl0 : Nat → List qV → Nat → List qV → Prop} {rt0 : qV → qM → Prop} {nx : List qV → List qV → qM → Prop} {jp : Nat → List qV → Prop} {len : Nat}
    (hF : q_Fx p R s m args meth c D cA ad0 adV L xs A y) (had : ∀ n, n ≤ n0 ∨ 999 ≤ n → ad n = ad0 n) (hL : q_LL ad M.1 (q_mxl y) ls Lc) (hst : ∀ v ∈ st, q_vok M.1 v) (hWd : q_Wd D cA ad L xs A ph M s H) (hS : va_S A s.heap H locs) (hn0 : n0 ≤ M.1)
    (hN : q_NX1 p l e R s m args below meth c Q D cA ad0 L xs A ph y n0 kc ks (pc + len) M nx) (hJ : q_JP1 p l e R s m args below meth c Q ad n0 kc ks M H locs ls jp) (hd : decode (q_by y) pc = .ok (.imul, len)) (hln : len = 1) (h : q_ex (α := Prop) ph cl0 nx jp rt0 False Lc st M x (.imul)) : W p l e R s m args below meth c H locs (kc + (M.1 - n0)) (ks + (q_cum M.1 - q_cum n0)) Q (F0 m pc ls (st.map (q_cv ad))) := by
  subst hln
  obtain ⟨hx, hb, hml, hown, hts, hrf, hrl, hnm, hSt, hA⟩ := hF
  have n1 : ∀ (L' st' : List qV) (ls' : Array Slot), nx L' st' M → q_LL ad M.1 (q_mxl y) ls' L' → (∀ v ∈ st', q_vok M.1 v) → W p l e R s m args below meth c H locs (kc + (M.1 - n0)) (ks + (q_cum M.1 - q_cum n0)) Q (F0 m (pc + 1) ls' (st'.map (q_cv ad))) := fun L' st' ls' g h1 h2 => hN L' st' M ad H locs ls' g had h1 h2 hWd hS (Nat.le_refl _)
  obtain ⟨a, b, r, e1, g⟩ := q_i2_of (show qi2 st False (fun a b r => nx Lc (vi (wr (a * b)) :: r) M) from h)
  subst e1
  have h1 := List.forall_mem_cons.mp hst
  have h2 := List.forall_mem_cons.mp h1.2
  refine lv_imul hx hb hd ?_
  rw [q_mul]
  exact n1 _ _ _ g hL (List.forall_mem_cons.mpr ⟨q_wr_ok _, h2.2⟩)
set_option maxRecDepth 20000 in
theorem q_s_ishl  {ph : Bool} {y n0 kc ks pc : Nat} {M : qM} {ad : Nat → Nat} {H : Heap} {locs : List Loc} {ls : Array Slot} {Lc st : List qV} {x : List Nat} {cl0 : Nat → List qV → Nat → List qV → Prop} {rt0 : qV → qM → Prop} {nx : List qV → List qV → qM → Prop} {jp : Nat → List qV → Prop} {len : Nat}
    (hF : q_Fx p R s m args meth c D cA ad0 adV L xs A y) (had : ∀ n, n ≤ n0 ∨ 999 ≤ n → ad n = ad0 n) (hL : q_LL ad M.1 (q_mxl y) ls Lc) (hst : ∀ v ∈ st, q_vok M.1 v) (hWd : q_Wd D cA ad L xs A ph M s H) (hS : va_S A s.heap H locs) (hn0 : n0 ≤ M.1)
    (hN : q_NX1 p l e R s m args below meth c Q D cA ad0 L xs A ph y n0 kc ks (pc + len) M nx) (hJ : q_JP1 p l e R s m args below meth c Q ad n0 kc ks M H locs ls jp) (hd : decode (q_by y) pc = .ok (.ishl, len)) (hln : len = 1) (h : q_ex (α := Prop) ph cl0 nx jp rt0 False Lc st M x (.ishl)) : W p l e R s m args below meth c H locs (kc + (M.1 - n0)) (ks + (q_cum M.1 - q_cum n0)) Q (F0 m pc ls (st.map (q_cv ad))) := by
  subst hln
  obtain ⟨hx, hb, hml, hown, hts, hrf, hrl, hnm, hSt, hA⟩ := hF
  have n1 : ∀ (L' st' : List qV) (ls' : Array Slot), nx L' st' M → q_LL ad M.1 (q_mxl y) ls' L' → (∀ v ∈ st', q_vok M.1 v) → W p l e R s m args below meth c H locs (kc + (M.1 - n0)) (ks + (q_cum M.1 - q_cum n0)) Q (F0 m (pc + 1) ls' (st'.map (q_cv ad))) := fun L' st' ls' g h1 h2 => hN L' st' M ad H locs ls' g had h1 h2 hWd hS (Nat.le_refl _)
  obtain ⟨a, b, r, e1, g⟩ := q_i2_of (show qi2 st False (fun a b r => nx Lc (vi (q_shl a b) :: r) M) from h)
  subst e1
  have h1 := List.forall_mem_cons.mp hst
  have h2 := List.forall_mem_cons.mp h1.2
  have g2 := n1 _ _ _ g hL (List.forall_mem_cons.mpr ⟨q_shl_ok _ _, h2.2⟩)
  refine lv_ishl hx hb hd ?_
  rw [List.map_cons] at g2
  have e2 : q_cv ad (vi (q_shl a b)) = .int (Int32.ofInt (q_shl a b)) := rfl
  rw [e2] at g2
  unfold q_shl at g2
  rw [Int32.ofInt_toInt] at g2
  exact g2
set_option maxRecDepth 20000 in
theorem q_s_ishr  {ph : Bool} {y n0 kc ks pc : Nat} {M : qM} {ad : Nat → Nat} {H : Heap} {locs : List Loc} {ls : Array Slot} {Lc st : List qV} {x : List Nat} {cl0 : Nat → List qV → Nat → List qV → Prop} {rt0 : qV → qM → Prop} {nx : List qV → List qV → qM → Prop} {jp : Nat → List qV → Prop} {len : Nat}
    (hF : q_Fx p R s m args meth c D cA ad0 adV L xs A y) (had : ∀ n, n ≤ n0 ∨ 999 ≤ n → ad n = ad0 n) (hL : q_LL ad M.1 (q_mxl y) ls Lc) (hst : ∀ v ∈ st, q_vok M.1 v) (hWd : q_Wd D cA ad L xs A ph M s H) (hS : va_S A s.heap H locs) (hn0 : n0 ≤ M.1)
    (hN : q_NX1 p l e R s m args below meth c Q D cA ad0 L xs A ph y n0 kc ks (pc + len) M nx) (hJ : q_JP1 p l e R s m args below meth c Q ad n0 kc ks M H locs ls jp) (hd : decode (q_by y) pc = .ok (.ishr, len)) (hln : len = 1) (h : q_ex (α := Prop) ph cl0 nx jp rt0 False Lc st M x (.ishr)) : W p l e R s m args below meth c H locs (kc + (M.1 - n0)) (ks + (q_cum M.1 - q_cum n0)) Q (F0 m pc ls (st.map (q_cv ad))) := by
  subst hln
  obtain ⟨hx, hb, hml, hown, hts, hrf, hrl, hnm, hSt, hA⟩ := hF
  have n1 : ∀ (L' st' : List qV) (ls' : Array Slot), nx L' st' M → q_LL ad M.1 (q_mxl y) ls' L' → (∀ v ∈ st', q_vok M.1 v) → W p l e R s m args below meth c H locs (kc + (M.1 - n0)) (ks + (q_cum M.1 - q_cum n0)) Q (F0 m (pc + 1) ls' (st'.map (q_cv ad))) := fun L' st' ls' g h1 h2 => hN L' st' M ad H locs ls' g had h1 h2 hWd hS (Nat.le_refl _)
  obtain ⟨a, b, r, e1, g⟩ := q_i2_of (show qi2 st False (fun a b r => nx Lc (vi (q_shr a b) :: r) M) from h)
  subst e1
  have h1 := List.forall_mem_cons.mp hst
  have h2 := List.forall_mem_cons.mp h1.2
  have g2 := n1 _ _ _ g hL (List.forall_mem_cons.mpr ⟨q_shr_ok _ _, h2.2⟩)
  refine lv_ishr hx hb hd ?_
  rw [List.map_cons] at g2
  have e2 : q_cv ad (vi (q_shr a b)) = .int (Int32.ofInt (q_shr a b)) := rfl
  rw [e2] at g2
  unfold q_shr at g2
  rw [Int32.ofInt_toInt] at g2
  exact g2
set_option maxRecDepth 20000 in
theorem q_s_iand  {ph : Bool} {y n0 kc ks pc : Nat} {M : qM} {ad : Nat → Nat} {H : Heap} {locs : List Loc} {ls : Array Slot} {Lc st : List qV} {x : List Nat} {cl0 : Nat → List qV → Nat → List qV → Prop} {rt0 : qV → qM → Prop} {nx : List qV → List qV → qM → Prop} {jp : Nat → List qV → Prop} {len : Nat}
    (hF : q_Fx p R s m args meth c D cA ad0 adV L xs A y) (had : ∀ n, n ≤ n0 ∨ 999 ≤ n → ad n = ad0 n) (hL : q_LL ad M.1 (q_mxl y) ls Lc) (hst : ∀ v ∈ st, q_vok M.1 v) (hWd : q_Wd D cA ad L xs A ph M s H) (hS : va_S A s.heap H locs) (hn0 : n0 ≤ M.1)
    (hN : q_NX1 p l e R s m args below meth c Q D cA ad0 L xs A ph y n0 kc ks (pc + len) M nx) (hJ : q_JP1 p l e R s m args below meth c Q ad n0 kc ks M H locs ls jp) (hd : decode (q_by y) pc = .ok (.iand, len)) (hln : len = 1) (h : q_ex (α := Prop) ph cl0 nx jp rt0 False Lc st M x (.iand)) : W p l e R s m args below meth c H locs (kc + (M.1 - n0)) (ks + (q_cum M.1 - q_cum n0)) Q (F0 m pc ls (st.map (q_cv ad))) := by
  subst hln
  obtain ⟨hx, hb, hml, hown, hts, hrf, hrl, hnm, hSt, hA⟩ := hF
  have n1 : ∀ (L' st' : List qV) (ls' : Array Slot), nx L' st' M → q_LL ad M.1 (q_mxl y) ls' L' → (∀ v ∈ st', q_vok M.1 v) → W p l e R s m args below meth c H locs (kc + (M.1 - n0)) (ks + (q_cum M.1 - q_cum n0)) Q (F0 m (pc + 1) ls' (st'.map (q_cv ad))) := fun L' st' ls' g h1 h2 => hN L' st' M ad H locs ls' g had h1 h2 hWd hS (Nat.le_refl _)
  obtain ⟨a, b, r, e1, g⟩ := q_i2_of (show qi2 st False (fun a b r => nx Lc (vi (q_and a b) :: r) M) from h)
  subst e1
  have h1 := List.forall_mem_cons.mp hst
  have h2 := List.forall_mem_cons.mp h1.2
  have g2 := n1 _ _ _ g hL (List.forall_mem_cons.mpr ⟨q_and_ok _ _, h2.2⟩)
  refine lv_iand hx hb hd ?_
  rw [List.map_cons] at g2
  have e2 : q_cv ad (vi (q_and a b)) = .int (Int32.ofInt (q_and a b)) := rfl
  rw [e2] at g2
  unfold q_and at g2
  rw [Int32.ofInt_toInt] at g2
  exact g2
set_option maxRecDepth 20000 in
theorem q_s_ior  {ph : Bool} {y n0 kc ks pc : Nat} {M : qM} {ad : Nat → Nat} {H : Heap} {locs : List Loc} {ls : Array Slot} {Lc st : List qV} {x : List Nat} {cl0 : Nat → List qV → Nat → List qV → Prop} {rt0 : qV → qM → Prop} {nx : List qV → List qV → qM → Prop} {jp : Nat → List qV → Prop} {len : Nat}
    (hF : q_Fx p R s m args meth c D cA ad0 adV L xs A y) (had : ∀ n, n ≤ n0 ∨ 999 ≤ n → ad n = ad0 n) (hL : q_LL ad M.1 (q_mxl y) ls Lc) (hst : ∀ v ∈ st, q_vok M.1 v) (hWd : q_Wd D cA ad L xs A ph M s H) (hS : va_S A s.heap H locs) (hn0 : n0 ≤ M.1)
    (hN : q_NX1 p l e R s m args below meth c Q D cA ad0 L xs A ph y n0 kc ks (pc + len) M nx) (hJ : q_JP1 p l e R s m args below meth c Q ad n0 kc ks M H locs ls jp) (hd : decode (q_by y) pc = .ok (.ior, len)) (hln : len = 1) (h : q_ex (α := Prop) ph cl0 nx jp rt0 False Lc st M x (.ior)) : W p l e R s m args below meth c H locs (kc + (M.1 - n0)) (ks + (q_cum M.1 - q_cum n0)) Q (F0 m pc ls (st.map (q_cv ad))) := by
  subst hln
  obtain ⟨hx, hb, hml, hown, hts, hrf, hrl, hnm, hSt, hA⟩ := hF
  have n1 : ∀ (L' st' : List qV) (ls' : Array Slot), nx L' st' M → q_LL ad M.1 (q_mxl y) ls' L' → (∀ v ∈ st', q_vok M.1 v) → W p l e R s m args below meth c H locs (kc + (M.1 - n0)) (ks + (q_cum M.1 - q_cum n0)) Q (F0 m (pc + 1) ls' (st'.map (q_cv ad))) := fun L' st' ls' g h1 h2 => hN L' st' M ad H locs ls' g had h1 h2 hWd hS (Nat.le_refl _)
  obtain ⟨a, b, r, e1, g⟩ := q_i2_of (show qi2 st False (fun a b r => nx Lc (vi (q_or a b) :: r) M) from h)
  subst e1
  have h1 := List.forall_mem_cons.mp hst
  have h2 := List.forall_mem_cons.mp h1.2
  have g2 := n1 _ _ _ g hL (List.forall_mem_cons.mpr ⟨q_or_ok _ _, h2.2⟩)
  refine lv_ior hx hb hd ?_
  rw [List.map_cons] at g2
  have e2 : q_cv ad (vi (q_or a b)) = .int (Int32.ofInt (q_or a b)) := rfl
  rw [e2] at g2
  unfold q_or at g2
  rw [Int32.ofInt_toInt] at g2
  exact g2
set_option maxRecDepth 20000 in
theorem q_s_ixor  {ph : Bool} {y n0 kc ks pc : Nat} {M : qM} {ad : Nat → Nat} {H : Heap} {locs : List Loc} {ls : Array Slot} {Lc st : List qV} {x : List Nat} {cl0 : Nat → List qV → Nat → List qV → Prop} {rt0 : qV → qM → Prop} {nx : List qV → List qV → qM → Prop} {jp : Nat → List qV → Prop} {len : Nat}
    (hF : q_Fx p R s m args meth c D cA ad0 adV L xs A y) (had : ∀ n, n ≤ n0 ∨ 999 ≤ n → ad n = ad0 n) (hL : q_LL ad M.1 (q_mxl y) ls Lc) (hst : ∀ v ∈ st, q_vok M.1 v) (hWd : q_Wd D cA ad L xs A ph M s H) (hS : va_S A s.heap H locs) (hn0 : n0 ≤ M.1)
    (hN : q_NX1 p l e R s m args below meth c Q D cA ad0 L xs A ph y n0 kc ks (pc + len) M nx) (hJ : q_JP1 p l e R s m args below meth c Q ad n0 kc ks M H locs ls jp) (hd : decode (q_by y) pc = .ok (.ixor, len)) (hln : len = 1) (h : q_ex (α := Prop) ph cl0 nx jp rt0 False Lc st M x (.ixor)) : W p l e R s m args below meth c H locs (kc + (M.1 - n0)) (ks + (q_cum M.1 - q_cum n0)) Q (F0 m pc ls (st.map (q_cv ad))) := by
  subst hln
  obtain ⟨hx, hb, hml, hown, hts, hrf, hrl, hnm, hSt, hA⟩ := hF
  have n1 : ∀ (L' st' : List qV) (ls' : Array Slot), nx L' st' M → q_LL ad M.1 (q_mxl y) ls' L' → (∀ v ∈ st', q_vok M.1 v) → W p l e R s m args below meth c H locs (kc + (M.1 - n0)) (ks + (q_cum M.1 - q_cum n0)) Q (F0 m (pc + 1) ls' (st'.map (q_cv ad))) := fun L' st' ls' g h1 h2 => hN L' st' M ad H locs ls' g had h1 h2 hWd hS (Nat.le_refl _)
  obtain ⟨a, b, r, e1, g⟩ := q_i2_of (show qi2 st False (fun a b r => nx Lc (vi (q_xor a b) :: r) M) from h)
  subst e1
  have h1 := List.forall_mem_cons.mp hst
  have h2 := List.forall_mem_cons.mp h1.2
  have g2 := n1 _ _ _ g hL (List.forall_mem_cons.mpr ⟨q_xor_ok _ _, h2.2⟩)
  refine lv_ixor hx hb hd ?_
  rw [List.map_cons] at g2
  have e2 : q_cv ad (vi (q_xor a b)) = .int (Int32.ofInt (q_xor a b)) := rfl
  rw [e2] at g2
  unfold q_xor at g2
  rw [Int32.ofInt_toInt] at g2
  exact g2
set_option maxRecDepth 20000 in
theorem q_s_ineg  {ph : Bool} {y n0 kc ks pc : Nat} {M : qM} {ad : Nat → Nat} {H : Heap} {locs : List Loc} {ls : Array Slot} {Lc st : List qV} {x : List Nat} {cl0 : Nat → List qV → Nat → List qV → Prop} {rt0 : qV → qM → Prop} {nx : List qV → List qV → qM → Prop} {jp : Nat → List qV → Prop} {len : Nat}
    (hF : q_Fx p R s m args meth c D cA ad0 adV L xs A y) (had : ∀ n, n ≤ n0 ∨ 999 ≤ n → ad n = ad0 n) (hL : q_LL ad M.1 (q_mxl y) ls Lc) (hst : ∀ v ∈ st, q_vok M.1 v) (hWd : q_Wd D cA ad L xs A ph M s H) (hS : va_S A s.heap H locs) (hn0 : n0 ≤ M.1)
    (hN : q_NX1 p l e R s m args below meth c Q D cA ad0 L xs A ph y n0 kc ks (pc + len) M nx) (hJ : q_JP1 p l e R s m args below meth c Q ad n0 kc ks M H locs ls jp) (hd : decode (q_by y) pc = .ok (.ineg, len)) (hln : len = 1) (h : q_ex (α := Prop) ph cl0 nx jp rt0 False Lc st M x (.ineg)) : W p l e R s m args below meth c H locs (kc + (M.1 - n0)) (ks + (q_cum M.1 - q_cum n0)) Q (F0 m pc ls (st.map (q_cv ad))) := by
  subst hln
  obtain ⟨hx, hb, hml, hown, hts, hrf, hrl, hnm, hSt, hA⟩ := hF
  have n1 : ∀ (L' st' : List qV) (ls' : Array Slot), nx L' st' M → q_LL ad M.1 (q_mxl y) ls' L' → (∀ v ∈ st', q_vok M.1 v) → W p l e R s m args below meth c H locs (kc + (M.1 - n0)) (ks + (q_cum M.1 - q_cum n0)) Q (F0 m (pc + 1) ls' (st'.map (q_cv ad))) := fun L' st' ls' g h1 h2 => hN L' st' M ad H locs ls' g had h1 h2 hWd hS (Nat.le_refl _)
  obtain ⟨a, r, e1, g⟩ := q_i1_of (show qi1 st False (fun a r => nx Lc (vi (wr (-a)) :: r) M) from h)
  subst e1
  have h1 := List.forall_mem_cons.mp hst
  refine lv_ineg hx hb hd ?_
  rw [q_neg]
  exact n1 _ _ _ g hL (List.forall_mem_cons.mpr ⟨q_wr_ok _, h1.2⟩)
set_option maxRecDepth 20000 in
theorem q_s_idiv  {ph : Bool} {y n0 kc ks pc : Nat} {M : qM} {ad : Nat → Nat} {H : Heap} {locs : List Loc} {ls : Array Slot} {Lc st : List qV} {x : List Nat} {cl0 : Nat → List qV → Nat → List qV → Prop} {rt0 : qV → qM → Prop} {nx : List qV → List qV → qM → Prop} {jp : Nat → List qV → Prop} {len : Nat}
    (hF : q_Fx p R s m args meth c D cA ad0 adV L xs A y) (had : ∀ n, n ≤ n0 ∨ 999 ≤ n → ad n = ad0 n) (hL : q_LL ad M.1 (q_mxl y) ls Lc) (hst : ∀ v ∈ st, q_vok M.1 v) (hWd : q_Wd D cA ad L xs A ph M s H) (hS : va_S A s.heap H locs) (hn0 : n0 ≤ M.1)
    (hN : q_NX1 p l e R s m args below meth c Q D cA ad0 L xs A ph y n0 kc ks (pc + len) M nx) (hJ : q_JP1 p l e R s m args below meth c Q ad n0 kc ks M H locs ls jp) (hd : decode (q_by y) pc = .ok (.idiv, len)) (hln : len = 1) (h : q_ex (α := Prop) ph cl0 nx jp rt0 False Lc st M x (.idiv)) : W p l e R s m args below meth c H locs (kc + (M.1 - n0)) (ks + (q_cum M.1 - q_cum n0)) Q (F0 m pc ls (st.map (q_cv ad))) := by
  subst hln
  obtain ⟨hx, hb, hml, hown, hts, hrf, hrl, hnm, hSt, hA⟩ := hF
  have n1 : ∀ (L' st' : List qV) (ls' : Array Slot), nx L' st' M → q_LL ad M.1 (q_mxl y) ls' L' → (∀ v ∈ st', q_vok M.1 v) → W p l e R s m args below meth c H locs (kc + (M.1 - n0)) (ks + (q_cum M.1 - q_cum n0)) Q (F0 m (pc + 1) ls' (st'.map (q_cv ad))) := fun L' st' ls' g h1 h2 => hN L' st' M ad H locs ls' g had h1 h2 hWd hS (Nat.le_refl _)
  obtain ⟨a, b, r, e1, g⟩ := q_i2_of (show qi2 st False (fun a b r => if b = 0 then False else nx Lc (vi (wr (Int.tdiv a b)) :: r) M) from h)
  subst e1
  have h1 := List.forall_mem_cons.mp hst
  have h2 := List.forall_mem_cons.mp h1.2
  rcases q_if_of g with ⟨-, g⟩ | ⟨hz, g⟩
  · exact g.elim
  refine lv_idiv hx hb hd (fun q => hz ((q_eq h1.1 q_i0).mp q)) ?_
  rw [q_div h2.1 h1.1]
  exact n1 _ _ _ g hL (List.forall_mem_cons.mpr ⟨q_wr_ok _, h2.2⟩)
set_option maxRecDepth 20000 in
theorem q_s_irem  {ph : Bool} {y n0 kc ks pc : Nat} {M : qM} {ad : Nat → Nat} {H : Heap} {locs : List Loc} {ls : Array Slot} {Lc st : List qV} {x : List Nat} {cl0 : Nat → List qV → Nat → List qV → Prop} {rt0 : qV → qM → Prop} {nx : List qV → List qV → qM → Prop} {jp : Nat → List qV → Prop} {len : Nat}
    (hF : q_Fx p R s m args meth c D cA ad0 adV L xs A y) (had : ∀ n, n ≤ n0 ∨ 999 ≤ n → ad n = ad0 n) (hL : q_LL ad M.1 (q_mxl y) ls Lc) (hst : ∀ v ∈ st, q_vok M.1 v) (hWd : q_Wd D cA ad L xs A ph M s H) (hS : va_S A s.heap H locs) (hn0 : n0 ≤ M.1)
    (hN : q_NX1 p l e R s m args below meth c Q D cA ad0 L xs A ph y n0 kc ks (pc + len) M nx) (hJ : q_JP1 p l e R s m args below meth c Q ad n0 kc ks M H locs ls jp) (hd : decode (q_by y) pc = .ok (.irem, len)) (hln : len = 1) (h : q_ex (α := Prop) ph cl0 nx jp rt0 False Lc st M x (.irem)) : W p l e R s m args below meth c H locs (kc + (M.1 - n0)) (ks + (q_cum M.1 - q_cum n0)) Q (F0 m pc ls (st.map (q_cv ad))) := by
  subst hln
  obtain ⟨hx, hb, hml, hown, hts, hrf, hrl, hnm, hSt, hA⟩ := hF
  have n1 : ∀ (L' st' : List qV) (ls' : Array Slot), nx L' st' M → q_LL ad M.1 (q_mxl y) ls' L' → (∀ v ∈ st', q_vok M.1 v) → W p l e R s m args below meth c H locs (kc + (M.1 - n0)) (ks + (q_cum M.1 - q_cum n0)) Q (F0 m (pc + 1) ls' (st'.map (q_cv ad))) := fun L' st' ls' g h1 h2 => hN L' st' M ad H locs ls' g had h1 h2 hWd hS (Nat.le_refl _)
  obtain ⟨a, b, r, e1, g⟩ := q_i2_of (show qi2 st False (fun a b r => if b = 0 then False else nx Lc (vi (Int.tmod a b) :: r) M) from h)
  subst e1
  have h1 := List.forall_mem_cons.mp hst
  have h2 := List.forall_mem_cons.mp h1.2
  rcases q_if_of g with ⟨-, g⟩ | ⟨hz, g⟩
  · exact g.elim
  refine lv_irem hx hb hd (fun q => hz ((q_eq h1.1 q_i0).mp q)) ?_
  rw [q_rem h2.1 h1.1]
  exact n1 _ _ _ g hL (List.forall_mem_cons.mpr ⟨q_rem_ok h2.1 h1.1, h2.2⟩)
set_option maxRecDepth 20000 in
theorem q_s_ladd  {ph : Bool} {y n0 kc ks pc : Nat} {M : qM} {ad : Nat → Nat} {H : Heap} {locs : List Loc} {ls : Array Slot} {Lc st : List qV} {x : List Nat} {cl0 : Nat → List qV → Nat → List qV → Prop} {rt0 : qV → qM → Prop} {nx : List qV → List qV → qM → Prop} {jp : Nat → List qV → Prop} {len : Nat}
    (hF : q_Fx p R s m args meth c D cA ad0 adV L xs A y) (had : ∀ n, n ≤ n0 ∨ 999 ≤ n → ad n = ad0 n) (hL : q_LL ad M.1 (q_mxl y) ls Lc) (hst : ∀ v ∈ st, q_vok M.1 v) (hWd : q_Wd D cA ad L xs A ph M s H) (hS : va_S A s.heap H locs) (hn0 : n0 ≤ M.1)
    (hN : q_NX1 p l e R s m args below meth c Q D cA ad0 L xs A ph y n0 kc ks (pc + len) M nx) (hJ : q_JP1 p l e R s m args below meth c Q ad n0 kc ks M H locs ls jp) (hd : decode (q_by y) pc = .ok (.ladd, len)) (hln : len = 1) (h : q_ex (α := Prop) ph cl0 nx jp rt0 False Lc st M x (.ladd)) : W p l e R s m args below meth c H locs (kc + (M.1 - n0)) (ks + (q_cum M.1 - q_cum n0)) Q (F0 m pc ls (st.map (q_cv ad))) := by
  subst hln
  obtain ⟨hx, hb, hml, hown, hts, hrf, hrl, hnm, hSt, hA⟩ := hF
  have n1 : ∀ (L' st' : List qV) (ls' : Array Slot), nx L' st' M → q_LL ad M.1 (q_mxl y) ls' L' → (∀ v ∈ st', q_vok M.1 v) → W p l e R s m args below meth c H locs (kc + (M.1 - n0)) (ks + (q_cum M.1 - q_cum n0)) Q (F0 m (pc + 1) ls' (st'.map (q_cv ad))) := fun L' st' ls' g h1 h2 => hN L' st' M ad H locs ls' g had h1 h2 hWd hS (Nat.le_refl _)
  obtain ⟨a, b, r, e1, g⟩ := q_l2_of (show ql2 st False (fun a b r => nx Lc (vl (wl (a + b)) :: r) M) from h)
  subst e1
  have h1 := List.forall_mem_cons.mp hst
  have h2 := List.forall_mem_cons.mp h1.2
  refine lv_ladd hx hb hd ?_
  rw [q_ladd]
  exact n1 _ _ _ g hL (List.forall_mem_cons.mpr ⟨q_wl_ok _, h2.2⟩)
set_option maxRecDepth 20000 in
theorem q_s_lmul  {ph : Bool} {y n0 kc ks pc : Nat} {M : qM} {ad : Nat → Nat} {H : Heap} {locs : List Loc} {ls : Array Slot} {Lc st : List qV} {x : List Nat} {cl0 : Nat → List qV → Nat → List qV → Prop} {rt0 : qV → qM → Prop} {nx : List qV → List qV → qM → Prop} {jp : Nat → List qV → Prop} {len : Nat}
    (hF : q_Fx p R s m args meth c D cA ad0 adV L xs A y) (had : ∀ n, n ≤ n0 ∨ 999 ≤ n → ad n = ad0 n) (hL : q_LL ad M.1 (q_mxl y) ls Lc) (hst : ∀ v ∈ st, q_vok M.1 v) (hWd : q_Wd D cA ad L xs A ph M s H) (hS : va_S A s.heap H locs) (hn0 : n0 ≤ M.1)
    (hN : q_NX1 p l e R s m args below meth c Q D cA ad0 L xs A ph y n0 kc ks (pc + len) M nx) (hJ : q_JP1 p l e R s m args below meth c Q ad n0 kc ks M H locs ls jp) (hd : decode (q_by y) pc = .ok (.lmul, len)) (hln : len = 1) (h : q_ex (α := Prop) ph cl0 nx jp rt0 False Lc st M x (.lmul)) : W p l e R s m args below meth c H locs (kc + (M.1 - n0)) (ks + (q_cum M.1 - q_cum n0)) Q (F0 m pc ls (st.map (q_cv ad))) := by
  subst hln
  obtain ⟨hx, hb, hml, hown, hts, hrf, hrl, hnm, hSt, hA⟩ := hF
  have n1 : ∀ (L' st' : List qV) (ls' : Array Slot), nx L' st' M → q_LL ad M.1 (q_mxl y) ls' L' → (∀ v ∈ st', q_vok M.1 v) → W p l e R s m args below meth c H locs (kc + (M.1 - n0)) (ks + (q_cum M.1 - q_cum n0)) Q (F0 m (pc + 1) ls' (st'.map (q_cv ad))) := fun L' st' ls' g h1 h2 => hN L' st' M ad H locs ls' g had h1 h2 hWd hS (Nat.le_refl _)
  obtain ⟨a, b, r, e1, g⟩ := q_l2_of (show ql2 st False (fun a b r => nx Lc (vl (wl (a * b)) :: r) M) from h)
  subst e1
  have h1 := List.forall_mem_cons.mp hst
  have h2 := List.forall_mem_cons.mp h1.2
  refine lv_lmul hx hb hd ?_
  rw [q_lmul]
  exact n1 _ _ _ g hL (List.forall_mem_cons.mpr ⟨q_wl_ok _, h2.2⟩)
set_option maxRecDepth 20000 in
theorem q_s_ldiv  {ph : Bool} {y n0 kc ks pc : Nat} {M : qM} {ad : Nat → Nat} {H : Heap} {locs : List Loc} {ls : Array Slot} {Lc st : List qV} {x : List Nat} {cl0 : Nat → List qV → Nat → List qV → Prop} {rt0 : qV → qM → Prop} {nx : List qV → List qV → qM → Prop} {jp : Nat → List qV → Prop} {len : Nat}
    (hF : q_Fx p R s m args meth c D cA ad0 adV L xs A y) (had : ∀ n, n ≤ n0 ∨ 999 ≤ n → ad n = ad0 n) (hL : q_LL ad M.1 (q_mxl y) ls Lc) (hst : ∀ v ∈ st, q_vok M.1 v) (hWd : q_Wd D cA ad L xs A ph M s H) (hS : va_S A s.heap H locs) (hn0 : n0 ≤ M.1)
    (hN : q_NX1 p l e R s m args below meth c Q D cA ad0 L xs A ph y n0 kc ks (pc + len) M nx) (hJ : q_JP1 p l e R s m args below meth c Q ad n0 kc ks M H locs ls jp) (hd : decode (q_by y) pc = .ok (.ldiv, len)) (hln : len = 1) (h : q_ex (α := Prop) ph cl0 nx jp rt0 False Lc st M x (.ldiv)) : W p l e R s m args below meth c H locs (kc + (M.1 - n0)) (ks + (q_cum M.1 - q_cum n0)) Q (F0 m pc ls (st.map (q_cv ad))) := by
  subst hln
  obtain ⟨hx, hb, hml, hown, hts, hrf, hrl, hnm, hSt, hA⟩ := hF
  have n1 : ∀ (L' st' : List qV) (ls' : Array Slot), nx L' st' M → q_LL ad M.1 (q_mxl y) ls' L' → (∀ v ∈ st', q_vok M.1 v) → W p l e R s m args below meth c H locs (kc + (M.1 - n0)) (ks + (q_cum M.1 - q_cum n0)) Q (F0 m (pc + 1) ls' (st'.map (q_cv ad))) := fun L' st' ls' g h1 h2 => hN L' st' M ad H locs ls' g had h1 h2 hWd hS (Nat.le_refl _)
  obtain ⟨a, b, r, e1, g⟩ := q_l2_of (show ql2 st False (fun a b r => if b = 0 then False else nx Lc (vl (wl (Int.tdiv a b)) :: r) M) from h)
  subst e1
  have h1 := List.forall_mem_cons.mp hst
  have h2 := List.forall_mem_cons.mp h1.2
  rcases q_if_of g with ⟨-, g⟩ | ⟨hz, g⟩
  · exact g.elim
  refine lv_ldiv hx hb hd (fun q => hz ((q_leq h1.1 q_l0).mp q)) ?_
  rw [q_ldiv h2.1 h1.1]
  exact n1 _ _ _ g hL (List.forall_mem_cons.mpr ⟨q_wl_ok _, h2.2⟩)
set_option maxRecDepth 20000 in
theorem q_s_lrem  {ph : Bool} {y n0 kc ks pc : Nat} {M : qM} {ad : Nat → Nat} {H : Heap} {locs : List Loc} {ls : Array Slot} {Lc st : List qV} {x : List Nat} {cl0 : Nat → List qV → Nat → List qV → Prop} {rt0 : qV → qM → Prop} {nx : List qV → List qV → qM → Prop} {jp : Nat → List qV → Prop} {len : Nat}
    (hF : q_Fx p R s m args meth c D cA ad0 adV L xs A y) (had : ∀ n, n ≤ n0 ∨ 999 ≤ n → ad n = ad0 n) (hL : q_LL ad M.1 (q_mxl y) ls Lc) (hst : ∀ v ∈ st, q_vok M.1 v) (hWd : q_Wd D cA ad L xs A ph M s H) (hS : va_S A s.heap H locs) (hn0 : n0 ≤ M.1)
    (hN : q_NX1 p l e R s m args below meth c Q D cA ad0 L xs A ph y n0 kc ks (pc + len) M nx) (hJ : q_JP1 p l e R s m args below meth c Q ad n0 kc ks M H locs ls jp) (hd : decode (q_by y) pc = .ok (.lrem, len)) (hln : len = 1) (h : q_ex (α := Prop) ph cl0 nx jp rt0 False Lc st M x (.lrem)) : W p l e R s m args below meth c H locs (kc + (M.1 - n0)) (ks + (q_cum M.1 - q_cum n0)) Q (F0 m pc ls (st.map (q_cv ad))) := by
  subst hln
  obtain ⟨hx, hb, hml, hown, hts, hrf, hrl, hnm, hSt, hA⟩ := hF
  have n1 : ∀ (L' st' : List qV) (ls' : Array Slot), nx L' st' M → q_LL ad M.1 (q_mxl y) ls' L' → (∀ v ∈ st', q_vok M.1 v) → W p l e R s m args below meth c H locs (kc + (M.1 - n0)) (ks + (q_cum M.1 - q_cum n0)) Q (F0 m (pc + 1) ls' (st'.map (q_cv ad))) := fun L' st' ls' g h1 h2 => hN L' st' M ad H locs ls' g had h1 h2 hWd hS (Nat.le_refl _)
  obtain ⟨a, b, r, e1, g⟩ := q_l2_of (show ql2 st False (fun a b r => if b = 0 then False else nx Lc (vl (Int.tmod a b) :: r) M) from h)
  subst e1
  have h1 := List.forall_mem_cons.mp hst
  have h2 := List.forall_mem_cons.mp h1.2
  rcases q_if_of g with ⟨-, g⟩ | ⟨hz, g⟩
  · exact g.elim
  refine lv_lrem hx hb hd (fun q => hz ((q_leq h1.1 q_l0).mp q)) ?_
  rw [q_lrem h2.1 h1.1]
  exact n1 _ _ _ g hL (List.forall_mem_cons.mpr ⟨q_lrem_ok h2.1 h1.1, h2.2⟩)
set_option maxRecDepth 20000 in
theorem q_s_i2l  {ph : Bool} {y n0 kc ks pc : Nat} {M : qM} {ad : Nat → Nat} {H : Heap} {locs : List Loc} {ls : Array Slot} {Lc st : List qV} {x : List Nat} {cl0 : Nat → List qV → Nat → List qV → Prop} {rt0 : qV → qM → Prop} {nx : List qV → List qV → qM → Prop} {jp : Nat → List qV → Prop} {len : Nat}
    (hF : q_Fx p R s m args meth c D cA ad0 adV L xs A y) (had : ∀ n, n ≤ n0 ∨ 999 ≤ n → ad n = ad0 n) (hL : q_LL ad M.1 (q_mxl y) ls Lc) (hst : ∀ v ∈ st, q_vok M.1 v) (hWd : q_Wd D cA ad L xs A ph M s H) (hS : va_S A s.heap H locs) (hn0 : n0 ≤ M.1)
    (hN : q_NX1 p l e R s m args below meth c Q D cA ad0 L xs A ph y n0 kc ks (pc + len) M nx) (hJ : q_JP1 p l e R s m args below meth c Q ad n0 kc ks M H locs ls jp) (hd : decode (q_by y) pc = .ok (.i2l, len)) (hln : len = 1) (h : q_ex (α := Prop) ph cl0 nx jp rt0 False Lc st M x (.i2l)) : W p l e R s m args below meth c H locs (kc + (M.1 - n0)) (ks + (q_cum M.1 - q_cum n0)) Q (F0 m pc ls (st.map (q_cv ad))) := by
  subst hln
  obtain ⟨hx, hb, hml, hown, hts, hrf, hrl, hnm, hSt, hA⟩ := hF
  have n1 : ∀ (L' st' : List qV) (ls' : Array Slot), nx L' st' M → q_LL ad M.1 (q_mxl y) ls' L' → (∀ v ∈ st', q_vok M.1 v) → W p l e R s m args below meth c H locs (kc + (M.1 - n0)) (ks + (q_cum M.1 - q_cum n0)) Q (F0 m (pc + 1) ls' (st'.map (q_cv ad))) := fun L' st' ls' g h1 h2 => hN L' st' M ad H locs ls' g had h1 h2 hWd hS (Nat.le_refl _)
  obtain ⟨a, r, e1, g⟩ := q_i1_of (show qi1 st False (fun a r => nx Lc (vl a :: r) M) from h)
  subst e1
  have h1 := List.forall_mem_cons.mp hst
  exact lv_i2l hx hb hd (q_i2l h1.1) (n1 _ _ _ g hL (List.forall_mem_cons.mpr ⟨q_i2l_ok h1.1, h1.2⟩))
set_option maxRecDepth 20000 in
theorem q_s_i2b  {ph : Bool} {y n0 kc ks pc : Nat} {M : qM} {ad : Nat → Nat} {H : Heap} {locs : List Loc} {ls : Array Slot} {Lc st : List qV} {x : List Nat} {cl0 : Nat → List qV → Nat → List qV → Prop} {rt0 : qV → qM → Prop} {nx : List qV → List qV → qM → Prop} {jp : Nat → List qV → Prop} {len : Nat}
    (hF : q_Fx p R s m args meth c D cA ad0 adV L xs A y) (had : ∀ n, n ≤ n0 ∨ 999 ≤ n → ad n = ad0 n) (hL : q_LL ad M.1 (q_mxl y) ls Lc) (hst : ∀ v ∈ st, q_vok M.1 v) (hWd : q_Wd D cA ad L xs A ph M s H) (hS : va_S A s.heap H locs) (hn0 : n0 ≤ M.1)
    (hN : q_NX1 p l e R s m args below meth c Q D cA ad0 L xs A ph y n0 kc ks (pc + len) M nx) (hJ : q_JP1 p l e R s m args below meth c Q ad n0 kc ks M H locs ls jp) (hd : decode (q_by y) pc = .ok (.i2b, len)) (hln : len = 1) (h : q_ex (α := Prop) ph cl0 nx jp rt0 False Lc st M x (.i2b)) : W p l e R s m args below meth c H locs (kc + (M.1 - n0)) (ks + (q_cum M.1 - q_cum n0)) Q (F0 m pc ls (st.map (q_cv ad))) := by
  subst hln
  obtain ⟨hx, hb, hml, hown, hts, hrf, hrl, hnm, hSt, hA⟩ := hF
  have n1 : ∀ (L' st' : List qV) (ls' : Array Slot), nx L' st' M → q_LL ad M.1 (q_mxl y) ls' L' → (∀ v ∈ st', q_vok M.1 v) → W p l e R s m args below meth c H locs (kc + (M.1 - n0)) (ks + (q_cum M.1 - q_cum n0)) Q (F0 m (pc + 1) ls' (st'.map (q_cv ad))) := fun L' st' ls' g h1 h2 => hN L' st' M ad H locs ls' g had h1 h2 hWd hS (Nat.le_refl _)
  obtain ⟨a, r, e1, g⟩ := q_i1_of (show qi1 st False (fun a r => nx Lc (vi (Int.bmod a 256) :: r) M) from h)
  subst e1
  have h1 := List.forall_mem_cons.mp hst
  exact lv_i2b hx hb hd (q_byte a h1.1) (n1 _ _ _ g hL (List.forall_mem_cons.mpr ⟨q_byte_ok a h1.1, h1.2⟩))
set_option maxRecDepth 20000 in
theorem q_s_lcmp  {ph : Bool} {y n0 kc ks pc : Nat} {M : qM} {ad : Nat → Nat} {H : Heap} {locs : List Loc} {ls : Array Slot} {Lc st : List qV} {x : List Nat} {cl0 : Nat → List qV → Nat → List qV → Prop} {rt0 : qV → qM → Prop} {nx : List qV → List qV → qM → Prop} {jp : Nat → List qV → Prop} {len : Nat}
    (hF : q_Fx p R s m args meth c D cA ad0 adV L xs A y) (had : ∀ n, n ≤ n0 ∨ 999 ≤ n → ad n = ad0 n) (hL : q_LL ad M.1 (q_mxl y) ls Lc) (hst : ∀ v ∈ st, q_vok M.1 v) (hWd : q_Wd D cA ad L xs A ph M s H) (hS : va_S A s.heap H locs) (hn0 : n0 ≤ M.1)
    (hN : q_NX1 p l e R s m args below meth c Q D cA ad0 L xs A ph y n0 kc ks (pc + len) M nx) (hJ : q_JP1 p l e R s m args below meth c Q ad n0 kc ks M H locs ls jp) (hd : decode (q_by y) pc = .ok (.lcmp, len)) (hln : len = 1) (h : q_ex (α := Prop) ph cl0 nx jp rt0 False Lc st M x (.lcmp)) : W p l e R s m args below meth c H locs (kc + (M.1 - n0)) (ks + (q_cum M.1 - q_cum n0)) Q (F0 m pc ls (st.map (q_cv ad))) := by
  subst hln
  obtain ⟨hx, hb, hml, hown, hts, hrf, hrl, hnm, hSt, hA⟩ := hF
  have n1 : ∀ (L' st' : List qV) (ls' : Array Slot), nx L' st' M → q_LL ad M.1 (q_mxl y) ls' L' → (∀ v ∈ st', q_vok M.1 v) → W p l e R s m args below meth c H locs (kc + (M.1 - n0)) (ks + (q_cum M.1 - q_cum n0)) Q (F0 m (pc + 1) ls' (st'.map (q_cv ad))) := fun L' st' ls' g h1 h2 => hN L' st' M ad H locs ls' g had h1 h2 hWd hS (Nat.le_refl _)
  obtain ⟨a, b, r, e1, g⟩ := q_l2_of (show ql2 st False (fun a b r => if a < b then nx Lc (vi (-1) :: r) M else if a = b then nx Lc (vi 0 :: r) M else nx Lc (vi 1 :: r) M) from h)
  subst e1
  have h1 := List.forall_mem_cons.mp hst
  have h2 := List.forall_mem_cons.mp h1.2
  refine W.lcmp hx hb hd ?_
  unfold lg_cmp
  have hgt : (Int64.ofInt a > Int64.ofInt b) ↔ b < a := q_llt h1.1 h2.1
  have heq : (Int64.ofInt a = Int64.ofInt b) ↔ a = b := q_leq h2.1 h1.1
  rcases q_if_of g with ⟨hz, g⟩ | ⟨hz, g⟩
  · rw [if_neg (by rw [hgt]; omega), if_neg (by rw [heq]; omega)]
    exact n1 _ _ _ g hL (List.forall_mem_cons.mpr ⟨⟨by decide, by decide⟩, h2.2⟩)
  · rcases q_if_of g with ⟨hy, g⟩ | ⟨hy, g⟩
    · rw [if_neg (by rw [hgt]; omega), if_pos (by rw [heq]; exact hy)]
      exact n1 _ _ _ g hL (List.forall_mem_cons.mpr ⟨⟨by decide, by decide⟩, h2.2⟩)
    · rw [if_pos (by rw [hgt]; omega)]
      exact n1 _ _ _ g hL (List.forall_mem_cons.mpr ⟨⟨by decide, by decide⟩, h2.2⟩)
set_option maxRecDepth 20000 in
theorem q_s_iinc {i : Nat} {k : Int} {ph : Bool} {y n0 kc ks pc : Nat} {M : qM} {ad : Nat → Nat} {H : Heap} {locs : List Loc} {ls : Array Slot} {Lc st : List qV} {x : List Nat} {cl0 : Nat → List qV → Nat → List qV → Prop} {rt0 : qV → qM → Prop} {nx : List qV → List qV → qM → Prop} {jp : Nat → List qV → Prop} {len : Nat}
    (hF : q_Fx p R s m args meth c D cA ad0 adV L xs A y) (had : ∀ n, n ≤ n0 ∨ 999 ≤ n → ad n = ad0 n) (hL : q_LL ad M.1 (q_mxl y) ls Lc) (hst : ∀ v ∈ st, q_vok M.1 v) (hWd : q_Wd D cA ad L xs A ph M s H) (hS : va_S A s.heap H locs) (hn0 : n0 ≤ M.1)
    (hN : q_NX1 p l e R s m args below meth c Q D cA ad0 L xs A ph y n0 kc ks (pc + len) M nx) (hJ : q_JP1 p l e R s m args below meth c Q ad n0 kc ks M H locs ls jp) (hd : decode (q_by y) pc = .ok (.iinc i k, len)) (hln : len = 3) (h : q_ex (α := Prop) ph cl0 nx jp rt0 False Lc st M x (.iinc i k)) : W p l e R s m args below meth c H locs (kc + (M.1 - n0)) (ks + (q_cum M.1 - q_cum n0)) Q (F0 m pc ls (st.map (q_cv ad))) := by
  subst hln
  obtain ⟨hx, hb, hml, hown, hts, hrf, hrl, hnm, hSt, hA⟩ := hF
  have n1 : ∀ (L' st' : List qV) (ls' : Array Slot), nx L' st' M → q_LL ad M.1 (q_mxl y) ls' L' → (∀ v ∈ st', q_vok M.1 v) → W p l e R s m args below meth c H locs (kc + (M.1 - n0)) (ks + (q_cum M.1 - q_cum n0)) Q (F0 m (pc + 3) ls' (st'.map (q_cv ad))) := fun L' st' ls' g h1 h2 => hN L' st' M ad H locs ls' g had h1 h2 hWd hS (Nat.le_refl _)
  obtain ⟨z, e1, g⟩ := q_vi_of (show qvi (Lc.getD i vu) False (fun z => nx (Lc.set i (vi (wr (z + k)))) st M) from h)
  have ho : i < q_mxl y := by
    rw [← hL.1]
    rcases Nat.lt_or_ge i Lc.length with q | q
    · exact q
    · rw [List.getD_eq_getElem?_getD, List.getElem?_eq_none q] at e1; cases e1
  have hmem : (i, q_cv ad (vi z)) ∈ q_lvl ad 0 Lc := (q_lvl_mem Lc 0 _).mpr ⟨i, vi z, by
    rw [List.getD_eq_getElem?_getD] at e1
    cases hl : Lc[i]? with
    | none => rw [hl] at e1; cases e1
    | some t => rw [hl] at e1; simp at e1; rw [e1], (by intro q; cases q), (by rw [Nat.zero_add])⟩
  obtain ⟨k9, hk9⟩ := List.getElem?_of_mem hmem
  exact lv_iinc (v := Int32.ofInt (wr (z + k))) hx hb hd (q_LL_lv hL) hk9 (by rw [← q_add]) ho rfl (fun ls' h' => n1 _ _ _ g (q_LL_inc hL e1 (q_wr_ok _) h') hst)
set_option maxRecDepth 20000 in
theorem q_s_goto {o : Int} {ph : Bool} {y n0 kc ks pc : Nat} {M : qM} {ad : Nat → Nat} {H : Heap} {locs : List Loc} {ls : Array Slot} {Lc st : List qV} {x : List Nat} {cl0 : Nat → List qV → Nat → List qV → Prop} {rt0 : qV → qM → Prop} {nx : List qV → List qV → qM → Prop} {jp : Nat → List qV → Prop} {len : Nat}
    (hF : q_Fx p R s m args meth c D cA ad0 adV L xs A y) (had : ∀ n, n ≤ n0 ∨ 999 ≤ n → ad n = ad0 n) (hL : q_LL ad M.1 (q_mxl y) ls Lc) (hst : ∀ v ∈ st, q_vok M.1 v) (hWd : q_Wd D cA ad L xs A ph M s H) (hS : va_S A s.heap H locs) (hn0 : n0 ≤ M.1)
    (hN : q_NX1 p l e R s m args below meth c Q D cA ad0 L xs A ph y n0 kc ks (pc + len) M nx) (hJ : q_JP1 p l e R s m args below meth c Q ad n0 kc ks M H locs ls jp) (hd : decode (q_by y) pc = .ok (.goto o, len)) (hln : len = 3) (ht : (pc : Int) + o = (qx x 0 : Int)) (h : q_ex (α := Prop) ph cl0 nx jp rt0 False Lc st M x (.goto o)) : W p l e R s m args below meth c H locs (kc + (M.1 - n0)) (ks + (q_cum M.1 - q_cum n0)) Q (F0 m pc ls (st.map (q_cv ad))) := by
  subst hln
  obtain ⟨hx, hb, hml, hown, hts, hrf, hrl, hnm, hSt, hA⟩ := hF
  have n1 : ∀ (L' st' : List qV) (ls' : Array Slot), nx L' st' M → q_LL ad M.1 (q_mxl y) ls' L' → (∀ v ∈ st', q_vok M.1 v) → W p l e R s m args below meth c H locs (kc + (M.1 - n0)) (ks + (q_cum M.1 - q_cum n0)) Q (F0 m (pc + 3) ls' (st'.map (q_cv ad))) := fun L' st' ls' g h1 h2 => hN L' st' M ad H locs ls' g had h1 h2 hWd hS (Nat.le_refl _)
  exact lv_goto hx hb hd ht (hJ _ _ h hst)
set_option maxRecDepth 20000 in
theorem q_s_if_eq {o : Int} {ph : Bool} {y n0 kc ks pc : Nat} {M : qM} {ad : Nat → Nat} {H : Heap} {locs : List Loc} {ls : Array Slot} {Lc st : List qV} {x : List Nat} {cl0 : Nat → List qV → Nat → List qV → Prop} {rt0 : qV → qM → Prop} {nx : List qV → List qV → qM → Prop} {jp : Nat → List qV → Prop} {len : Nat}
    (hF : q_Fx p R s m args meth c D cA ad0 adV L xs A y) (had : ∀ n, n ≤ n0 ∨ 999 ≤ n → ad n = ad0 n) (hL : q_LL ad M.1 (q_mxl y) ls Lc) (hst : ∀ v ∈ st, q_vok M.1 v) (hWd : q_Wd D cA ad L xs A ph M s H) (hS : va_S A s.heap H locs) (hn0 : n0 ≤ M.1)
    (hN : q_NX1 p l e R s m args below meth c Q D cA ad0 L xs A ph y n0 kc ks (pc + len) M nx) (hJ : q_JP1 p l e R s m args below meth c Q ad n0 kc ks M H locs ls jp) (hd : decode (q_by y) pc = .ok (.ifCond .eq o, len)) (hln : len = 3) (ht : (pc : Int) + o = (qx x 0 : Int)) (h : q_ex (α := Prop) ph cl0 nx jp rt0 False Lc st M x (.ifCond .eq o)) : W p l e R s m args below meth c H locs (kc + (M.1 - n0)) (ks + (q_cum M.1 - q_cum n0)) Q (F0 m pc ls (st.map (q_cv ad))) := by
  subst hln
  obtain ⟨hx, hb, hml, hown, hts, hrf, hrl, hnm, hSt, hA⟩ := hF
  have n1 : ∀ (L' st' : List qV) (ls' : Array Slot), nx L' st' M → q_LL ad M.1 (q_mxl y) ls' L' → (∀ v ∈ st', q_vok M.1 v) → W p l e R s m args below meth c H locs (kc + (M.1 - n0)) (ks + (q_cum M.1 - q_cum n0)) Q (F0 m (pc + 3) ls' (st'.map (q_cv ad))) := fun L' st' ls' g h1 h2 => hN L' st' M ad H locs ls' g had h1 h2 hWd hS (Nat.le_refl _)
  obtain ⟨a, r, e1, g⟩ := q_i1_of (show qi1 st False (fun a r => if a = 0 then jp (qx x 0) r else nx Lc r M) from h)
  subst e1
  have h1 := List.forall_mem_cons.mp hst
  refine lv_if_eq hx hb hd ht (fun q => ?_) (fun q => ?_)
  · rw [if_pos ((q_eq h1.1 q_i0).mp q)] at g; exact hJ _ _ g h1.2
  · rw [if_neg (fun q2 => q ((q_eq h1.1 q_i0).mpr q2))] at g; exact n1 _ _ _ g hL h1.2
set_option maxRecDepth 20000 in
theorem q_s_if_ne {o : Int} {ph : Bool} {y n0 kc ks pc : Nat} {M : qM} {ad : Nat → Nat} {H : Heap} {locs : List Loc} {ls : Array Slot} {Lc st : List qV} {x : List Nat} {cl0 : Nat → List qV → Nat → List qV → Prop} {rt0 : qV → qM → Prop} {nx : List qV → List qV → qM → Prop} {jp : Nat → List qV → Prop} {len : Nat}
    (hF : q_Fx p R s m args meth c D cA ad0 adV L xs A y) (had : ∀ n, n ≤ n0 ∨ 999 ≤ n → ad n = ad0 n) (hL : q_LL ad M.1 (q_mxl y) ls Lc) (hst : ∀ v ∈ st, q_vok M.1 v) (hWd : q_Wd D cA ad L xs A ph M s H) (hS : va_S A s.heap H locs) (hn0 : n0 ≤ M.1)
    (hN : q_NX1 p l e R s m args below meth c Q D cA ad0 L xs A ph y n0 kc ks (pc + len) M nx) (hJ : q_JP1 p l e R s m args below meth c Q ad n0 kc ks M H locs ls jp) (hd : decode (q_by y) pc = .ok (.ifCond .ne o, len)) (hln : len = 3) (ht : (pc : Int) + o = (qx x 0 : Int)) (h : q_ex (α := Prop) ph cl0 nx jp rt0 False Lc st M x (.ifCond .ne o)) : W p l e R s m args below meth c H locs (kc + (M.1 - n0)) (ks + (q_cum M.1 - q_cum n0)) Q (F0 m pc ls (st.map (q_cv ad))) := by
  subst hln
  obtain ⟨hx, hb, hml, hown, hts, hrf, hrl, hnm, hSt, hA⟩ := hF
  have n1 : ∀ (L' st' : List qV) (ls' : Array Slot), nx L' st' M → q_LL ad M.1 (q_mxl y) ls' L' → (∀ v ∈ st', q_vok M.1 v) → W p l e R s m args below meth c H locs (kc + (M.1 - n0)) (ks + (q_cum M.1 - q_cum n0)) Q (F0 m (pc + 3) ls' (st'.map (q_cv ad))) := fun L' st' ls' g h1 h2 => hN L' st' M ad H locs ls' g had h1 h2 hWd hS (Nat.le_refl _)
  obtain ⟨a, r, e1, g⟩ := q_i1_of (show qi1 st False (fun a r => if a = 0 then nx Lc r M else jp (qx x 0) r) from h)
  subst e1
  have h1 := List.forall_mem_cons.mp hst
  refine lv_if_ne hx hb hd ht (fun q => ?_) (fun q => ?_)
  · rw [if_neg (fun q2 => q ((q_eq h1.1 q_i0).mpr q2))] at g; exact hJ _ _ g h1.2
  · rw [if_pos ((q_eq h1.1 q_i0).mp q)] at g; exact n1 _ _ _ g hL h1.2
set_option maxRecDepth 20000 in
theorem q_s_if_lt {o : Int} {ph : Bool} {y n0 kc ks pc : Nat} {M : qM} {ad : Nat → Nat} {H : Heap} {locs : List Loc} {ls : Array Slot} {Lc st : List qV} {x : List Nat} {cl0 : Nat → List qV → Nat → List qV → Prop} {rt0 : qV → qM → Prop} {nx : List qV → List qV → qM → Prop} {jp : Nat → List qV → Prop} {len : Nat}
    (hF : q_Fx p R s m args meth c D cA ad0 adV L xs A y) (had : ∀ n, n ≤ n0 ∨ 999 ≤ n → ad n = ad0 n) (hL : q_LL ad M.1 (q_mxl y) ls Lc) (hst : ∀ v ∈ st, q_vok M.1 v) (hWd : q_Wd D cA ad L xs A ph M s H) (hS : va_S A s.heap H locs) (hn0 : n0 ≤ M.1)
    (hN : q_NX1 p l e R s m args below meth c Q D cA ad0 L xs A ph y n0 kc ks (pc + len) M nx) (hJ : q_JP1 p l e R s m args below meth c Q ad n0 kc ks M H locs ls jp) (hd : decode (q_by y) pc = .ok (.ifCond .lt o, len)) (hln : len = 3) (ht : (pc : Int) + o = (qx x 0 : Int)) (h : q_ex (α := Prop) ph cl0 nx jp rt0 False Lc st M x (.ifCond .lt o)) : W p l e R s m args below meth c H locs (kc + (M.1 - n0)) (ks + (q_cum M.1 - q_cum n0)) Q (F0 m pc ls (st.map (q_cv ad))) := by
  subst hln
  obtain ⟨hx, hb, hml, hown, hts, hrf, hrl, hnm, hSt, hA⟩ := hF
  have n1 : ∀ (L' st' : List qV) (ls' : Array Slot), nx L' st' M → q_LL ad M.1 (q_mxl y) ls' L' → (∀ v ∈ st', q_vok M.1 v) → W p l e R s m args below meth c H locs (kc + (M.1 - n0)) (ks + (q_cum M.1 - q_cum n0)) Q (F0 m (pc + 3) ls' (st'.map (q_cv ad))) := fun L' st' ls' g h1 h2 => hN L' st' M ad H locs ls' g had h1 h2 hWd hS (Nat.le_refl _)
  obtain ⟨a, r, e1, g⟩ := q_i1_of (show qi1 st False (fun a r => if a < 0 then jp (qx x 0) r else nx Lc r M) from h)
  subst e1
  have h1 := List.forall_mem_cons.mp hst
  refine lv_if_lt hx hb hd ht (fun q => ?_) (fun q => ?_)
  · rw [if_pos ((q_lt h1.1 q_i0).mp q)] at g; exact hJ _ _ g h1.2
  · rw [if_neg (fun q2 => q ((q_lt h1.1 q_i0).mpr q2))] at g; exact n1 _ _ _ g hL h1.2
set_option maxRecDepth 20000 in
theorem q_s_if_ge {o : Int} {ph : Bool} {y n0 kc ks pc : Nat} {M : qM} {ad : Nat → Nat} {H : Heap} {locs : List Loc} {ls : Array Slot} {Lc st : List qV} {x : List Nat} {cl0 : Nat → List qV → Nat → List qV → Prop} {rt0 : qV → qM → Prop} {nx : List qV → List qV → qM → Prop} {jp : Nat → List qV → Prop} {len : Nat}
    (hF : q_Fx p R s m args meth c D cA ad0 adV L xs A y) (had : ∀ n, n ≤ n0 ∨ 999 ≤ n → ad n = ad0 n) (hL : q_LL ad M.1 (q_mxl y) ls Lc) (hst : ∀ v ∈ st, q_vok M.1 v) (hWd : q_Wd D cA ad L xs A ph M s H) (hS : va_S A s.heap H locs) (hn0 : n0 ≤ M.1)
    (hN : q_NX1 p l e R s m args below meth c Q D cA ad0 L xs A ph y n0 kc ks (pc + len) M nx) (hJ : q_JP1 p l e R s m args below meth c Q ad n0 kc ks M H locs ls jp) (hd : decode (q_by y) pc = .ok (.ifCond .ge o, len)) (hln : len = 3) (ht : (pc : Int) + o = (qx x 0 : Int)) (h : q_ex (α := Prop) ph cl0 nx jp rt0 False Lc st M x (.ifCond .ge o)) : W p l e R s m args below meth c H locs (kc + (M.1 - n0)) (ks + (q_cum M.1 - q_cum n0)) Q (F0 m pc ls (st.map (q_cv ad))) := by
  subst hln
  obtain ⟨hx, hb, hml, hown, hts, hrf, hrl, hnm, hSt, hA⟩ := hF
  have n1 : ∀ (L' st' : List qV) (ls' : Array Slot), nx L' st' M → q_LL ad M.1 (q_mxl y) ls' L' → (∀ v ∈ st', q_vok M.1 v) → W p l e R s m args below meth c H locs (kc + (M.1 - n0)) (ks + (q_cum M.1 - q_cum n0)) Q (F0 m (pc + 3) ls' (st'.map (q_cv ad))) := fun L' st' ls' g h1 h2 => hN L' st' M ad H locs ls' g had h1 h2 hWd hS (Nat.le_refl _)
  obtain ⟨a, r, e1, g⟩ := q_i1_of (show qi1 st False (fun a r => if a < 0 then nx Lc r M else jp (qx x 0) r) from h)
  subst e1
  have h1 := List.forall_mem_cons.mp hst
  refine lv_if_ge hx hb hd ht (fun q => ?_) (fun q => ?_)
  · have q3 := (q_le q_i0 h1.1).mp q
    rw [if_neg (by omega)] at g; exact hJ _ _ g h1.2
  · have q3 : ¬ (0 ≤ a) := fun q2 => q ((q_le q_i0 h1.1).mpr q2)
    rw [if_pos (by omega)] at g; exact n1 _ _ _ g hL h1.2
set_option maxRecDepth 20000 in
theorem q_s_if_gt {o : Int} {ph : Bool} {y n0 kc ks pc : Nat} {M : qM} {ad : Nat → Nat} {H : Heap} {locs : List Loc} {ls : Array Slot} {Lc st : List qV} {x : List Nat} {cl0 : Nat → List qV → Nat → List qV → Prop} {rt0 : qV → qM → Prop} {nx : List qV → List qV → qM → Prop} {jp : Nat → List qV → Prop} {len : Nat}
    (hF : q_Fx p R s m args meth c D cA ad0 adV L xs A y) (had : ∀ n, n ≤ n0 ∨ 999 ≤ n → ad n = ad0 n) (hL : q_LL ad M.1 (q_mxl y) ls Lc) (hst : ∀ v ∈ st, q_vok M.1 v) (hWd : q_Wd D cA ad L xs A ph M s H) (hS : va_S A s.heap H locs) (hn0 : n0 ≤ M.1)
    (hN : q_NX1 p l e R s m args below meth c Q D cA ad0 L xs A ph y n0 kc ks (pc + len) M nx) (hJ : q_JP1 p l e R s m args below meth c Q ad n0 kc ks M H locs ls jp) (hd : decode (q_by y) pc = .ok (.ifCond .gt o, len)) (hln : len = 3) (ht : (pc : Int) + o = (qx x 0 : Int)) (h : q_ex (α := Prop) ph cl0 nx jp rt0 False Lc st M x (.ifCond .gt o)) : W p l e R s m args below meth c H locs (kc + (M.1 - n0)) (ks + (q_cum M.1 - q_cum n0)) Q (F0 m pc ls (st.map (q_cv ad))) := by
  subst hln
  obtain ⟨hx, hb, hml, hown, hts, hrf, hrl, hnm, hSt, hA⟩ := hF
  have n1 : ∀ (L' st' : List qV) (ls' : Array Slot), nx L' st' M → q_LL ad M.1 (q_mxl y) ls' L' → (∀ v ∈ st', q_vok M.1 v) → W p l e R s m args below meth c H locs (kc + (M.1 - n0)) (ks + (q_cum M.1 - q_cum n0)) Q (F0 m (pc + 3) ls' (st'.map (q_cv ad))) := fun L' st' ls' g h1 h2 => hN L' st' M ad H locs ls' g had h1 h2 hWd hS (Nat.le_refl _)
  obtain ⟨a, r, e1, g⟩ := q_i1_of (show qi1 st False (fun a r => if 0 < a then jp (qx x 0) r else nx Lc r M) from h)
  subst e1
  have h1 := List.forall_mem_cons.mp hst
  refine lv_if_gt hx hb hd ht (fun q => ?_) (fun q => ?_)
  · rw [if_pos ((q_lt q_i0 h1.1).mp q)] at g; exact hJ _ _ g h1.2
  · rw [if_neg (fun q2 => q ((q_lt q_i0 h1.1).mpr q2))] at g; exact n1 _ _ _ g hL h1.2
set_option maxRecDepth 20000 in
theorem q_s_if_le {o : Int} {ph : Bool} {y n0 kc ks pc : Nat} {M : qM} {ad : Nat → Nat} {H : Heap} {locs : List Loc} {ls : Array Slot} {Lc st : List qV} {x : List Nat} {cl0 : Nat → List qV → Nat → List qV → Prop} {rt0 : qV → qM → Prop} {nx : List qV → List qV → qM → Prop} {jp : Nat → List qV → Prop} {len : Nat}
    (hF : q_Fx p R s m args meth c D cA ad0 adV L xs A y) (had : ∀ n, n ≤ n0 ∨ 999 ≤ n → ad n = ad0 n) (hL : q_LL ad M.1 (q_mxl y) ls Lc) (hst : ∀ v ∈ st, q_vok M.1 v) (hWd : q_Wd D cA ad L xs A ph M s H) (hS : va_S A s.heap H locs) (hn0 : n0 ≤ M.1)
    (hN : q_NX1 p l e R s m args below meth c Q D cA ad0 L xs A ph y n0 kc ks (pc + len) M nx) (hJ : q_JP1 p l e R s m args below meth c Q ad n0 kc ks M H locs ls jp) (hd : decode (q_by y) pc = .ok (.ifCond .le o, len)) (hln : len = 3) (ht : (pc : Int) + o = (qx x 0 : Int)) (h : q_ex (α := Prop) ph cl0 nx jp rt0 False Lc st M x (.ifCond .le o)) : W p l e R s m args below meth c H locs (kc + (M.1 - n0)) (ks + (q_cum M.1 - q_cum n0)) Q (F0 m pc ls (st.map (q_cv ad))) := by
  subst hln
  obtain ⟨hx, hb, hml, hown, hts, hrf, hrl, hnm, hSt, hA⟩ := hF
  have n1 : ∀ (L' st' : List qV) (ls' : Array Slot), nx L' st' M → q_LL ad M.1 (q_mxl y) ls' L' → (∀ v ∈ st', q_vok M.1 v) → W p l e R s m args below meth c H locs (kc + (M.1 - n0)) (ks + (q_cum M.1 - q_cum n0)) Q (F0 m (pc + 3) ls' (st'.map (q_cv ad))) := fun L' st' ls' g h1 h2 => hN L' st' M ad H locs ls' g had h1 h2 hWd hS (Nat.le_refl _)
  obtain ⟨a, r, e1, g⟩ := q_i1_of (show qi1 st False (fun a r => if 0 < a then nx Lc r M else jp (qx x 0) r) from h)
  subst e1
  have h1 := List.forall_mem_cons.mp hst
  refine lv_if_le hx hb hd ht (fun q => ?_) (fun q => ?_)
  · have q3 := (q_le h1.1 q_i0).mp q
    rw [if_neg (by omega)] at g; exact hJ _ _ g h1.2
  · have q3 : ¬ (a ≤ 0) := fun q2 => q ((q_le h1.1 q_i0).mpr q2)
    rw [if_pos (by omega)] at g; exact n1 _ _ _ g hL h1.2
set_option maxRecDepth 20000 in
theorem q_s_icmp_eq {o : Int} {ph : Bool} {y n0 kc ks pc : Nat} {M : qM} {ad : Nat → Nat} {H : Heap} {locs : List Loc} {ls : Array Slot} {Lc st : List qV} {x : List Nat} {cl0 : Nat → List qV → Nat → List qV → Prop} {rt0 : qV → qM → Prop} {nx : List qV → List qV → qM → Prop} {jp : Nat → List qV → Prop} {len : Nat}
    (hF : q_Fx p R s m args meth c D cA ad0 adV L xs A y) (had : ∀ n, n ≤ n0 ∨ 999 ≤ n → ad n = ad0 n) (hL : q_LL ad M.1 (q_mxl y) ls Lc) (hst : ∀ v ∈ st, q_vok M.1 v) (hWd : q_Wd D cA ad L xs A ph M s H) (hS : va_S A s.heap H locs) (hn0 : n0 ≤ M.1)
    (hN : q_NX1 p l e R s m args below meth c Q D cA ad0 L xs A ph y n0 kc ks (pc + len) M nx) (hJ : q_JP1 p l e R s m args below meth c Q ad n0 kc ks M H locs ls jp) (hd : decode (q_by y) pc = .ok (.if_icmp .eq o, len)) (hln : len = 3) (ht : (pc : Int) + o = (qx x 0 : Int)) (h : q_ex (α := Prop) ph cl0 nx jp rt0 False Lc st M x (.if_icmp .eq o)) : W p l e R s m args below meth c H locs (kc + (M.1 - n0)) (ks + (q_cum M.1 - q_cum n0)) Q (F0 m pc ls (st.map (q_cv ad))) := by
  subst hln
  obtain ⟨hx, hb, hml, hown, hts, hrf, hrl, hnm, hSt, hA⟩ := hF
  have n1 : ∀ (L' st' : List qV) (ls' : Array Slot), nx L' st' M → q_LL ad M.1 (q_mxl y) ls' L' → (∀ v ∈ st', q_vok M.1 v) → W p l e R s m args below meth c H locs (kc + (M.1 - n0)) (ks + (q_cum M.1 - q_cum n0)) Q (F0 m (pc + 3) ls' (st'.map (q_cv ad))) := fun L' st' ls' g h1 h2 => hN L' st' M ad H locs ls' g had h1 h2 hWd hS (Nat.le_refl _)
  obtain ⟨a, b, r, e1, g⟩ := q_i2_of (show qi2 st False (fun a b r => if a = b then jp (qx x 0) r else nx Lc r M) from h)
  subst e1
  have h1 := List.forall_mem_cons.mp hst
  have h2 := List.forall_mem_cons.mp h1.2
  refine lv_icmp_eq hx hb hd ht (fun q => ?_) (fun q => ?_)
  · rw [if_pos ((q_eq h2.1 h1.1).mp q)] at g; exact hJ _ _ g h2.2
  · rw [if_neg (fun q2 => q ((q_eq h2.1 h1.1).mpr q2))] at g; exact n1 _ _ _ g hL h2.2
set_option maxRecDepth 20000 in
theorem q_s_icmp_ne {o : Int} {ph : Bool} {y n0 kc ks pc : Nat} {M : qM} {ad : Nat → Nat} {H : Heap} {locs : List Loc} {ls : Array Slot} {Lc st : List qV} {x : List Nat} {cl0 : Nat → List qV → Nat → List qV → Prop} {rt0 : qV → qM → Prop} {nx : List qV → List qV → qM → Prop} {jp : Nat → List qV → Prop} {len : Nat}
    (hF : q_Fx p R s m args meth c D cA ad0 adV L xs A y) (had : ∀ n, n ≤ n0 ∨ 999 ≤ n → ad n = ad0 n) (hL : q_LL ad M.1 (q_mxl y) ls Lc) (hst : ∀ v ∈ st, q_vok M.1 v) (hWd : q_Wd D cA ad L xs A ph M s H) (hS : va_S A s.heap H locs) (hn0 : n0 ≤ M.1)
    (hN : q_NX1 p l e R s m args below meth c Q D cA ad0 L xs A ph y n0 kc ks (pc + len) M nx) (hJ : q_JP1 p l e R s m args below meth c Q ad n0 kc ks M H locs ls jp) (hd : decode (q_by y) pc = .ok (.if_icmp .ne o, len)) (hln : len = 3) (ht : (pc : Int) + o = (qx x 0 : Int)) (h : q_ex (α := Prop) ph cl0 nx jp rt0 False Lc st M x (.if_icmp .ne o)) : W p l e R s m args below meth c H locs (kc + (M.1 - n0)) (ks + (q_cum M.1 - q_cum n0)) Q (F0 m pc ls (st.map (q_cv ad))) := by
  subst hln
  obtain ⟨hx, hb, hml, hown, hts, hrf, hrl, hnm, hSt, hA⟩ := hF
  have n1 : ∀ (L' st' : List qV) (ls' : Array Slot), nx L' st' M → q_LL ad M.1 (q_mxl y) ls' L' → (∀ v ∈ st', q_vok M.1 v) → W p l e R s m args below meth c H locs (kc + (M.1 - n0)) (ks + (q_cum M.1 - q_cum n0)) Q (F0 m (pc + 3) ls' (st'.map (q_cv ad))) := fun L' st' ls' g h1 h2 => hN L' st' M ad H locs ls' g had h1 h2 hWd hS (Nat.le_refl _)
  obtain ⟨a, b, r, e1, g⟩ := q_i2_of (show qi2 st False (fun a b r => if a = b then nx Lc r M else jp (qx x 0) r) from h)
  subst e1
  have h1 := List.forall_mem_cons.mp hst
  have h2 := List.forall_mem_cons.mp h1.2
  refine lv_icmp_ne hx hb hd ht (fun q => ?_) (fun q => ?_)
  · rw [if_neg (fun q2 => q ((q_eq h2.1 h1.1).mpr q2))] at g; exact hJ _ _ g h2.2
  · rw [if_pos ((q_eq h2.1 h1.1).mp q)] at g; exact n1 _ _ _ g hL h2.2
set_option maxRecDepth 20000 in
theorem q_s_icmp_lt {o : Int} {ph : Bool} {y n0 kc ks pc : Nat} {M : qM} {ad : Nat → Nat} {H : Heap} {locs : List Loc} {ls : Array Slot} {Lc st : List qV} {x : List Nat} {cl0 : Nat → List qV → Nat → List qV → Prop} {rt0 : qV → qM → Prop} {nx : List qV → List qV → qM → Prop} {jp : Nat → List qV → Prop} {len : Nat}
    (hF : q_Fx p R s m args meth c D cA ad0 adV L xs A y) (had : ∀ n, n ≤ n0 ∨ 999 ≤ n → ad n = ad0 n) (hL : q_LL ad M.1 (q_mxl y) ls Lc) (hst : ∀ v ∈ st, q_vok M.1 v) (hWd : q_Wd D cA ad L xs A ph M s H) (hS : va_S A s.heap H locs) (hn0 : n0 ≤ M.1)
    (hN : q_NX1 p l e R s m args below meth c Q D cA ad0 L xs A ph y n0 kc ks (pc + len) M nx) (hJ : q_JP1 p l e R s m args below meth c Q ad n0 kc ks M H locs ls jp) (hd : decode (q_by y) pc = .ok (.if_icmp .lt o, len)) (hln : len = 3) (ht : (pc : Int) + o = (qx x 0 : Int)) (h : q_ex (α := Prop) ph cl0 nx jp rt0 False Lc st M x (.if_icmp .lt o)) : W p l e R s m args below meth c H locs (kc + (M.1 - n0)) (ks + (q_cum M.1 - q_cum n0)) Q (F0 m pc ls (st.map (q_cv ad))) := by
  subst hln
  obtain ⟨hx, hb, hml, hown, hts, hrf, hrl, hnm, hSt, hA⟩ := hF
  have n1 : ∀ (L' st' : List qV) (ls' : Array Slot), nx L' st' M → q_LL ad M.1 (q_mxl y) ls' L' → (∀ v ∈ st', q_vok M.1 v) → W p l e R s m args below meth c H locs (kc + (M.1 - n0)) (ks + (q_cum M.1 - q_cum n0)) Q (F0 m (pc + 3) ls' (st'.map (q_cv ad))) := fun L' st' ls' g h1 h2 => hN L' st' M ad H locs ls' g had h1 h2 hWd hS (Nat.le_refl _)
  obtain ⟨a, b, r, e1, g⟩ := q_i2_of (show qi2 st False (fun a b r => if a < b then jp (qx x 0) r else nx Lc r M) from h)
  subst e1
  have h1 := List.forall_mem_cons.mp hst
  have h2 := List.forall_mem_cons.mp h1.2
  refine lv_icmp_lt hx hb hd ht (fun q => ?_) (fun q => ?_)
  · rw [if_pos ((q_lt h2.1 h1.1).mp q)] at g; exact hJ _ _ g h2.2
  · rw [if_neg (fun q2 => q ((q_lt h2.1 h1.1).mpr q2))] at g; exact n1 _ _ _ g hL h2.2
set_option maxRecDepth 20000 in
theorem q_s_icmp_ge {o : Int} {ph : Bool} {y n0 kc ks pc : Nat} {M : qM} {ad : Nat → Nat} {H : Heap} {locs : List Loc} {ls : Array Slot} {Lc st : List qV} {x : List Nat} {cl0 : Nat → List qV → Nat → List qV → Prop} {rt0 : qV → qM → Prop} {nx : List qV → List qV → qM → Prop} {jp : Nat → List qV → Prop} {len : Nat}
    (hF : q_Fx p R s m args meth c D cA ad0 adV L xs A y) (had : ∀ n, n ≤ n0 ∨ 999 ≤ n → ad n = ad0 n) (hL : q_LL ad M.1 (q_mxl y) ls Lc) (hst : ∀ v ∈ st, q_vok M.1 v) (hWd : q_Wd D cA ad L xs A ph M s H) (hS : va_S A s.heap H locs) (hn0 : n0 ≤ M.1)
    (hN : q_NX1 p l e R s m args below meth c Q D cA ad0 L xs A ph y n0 kc ks (pc + len) M nx) (hJ : q_JP1 p l e R s m args below meth c Q ad n0 kc ks M H locs ls jp) (hd : decode (q_by y) pc = .ok (.if_icmp .ge o, len)) (hln : len = 3) (ht : (pc : Int) + o = (qx x 0 : Int)) (h : q_ex (α := Prop) ph cl0 nx jp rt0 False Lc st M x (.if_icmp .ge o)) : W p l e R s m args below meth c H locs (kc + (M.1 - n0)) (ks + (q_cum M.1 - q_cum n0)) Q (F0 m pc ls (st.map (q_cv ad))) := by
  subst hln
  obtain ⟨hx, hb, hml, hown, hts, hrf, hrl, hnm, hSt, hA⟩ := hF
  have n1 : ∀ (L' st' : List qV) (ls' : Array Slot), nx L' st' M → q_LL ad M.1 (q_mxl y) ls' L' → (∀ v ∈ st', q_vok M.1 v) → W p l e R s m args below meth c H locs (kc + (M.1 - n0)) (ks + (q_cum M.1 - q_cum n0)) Q (F0 m (pc + 3) ls' (st'.map (q_cv ad))) := fun L' st' ls' g h1 h2 => hN L' st' M ad H locs ls' g had h1 h2 hWd hS (Nat.le_refl _)
  obtain ⟨a, b, r, e1, g⟩ := q_i2_of (show qi2 st False (fun a b r => if a < b then nx Lc r M else jp (qx x 0) r) from h)
  subst e1
  have h1 := List.forall_mem_cons.mp hst
  have h2 := List.forall_mem_cons.mp h1.2
  refine lv_icmp_ge hx hb hd ht (fun q => ?_) (fun q => ?_)
  · have q3 := (q_le h1.1 h2.1).mp q
    rw [if_neg (by omega)] at g; exact hJ _ _ g h2.2
  · have q3 : ¬ (b ≤ a) := fun q2 => q ((q_le h1.1 h2.1).mpr q2)
    rw [if_pos (by omega)] at g; exact n1 _ _ _ g hL h2.2
set_option maxRecDepth 20000 in
theorem q_s_icmp_gt {o : Int} {ph : Bool} {y n0 kc ks pc : Nat} {M : qM} {ad : Nat → Nat} {H : Heap} {locs : List Loc} {ls : Array Slot} {Lc st : List qV} {x : List Nat} {cl0 : Nat → List qV → Nat → List qV → Prop} {rt0 : qV → qM → Prop} {nx : List qV → List qV → qM → Prop} {jp : Nat → List qV → Prop} {len : Nat}
    (hF : q_Fx p R s m args meth c D cA ad0 adV L xs A y) (had : ∀ n, n ≤ n0 ∨ 999 ≤ n → ad n = ad0 n) (hL : q_LL ad M.1 (q_mxl y) ls Lc) (hst : ∀ v ∈ st, q_vok M.1 v) (hWd : q_Wd D cA ad L xs A ph M s H) (hS : va_S A s.heap H locs) (hn0 : n0 ≤ M.1)
    (hN : q_NX1 p l e R s m args below meth c Q D cA ad0 L xs A ph y n0 kc ks (pc + len) M nx) (hJ : q_JP1 p l e R s m args below meth c Q ad n0 kc ks M H locs ls jp) (hd : decode (q_by y) pc = .ok (.if_icmp .gt o, len)) (hln : len = 3) (ht : (pc : Int) + o = (qx x 0 : Int)) (h : q_ex (α := Prop) ph cl0 nx jp rt0 False Lc st M x (.if_icmp .gt o)) : W p l e R s m args below meth c H locs (kc + (M.1 - n0)) (ks + (q_cum M.1 - q_cum n0)) Q (F0 m pc ls (st.map (q_cv ad))) := by
  subst hln
  obtain ⟨hx, hb, hml, hown, hts, hrf, hrl, hnm, hSt, hA⟩ := hF
  have n1 : ∀ (L' st' : List qV) (ls' : Array Slot), nx L' st' M → q_LL ad M.1 (q_mxl y) ls' L' → (∀ v ∈ st', q_vok M.1 v) → W p l e R s m args below meth c H locs (kc + (M.1 - n0)) (ks + (q_cum M.1 - q_cum n0)) Q (F0 m (pc + 3) ls' (st'.map (q_cv ad))) := fun L' st' ls' g h1 h2 => hN L' st' M ad H locs ls' g had h1 h2 hWd hS (Nat.le_refl _)
  obtain ⟨a, b, r, e1, g⟩ := q_i2_of (show qi2 st False (fun a b r => if b < a then jp (qx x 0) r else nx Lc r M) from h)
  subst e1
  have h1 := List.forall_mem_cons.mp hst
  have h2 := List.forall_mem_cons.mp h1.2
  refine lv_icmp_gt hx hb hd ht (fun q => ?_) (fun q => ?_)
  · rw [if_pos ((q_lt h1.1 h2.1).mp q)] at g; exact hJ _ _ g h2.2
  · rw [if_neg (fun q2 => q ((q_lt h1.1 h2.1).mpr q2))] at g; exact n1 _ _ _ g hL h2.2
set_option maxRecDepth 20000 in
theorem q_s_icmp_le {o : Int} {ph : Bool} {y n0 kc ks pc : Nat} {M : qM} {ad : Nat → Nat} {H : Heap} {locs : List Loc} {ls : Array Slot} {Lc st : List qV} {x : List Nat} {cl0 : Nat → List qV → Nat → List qV → Prop} {rt0 : qV → qM → Prop} {nx : List qV → List qV → qM → Prop} {jp : Nat → List qV → Prop} {len : Nat}
    (hF : q_Fx p R s m args meth c D cA ad0 adV L xs A y) (had : ∀ n, n ≤ n0 ∨ 999 ≤ n → ad n = ad0 n) (hL : q_LL ad M.1 (q_mxl y) ls Lc) (hst : ∀ v ∈ st, q_vok M.1 v) (hWd : q_Wd D cA ad L xs A ph M s H) (hS : va_S A s.heap H locs) (hn0 : n0 ≤ M.1)
    (hN : q_NX1 p l e R s m args below meth c Q D cA ad0 L xs A ph y n0 kc ks (pc + len) M nx) (hJ : q_JP1 p l e R s m args below meth c Q ad n0 kc ks M H locs ls jp) (hd : decode (q_by y) pc = .ok (.if_icmp .le o, len)) (hln : len = 3) (ht : (pc : Int) + o = (qx x 0 : Int)) (h : q_ex (α := Prop) ph cl0 nx jp rt0 False Lc st M x (.if_icmp .le o)) : W p l e R s m args below meth c H locs (kc + (M.1 - n0)) (ks + (q_cum M.1 - q_cum n0)) Q (F0 m pc ls (st.map (q_cv ad))) := by
  subst hln
  obtain ⟨hx, hb, hml, hown, hts, hrf, hrl, hnm, hSt, hA⟩ := hF
  have n1 : ∀ (L' st' : List qV) (ls' : Array Slot), nx L' st' M → q_LL ad M.1 (q_mxl y) ls' L' → (∀ v ∈ st', q_vok M.1 v) → W p l e R s m args below meth c H locs (kc + (M.1 - n0)) (ks + (q_cum M.1 - q_cum n0)) Q (F0 m (pc + 3) ls' (st'.map (q_cv ad))) := fun L' st' ls' g h1 h2 => hN L' st' M ad H locs ls' g had h1 h2 hWd hS (Nat.le_refl _)
  obtain ⟨a, b, r, e1, g⟩ := q_i2_of (show qi2 st False (fun a b r => if b < a then nx Lc r M else jp (qx x 0) r) from h)
  subst e1
  have h1 := List.forall_mem_cons.mp hst
  have h2 := List.forall_mem_cons.mp h1.2
  refine lv_icmp_le hx hb hd ht (fun q => ?_) (fun q => ?_)
  · have q3 := (q_le h2.1 h1.1).mp q
    rw [if_neg (by omega)] at g; exact hJ _ _ g h2.2
  · have q3 : ¬ (a ≤ b) := fun q2 => q ((q_le h2.1 h1.1).mpr q2)
    rw [if_pos (by omega)] at g; exact n1 _ _ _ g hL h2.2
theorem q_sw_of {a : Int} {k : Nat → Prop} {d : Nat} : ∀ (os : List Nat) (lo : Int), q_sw a lo os k d → (∃ (j : Nat) (t : Nat), os[j]? = some t ∧ a = lo + (j : Int) ∧ k t) ∨ ((a < lo ∨ lo + (os.length : Int) ≤ a) ∧ k d)
  | [], lo, h => Or.inr ⟨by simp; omega, h⟩
  | o :: os, lo, h => by
    rcases q_if_of (show if a = lo then k o else q_sw a (lo + 1) os k d from h) with ⟨h1, g⟩ | ⟨h1, g⟩
    · exact Or.inl ⟨0, o, rfl, by simp [h1], g⟩
    · rcases q_sw_of os (lo + 1) g with ⟨j, t, e1, e2, g⟩ | ⟨e1, g⟩
      · exact Or.inl ⟨j + 1, t, e1, by push_cast; omega, g⟩
      · exact Or.inr ⟨by rw [List.length_cons]; push_cast; omega, g⟩
set_option maxRecDepth 20000 in
theorem q_s_tsw {d lo hi : Int} {os : Array Int} {ph : Bool} {y n0 kc ks pc : Nat} {M : qM} {ad : Nat → Nat} {H : Heap} {locs : List Loc} {ls : Array Slot} {Lc st : List qV} {x : List Nat} {cl0 : Nat → List qV → Nat → List qV → Prop} {rt0 : qV → qM → Prop} {nx : List qV → List qV → qM → Prop} {jp : Nat → List qV → Prop} {len : Nat}
    (hF : q_Fx p R s m args meth c D cA ad0 adV L xs A y) (had : ∀ n, n ≤ n0 ∨ 999 ≤ n → ad n = ad0 n) (hL : q_LL ad M.1 (q_mxl y) ls Lc) (hst : ∀ v ∈ st, q_vok M.1 v) (hWd : q_Wd D cA ad L xs A ph M s H) (hS : va_S A s.heap H locs) (hn0 : n0 ≤ M.1)
    (hN : q_NX1 p l e R s m args below meth c Q D cA ad0 L xs A ph y n0 kc ks (pc + len) M nx) (hJ : q_JP1 p l e R s m args below meth c Q ad n0 kc ks M H locs ls jp) (hd : decode (q_by y) pc = .ok (.tableswitch d lo hi os, len)) (ht : (pc : Int) + d = (qx x 0 : Int)) (hos : os.toList.map (fun o => (pc : Int) + o) = x.tail.map (fun (t : Nat) => Int.ofNat t)) (hhi : hi + 1 = lo + (x.tail.length : Int)) (h : q_ex (α := Prop) ph cl0 nx jp rt0 False Lc st M x (.tableswitch d lo hi os)) : W p l e R s m args below meth c H locs (kc + (M.1 - n0)) (ks + (q_cum M.1 - q_cum n0)) Q (F0 m pc ls (st.map (q_cv ad))) := by
  obtain ⟨hx, hb, hml, hown, hts, hrf, hrl, hnm, hSt, hA⟩ := hF
  obtain ⟨a, r, e1, g⟩ := q_i1_of (show qi1 st False (fun a r => q_sw a lo x.tail (fun t => jp t r) (qx x 0)) from h)
  subst e1
  have h1 := List.forall_mem_cons.mp hst
  have hta : (Int32.ofInt a).toInt = a := q_ti h1.1
  rcases q_sw_of _ _ g with ⟨j, t, e1, e2, g⟩ | ⟨e1, g⟩
  · have hj : j < x.tail.length := (List.getElem?_eq_some_iff.mp e1).1
    have hl : os.toList.length = x.tail.length := by
      have := congrArg List.length hos
      simpa using this
    have e3 : (os.toList.map (fun o => (pc : Int) + o))[j]? = some (t : Int) := by rw [hos, List.getElem?_map, e1]; rfl
    rw [List.getElem?_map] at e3
    cases ho : os.toList[j]? with
    | none => rw [ho] at e3; cases e3
    | some o =>
      rw [ho] at e3
      have e4 := Option.some.inj e3
      refine lv_tableIn hx hb hd (x := Int32.ofInt a) (off := o) (tgt := t) (by rw [hta]; omega) (by rw [hta]; omega) ?_ e4 (hJ _ _ g h1.2)
      rw [hta, show (a - lo).toNat = j by omega, ← Array.getElem?_toList]
      exact ho
  · refine lv_tableOut hx hb hd (x := Int32.ofInt a) (tgt := qx x 0) (by rw [hta]; omega) ht (hJ _ _ g h1.2)
set_option maxRecDepth 20000 in
theorem q_s_dup  {ph : Bool} {y n0 kc ks pc : Nat} {M : qM} {ad : Nat → Nat} {H : Heap} {locs : List Loc} {ls : Array Slot} {Lc st : List qV} {x : List Nat} {cl0 : Nat → List qV → Nat → List qV → Prop} {rt0 : qV → qM → Prop} {nx : List qV → List qV → qM → Prop} {jp : Nat → List qV → Prop} {len : Nat}
    (hF : q_Fx p R s m args meth c D cA ad0 adV L xs A y) (had : ∀ n, n ≤ n0 ∨ 999 ≤ n → ad n = ad0 n) (hL : q_LL ad M.1 (q_mxl y) ls Lc) (hst : ∀ v ∈ st, q_vok M.1 v) (hWd : q_Wd D cA ad L xs A ph M s H) (hS : va_S A s.heap H locs) (hn0 : n0 ≤ M.1)
    (hN : q_NX1 p l e R s m args below meth c Q D cA ad0 L xs A ph y n0 kc ks (pc + len) M nx) (hJ : q_JP1 p l e R s m args below meth c Q ad n0 kc ks M H locs ls jp) (hd : decode (q_by y) pc = .ok (.dup, len)) (hln : len = 1) (h : q_ex (α := Prop) ph cl0 nx jp rt0 False Lc st M x (.dup)) : W p l e R s m args below meth c H locs (kc + (M.1 - n0)) (ks + (q_cum M.1 - q_cum n0)) Q (F0 m pc ls (st.map (q_cv ad))) := by
  subst hln
  obtain ⟨hx, hb, hml, hown, hts, hrf, hrl, hnm, hSt, hA⟩ := hF
  have n1 : ∀ (L' st' : List qV) (ls' : Array Slot), nx L' st' M → q_LL ad M.1 (q_mxl y) ls' L' → (∀ v ∈ st', q_vok M.1 v) → W p l e R s m args below meth c H locs (kc + (M.1 - n0)) (ks + (q_cum M.1 - q_cum n0)) Q (F0 m (pc + 1) ls' (st'.map (q_cv ad))) := fun L' st' ls' g h1 h2 => hN L' st' M ad H locs ls' g had h1 h2 hWd hS (Nat.le_refl _)
  obtain ⟨v, r, e1, g⟩ := q_1_of (show q_1 st False (fun v r => q_m (qcat1 v) 1 (nx Lc (v :: v :: r) M) False) from h)
  subst e1
  have h1 := List.forall_mem_cons.mp hst
  obtain ⟨hc, g⟩ := q_m_t g
  exact lv_dup hx hb hd (by rw [q_cat_cv]; exact hc) (n1 _ _ _ g hL (List.forall_mem_cons.mpr ⟨h1.1, hst⟩))
set_option maxRecDepth 20000 in
theorem q_s_dup2  {ph : Bool} {y n0 kc ks pc : Nat} {M : qM} {ad : Nat → Nat} {H : Heap} {locs : List Loc} {ls : Array Slot} {Lc st : List qV} {x : List Nat} {cl0 : Nat → List qV → Nat → List qV → Prop} {rt0 : qV → qM → Prop} {nx : List qV → List qV → qM → Prop} {jp : Nat → List qV → Prop} {len : Nat}
    (hF : q_Fx p R s m args meth c D cA ad0 adV L xs A y) (had : ∀ n, n ≤ n0 ∨ 999 ≤ n → ad n = ad0 n) (hL : q_LL ad M.1 (q_mxl y) ls Lc) (hst : ∀ v ∈ st, q_vok M.1 v) (hWd : q_Wd D cA ad L xs A ph M s H) (hS : va_S A s.heap H locs) (hn0 : n0 ≤ M.1)
    (hN : q_NX1 p l e R s m args below meth c Q D cA ad0 L xs A ph y n0 kc ks (pc + len) M nx) (hJ : q_JP1 p l e R s m args below meth c Q ad n0 kc ks M H locs ls jp) (hd : decode (q_by y) pc = .ok (.dup2, len)) (hln : len = 1) (h : q_ex (α := Prop) ph cl0 nx jp rt0 False Lc st M x (.dup2)) : W p l e R s m args below meth c H locs (kc + (M.1 - n0)) (ks + (q_cum M.1 - q_cum n0)) Q (F0 m pc ls (st.map (q_cv ad))) := by
  subst hln
  obtain ⟨hx, hb, hml, hown, hts, hrf, hrl, hnm, hSt, hA⟩ := hF
  have n1 : ∀ (L' st' : List qV) (ls' : Array Slot), nx L' st' M → q_LL ad M.1 (q_mxl y) ls' L' → (∀ v ∈ st', q_vok M.1 v) → W p l e R s m args below meth c H locs (kc + (M.1 - n0)) (ks + (q_cum M.1 - q_cum n0)) Q (F0 m (pc + 1) ls' (st'.map (q_cv ad))) := fun L' st' ls' g h1 h2 => hN L' st' M ad H locs ls' g had h1 h2 hWd hS (Nat.le_refl _)
  obtain ⟨v, r, e1, g⟩ := q_1_of (show q_1 st False (fun v r => q_1 r False (fun w r => q_m (qcat1 v) 1 (q_m (qcat1 w) 1 (nx Lc (v :: w :: v :: w :: r) M) False) False)) from h)
  subst e1
  obtain ⟨w, r, e1, g⟩ := q_1_of g
  subst e1
  have h1 := List.forall_mem_cons.mp hst
  have h2 := List.forall_mem_cons.mp h1.2
  obtain ⟨hc, g⟩ := q_m_t g
  obtain ⟨hc2, g⟩ := q_m_t g
  exact lv_dup2_11 hx hb hd (by rw [q_cat_cv]; exact hc) (by rw [q_cat_cv]; exact hc2) (n1 _ _ _ g hL (List.forall_mem_cons.mpr ⟨h1.1, List.forall_mem_cons.mpr ⟨h2.1, hst⟩⟩))
set_option maxRecDepth 20000 in
theorem q_s_pop  {ph : Bool} {y n0 kc ks pc : Nat} {M : qM} {ad : Nat → Nat} {H : Heap} {locs : List Loc} {ls : Array Slot} {Lc st : List qV} {x : List Nat} {cl0 : Nat → List qV → Nat → List qV → Prop} {rt0 : qV → qM → Prop} {nx : List qV → List qV → qM → Prop} {jp : Nat → List qV → Prop} {len : Nat}
    (hF : q_Fx p R s m args meth c D cA ad0 adV L xs A y) (had : ∀ n, n ≤ n0 ∨ 999 ≤ n → ad n = ad0 n) (hL : q_LL ad M.1 (q_mxl y) ls Lc) (hst : ∀ v ∈ st, q_vok M.1 v) (hWd : q_Wd D cA ad L xs A ph M s H) (hS : va_S A s.heap H locs) (hn0 : n0 ≤ M.1)
    (hN : q_NX1 p l e R s m args below meth c Q D cA ad0 L xs A ph y n0 kc ks (pc + len) M nx) (hJ : q_JP1 p l e R s m args below meth c Q ad n0 kc ks M H locs ls jp) (hd : decode (q_by y) pc = .ok (.pop, len)) (hln : len = 1) (h : q_ex (α := Prop) ph cl0 nx jp rt0 False Lc st M x (.pop)) : W p l e R s m args below meth c H locs (kc + (M.1 - n0)) (ks + (q_cum M.1 - q_cum n0)) Q (F0 m pc ls (st.map (q_cv ad))) := by
  subst hln
  obtain ⟨hx, hb, hml, hown, hts, hrf, hrl, hnm, hSt, hA⟩ := hF
  have n1 : ∀ (L' st' : List qV) (ls' : Array Slot), nx L' st' M → q_LL ad M.1 (q_mxl y) ls' L' → (∀ v ∈ st', q_vok M.1 v) → W p l e R s m args below meth c H locs (kc + (M.1 - n0)) (ks + (q_cum M.1 - q_cum n0)) Q (F0 m (pc + 1) ls' (st'.map (q_cv ad))) := fun L' st' ls' g h1 h2 => hN L' st' M ad H locs ls' g had h1 h2 hWd hS (Nat.le_refl _)
  obtain ⟨v, r, e1, g⟩ := q_1_of (show q_1 st False (fun v r => q_m (qcat1 v) 1 (nx Lc r M) False) from h)
  subst e1
  have h1 := List.forall_mem_cons.mp hst
  obtain ⟨hc, g⟩ := q_m_t g
  exact lv_pop hx hb hd (by rw [q_cat_cv]; exact hc) (n1 _ _ _ g hL h1.2)
end QSTEP2

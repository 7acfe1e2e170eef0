section QSTEP8
variable {p : Program} {l : Launch} {e : Env} {R : Room} {s : State} {m : MethodId} {args : Array Value} {below : List Frame} {meth : Method} {c : Code} {Q : State → Prop} {D : va_G} {cA : Nat → ClassId} {ad0 adV : Nat → Nat} {L : Nat} {xs : Nat → Int32} {A : Nat → Prop}
theorem q_Wd_cp {ad : Nat → Nat} {ph : Bool} {M : qM} {U : State} {H H1 : Heap} {a sp b dp n : Nat} (h : q_Wd D cA ad L xs A ph M U H) (h1 : 1 ≤ b) (h2 : b ≤ M.1) (hP : va_P D q_cl ((q_ws cA ad M).set (b - 1) (ad b, q_ce cA ad (cpI M a sp b dp n) b)) H1) (hD : va_D A ((q_ws cA ad M).set (b - 1) (ad b, q_ce cA ad (cpI M a sp b dp n) b))) : q_Wd D cA ad L xs A ph (cpI M a sp b dp n) U H1 := by
  obtain ⟨-, -, g3, ⟨r1, r2, r3⟩, ⟨g5, g6⟩, g7, g8⟩ := h
  have hx : b ≠ 998 ∧ b ≠ 999 := by
    have : q_NX ≤ 990 := by decide
    constructor <;> omega
  have hs : (q_ws cA ad M).set (b - 1) (ad b, q_ce cA ad (cpI M a sp b dp n) b) = q_ws cA ad (cpI M a sp b dp n) := q_ws_set (M := M) (M' := cpI M a sp b dp n) (show (cpI M a sp b dp n).1 = M.1 from rfl) h1 h2 (fun k hk => by
    have e : ∀ j, mI (cpI M a sp b dp n) k j = mI M k j := fun j => if_neg (fun q => hk q.1)
    have e2 : ∀ c, q_fs ad (cpI M a sp b dp n) k c = q_fs ad M k c := fun c => by
      unfold q_fs
      congr 1
      funext j
      unfold q_fv
      rw [e]
      rfl
    unfold q_ce
    simp only [e, e2]
    try rfl)
  rw [hs] at hP hD
  refine ⟨hP, hD, g3, ⟨fun d j => ?_, r2, r3⟩, ⟨?_, fun j hj => ?_⟩, g7, g8⟩
  · show q_i32 (if d = b ∧ dp ≤ j ∧ j < dp + n then mI M a (sp + (j - dp)) else mI M d j)
    split
    · exact r1 _ _
    · exact r1 _ _
  · show (if 998 = b ∧ dp ≤ 0 ∧ 0 < dp + n then mI M a (sp + (0 - dp)) else mI M 998 0) = _
    rw [if_neg (fun q => hx.1 q.1.symm)]; exact g5
  · show (if 999 = b ∧ dp ≤ j ∧ j < dp + n then mI M a (sp + (j - dp)) else mI M 999 j) = _
    rw [if_neg (fun q => hx.2 q.1.symm)]; exact g6 j hj

set_option maxRecDepth 20000 in
theorem q_s_acop {i : Nat} {ph : Bool} {y n0 kc ks pc : Nat} {M : qM} {ad : Nat → Nat} {H : Heap} {locs : List Loc} {ls : Array Slot} {Lc st : List qV} {x : List Nat} {cl0 : Nat → List qV → Nat → List qV → Prop} {rt0 : qV → qM → Prop} {nx : List qV → List qV → qM → Prop} {jp : Nat → List qV → Prop} {len : Nat}
    (hF : q_Fx p R s m args meth c D cA ad0 adV L xs A y) (had : ∀ n, n ≤ n0 ∨ 999 ≤ n → ad n = ad0 n) (hL : q_LL ad M.1 (q_mxl y) ls Lc) (hst : ∀ v ∈ st, q_vok M.1 v) (hWd : q_Wd D cA ad L xs A ph M s H) (hS : va_S A s.heap H locs) (hn0 : n0 ≤ M.1)
    (hN : q_NX1 p l e R s m args below meth c Q D cA ad0 L xs A ph y n0 kc ks (pc + len) M nx) (hJ : q_JP1 p l e R s m args below meth c Q ad n0 kc ks M H locs ls jp) (hd : decode (q_by y) pc = .ok (.invokestatic i, len)) (hln : len = 3) (hz : qx x 0 ≠ 0 ∧ qx x 0 ≠ 3 ∧ qx x 0 ≠ 4) (hf2 : 1 ≤ q_rf y) (hl18 : 18 ≤ q_rl y) (w1 : Cond.methodLink (q_mn y).cls i arraycopyName ∈ q_words) (w2 : Cond.native arraycopyName ∈ q_words) (w3 : Cond.static arraycopyName ∈ q_words) (w4 : Cond.initialized "java/lang/System" ∈ q_words) (h : q_ex (α := Prop) ph cl0 nx jp rt0 False Lc st M x (.invokestatic i)) : W p l e R s m args below meth c H locs (kc + (M.1 - n0)) (ks + (q_cum M.1 - q_cum n0)) Q (F0 m pc ls (st.map (q_cv ad))) := by
  subst hln
  obtain ⟨hx, hb, hml, hown, hts, hrf, hrl, hnm, hSt, hA⟩ := hF
  have n1 : ∀ (L' st' : List qV) (ls' : Array Slot), nx L' st' M → q_LL ad M.1 (q_mxl y) ls' L' → (∀ v ∈ st', q_vok M.1 v) → W p l e R s m args below meth c H locs (kc + (M.1 - n0)) (ks + (q_cum M.1 - q_cum n0)) Q (F0 m (pc + 3) ls' (st'.map (q_cv ad))) := fun L' st' ls' g h1 h2 => hN L' st' M ad H locs ls' g had h1 h2 hWd hS (Nat.le_refl _)
  obtain ⟨dp, n, r, e1, gA⟩ := q_i2_of (show qi2 st False (fun dp n r => qr1 r False (fun b r => qi1 r False (fun sp r => qr1 r False (fun a r => q_nil r False (if q_kd ph M a = 1 then (if q_kd ph M b = 1 then (if 0 ≤ sp ∧ 0 ≤ dp ∧ 0 ≤ n ∧ sp + n ≤ ln a ∧ dp + n ≤ ln b then nx Lc [] (cpI M a sp.toNat b dp.toNat n.toNat) else False) else False) else False))))) by
    unfold q_ex q_m at h
    cases hb0 : Nat.beq (qx x 0) 0 with
    | true => exact absurd (Nat.eq_of_beq_eq_true hb0) hz.1
    | false =>
      rw [hb0] at h
      cases hb3 : Nat.beq (qx x 0) 3 with
      | true => exact absurd (Nat.eq_of_beq_eq_true hb3) hz.2.1
      | false =>
        rw [hb3] at h
        cases hb4 : Nat.beq (qx x 0) 4 with
        | true => exact absurd (Nat.eq_of_beq_eq_true hb4) hz.2.2
        | false => rw [hb4] at h; exact h)
  subst e1
  obtain ⟨b, rB, e2, gB⟩ := q_r1_of gA
  subst e2
  obtain ⟨sp, rC, e3, gC⟩ := q_i1_of gB
  subst e3
  obtain ⟨a, rD, e4, gD⟩ := q_r1_of gC
  subst e4
  obtain ⟨e5, gE⟩ := q_nil_of gD
  subst e5
  obtain ⟨hka, gF⟩ := q_if_t gE
  obtain ⟨hkb, gG⟩ := q_if_t gF
  obtain ⟨⟨t1, t2, t3, t4, t5⟩, g⟩ := q_if_t gG
  have h1 := List.forall_mem_cons.mp hst
  have h2 := List.forall_mem_cons.mp h1.2
  have h3 := List.forall_mem_cons.mp h2.2
  have h4 := List.forall_mem_cons.mp h3.2
  obtain ⟨g1, g2, g3, g4, g5, g6, g7⟩ := id hWd
  obtain ⟨ka1, ka2, ka3⟩ := q_kd_in g7 g6 hka (by omega) (by omega) (by omega)
  obtain ⟨kb1, kb2, kb3⟩ := q_kd_in g7 g6 hkb (by omega) (by omega) (by omega)
  have hea := q_ws_at (cA := cA) (ad := ad) ka2 ka3
  have heb := q_ws_at (cA := cA) (ad := ad) kb2 kb3
  rw [q_ce_int ka1 (Or.inl rfl)] at hea
  rw [q_ce_int kb1 (Or.inl rfl)] at heb
  have hK := q_at_tys hSt.1 g3 ka2 ka3 (by omega) (by omega)
  rw [ka1] at hK
  rw [List.map_cons, List.map_cons, List.map_cons, List.map_cons, List.map_cons, q_cv_ref ka2, q_cv_ref kb2]
  have f1 : ¬ Int32.ofInt sp < 0 := fun q => by have := (q_lt h4.1 q_i0).mp q; omega
  have f2 : ¬ Int32.ofInt dp < 0 := fun q => by have := (q_lt h2.1 q_i0).mp q; omega
  have f3 : ¬ Int32.ofInt n < 0 := fun q => by have := (q_lt h1.1 q_i0).mp q; omega
  have hnw : nativeFrameWords "java/lang/System" "arraycopy" 5 = 7 := by decide +kernel
  have la : ln a = ((q_lay a).2 : Int) := rfl
  have lb : ln b = ((q_lay b).2 : Int) := rfl
  refine va_copyi hx hb (by rw [hml]; exact hL.2.1.1.symm) hown (hts _ w1) (hts _ w2) (hts _ w3) (hts _ w4) hK g1 g2 hS (a - 1) (b - 1) 0 0 hea heb rfl rfl rfl f1 f2 f3 (by rw [q_clN h4.1, q_clN h1.1]; omega) (by rw [q_clN h2.1, q_clN h1.1]; omega) (fun j _ => rfl) (by omega) (by rw [hnw]; show 0 + (7 + 11) ≤ R.locals; omega) hd (fun H1 locs1 p1 p2 p3 => ?_)
  rw [q_clN h1.1, q_clN h2.1, q_clN h4.1] at p1 p2
  have e6 : va_cpy (fun j => Int32.ofInt (mI M a j)) (fun j => Int32.ofInt (mI M b j)) sp.toNat dp.toNat n.toNat = fun j => Int32.ofInt (mI (cpI M a sp.toNat b dp.toNat n.toNat) b j) := by
    funext j
    show (if dp.toNat ≤ j ∧ j < dp.toNat + n.toNat then Int32.ofInt (mI M a (sp.toNat + (j - dp.toNat))) else Int32.ofInt (mI M b j)) = Int32.ofInt (if b = b ∧ dp.toNat ≤ j ∧ j < dp.toNat + n.toNat then mI M a (sp.toNat + (j - dp.toNat)) else mI M b j)
    by_cases q : dp.toNat ≤ j ∧ j < dp.toNat + n.toNat
    · rw [if_pos q, if_pos ⟨rfl, q⟩]
    · rw [if_neg q, if_neg (fun z => q z.2)]
  rw [e6, ← q_ce_int (cA := cA) (M := cpI M a sp.toNat b dp.toNat n.toNat) kb1 (Or.inl rfl)] at p1 p2
  exact hN Lc [] (cpI M a sp.toNat b dp.toNat n.toNat) ad H1 locs1 ls g had hL (fun v hv => by cases hv) (q_Wd_cp hWd kb2 kb3 p1 p2) p3 (Nat.le_refl _)
theorem q_kl_go {y n0 kc ks pc1 : Nat} {ph : Bool} {M : qM} {go : qF → qM → Prop} {kf : List Nat}
    (hgo : ∀ f' M', go f' M' → f'.1 = y → q_W p l e R s m args below meth c Q D cA ad0 L xs A ph y n0 kc ks f' M') (hn0 : n0 ≤ M.1) : q_NX1 p l e R s m args below meth c Q D cA ad0 L xs A ph y n0 kc ks pc1 M (fun L' st' M' => go (y, pc1, q_kl kf L', st') M') :=
  fun L' st' M' ad' H' locs' ls' hg had hL hst hWd hS hM => hgo _ _ hg rfl ad' H' locs' ls' had (q_LL_kl kf _ hL) hst hWd hS (Nat.le_trans hn0 hM)
theorem q_sub_len {y pc : Nat} {ins : Instr} {len : Nat} (h : len = q_len ins len) (hd : decode (q_by y) pc = .ok (ins, len)) (n : Nat) (hn : ∀ k, q_len ins k = n) : len = n ∧ decode (q_by y) pc = .ok (ins, n) := by
  have : len = n := h.trans (hn len)
  exact ⟨this, this ▸ hd⟩
theorem q_chk_ldc {y i k : Nat} (h : q_strs.any (fun e => decide (e.1 = (q_mn y).cls ∧ e.2.1 = i ∧ e.2.2.2 = k)) = true) : ∃ tx, ((q_mn y).cls, i, tx, k) ∈ q_strs := by
  obtain ⟨t, h1, h2⟩ := List.any_eq_true.mp h
  obtain ⟨e1, e2, e3⟩ := of_decide_eq_true h2
  exact ⟨t.2.2.1, by rw [← e1, ← e2, ← e3]; exact h1⟩
theorem q_call_ok {y i : Nat} {own : String} {x : List Nat} (h : q_call y own i x = true) : q_cok y x := by
  unfold q_call at h
  simp only [Bool.and_eq_true, decide_eq_true_eq] at h
  obtain ⟨⟨⟨⟨h1, h2⟩, h3⟩, h4⟩, h5⟩ := h
  refine ⟨h1, h2, h3, h4, ?_⟩
  rw [h5]
  cases hr : q_rt (qx x 1) with
  | none => simp
  | some t => cases t <;> simp
set_option maxRecDepth 50000 in
set_option maxHeartbeats 4000000 in
/-- ONE STEP -/
theorem q_step {ph : Bool} {y n0 kc ks pc : Nat} {M : qM} {Lc st : List qV} (hF : q_Fx p R s m args meth c D cA ad0 adV L xs A y) (hok : ∀ pc t, q_code y pc = some t → q_chk y pc t = true) (hJD : q_HJ l)
    {call : Nat → List qV → Nat → qF → Prop} {go : qF → qM → Prop} {ret : qV → qM → Prop} (hn0 : n0 ≤ M.1) (hcr : kc + (M.1 - n0) ≤ R.cells ∧ ks + (q_cum M.1 - q_cum n0) ≤ R.slots)
    (hgo : ∀ f' M', go f' M' → f'.1 = y → q_W p l e R s m args below meth c Q D cA ad0 L xs A ph y n0 kc ks f' M')
    (hroom : ∀ f' M', go f' M' → M.1 ≤ M'.1 → kc + (M'.1 - n0) ≤ R.cells ∧ ks + (q_cum M'.1 - q_cum n0) ≤ R.slots)
    (hcall : ∀ y' as rt fr, call y' as rt fr → y' ≠ q_LED ∧ ∃ v M1, q_Met l ph y' as M v M1 ∧ (rt = 0 → go fr M1) ∧ (rt ≠ 0 → go (q_psh v fr) M1))
    (hret : ∀ v ins, ret v M → decode (q_by y) pc = .ok (ins, q_len ins 0) → q_rok y ins st v → q_W p l e R s m args below meth c Q D cA ad0 L xs A ph y n0 kc ks (y, pc, Lc, st) M)
    (h : q_stp ph call go ret False (y, pc, Lc, st) M) : q_W p l e R s m args below meth c Q D cA ad0 L xs A ph y n0 kc ks (y, pc, Lc, st) M := by
  intro ad H locs ls had hL hst hWd hS hn0'
  unfold q_stp at h
  cases hc : q_code y pc with
  | none => simp only [hc] at h
  | some t =>
    obtain ⟨ins, len, kf, kj, x⟩ := t
    simp only [hc] at h
    have hk := hok _ _ hc
    have hN : q_NX1 p l e R s m args below meth c Q D cA ad0 L xs A ph y n0 kc ks (pc + len) M (fun L' st' M' => go (y, pc + len, q_kl kf L', st') M') := q_kl_go hgo hn0
    have hJ : q_JP1 p l e R s m args below meth c Q ad n0 kc ks M H locs ls (fun t st' => go (y, t, q_kl kj Lc, st') M) := fun t st' g hst' => hgo _ _ g rfl ad H locs ls had (q_LL_kl kj _ hL) hst' hWd hS hn0
    have hCN : q_CN l ph M (fun L' st' M' => go (y, pc + len, q_kl kf L', st') M') Lc (fun y' as rt r => call y' as rt (y, pc + len, q_kl kf Lc, r)) := fun y' as rt r hcl _ => by
      obtain ⟨-, v, M1, h1, h2, h3⟩ := hcall _ _ _ _ hcl
      exact ⟨v, M1, h1, h2, h3⟩
    have hroom1 : ∀ L' st' M', go (y, pc + len, q_kl kf L', st') M' → M.1 ≤ M'.1 → kc + (M'.1 - n0) ≤ R.cells ∧ ks + (q_cum M'.1 - q_cum n0) ≤ R.slots := fun L' st' M' g hM => hroom _ _ g hM
    cases ins with
    | iload i =>
      simp only [q_chk, Bool.and_eq_true, decide_eq_true_eq] at hk
      obtain ⟨⟨hd, hl⟩, hk⟩ := hk
      obtain ⟨hl, hd⟩ := q_sub_len hl hd 2 (fun _ => rfl)
      subst hl
      exact q_s_iload hF had hL hst hWd hS hn0 hN hJ hd rfl  h
    | iload_n i =>
      simp only [q_chk, Bool.and_eq_true, decide_eq_true_eq] at hk
      obtain ⟨⟨hd, hl⟩, hk⟩ := hk
      obtain ⟨hl, hd⟩ := q_sub_len hl hd 1 (fun _ => rfl)
      subst hl
      exact q_s_iload_n hF had hL hst hWd hS hn0 hN hJ hd rfl  h
    | lload i =>
      simp only [q_chk, Bool.and_eq_true, decide_eq_true_eq] at hk
      obtain ⟨⟨hd, hl⟩, hk⟩ := hk
      obtain ⟨hl, hd⟩ := q_sub_len hl hd 2 (fun _ => rfl)
      subst hl
      exact q_s_lload hF had hL hst hWd hS hn0 hN hJ hd rfl  h
    | lload_n i =>
      simp only [q_chk, Bool.and_eq_true, decide_eq_true_eq] at hk
      obtain ⟨⟨hd, hl⟩, hk⟩ := hk
      obtain ⟨hl, hd⟩ := q_sub_len hl hd 1 (fun _ => rfl)
      subst hl
      exact q_s_lload_n hF had hL hst hWd hS hn0 hN hJ hd rfl  h
    | aload i =>
      simp only [q_chk, Bool.and_eq_true, decide_eq_true_eq] at hk
      obtain ⟨⟨hd, hl⟩, hk⟩ := hk
      obtain ⟨hl, hd⟩ := q_sub_len hl hd 2 (fun _ => rfl)
      subst hl
      exact q_s_aload hF had hL hst hWd hS hn0 hN hJ hd rfl  h
    | aload_n i =>
      simp only [q_chk, Bool.and_eq_true, decide_eq_true_eq] at hk
      obtain ⟨⟨hd, hl⟩, hk⟩ := hk
      obtain ⟨hl, hd⟩ := q_sub_len hl hd 1 (fun _ => rfl)
      subst hl
      exact q_s_aload_n hF had hL hst hWd hS hn0 hN hJ hd rfl  h
    | istore i =>
      simp only [q_chk, Bool.and_eq_true, decide_eq_true_eq] at hk
      obtain ⟨⟨hd, hl⟩, hk⟩ := hk
      obtain ⟨hl, hd⟩ := q_sub_len hl hd 2 (fun _ => rfl)
      subst hl
      exact q_s_istore hF had hL hst hWd hS hn0 hN hJ hd rfl hk h
    | istore_n i =>
      simp only [q_chk, Bool.and_eq_true, decide_eq_true_eq] at hk
      obtain ⟨⟨hd, hl⟩, hk⟩ := hk
      obtain ⟨hl, hd⟩ := q_sub_len hl hd 1 (fun _ => rfl)
      subst hl
      exact q_s_istore_n hF had hL hst hWd hS hn0 hN hJ hd rfl hk h
    | lstore i =>
      simp only [q_chk, Bool.and_eq_true, decide_eq_true_eq] at hk
      obtain ⟨⟨hd, hl⟩, hk⟩ := hk
      obtain ⟨hl, hd⟩ := q_sub_len hl hd 2 (fun _ => rfl)
      subst hl
      exact q_s_lstore hF had hL hst hWd hS hn0 hN hJ hd rfl hk h
    | lstore_n i =>
      simp only [q_chk, Bool.and_eq_true, decide_eq_true_eq] at hk
      obtain ⟨⟨hd, hl⟩, hk⟩ := hk
      obtain ⟨hl, hd⟩ := q_sub_len hl hd 1 (fun _ => rfl)
      subst hl
      exact q_s_lstore_n hF had hL hst hWd hS hn0 hN hJ hd rfl hk h
    | astore i =>
      simp only [q_chk, Bool.and_eq_true, decide_eq_true_eq] at hk
      obtain ⟨⟨hd, hl⟩, hk⟩ := hk
      obtain ⟨hl, hd⟩ := q_sub_len hl hd 2 (fun _ => rfl)
      subst hl
      exact q_s_astore hF had hL hst hWd hS hn0 hN hJ hd rfl hk h
    | astore_n i =>
      simp only [q_chk, Bool.and_eq_true, decide_eq_true_eq] at hk
      obtain ⟨⟨hd, hl⟩, hk⟩ := hk
      obtain ⟨hl, hd⟩ := q_sub_len hl hd 1 (fun _ => rfl)
      subst hl
      exact q_s_astore_n hF had hL hst hWd hS hn0 hN hJ hd rfl hk h
    | iconst k =>
      simp only [q_chk, Bool.and_eq_true, decide_eq_true_eq] at hk
      obtain ⟨⟨hd, hl⟩, hk⟩ := hk
      obtain ⟨hl, hd⟩ := q_sub_len hl hd 1 (fun _ => rfl)
      subst hl
      exact q_s_iconst hF had hL hst hWd hS hn0 hN hJ hd rfl ⟨by omega, by omega⟩ h
    | bipush k =>
      simp only [q_chk, Bool.and_eq_true, decide_eq_true_eq] at hk
      obtain ⟨⟨hd, hl⟩, hk⟩ := hk
      obtain ⟨hl, hd⟩ := q_sub_len hl hd 2 (fun _ => rfl)
      subst hl
      exact q_s_bipush hF had hL hst hWd hS hn0 hN hJ hd rfl hk h
    | sipush k =>
      simp only [q_chk, Bool.and_eq_true, decide_eq_true_eq] at hk
      obtain ⟨⟨hd, hl⟩, hk⟩ := hk
      obtain ⟨hl, hd⟩ := q_sub_len hl hd 3 (fun _ => rfl)
      subst hl
      exact q_s_sipush hF had hL hst hWd hS hn0 hN hJ hd rfl hk h
    | lconst k =>
      simp only [q_chk, Bool.and_eq_true, decide_eq_true_eq] at hk
      obtain ⟨⟨hd, hl⟩, hk⟩ := hk
      obtain ⟨hl, hd⟩ := q_sub_len hl hd 1 (fun _ => rfl)
      subst hl
      exact q_s_lconst hF had hL hst hWd hS hn0 hN hJ hd rfl  h
    | iadd =>
      simp only [q_chk, Bool.and_eq_true, decide_eq_true_eq] at hk
      obtain ⟨⟨hd, hl⟩, hk⟩ := hk
      obtain ⟨hl, hd⟩ := q_sub_len hl hd 1 (fun _ => rfl)
      subst hl
      exact q_s_iadd hF had hL hst hWd hS hn0 hN hJ hd rfl  h
    | isub =>
      simp only [q_chk, Bool.and_eq_true, decide_eq_true_eq] at hk
      obtain ⟨⟨hd, hl⟩, hk⟩ := hk
      obtain ⟨hl, hd⟩ := q_sub_len hl hd 1 (fun _ => rfl)
      subst hl
      exact q_s_isub hF had hL hst hWd hS hn0 hN hJ hd rfl  h
    | imul =>
      simp only [q_chk, Bool.and_eq_true, decide_eq_true_eq] at hk
      obtain ⟨⟨hd, hl⟩, hk⟩ := hk
      obtain ⟨hl, hd⟩ := q_sub_len hl hd 1 (fun _ => rfl)
      subst hl
      exact q_s_imul hF had hL hst hWd hS hn0 hN hJ hd rfl  h
    | idiv =>
      simp only [q_chk, Bool.and_eq_true, decide_eq_true_eq] at hk
      obtain ⟨⟨hd, hl⟩, hk⟩ := hk
      obtain ⟨hl, hd⟩ := q_sub_len hl hd 1 (fun _ => rfl)
      subst hl
      exact q_s_idiv hF had hL hst hWd hS hn0 hN hJ hd rfl  h
    | irem =>
      simp only [q_chk, Bool.and_eq_true, decide_eq_true_eq] at hk
      obtain ⟨⟨hd, hl⟩, hk⟩ := hk
      obtain ⟨hl, hd⟩ := q_sub_len hl hd 1 (fun _ => rfl)
      subst hl
      exact q_s_irem hF had hL hst hWd hS hn0 hN hJ hd rfl  h
    | ineg =>
      simp only [q_chk, Bool.and_eq_true, decide_eq_true_eq] at hk
      obtain ⟨⟨hd, hl⟩, hk⟩ := hk
      obtain ⟨hl, hd⟩ := q_sub_len hl hd 1 (fun _ => rfl)
      subst hl
      exact q_s_ineg hF had hL hst hWd hS hn0 hN hJ hd rfl  h
    | ishl =>
      simp only [q_chk, Bool.and_eq_true, decide_eq_true_eq] at hk
      obtain ⟨⟨hd, hl⟩, hk⟩ := hk
      obtain ⟨hl, hd⟩ := q_sub_len hl hd 1 (fun _ => rfl)
      subst hl
      exact q_s_ishl hF had hL hst hWd hS hn0 hN hJ hd rfl  h
    | ishr =>
      simp only [q_chk, Bool.and_eq_true, decide_eq_true_eq] at hk
      obtain ⟨⟨hd, hl⟩, hk⟩ := hk
      obtain ⟨hl, hd⟩ := q_sub_len hl hd 1 (fun _ => rfl)
      subst hl
      exact q_s_ishr hF had hL hst hWd hS hn0 hN hJ hd rfl  h
    | iand =>
      simp only [q_chk, Bool.and_eq_true, decide_eq_true_eq] at hk
      obtain ⟨⟨hd, hl⟩, hk⟩ := hk
      obtain ⟨hl, hd⟩ := q_sub_len hl hd 1 (fun _ => rfl)
      subst hl
      exact q_s_iand hF had hL hst hWd hS hn0 hN hJ hd rfl  h
    | ior =>
      simp only [q_chk, Bool.and_eq_true, decide_eq_true_eq] at hk
      obtain ⟨⟨hd, hl⟩, hk⟩ := hk
      obtain ⟨hl, hd⟩ := q_sub_len hl hd 1 (fun _ => rfl)
      subst hl
      exact q_s_ior hF had hL hst hWd hS hn0 hN hJ hd rfl  h
    | ixor =>
      simp only [q_chk, Bool.and_eq_true, decide_eq_true_eq] at hk
      obtain ⟨⟨hd, hl⟩, hk⟩ := hk
      obtain ⟨hl, hd⟩ := q_sub_len hl hd 1 (fun _ => rfl)
      subst hl
      exact q_s_ixor hF had hL hst hWd hS hn0 hN hJ hd rfl  h
    | ladd =>
      simp only [q_chk, Bool.and_eq_true, decide_eq_true_eq] at hk
      obtain ⟨⟨hd, hl⟩, hk⟩ := hk
      obtain ⟨hl, hd⟩ := q_sub_len hl hd 1 (fun _ => rfl)
      subst hl
      exact q_s_ladd hF had hL hst hWd hS hn0 hN hJ hd rfl  h
    | lmul =>
      simp only [q_chk, Bool.and_eq_true, decide_eq_true_eq] at hk
      obtain ⟨⟨hd, hl⟩, hk⟩ := hk
      obtain ⟨hl, hd⟩ := q_sub_len hl hd 1 (fun _ => rfl)
      subst hl
      exact q_s_lmul hF had hL hst hWd hS hn0 hN hJ hd rfl  h
    | ldiv =>
      simp only [q_chk, Bool.and_eq_true, decide_eq_true_eq] at hk
      obtain ⟨⟨hd, hl⟩, hk⟩ := hk
      obtain ⟨hl, hd⟩ := q_sub_len hl hd 1 (fun _ => rfl)
      subst hl
      exact q_s_ldiv hF had hL hst hWd hS hn0 hN hJ hd rfl  h
    | lrem =>
      simp only [q_chk, Bool.and_eq_true, decide_eq_true_eq] at hk
      obtain ⟨⟨hd, hl⟩, hk⟩ := hk
      obtain ⟨hl, hd⟩ := q_sub_len hl hd 1 (fun _ => rfl)
      subst hl
      exact q_s_lrem hF had hL hst hWd hS hn0 hN hJ hd rfl  h
    | i2l =>
      simp only [q_chk, Bool.and_eq_true, decide_eq_true_eq] at hk
      obtain ⟨⟨hd, hl⟩, hk⟩ := hk
      obtain ⟨hl, hd⟩ := q_sub_len hl hd 1 (fun _ => rfl)
      subst hl
      exact q_s_i2l hF had hL hst hWd hS hn0 hN hJ hd rfl  h
    | i2b =>
      simp only [q_chk, Bool.and_eq_true, decide_eq_true_eq] at hk
      obtain ⟨⟨hd, hl⟩, hk⟩ := hk
      obtain ⟨hl, hd⟩ := q_sub_len hl hd 1 (fun _ => rfl)
      subst hl
      exact q_s_i2b hF had hL hst hWd hS hn0 hN hJ hd rfl  h
    | lcmp =>
      simp only [q_chk, Bool.and_eq_true, decide_eq_true_eq] at hk
      obtain ⟨⟨hd, hl⟩, hk⟩ := hk
      obtain ⟨hl, hd⟩ := q_sub_len hl hd 1 (fun _ => rfl)
      subst hl
      exact q_s_lcmp hF had hL hst hWd hS hn0 hN hJ hd rfl  h
    | dup =>
      simp only [q_chk, Bool.and_eq_true, decide_eq_true_eq] at hk
      obtain ⟨⟨hd, hl⟩, hk⟩ := hk
      obtain ⟨hl, hd⟩ := q_sub_len hl hd 1 (fun _ => rfl)
      subst hl
      exact q_s_dup hF had hL hst hWd hS hn0 hN hJ hd rfl  h
    | dup2 =>
      simp only [q_chk, Bool.and_eq_true, decide_eq_true_eq] at hk
      obtain ⟨⟨hd, hl⟩, hk⟩ := hk
      obtain ⟨hl, hd⟩ := q_sub_len hl hd 1 (fun _ => rfl)
      subst hl
      exact q_s_dup2 hF had hL hst hWd hS hn0 hN hJ hd rfl  h
    | pop =>
      simp only [q_chk, Bool.and_eq_true, decide_eq_true_eq] at hk
      obtain ⟨⟨hd, hl⟩, hk⟩ := hk
      obtain ⟨hl, hd⟩ := q_sub_len hl hd 1 (fun _ => rfl)
      subst hl
      exact q_s_pop hF had hL hst hWd hS hn0 hN hJ hd rfl  h
    | iinc i k =>
      simp only [q_chk, Bool.and_eq_true, decide_eq_true_eq] at hk
      obtain ⟨⟨hd, hl⟩, hk⟩ := hk
      obtain ⟨hl, hd⟩ := q_sub_len hl hd 3 (fun _ => rfl)
      subst hl
      exact q_s_iinc hF had hL hst hWd hS hn0 hN hJ hd rfl  h
    | goto o =>
      simp only [q_chk, Bool.and_eq_true, decide_eq_true_eq] at hk
      obtain ⟨⟨hd, hl⟩, hk⟩ := hk
      obtain ⟨hl, hd⟩ := q_sub_len hl hd 3 (fun _ => rfl)
      subst hl
      exact q_s_goto hF had hL hst hWd hS hn0 hN hJ hd rfl hk h
    | ifCond cn o =>
      simp only [q_chk, Bool.and_eq_true, decide_eq_true_eq] at hk
      obtain ⟨⟨hd, hl⟩, hk⟩ := hk
      obtain ⟨hl, hd⟩ := q_sub_len hl hd 3 (fun _ => rfl)
      subst hl
      cases cn
      · exact q_s_if_eq hF had hL hst hWd hS hn0 hN hJ hd rfl hk.1 h
      · exact q_s_if_ne hF had hL hst hWd hS hn0 hN hJ hd rfl hk.1 h
      · exact q_s_if_lt hF had hL hst hWd hS hn0 hN hJ hd rfl hk.1 h
      · exact q_s_if_ge hF had hL hst hWd hS hn0 hN hJ hd rfl hk.1 h
      · exact q_s_if_gt hF had hL hst hWd hS hn0 hN hJ hd rfl hk.1 h
      · exact q_s_if_le hF had hL hst hWd hS hn0 hN hJ hd rfl hk.1 h
    | if_icmp cn o =>
      simp only [q_chk, Bool.and_eq_true, decide_eq_true_eq] at hk
      obtain ⟨⟨hd, hl⟩, hk⟩ := hk
      obtain ⟨hl, hd⟩ := q_sub_len hl hd 3 (fun _ => rfl)
      subst hl
      cases cn
      · exact q_s_icmp_eq hF had hL hst hWd hS hn0 hN hJ hd rfl hk.1 h
      · exact q_s_icmp_ne hF had hL hst hWd hS hn0 hN hJ hd rfl hk.1 h
      · exact q_s_icmp_lt hF had hL hst hWd hS hn0 hN hJ hd rfl hk.1 h
      · exact q_s_icmp_ge hF had hL hst hWd hS hn0 hN hJ hd rfl hk.1 h
      · exact q_s_icmp_gt hF had hL hst hWd hS hn0 hN hJ hd rfl hk.1 h
      · exact q_s_icmp_le hF had hL hst hWd hS hn0 hN hJ hd rfl hk.1 h
    | tableswitch d lo hi os =>
      simp only [q_chk, Bool.and_eq_true, decide_eq_true_eq] at hk
      obtain ⟨⟨hd, -⟩, ⟨hk1, hk2⟩, hk3⟩ := hk
      exact q_s_tsw hF had hL hst hWd hS hn0 hN hJ hd hk1 hk2 hk3 h
    | getfield i =>
      simp only [q_chk, Bool.and_eq_true, decide_eq_true_eq] at hk
      obtain ⟨⟨hd, hl⟩, hk⟩ := hk
      obtain ⟨hl, hd⟩ := q_sub_len hl hd 3 (fun _ => rfl)
      subst hl
      exact q_s_getf hF had hL hst hWd hS hn0 hN hJ hd rfl hk.1.1.1 hk.1.1.2 hk.1.2 (q_w_in hk.2) h
    | putfield i =>
      simp only [q_chk, Bool.and_eq_true, decide_eq_true_eq] at hk
      obtain ⟨⟨hd, hl⟩, hk⟩ := hk
      obtain ⟨hl, hd⟩ := q_sub_len hl hd 3 (fun _ => rfl)
      subst hl
      obtain ⟨⟨⟨⟨k1, k2⟩, k3⟩, k4⟩, k5⟩ := hk
      refine q_s_putf hF had hL hst hWd hS hn0 hN hJ hd rfl k1 k2 k3 (q_w_in k4) (fun q => ?_) h
      rw [q] at k5
      simp only [Bool.and_eq_true, decide_eq_true_eq] at k5
      exact k5
    | iaload =>
      simp only [q_chk, Bool.and_eq_true, decide_eq_true_eq] at hk
      obtain ⟨⟨hd, hl⟩, hk⟩ := hk
      obtain ⟨hl, hd⟩ := q_sub_len hl hd 1 (fun _ => rfl)
      subst hl
      exact q_s_iaload hF had hL hst hWd hS hn0 hN hJ hd rfl  h
    | baload =>
      simp only [q_chk, Bool.and_eq_true, decide_eq_true_eq] at hk
      obtain ⟨⟨hd, hl⟩, hk⟩ := hk
      obtain ⟨hl, hd⟩ := q_sub_len hl hd 1 (fun _ => rfl)
      subst hl
      exact q_s_baload hF had hL hst hWd hS hn0 hN hJ hd rfl  h
    | laload =>
      simp only [q_chk, Bool.and_eq_true, decide_eq_true_eq] at hk
      obtain ⟨⟨hd, hl⟩, hk⟩ := hk
      obtain ⟨hl, hd⟩ := q_sub_len hl hd 1 (fun _ => rfl)
      subst hl
      exact q_s_laload hF had hL hst hWd hS hn0 hN hJ hd rfl  h
    | iastore =>
      simp only [q_chk, Bool.and_eq_true, decide_eq_true_eq] at hk
      obtain ⟨⟨hd, hl⟩, hk⟩ := hk
      obtain ⟨hl, hd⟩ := q_sub_len hl hd 1 (fun _ => rfl)
      subst hl
      exact q_s_iastore hF had hL hst hWd hS hn0 hN hJ hd rfl  h
    | bastore =>
      simp only [q_chk, Bool.and_eq_true, decide_eq_true_eq] at hk
      obtain ⟨⟨hd, hl⟩, hk⟩ := hk
      obtain ⟨hl, hd⟩ := q_sub_len hl hd 1 (fun _ => rfl)
      subst hl
      exact q_s_bastore hF had hL hst hWd hS hn0 hN hJ hd rfl  h
    | lastore =>
      simp only [q_chk, Bool.and_eq_true, decide_eq_true_eq] at hk
      obtain ⟨⟨hd, hl⟩, hk⟩ := hk
      obtain ⟨hl, hd⟩ := q_sub_len hl hd 1 (fun _ => rfl)
      subst hl
      exact q_s_lastore hF had hL hst hWd hS hn0 hN hJ hd rfl  h
    | aaload =>
      simp only [q_chk, Bool.and_eq_true, decide_eq_true_eq] at hk
      obtain ⟨⟨hd, hl⟩, hk⟩ := hk
      obtain ⟨hl, hd⟩ := q_sub_len hl hd 1 (fun _ => rfl)
      subst hl
      exact q_s_aaload hF had hL hst hWd hS hn0 hN hJ hd rfl hk h
    | aastore =>
      simp only [q_chk, Bool.and_eq_true, decide_eq_true_eq] at hk
      obtain ⟨⟨hd, hl⟩, hk⟩ := hk
      obtain ⟨hl, hd⟩ := q_sub_len hl hd 1 (fun _ => rfl)
      subst hl
      exact q_s_aastore hF had hL hst hWd hS hn0 hN hJ hd rfl hk h
    | arraylength =>
      simp only [q_chk, Bool.and_eq_true, decide_eq_true_eq] at hk
      obtain ⟨⟨hd, hl⟩, hk⟩ := hk
      obtain ⟨hl, hd⟩ := q_sub_len hl hd 1 (fun _ => rfl)
      subst hl
      exact q_s_alen hF had hL hst hWd hS hn0 hN hJ hd rfl hk h
    | ldc i =>
      simp only [q_chk, Bool.and_eq_true, decide_eq_true_eq] at hk
      obtain ⟨⟨hd, hl⟩, hk⟩ := hk
      obtain ⟨hl, hd⟩ := q_sub_len hl hd 2 (fun _ => rfl)
      subst hl
      by_cases hz : qx x 0 = 0
      · simp only [hz, if_true, Bool.and_eq_true, decide_eq_true_eq] at hk
        exact q_s_ldcI hF had hL hst hWd hS hn0 hN hJ hd rfl hz (q_w_in hk.1) hk.2 h
      · simp only [hz, if_false, Bool.and_eq_true, decide_eq_true_eq] at hk
        obtain ⟨tx, htx⟩ := q_chk_ldc hk.1
        exact q_s_ldcS hF had hL hst hWd hS hn0 hN hJ hd rfl hz htx h
    | ldc_w i =>
      simp only [q_chk, Bool.and_eq_true, decide_eq_true_eq] at hk
      obtain ⟨⟨hd, hl⟩, hk⟩ := hk
      obtain ⟨hl, hd⟩ := q_sub_len hl hd 3 (fun _ => rfl)
      subst hl
      exact q_s_ldcwI hF had hL hst hWd hS hn0 hN hJ hd rfl hk.1.1 (q_w_in hk.1.2) hk.2 h
    | ldc2_w i =>
      simp only [q_chk, Bool.and_eq_true, decide_eq_true_eq] at hk
      obtain ⟨⟨hd, hl⟩, hk⟩ := hk
      obtain ⟨hl, hd⟩ := q_sub_len hl hd 3 (fun _ => rfl)
      subst hl
      exact q_s_ldc2 hF had hL hst hWd hS hn0 hN hJ hd rfl (q_w_in hk) h
    | new i =>
      simp only [q_chk, Bool.and_eq_true, decide_eq_true_eq] at hk
      obtain ⟨⟨hd, hl⟩, hk⟩ := hk
      obtain ⟨hl, hd⟩ := q_sub_len hl hd 3 (fun _ => rfl)
      subst hl
      by_cases hz : qx x 0 = 0
      · simp only [hz, if_true, decide_eq_true_eq] at hk
        rcases q_m_of h with ⟨-, g⟩ | ⟨q, -⟩
        · obtain ⟨e1, g⟩ := q_nil_of g
          exact hret _ _ g hd (Or.inr (Or.inr (Or.inr (Or.inr ⟨hk, ⟨i, rfl⟩, e1, rfl⟩)))) ad H locs ls had hL hst hWd hS hn0
        · exact absurd hz q
      · simp only [hz, if_false, Bool.and_eq_true, decide_eq_true_eq] at hk
        rcases q_m_of h with ⟨q, -⟩ | ⟨-, g⟩
        · exact absurd q hz
        · exact q_s_new (jp := fun _ _ => False) hF had hL hst hWd hS hn0 hN (fun L' st' g2 => hroom1 _ _ _ g2 (Nat.le_succ _)) hd hk.1.1.1.1 hk.1.1.1.2 (q_w_in hk.1.1.2) (q_w_in hk.1.2) (q_w_in hk.2) g
    | newarray a9 =>
      simp only [q_chk, Bool.and_eq_true, decide_eq_true_eq] at hk
      obtain ⟨⟨hd, hl⟩, hk⟩ := hk
      obtain ⟨hl, hd⟩ := q_sub_len hl hd 2 (fun _ => rfl)
      subst hl
      exact q_s_newa hF had hL hst hWd hS hn0 hN (fun L' st' g2 => hroom1 _ _ _ g2 (Nat.le_succ _)) hd hk.1.1 hk.1.2 (q_w_in hk.2) h
    | anewarray i =>
      simp only [q_chk, Bool.and_eq_true, decide_eq_true_eq] at hk
      obtain ⟨⟨hd, hl⟩, hk⟩ := hk
      obtain ⟨hl, hd⟩ := q_sub_len hl hd 3 (fun _ => rfl)
      subst hl
      exact q_s_anewa hF had hL hst hWd hS hn0 hN (fun L' st' g2 => hroom1 _ _ _ g2 (Nat.le_succ _)) hd hk.1 (q_w_in hk.2) h
    | ireturn =>
      simp only [q_chk, Bool.and_eq_true, decide_eq_true_eq] at hk
      obtain ⟨⟨hd, hl⟩, hk⟩ := hk
      obtain ⟨hl, hd⟩ := q_sub_len hl hd 1 (fun _ => rfl)
      subst hl
      obtain ⟨z, r, e1, g⟩ := q_i1_of h
      obtain ⟨e2, g⟩ := q_nil_of g
      subst e2
      subst e1
      rcases q_m_of g with ⟨hz, g⟩ | ⟨hz, g⟩
      · rw [if_pos hz] at hk
        exact hret _ _ g hd (Or.inl ⟨rfl, z, rfl, rfl, Or.inl hk⟩) ad H locs ls had hL hst hWd hS hn0
      · rw [if_neg hz] at hk
        obtain ⟨h01, g⟩ := q_if_t g
        exact hret _ _ g hd (Or.inl ⟨rfl, z, rfl, rfl, Or.inr ⟨hk, h01⟩⟩) ad H locs ls had hL hst hWd hS hn0
    | lreturn =>
      simp only [q_chk, Bool.and_eq_true, decide_eq_true_eq] at hk
      obtain ⟨⟨hd, hl⟩, hk⟩ := hk
      obtain ⟨hl, hd⟩ := q_sub_len hl hd 1 (fun _ => rfl)
      subst hl
      obtain ⟨z, r, e1, g⟩ := q_l1_of h
      obtain ⟨e2, g⟩ := q_nil_of g
      subst e2
      subst e1
      exact hret _ _ g hd (Or.inr (Or.inl ⟨rfl, z, rfl, rfl, hk⟩)) ad H locs ls had hL hst hWd hS hn0
    | areturn =>
      simp only [q_chk, Bool.and_eq_true, decide_eq_true_eq] at hk
      obtain ⟨⟨hd, hl⟩, hk⟩ := hk
      obtain ⟨hl, hd⟩ := q_sub_len hl hd 1 (fun _ => rfl)
      subst hl
      obtain ⟨z, r, e1, g⟩ := q_r1_of h
      obtain ⟨e2, g⟩ := q_nil_of g
      subst e2
      subst e1
      split at hk
      · rename_i C hC
        exact hret _ _ g hd (Or.inr (Or.inr (Or.inl ⟨rfl, z, C, rfl, rfl, hC⟩))) ad H locs ls had hL hst hWd hS hn0
      · cases hk
    | return_ =>
      simp only [q_chk, Bool.and_eq_true, decide_eq_true_eq] at hk
      obtain ⟨⟨hd, hl⟩, hk⟩ := hk
      obtain ⟨hl, hd⟩ := q_sub_len hl hd 1 (fun _ => rfl)
      subst hl
      obtain ⟨e1, g⟩ := q_nil_of h
      subst e1
      exact hret _ _ g hd (Or.inr (Or.inr (Or.inr (Or.inl ⟨rfl, rfl, rfl, hk⟩)))) ad H locs ls had hL hst hWd hS hn0
    | invokevirtual i =>
      simp only [q_chk, Bool.and_eq_true, decide_eq_true_eq] at hk
      obtain ⟨⟨hd, hl⟩, hk⟩ := hk
      obtain ⟨hl, hd⟩ := q_sub_len hl hd 3 (fun _ => rfl)
      subst hl
      by_cases hz : qx x 0 = 0
      · simp only [hz, if_true, Bool.and_eq_true, decide_eq_true_eq] at hk
        obtain ⟨⟨⟨⟨⟨⟨⟨⟨⟨⟨k1, k2⟩, k3⟩, k4⟩, k5⟩, k6⟩, k7⟩, k8⟩, k9⟩, k10⟩, k11⟩ := hk
        rcases q_m_of h with ⟨-, g⟩ | ⟨q, -⟩
        · exact q_s_invV hF had hL hst hWd hS hn0 hN hroom1 hCN hd (fun q => by
                  obtain ⟨as, r, -, -, -, -, -, hcl⟩ := q_inv_of g
                  exact (hcall _ _ _ _ hcl).1 q) (q_call_ok k1) k2 ⟨k4, k5⟩ k6 (q_w_in k7) (q_w_in k8) (q_w_in k9) (q_w_in k10) (q_w_in k11) g
        · exact absurd hz q
      · by_cases hz1 : qx x 0 = 1
        · rw [if_neg hz, if_pos hz1] at hk
          simp only [Bool.and_eq_true, decide_eq_true_eq] at hk
          obtain ⟨⟨⟨⟨⟨⟨k1, k2⟩, k3⟩, k4⟩, k5⟩, k6⟩, k7⟩ := hk
          exact q_s_slen hF had hL hst hWd hS hn0 hN hJ hd rfl hz1 hJD k1 k2 hcr (q_w_in k3) (q_w_in k4) (q_w_in k5) (q_w_in k6) (q_w_in k7) h
        · rw [if_neg hz, if_neg hz1] at hk
          simp only [Bool.and_eq_true, decide_eq_true_eq] at hk
          obtain ⟨⟨⟨⟨⟨⟨k1, k2⟩, k3⟩, k4⟩, k5⟩, k6⟩, k7⟩ := hk
          exact q_s_scha hF had hL hst hWd hS hn0 hN hJ hd rfl ⟨hz, hz1⟩ hJD k1 k2 hcr (q_w_in k3) (q_w_in k4) (q_w_in k5) (q_w_in k6) (q_w_in k7) h
    | invokestatic i =>
      simp only [q_chk, Bool.and_eq_true, decide_eq_true_eq] at hk
      obtain ⟨⟨hd, hl⟩, hk⟩ := hk
      obtain ⟨hl, hd⟩ := q_sub_len hl hd 3 (fun _ => rfl)
      subst hl
      by_cases hz : qx x 0 = 0
      · rw [if_pos hz] at hk
        rcases q_m_of h with ⟨-, g⟩ | ⟨q, -⟩
        · have hnl : qx x 1 ≠ q_LED := fun q => by
            obtain ⟨as, r, -, -, -, -, -, hcl⟩ := q_inv_of g
            exact (hcall _ _ _ _ hcl).1 q
          rw [if_neg hnl] at hk
          simp only [Bool.and_eq_true, decide_eq_true_eq] at hk
          obtain ⟨⟨⟨⟨⟨k1, k2⟩, k3⟩, k4⟩, k5⟩, k6⟩ := hk
          exact q_s_invS hF had hL hst hWd hS hn0 hN hroom1 hCN hd hnl (q_call_ok k1) k2 (q_w_in k3) (q_w_in k4) (q_w_in k5) (q_w_in k6) g
        · exact absurd hz q
      · by_cases hz3 : qx x 0 = 3
        · rw [if_neg hz, if_pos hz3] at hk
          simp only [Bool.and_eq_true, decide_eq_true_eq] at hk
          obtain ⟨⟨⟨⟨⟨k1, k2⟩, k3⟩, k4⟩, k5⟩, k6⟩ := hk
          exact q_s_mmax hF had hL hst hWd hS hn0 hN hJ hd rfl hz3 k1 k2 hcr (q_w_in k3) (q_w_in k4) (q_w_in k5) (q_w_in k6) h
        · by_cases hz4 : qx x 0 = 4
          · rw [if_neg hz, if_neg hz3, if_pos hz4] at hk
            simp only [Bool.and_eq_true, decide_eq_true_eq] at hk
            obtain ⟨⟨⟨⟨⟨k1, k2⟩, k3⟩, k4⟩, k5⟩, k6⟩ := hk
            exact q_s_mmin hF had hL hst hWd hS hn0 hN hJ hd rfl hz4 k1 k2 hcr (q_w_in k3) (q_w_in k4) (q_w_in k5) (q_w_in k6) h
          · rw [if_neg hz, if_neg hz3, if_neg hz4] at hk
            simp only [Bool.and_eq_true, decide_eq_true_eq] at hk
            obtain ⟨⟨⟨⟨⟨k1, k2⟩, k3⟩, k4⟩, k5⟩, k6⟩ := hk
            exact q_s_acop hF had hL hst hWd hS hn0 hN hJ hd rfl ⟨hz, hz3, hz4⟩ k1 k2 (q_w_in k3) (q_w_in k4) (q_w_in k5) (q_w_in k6) h
    | invokespecial i =>
      simp only [q_chk, Bool.and_eq_true, decide_eq_true_eq] at hk
      obtain ⟨⟨hd, hl⟩, hk⟩ := hk
      obtain ⟨hl, hd⟩ := q_sub_len hl hd 3 (fun _ => rfl)
      subst hl
      by_cases hz : qx x 0 = 0
      · rw [if_pos hz] at hk
        simp only [Bool.and_eq_true, decide_eq_true_eq] at hk
        obtain ⟨⟨⟨⟨⟨⟨⟨⟨⟨k1, k2⟩, k3⟩, k4⟩, k5⟩, k6⟩, k7⟩, k8⟩, k9⟩, k10⟩ := hk
        rcases q_m_of h with ⟨-, g⟩ | ⟨q, -⟩
        · have hw1 : Cond.methodLink (q_mn y).cls i (q_mn (qx x 1)) ∈ q_words ∨ Cond.methodLinkNest (q_mn y).cls i (q_mn (qx x 1)) RX11 ∈ q_nst := by
            by_cases h9 : qx x 9 = 0
            · rw [if_pos h9] at k10; exact Or.inl (q_w_in k10)
            · rw [if_neg h9] at k10; exact Or.inr (of_decide_eq_true k10)
          obtain ⟨as0, r0, -, -, -, -, hv0, hcl0⟩ := q_inv_of g
          obtain ⟨a0, as1, -, hkd⟩ := hv0 rfl
          have hlt : qx x 4 < 22 := by
            have h22 := q_kd_in hWd.2.2.2.2.2.2 hWd.2.2.2.2.2.1 hkd (by omega) (by omega) (by omega)
            have := (q_lay_kd (Nat.le_trans h22.2.2 hWd.2.2.2.2.2.1)).2.2
            omega
          exact q_s_invI hF had hL hst hWd hS hn0 hN hroom1 hCN hd (hcall _ _ _ _ hcl0).1 (q_call_ok k1) k2 ⟨k4, hlt⟩ k5 k6 hw1 (q_w_in k7) (q_w_in k8) (q_w_in k9) g
        · exact absurd hz q
      · rw [if_neg hz] at hk
        simp only [Bool.and_eq_true, decide_eq_true_eq] at hk
        obtain ⟨⟨⟨⟨k1, k2⟩, k3⟩, k4⟩, k5⟩ := hk
        exact q_s_oini hF had hL hst hWd hS hn0 hN hJ hd rfl hz k1 k2 (q_w_in k3) (q_w_in k4) (q_w_in k5) h
    | _ => exact h.elim
end QSTEP8

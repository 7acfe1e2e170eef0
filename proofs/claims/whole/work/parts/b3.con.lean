/-! THE START: what the constructors make, run once; the script lies over it -/
def ov (S : Nat → Nat → Int) (M : qM) : qM := (M.1, fun a k => if 998 ≤ a then S a k else M.2.1 a k, M.2.2.1, M.2.2.2)
theorem ov_mI {S : Nat → Nat → Int} {M : qM} {a k : Nat} (h : a < 998) : mI (ov S M) a k = mI M a k := if_neg (by omega)
theorem ov_sI {S : Nat → Nat → Int} {M : qM} {a k : Nat} {z : Int} (h : a < 998) : sI (ov S M) a k z = ov S (sI M a k z) := by
  have e : (fun b j => if b = a ∧ j = k then z else (if 998 ≤ b then S b j else M.2.1 b j)) = fun b j => if 998 ≤ b then S b j else (if b = a ∧ j = k then z else M.2.1 b j) := by
    funext b j
    by_cases q : b = a ∧ j = k
    · rw [if_pos q, if_neg (by omega), if_pos q]
    · rw [if_neg q, if_neg q]
  show (M.1, _, M.2.2.1, M.2.2.2) = (M.1, _, M.2.2.1, M.2.2.2)
  exact congrArg (fun F => (M.1, F, M.2.2.1, M.2.2.2)) e
theorem ov_new {S : Nat → Nat → Int} {M : qM} (h : M.1 ≤ 283) : qnew (ov S M) = ov S (qnew M) := by
  have e : (fun a k => if a = M.1 + 1 then (0 : Int) else (if 998 ≤ a then S a k else M.2.1 a k)) = fun a k => if 998 ≤ a then S a k else (if a = M.1 + 1 then 0 else M.2.1 a k) := by
    funext a k
    by_cases q : a = M.1 + 1
    · rw [if_pos q, if_neg (by omega), if_pos q]
    · rw [if_neg q, if_neg q]
  exact congrArg (fun F => (M.1 + 1, F, (fun a k => if a = M.1 + 1 then 0 else M.2.2.1 a k), (fun a k => if a = M.1 + 1 then 0 else M.2.2.2 a k))) e
def z_ok (ins : Instr) : Bool := match ins with
  | .aload_n _ | .invokespecial _ | .iload_n _ | .putfield _ | .iconst _ | .if_icmp _ _ | .newarray _ | .bipush _ | .return_ | .new _ | .dup | .getfield _ | .aastore | .iinc _ _ | .goto _ | .anewarray _ | .istore_n _ | .sipush _ | .astore_n _ | .istore _ => true
  | _ => false
section ZEX
variable {X Y : Type} {w : X} {w' : Y}
theorem z_qvr {v : qV} {k1 : Nat → Option X} {k2 : Nat → Option Y} (hk : ∀ n, k1 n = some w → k2 n = some w') (h : qvr v none k1 = some w) : qvr v none k2 = some w' := by
  rcases v with a | a | a | u <;> first | exact hk _ h | cases h
theorem z_qvi {v : qV} {k1 : Int → Option X} {k2 : Int → Option Y} (hk : ∀ n, k1 n = some w → k2 n = some w') (h : qvi v none k1 = some w) : qvi v none k2 = some w' := by
  rcases v with a | a | a | u <;> first | exact hk _ h | cases h
theorem z_qvl {v : qV} {k1 : Int → Option X} {k2 : Int → Option Y} (hk : ∀ n, k1 n = some w → k2 n = some w') (h : qvl v none k1 = some w) : qvl v none k2 = some w' := by
  rcases v with a | a | a | u <;> first | exact hk _ h | cases h
theorem z_qi1 {st : List qV} {k1 : Int → List qV → Option X} {k2 : Int → List qV → Option Y} (hk : ∀ a r, k1 a r = some w → k2 a r = some w') (h : qi1 st none k1 = some w) : qi1 st none k2 = some w' := by
  rcases st with _ | ⟨a | a | a | u, r⟩ <;> first | exact hk _ _ h | cases h
theorem z_qr1 {st : List qV} {k1 : Nat → List qV → Option X} {k2 : Nat → List qV → Option Y} (hk : ∀ a r, k1 a r = some w → k2 a r = some w') (h : qr1 st none k1 = some w) : qr1 st none k2 = some w' := by
  rcases st with _ | ⟨a | a | a | u, r⟩ <;> first | exact hk _ _ h | cases h
theorem z_qi2 {st : List qV} {k1 : Int → Int → List qV → Option X} {k2 : Int → Int → List qV → Option Y} (hk : ∀ a b r, k1 a b r = some w → k2 a b r = some w') (h : qi2 st none k1 = some w) : qi2 st none k2 = some w' := by
  rcases st with _ | ⟨a | a | a | u, _ | ⟨b | b | b | u2, r⟩⟩ <;> first | exact hk _ _ _ h | cases h
theorem z_qrp {st : List qV} {k1 : Nat → qV → List qV → Option X} {k2 : Nat → qV → List qV → Option Y} (hk : ∀ a v r, k1 a v r = some w → k2 a v r = some w') (h : qrp st none k1 = some w) : qrp st none k2 = some w' := by
  rcases st with _ | ⟨a, _ | ⟨b | b | b | u2, r⟩⟩ <;> first | exact hk _ _ _ h | cases h
theorem z_qrv {st : List qV} {k1 : Nat → Int → qV → List qV → Option X} {k2 : Nat → Int → qV → List qV → Option Y} (hk : ∀ a i v r, k1 a i v r = some w → k2 a i v r = some w') (h : qrv st none k1 = some w) : qrv st none k2 = some w' := by
  rcases st with _ | ⟨v, _ | ⟨a | a | a | u, _ | ⟨b | b | b | u2, r⟩⟩⟩ <;> first | exact hk _ _ _ _ h | cases h
theorem z_q1 {st : List qV} {k1 : qV → List qV → Option X} {k2 : qV → List qV → Option Y} (hk : ∀ v r, k1 v r = some w → k2 v r = some w') (h : q_1 st none k1 = some w) : q_1 st none k2 = some w' := by
  rcases st with _ | ⟨v, r⟩
  · cases h
  · exact hk _ _ h
theorem z_nil {st : List qV} {k1 : Option X} {k2 : Option Y} (hk : k1 = some w → k2 = some w') (h : q_nil st none k1 = some w) : q_nil st none k2 = some w' := by
  rcases st with _ | ⟨v, r⟩
  · exact hk h
  · cases h
theorem z_m {t k : Nat} {a1 b1 : Option X} {a2 b2 : Option Y} (ha : a1 = some w → a2 = some w') (hb : b1 = some w → b2 = some w') (h : q_m t k a1 b1 = some w) : q_m t k a2 b2 = some w' := by
  unfold q_m at h ⊢
  cases q : Nat.beq t k with
  | true => rw [q] at h; exact ha h
  | false => rw [q] at h; exact hb h
theorem z_if {c : Prop} [Decidable c] {k1 : Option X} {k2 : Option Y} (hk : c → k1 = some w → k2 = some w') (h : (if c then k1 else none) = some w) : (if c then k2 else none) = some w' := by
  by_cases q : c
  · rw [if_pos q] at h ⊢; exact hk q h
  · rw [if_neg q] at h; cases h
theorem z_ifn {c : Prop} [Decidable c] {k1 : Option X} {k2 : Option Y} (hk : k1 = some w → k2 = some w') (h : (if c then none else k1) = some w) : (if c then none else k2) = some w' := by
  by_cases q : c
  · rw [if_pos q] at h; cases h
  · rw [if_neg q] at h ⊢; exact hk h
theorem z_ite {c : Prop} [Decidable c] {a1 b1 : Option X} {a2 b2 : Option Y} (ha : a1 = some w → a2 = some w') (hb : b1 = some w → b2 = some w') (h : (if c then a1 else b1) = some w) : (if c then a2 else b2) = some w' := by
  by_cases q : c
  · rw [if_pos q] at h ⊢; exact ha h
  · rw [if_neg q] at h ⊢; exact hb h
theorem z_pop {k1 : List qV → List qV → Option X} {k2 : List qV → List qV → Option Y} (hk : ∀ as r, k1 as r = some w → k2 as r = some w') : ∀ (n : Nat) (acc st : List qV), qpop n acc st none k1 = some w → qpop n acc st none k2 = some w'
  | 0, acc, st, h => hk _ _ h
  | _ + 1, _, [], h => by cases h
  | n + 1, acc, v :: st, h => z_pop hk n (v :: acc) st h
theorem z_hd {as : List qV} {k1 : Nat → Option X} {k2 : Nat → Option Y} (hk : ∀ a, k1 a = some w → k2 a = some w') (h : qhd as none k1 = some w) : qhd as none k2 = some w' := by
  rcases as with _ | ⟨a | a | a | u, r⟩ <;> first | exact hk _ h | cases h
theorem z_kd {M : qM} {a k : Nat} (hM : M.1 ≤ 283) (h : q_kd true M a = k) (hk : k ≠ 0) : a < 998 := by
  have h : (if a ≤ M.1 then kd a else 0) = k := h
  split at h
  · omega
  · exact absurd h.symm hk
end ZEX
set_option maxHeartbeats 2000000 in
theorem z_ex {X Y : Type} {g : X → Y} {S : Nat → Nat → Int} {M : qM} {L st : List qV} {x : List Nat} {ins : Instr} {call1 : Nat → List qV → Nat → List qV → Option X} {call2 : Nat → List qV → Nat → List qV → Option Y} {nx1 : List qV → List qV → qM → Option X} {nx2 : List qV → List qV → qM → Option Y} {jp1 : Nat → List qV → Option X} {jp2 : Nat → List qV → Option Y} {ret1 : qV → qM → Option X} {ret2 : qV → qM → Option Y} {w : X} (hM : M.1 ≤ 283) (hok : z_ok ins = true)
    (hc : ∀ y as rt r, call1 y as rt r = some w → call2 y as rt r = some (g w)) (hn : ∀ L st M', nx1 L st M' = some w → nx2 L st (ov S M') = some (g w)) (hj : ∀ t st, jp1 t st = some w → jp2 t st = some (g w)) (hr : ∀ v, ret1 v M = some w → ret2 v (ov S M) = some (g w))
    (h : q_ex true call1 nx1 jp1 ret1 none L st M x ins = some w) : q_ex true call2 nx2 jp2 ret2 none L st (ov S M) x ins = some (g w) := by
  cases ins with
  | aload_n i => exact z_qvr (fun _ h => hn _ _ _ h) h
  | iload_n i => exact z_qvi (fun _ h => hn _ _ _ h) h
  | istore i => exact z_qi1 (fun _ _ h => hn _ _ _ h) h
  | istore_n i => exact z_qi1 (fun _ _ h => hn _ _ _ h) h
  | astore_n i => exact z_qr1 (fun _ _ h => hn _ _ _ h) h
  | iconst c => exact hn _ _ _ h
  | bipush c => exact hn _ _ _ h
  | sipush c => exact hn _ _ _ h
  | iinc i c => exact z_qvi (fun _ h => hn _ _ _ h) h
  | goto o => exact hj _ _ h
  | if_icmp c o =>
    cases c
    · exact z_qi2 (fun _ _ _ h => z_ite (fun h => hj _ _ h) (fun h => hn _ _ _ h) h) h
    · exact z_qi2 (fun _ _ _ h => z_ite (fun h => hn _ _ _ h) (fun h => hj _ _ h) h) h
    · exact z_qi2 (fun _ _ _ h => z_ite (fun h => hj _ _ h) (fun h => hn _ _ _ h) h) h
    · exact z_qi2 (fun _ _ _ h => z_ite (fun h => hn _ _ _ h) (fun h => hj _ _ h) h) h
    · exact z_qi2 (fun _ _ _ h => z_ite (fun h => hj _ _ h) (fun h => hn _ _ _ h) h) h
    · exact z_qi2 (fun _ _ _ h => z_ite (fun h => hn _ _ _ h) (fun h => hj _ _ h) h) h
  | getfield i =>
    refine z_qr1 (fun a r h => z_if (fun hk h => ?_) h) h
    have ha := z_kd hM hk (by omega)
    generalize qx x 2 = ty at h ⊢
    rcases ty with _ | _ | _ | ty
    · refine hn _ _ _ ?_
      show nx1 L (vi (mI (ov S M) a (qx x 1)) :: r) M = some w
      rw [ov_mI ha]; exact h
    · exact hn _ _ _ h
    · exact hn _ _ _ h
    · refine hn _ _ _ ?_
      show nx1 L (vi (mI (ov S M) a (qx x 1)) :: r) M = some w
      rw [ov_mI ha]; exact h
  | putfield i =>
    refine z_qrp (fun a v r h => z_if (fun hk h => ?_) h) h
    have ha := z_kd hM hk (by omega)
    generalize qx x 2 = ty at h ⊢
    rcases ty with _ | _ | _ | ty
    · refine z_qvi (fun z h => ?_) h
      rw [ov_sI ha]; exact hn _ _ _ h
    · exact z_qvl (fun z h => hn _ _ (sJ M a (qx x 1) z) h) h
    · exact z_qvr (fun n h => z_if (fun _ h => hn _ _ (sR M a (qx x 1) n) h) h) h
    · refine z_qvi (fun z h => z_if (fun _ h => ?_) h) h
      rw [ov_sI ha]; exact hn _ _ _ h
  | aastore =>
    refine z_qrv (fun a i v r h => z_qvr (fun n h => z_if (fun _ h => z_if (fun _ h => z_if (fun _ h => hn _ _ (sR M a i.toNat n) h) h) h) h) h) h
  | dup => exact z_q1 (fun _ _ h => z_m (fun h => hn _ _ _ h) (fun h => by cases h) h) h
  | new i =>
    refine z_m (fun h => z_nil (fun h => hr _ h) h) (fun h => z_if (fun _ h => ?_) h) h
    rw [ov_new hM]; exact hn _ _ _ h
  | newarray i =>
    refine z_qi1 (fun a r h => z_ifn (fun h => z_if (fun _ h => ?_) h) h) h
    rw [ov_new hM]; exact hn _ _ _ h
  | anewarray i =>
    refine z_qi1 (fun a r h => z_ifn (fun h => z_if (fun _ h => ?_) h) h) h
    rw [ov_new hM]; exact hn _ _ _ h
  | invokespecial i =>
    exact z_m (fun h => z_pop (fun as r h => z_m (fun h => z_hd (fun a h => z_if (fun _ h => hc _ _ _ _ h) h) h) (fun h => by cases h) h) _ _ _ h) (fun h => z_qr1 (fun a r h => z_nil (fun h => z_if (fun _ h => hn _ _ _ h) h) h) h) h
  | return_ => exact z_nil (fun h => hr _ h) h
  | _ => cases hok
/-- a step, with the script over the memory -/
theorem z_stp {X Y : Type} {g : X → Y} {S : Nat → Nat → Int} {M : qM} {f : qF} {t : qE} {call1 : Nat → List qV → Nat → qF → Option X} {call2 : Nat → List qV → Nat → qF → Option Y} {go1 : qF → qM → Option X} {go2 : qF → qM → Option Y} {ret1 : qV → qM → Option X} {ret2 : qV → qM → Option Y} {w : X} (hM : M.1 ≤ 283) (ht : q_code f.1 f.2.1 = some t) (hok : z_ok t.1 = true)
    (hc : ∀ y as rt fr, call1 y as rt fr = some w → call2 y as rt fr = some (g w)) (hg : ∀ f' M', go1 f' M' = some w → go2 f' (ov S M') = some (g w)) (hr : ∀ v, ret1 v M = some w → ret2 v (ov S M) = some (g w))
    (h : q_stp true call1 go1 ret1 none f M = some w) : q_stp true call2 go2 ret2 none f (ov S M) = some (g w) := by
  obtain ⟨ins, len, kf, kj, x⟩ := t
  unfold q_stp at h ⊢
  rw [ht] at h ⊢
  exact z_ex hM hok (fun _ _ _ _ h => hc _ _ _ _ h) (fun _ _ _ h => hg _ _ h) (fun _ _ h => hg _ _ h) hr h
theorem z_bnd {S : Nat → Nat → Int} {rt : Nat} {o1 o2 : Option (qV × qM)} {k1 k2 : qF → qM → Option (qV × qM)} {f : qF} {r : qV × qM} (ho : ∀ v M1, o1 = some (v, M1) → o2 = some (v, ov S M1)) (hk : ∀ f M, k1 f M = some r → k2 f (ov S M) = some (r.1, ov S r.2)) (h : q_bnd rt o1 k1 f = some r) : q_bnd rt o2 k2 f = some (r.1, ov S r.2) := by
  cases o1 with
  | none => rcases rt with _ | _ | _ | rt <;> cases h
  | some v =>
    obtain ⟨v, M1⟩ := v
    rw [ho v M1 rfl]
    rcases rt with _ | _ | _ | rt
    · exact hk _ _ h
    · rcases v with a | a | a | u <;> first | exact hk _ _ h | cases h
    · rcases v with a | a | a | u <;> first | exact hk _ _ h | cases h
    · rcases v with a | a | a | u <;> first | exact hk _ _ h | cases h
/-- runs of constructors alone -/
def q_runS : Nat → qF → qM → Option (qV × qM)
  | 0, _, _ => none
  | n + 1, f, M => match q_code f.1 f.2.1 with
    | none => none
    | some t => match z_ok t.1 && Nat.ble M.1 283 with
      | false => none
      | true => q_stp true (fun y as rt fr => match Nat.beq y q_LED with
        | true => none
        | false => q_bnd rt (q_runS n (q_ent y as) M) (q_runS n) fr) (q_runS n) (fun v M => some (v, M)) none f M
theorem q_runS_ov {S : Nat → Nat → Int} : ∀ (n : Nat) (f : qF) (M : qM) (r : qV × qM), q_runS n f M = some r → q_run true n f (ov S M) = some (r.1, ov S r.2) := by
  intro n
  induction n with
  | zero => intro f M r h; cases h
  | succ n ih =>
    intro f M r h
    unfold q_runS at h
    cases hc : q_code f.1 f.2.1 with
    | none => rw [hc] at h; cases h
    | some t =>
      rw [hc] at h
      cases hz : z_ok t.1 && Nat.ble M.1 283 with
      | false => simp only [hz] at h; cases h
      | true =>
        simp only [hz] at h
        obtain ⟨hz1, hz2⟩ := Bool.and_eq_true_iff.mp hz
        unfold q_run
        refine z_stp (g := fun r => (r.1, ov S r.2)) (Nat.le_of_ble_eq_true hz2) hc hz1 ?_ (fun f' M' h => ih f' M' r h) ?_ h
        · intro y as rt fr h
          cases hb : Nat.beq y q_LED with
          | true => rw [hb] at h; cases h
          | false =>
            rw [hb] at h
            refine z_bnd (o1 := q_runS n (q_ent y as) M) (fun v M1 hv => ?_) (fun f' M' h => ih f' M' r h) h
            unfold q_cal
            rw [hb]
            exact ih _ _ _ hv
        · intro v h
          cases h
          rfl
/-- the law's start -/
def z_pre : Nat → qF → qM → Option (qF × qM)
  | 0, f, M => some (f, M)
  | n + 1, f, M => q_stp true (fun y as rt fr => match rt with
    | 0 => (match Nat.beq y q_LED with
      | true => none
      | false => (match q_run true 600 (q_ent y as) M with
        | some (_, M1) => z_pre n fr M1
        | none => none))
    | _ => none) (z_pre n) (fun _ _ => none) none f M
def z_preS : Nat → qF → qM → Option (qF × qM)
  | 0, f, M => some (f, M)
  | n + 1, f, M => match q_code f.1 f.2.1 with
    | none => none
    | some t => match z_ok t.1 && Nat.ble M.1 283 with
      | false => none
      | true => q_stp true (fun y as rt fr => match rt with
        | 0 => (match Nat.beq y q_LED with
          | true => none
          | false => (match q_runS 600 (q_ent y as) M with
            | some (_, M1) => z_preS n fr M1
            | none => none))
        | _ => none) (z_preS n) (fun _ _ => none) none f M
theorem z_preS_ov {S : Nat → Nat → Int} : ∀ (n : Nat) (f : qF) (M : qM) (r : qF × qM), z_preS n f M = some r → z_pre n f (ov S M) = some (r.1, ov S r.2) := by
  intro n
  induction n with
  | zero =>
    intro f M r h
    cases h
    rfl
  | succ n ih =>
    intro f M r h
    unfold z_preS at h
    cases hc : q_code f.1 f.2.1 with
    | none => rw [hc] at h; cases h
    | some t =>
      rw [hc] at h
      cases hz : z_ok t.1 && Nat.ble M.1 283 with
      | false => simp only [hz] at h; cases h
      | true =>
        simp only [hz] at h
        obtain ⟨hz1, hz2⟩ := Bool.and_eq_true_iff.mp hz
        unfold z_pre
        refine z_stp (g := fun r => (r.1, ov S r.2)) (Nat.le_of_ble_eq_true hz2) hc hz1 ?_ (fun f' M' h => ih f' M' r h) (fun v h => by cases h) h
        intro y as rt fr h
        rcases rt with _ | rt
        · cases hb : Nat.beq y q_LED with
          | true => simp only [hb] at h; cases h
          | false =>
            simp only [hb] at h ⊢
            cases hq : q_runS 600 (q_ent y as) M with
            | none => rw [hq] at h; cases h
            | some v =>
              obtain ⟨v, M1⟩ := v
              rw [hq] at h
              rw [q_runS_ov 600 _ _ _ hq]
              exact ih _ _ _ h
        · cases h
theorem z_pre_nx : ∀ (n : Nat) (f : qF) (M : qM) (r : qF × qM), z_pre n f M = some r → M.1 ≤ r.2.1 := by
  intro n
  induction n with
  | zero =>
    intro f M r h
    cases h
    exact Nat.le_refl _
  | succ n ih =>
    intro f M r h
    unfold z_pre at h
    rcases q_stp_th true f M with ⟨f', M', -, hM, e⟩ | ⟨v, e⟩ | e | ⟨as, rt, fr, t, -, -, -, -, e⟩
    · rw [e] at h
      exact Nat.le_trans hM (ih _ _ _ h)
    · rw [e] at h; cases h
    · rw [e] at h; cases h
    · rw [e] at h
      rcases rt with _ | rt
      · cases hb : Nat.beq (qx t.2.2.2.2 1) q_LED with
        | true => simp only [hb] at h; cases h
        | false =>
          simp only [hb] at h
          cases hq : q_run true 600 (q_ent (qx t.2.2.2.2 1) as) M with
          | none => rw [hq] at h; cases h
          | some v =>
            obtain ⟨v, M1⟩ := v
            rw [hq] at h
            have := q_run_nx _ _ _ _ hq
            exact Nat.le_trans this (ih _ _ _ h)
      · cases h
section ZPRE
variable {p : Program} {l : Launch} {e : Env} {R : Room} {s : State} {m : MethodId} {args : Array Value} {below : List Frame} {meth : Method} {c : Code} {Q : State → Prop} {D : va_G} {cA : Nat → ClassId} {ad0 adV : Nat → Nat} {L : Nat} {xs : Nat → Int32} {A : Nat → Prop}
/-- the law's first steps are the machine's -/
theorem z_preW (hJD : q_HJ l) (hOK : q_OK) (hF : q_Fx p R s m args meth c D cA ad0 adV L xs A q_LAW) {f1 : qF} {M1 : qM} (hR : M1.1 ≤ R.cells ∧ q_cum M1.1 ≤ R.slots) (hW : q_W p l e R s m args below meth c Q D cA ad0 L xs A true q_LAW 0 0 0 f1 M1) :
    ∀ (n : Nat) (f : qF) (M : qM), f.1 = q_LAW → z_pre n f M = some (f1, M1) → q_W p l e R s m args below meth c Q D cA ad0 L xs A true q_LAW 0 0 0 f M := by
  intro n
  induction n with
  | zero =>
    intro f M _ h
    cases h
    exact hW
  | succ n ih =>
    intro f M hf h
    have hle := z_pre_nx _ _ _ _ h
    simp only at hle
    have hcl := q_cum_le hle
    obtain ⟨y', pc, Lc, st⟩ := f
    simp only at hf
    subst hf
    unfold z_pre at h
    have hP : q_stp true (fun y2 as rt fr => y2 ≠ q_LED ∧ y2 ≠ q_XLED ∧ y2 ≠ q_LAW ∧ rt = 0 ∧ fr.1 = q_LAW ∧ ∃ v M2, q_run true 600 (q_ent y2 as) M = some (v, M2) ∧ z_pre n fr M2 = some (f1, M1)) (fun f' M' => f'.1 = q_LAW ∧ z_pre n f' M' = some (f1, M1)) (fun _ _ => False) False (q_LAW, pc, Lc, st) M := by
      rcases q_stp_th true (q_LAW, pc, Lc, st) M with ⟨f', M', h1, hM', e⟩ | ⟨v', e⟩ | e | ⟨as, rt, fr, t, h1, h2, h3, h4, e⟩
      · rw [e] at h ⊢; exact ⟨h1, h⟩
      · rw [e] at h; cases h
      · rw [e] at h; cases h
      · rw [e] at h ⊢
        obtain ⟨g1, g2, g3⟩ := hOK.2 _ _ _ h2 h3 h4
        rcases rt with _ | rt
        · cases hb : Nat.beq (qx t.2.2.2.2 1) q_LED with
          | true => simp only [hb] at h; cases h
          | false =>
            simp only [hb] at h
            cases hq : q_run true 600 (q_ent (qx t.2.2.2.2 1) as) M with
            | none => rw [hq] at h; cases h
            | some v =>
              obtain ⟨v, M2⟩ := v
              rw [hq] at h
              exact ⟨fun z => by rw [z] at hb; exact absurd hb (by decide), g1, g2, rfl, h1, v, M2, rfl, h⟩
        · cases h
    refine q_step hF (hOK.1 q_LAW) hJD (Nat.zero_le _) ?_ ?_ ?_ ?_ ?_ hP
    · exact ⟨by omega, by show 0 + (q_cum M.1 - 0) ≤ R.slots; omega⟩
    · intro f' M' hg hf'
      exact ih f' M' hg.1 hg.2
    · intro f' M' hg hM'
      have h1 := z_pre_nx _ _ _ _ hg.2
      simp only at h1
      have h2 := q_cum_le h1
      exact ⟨by omega, by show 0 + (q_cum M'.1 - 0) ≤ R.slots; omega⟩
    · intro y2 as rt fr hg
      obtain ⟨g1, g2, g3, g4, g5, v, M2, h1, h2⟩ := hg
      exact ⟨g1, v, M2, q_met hJD hOK 600 y2 as M v M2 h1 g2 g3 g1, fun _ => ⟨g5, h2⟩, fun z => absurd g4 z⟩
    · intro v ins hg _ _
      exact hg.elim
end ZPRE
/-! the run itself -/
def z_f0 : qF := (303, 0, [vr 999, vu, vu, vu, vu, vu, vu], [])
def z_f1 : qF := (303, 23, [vr 999, vr 1, vr 265, vr 283, vi 0, vu, vu], [])
def z_M0 : qM := (0, fun _ _ => 0, fun _ _ => 0, fun _ _ => 0)
def z_end : Option (qF × qM) := z_preS 13 z_f0 z_M0
def cM : qM := match z_end with
  | some r => r.2
  | none => z_M0
def z_veq : qV → qV → Bool
  | .inl a, .inl b => decide (a = b)
  | .inr (.inl a), .inr (.inl b) => decide (a = b)
  | .inr (.inr (.inl a)), .inr (.inr (.inl b)) => decide (a = b)
  | .inr (.inr (.inr _)), .inr (.inr (.inr _)) => true
  | _, _ => false
theorem z_veq_t {a b : qV} (h : z_veq a b = true) : a = b := by
  rcases a with a | a | a | a
  · rcases b with b | b | b | b
    · exact congrArg Sum.inl (of_decide_eq_true h)
    · cases h
    · cases h
    · cases h
  · rcases b with b | b | b | b
    · cases h
    · exact congrArg (fun z => Sum.inr (Sum.inl z)) (of_decide_eq_true h)
    · cases h
    · cases h
  · rcases b with b | b | b | b
    · cases h
    · cases h
    · exact congrArg (fun z => Sum.inr (Sum.inr (Sum.inl z))) (of_decide_eq_true h)
    · cases h
  · rcases b with b | b | b | b
    · cases h
    · cases h
    · cases h
    · rfl
def z_leq : List qV → List qV → Bool
  | [], [] => true
  | a :: r, b :: q => z_veq a b && z_leq r q
  | _, _ => false
theorem z_leq_t : ∀ {a b : List qV}, z_leq a b = true → a = b
  | [], [], _ => rfl
  | a :: r, b :: q, h => by
    obtain ⟨h1, h2⟩ := Bool.and_eq_true_iff.mp (show (z_veq a b && z_leq r q) = true from h)
    rw [z_veq_t h1, z_leq_t h2]
  | [], _ :: _, h => by cases h
  | _ :: _, [], h => by cases h
def z_feq (f g : qF) : Bool := decide (f.1 = g.1) && (decide (f.2.1 = g.2.1) && (z_leq f.2.2.1 g.2.2.1 && z_leq f.2.2.2 g.2.2.2))
theorem z_feq_t {f g : qF} (h : z_feq f g = true) : f = g := by
  obtain ⟨f1, f2, f3, f4⟩ := f
  obtain ⟨g1, g2, g3, g4⟩ := g
  obtain ⟨h1, h2⟩ := Bool.and_eq_true_iff.mp h
  obtain ⟨h2, h3⟩ := Bool.and_eq_true_iff.mp h2
  obtain ⟨h3, h4⟩ := Bool.and_eq_true_iff.mp h3
  have e1 : f1 = g1 := of_decide_eq_true h1
  have e2 : f2 = g2 := of_decide_eq_true h2
  have e3 : f3 = g3 := z_leq_t h3
  have e4 : f4 = g4 := z_leq_t h4
  rw [e1, e2, e3, e4]
def z_fok : Bool := match z_end with
  | some r => z_feq r.1 z_f1
  | none => false
set_option maxRecDepth 1000000 in
theorem z_fok_t : z_fok = true := by decide +kernel
theorem z_end_eq : z_preS 13 z_f0 z_M0 = some (z_f1, cM) := by
  have h := z_fok_t
  unfold z_fok at h
  unfold cM
  show z_end = _
  cases hz : z_end with
  | none => rw [hz] at h; cases h
  | some r =>
    rw [hz] at h
    simp only at h ⊢
    rw [← z_feq_t h]

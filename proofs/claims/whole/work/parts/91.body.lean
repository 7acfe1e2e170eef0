/-! RUNS OF THE ABSTRACT MACHINE ARE RUNS OF THE MACHINE -/
def q_LAW : Nat := 303
theorem q_bnd_some {rt : Nat} {o : Option (qV × qM)} {k : qF → qM → Option (qV × qM)} {f : qF} {r : qV × qM} (h : q_bnd rt o k f = some r) : ∃ v M1, o = some (v, M1) ∧ (rt = 0 → k f M1 = some r) ∧ (rt ≠ 0 → k (q_psh v f) M1 = some r) := by
  cases o with
  | none => rcases rt with _ | _ | _ | rt <;> cases h
  | some v =>
    obtain ⟨v, M1⟩ := v
    refine ⟨v, M1, rfl, ?_⟩
    rcases rt with _ | _ | _ | rt
    · exact ⟨fun _ => h, fun q => absurd rfl q⟩
    · rcases v with a | a | a | u
      · exact ⟨fun q => (by cases q), fun _ => h⟩
      all_goals cases h
    · rcases v with a | a | a | u
      · cases h
      · exact ⟨fun q => (by cases q), fun _ => h⟩
      all_goals cases h
    · rcases v with a | a | a | u
      · cases h
      · cases h
      · exact ⟨fun q => (by cases q), fun _ => h⟩
      · cases h
theorem q_ledr_nx {o : Option (qV × qM)} {as : List qV} {r : qV × qM} (h : q_ledr o as = some r) : ∃ v M1, o = some (v, M1) ∧ M1.1 = r.2.1 := by
  unfold q_ledr at h
  split at h
  · split at h
    · cases h; exact ⟨_, _, rfl, rfl⟩
    · cases h; exact ⟨_, _, rfl, rfl⟩
    · cases h
  · cases h
theorem q_run_nx {ph : Bool} : ∀ (n : Nat) (f : qF) (M : qM) (r : qV × qM), q_run ph n f M = some r → M.1 ≤ r.2.1
  | 0, _, _, _, h => by cases h
  | n + 1, f, M, r, h => by
    have hc : ∀ (y : Nat) (as : List qV) (v : qV) (M1 : qM), q_cal (q_run ph n) y as M = some (v, M1) → M.1 ≤ M1.1 := by
      intro y as v M1 h
      unfold q_cal at h
      split at h
      · obtain ⟨v2, M2, h1, h2⟩ := q_ledr_nx h
        rw [← h2]
        exact q_run_nx n _ _ _ h1
      · exact q_run_nx n _ _ _ h
    unfold q_run at h
    rcases q_stp_th ph f M with ⟨f', M', -, hM, e⟩ | ⟨v, e⟩ | e | ⟨as, rt, fr, t, -, -, -, -, e⟩
    · rw [e] at h
      exact Nat.le_trans hM (q_run_nx n _ _ _ h)
    · rw [e] at h
      cases h
      exact Nat.le_refl _
    · rw [e] at h; cases h
    · rw [e] at h
      obtain ⟨v, M1, h1, h2, h3⟩ := q_bnd_some h
      by_cases hz : rt = 0
      · exact Nat.le_trans (hc _ _ _ _ h1) (q_run_nx n _ _ _ (h2 hz))
      · exact Nat.le_trans (hc _ _ _ _ h1) (q_run_nx n _ _ _ (h3 hz))
/-- no method asks the thrower but the law's own way; who that is -/
def q_nox (y : Nat) : Nat → Bool
  | 0 => true
  | n + 1 => (match q_code y n with
    | none => true
    | some t => !(q_isinv t.1 && decide (qx t.2.2.2.2 0 = 0)) || (decide (qx t.2.2.2.2 1 ≠ q_XLED) && decide (qx t.2.2.2.2 1 ≠ q_LAW) && (decide (qx t.2.2.2.2 1 ≠ q_LED) || decide (y = q_LAW)))) && q_nox y n
/-- what the checks of the tables give together -/
def q_OK : Prop := (∀ y pc t, q_code y pc = some t → q_chk y pc t = true) ∧ ∀ y pc t, q_code y pc = some t → q_isinv t.1 = true → qx t.2.2.2.2 0 = 0 → qx t.2.2.2.2 1 ≠ q_XLED ∧ qx t.2.2.2.2 1 ≠ q_LAW ∧ (qx t.2.2.2.2 1 = q_LED → y = q_LAW)
section QBODY
variable {p : Program} {l : Launch} {e : Env} {R : Room} {s : State} {m : MethodId} {args : Array Value} {below : List Frame} {meth : Method} {c : Code} {D : va_G} {cA : Nat → ClassId} {ad0 adV : Nat → Nat} {L : Nat} {xs : Nat → Int32} {A : Nat → Prop}
/-- a method's end -/
def q_Qc (D : va_G) (cA : Nat → ClassId) (ad0 : Nat → Nat) (L : Nat) (xs : Nat → Int32) (A : Nat → Prop) (ph : Bool) (y n0 : Nat) (v : qV) (M1 : qM) : Array Value → State → Outcome → State → Prop := fun _ st o t => ∃ ad' : Nat → Nat, (∀ n, n ≤ n0 ∨ 999 ≤ n → ad' n = ad0 n) ∧ o = .returned (q_rv (q_rt y) (q_cv ad' v)) ∧ q_vok M1.1 v ∧ q_Wd D cA ad' L xs A ph M1 t t.heap ∧ va_F A st t
theorem q_ret {ph : Bool} {y n0 kc ks pc : Nat} {M : qM} {Lc st : List qV} {v : qV} {ins : Instr} (hF : q_Fx p R s m args meth c D cA ad0 adV L xs A y) (hr : meth.sig.returnType = q_rt y) (hlocks : meth.locks = false) (hx : y ≠ q_XLED) (hd : decode (q_by y) pc = .ok (ins, q_len ins 0)) (hok : q_rok y ins st v) :
    q_W p l e R s m args below meth c (MQ below (q_Qc D cA ad0 L xs A ph y n0 v M) args s (kc + (M.1 - n0)) (ks + (q_cum M.1 - q_cum n0)) A) D cA ad0 L xs A ph y n0 kc ks (y, pc, Lc, st) M := by
  obtain ⟨hxx, hb, hml, hown, hts, hrf, hrl, hnm, hSt, hA⟩ := hF
  intro ad H locs ls had hL hst hWd hS hn0
  have fin : ∀ (vv : Option Value), vv = q_rv (q_rt y) (q_cv ad v) → q_vok M.1 v → ∀ t : State, t.heap = H → s.WarmedH t.vm → q_Qc D cA ad0 L xs A ph y n0 v M args s (.returned vv) t := fun vv hvv hv t ht hW => ⟨ad, had, by rw [hvv], hv, by rw [ht]; exact q_Wd_vm hWd hW.alike, hS.F ht⟩
  rcases hok with ⟨rfl, z, rfl, rfl, hty⟩ | ⟨rfl, z, rfl, rfl, hty⟩ | ⟨rfl, n, C, rfl, rfl, hty⟩ | ⟨rfl, rfl, rfl, hty⟩ | ⟨hy, -⟩
  · have hv := hst _ List.mem_cons_self
    rcases hty with hty | ⟨hty, hz⟩
    · exact W.iret hxx hb (hr.trans hty) (fin _ (by rw [hty]; rfl) hv) hS.2.2 hd hlocks
    · exact W.zret hxx hb (hr.trans hty) (by rcases hz with rfl | rfl <;> rfl) (fin _ (by rw [hty]; rfl) hv) hS.2.2 hd hlocks
  · have hv := hst _ List.mem_cons_self
    exact W.lret hxx hb (hr.trans hty) (fin _ (by rw [hty]; rfl) hv) hS.2.2 hd hlocks
  · have hv := hst _ List.mem_cons_self
    refine W.aret hxx hb (hr.trans hty) (Or.inl ⟨C, rfl⟩) ?_ (fin _ (by rw [hty]; rfl) hv) hS.2.2 hd hlocks
    show q_cv ad (vr n) = .null ∨ _
    by_cases h0 : n = 0
    · exact Or.inl (by rw [h0]; rfl)
    · exact Or.inr ⟨ad n, q_cv_ref (by omega)⟩
  · exact W.vret hxx hb (hr.trans hty) (fin _ (by rw [hty]; rfl) trivial) hS.2.2 hd hlocks
  · exact absurd hy hx
/-- A METHOD'S BODY, for all steps that its run takes -/
theorem q_body (hJD : q_HJ l) (hOK : q_OK) {ph : Bool} {y n0 : Nat} {v : qV} {M1 : qM} (hF : q_Fx p R s m args meth c D cA ad0 adV L xs A y) (hr : meth.sig.returnType = q_rt y) (hlocks : meth.locks = false) (hx : y ≠ q_XLED) (hlaw : y ≠ q_LAW) (hRc : M1.1 - n0 ≤ R.cells) (hRs : q_cum M1.1 - q_cum n0 ≤ R.slots) :
    ∀ (n : Nat), (∀ (k : Nat), k < n → ∀ (y' : Nat) (as : List qV) (M : qM) (v' : qV) (M1' : qM), q_run ph k (q_ent y' as) M = some (v', M1') → y' ≠ q_XLED → y' ≠ q_LAW → y' ≠ q_LED → q_Met l ph y' as M v' M1') → ∀ (f : qF) (M : qM), f.1 = y → n0 ≤ M.1 → q_run ph n f M = some (v, M1) → q_W p l e R s m args below meth c (MQ below (q_Qc D cA ad0 L xs A ph y n0 v M1) args s (0 + (M1.1 - n0)) (0 + (q_cum M1.1 - q_cum n0)) A) D cA ad0 L xs A ph y n0 0 0 f M := by
  intro n
  induction n with
  | zero => intro _ f M _ _ h; cases h
  | succ n ih =>
    intro hcal f M hy hn0 h
    have ih' := ih (fun k hk => hcal k (Nat.lt_succ_of_lt hk))
    have hle := q_run_nx _ _ _ _ h
    simp only at hle
    obtain ⟨y', pc, Lc, st⟩ := f
    simp only at hy
    subst hy
    have hrun := h
    unfold q_run at h
    -- the step, as a claim
    have hcl : ∀ (y2 : Nat) (as : List qV) (rt : Nat) (fr : qF), q_bnd rt (q_cal (q_run ph n) y2 as M) (q_run ph n) fr = some (v, M1) → ∃ v2 M2, q_cal (q_run ph n) y2 as M = some (v2, M2) ∧ (rt = 0 → q_run ph n fr M2 = some (v, M1)) ∧ (rt ≠ 0 → q_run ph n (q_psh v2 fr) M2 = some (v, M1)) := fun _ _ _ _ h => q_bnd_some h
    have hP : q_stp ph (fun y2 as rt fr => (q_bnd rt (q_cal (q_run ph n) y2 as M) (q_run ph n) fr = some (v, M1)) ∧ fr.1 = y' ∧ y2 ≠ q_XLED ∧ y2 ≠ q_LAW ∧ y2 ≠ q_LED) (fun f' M' => q_run ph n f' M' = some (v, M1)) (fun v' M' => (v', M') = (v, M1) ∧ M' = M) False (y', pc, Lc, st) M := by
      rcases q_stp_th ph (y', pc, Lc, st) M with ⟨f', M', h1, hM, e⟩ | ⟨v', e⟩ | e | ⟨as, rt, fr, t, h1, h2, h3, h4, e⟩
      · rw [e] at h ⊢; exact h
      · rw [e] at h ⊢; exact ⟨Option.some.inj h, rfl⟩
      · rw [e] at h; cases h
      · rw [e] at h ⊢
        obtain ⟨g1, g2, g3⟩ := hOK.2 _ _ _ h2 h3 h4
        exact ⟨h, h1, g1, g2, fun q => hlaw (g3 q)⟩
    refine q_step hF (hOK.1 y') hJD hn0 ?_ ?_ ?_ ?_ ?_ hP
    · have := q_cum_le hle
      exact ⟨by omega, by omega⟩
    · intro f' M' hg hf'
      intro ad H locs ls had hL hst hWd hS hn0'
      exact ih' f' M' hf' hn0' hg ad H locs ls had hL hst hWd hS hn0'
    · intro f' M' hg hM
      have h1 := q_run_nx _ _ _ _ hg
      simp only at h1
      have h2 := q_cum_le h1
      exact ⟨by omega, by omega⟩
    · intro y2 as rt fr hg
      obtain ⟨hg, hfr, g1, g2, g3⟩ := hg
      refine ⟨g3, ?_⟩
      obtain ⟨v2, M2, h1, h2, h3⟩ := q_bnd_some hg
      have h4 : q_run ph n (q_ent y2 as) M = some (v2, M2) := by
        unfold q_cal at h1
        have hb : Nat.beq y2 q_LED = false := by
          cases hb : Nat.beq y2 q_LED with
          | false => rfl
          | true => exact absurd (Nat.eq_of_beq_eq_true hb) g3
        rw [hb] at h1
        exact h1
      exact ⟨v2, M2, hcal n (Nat.lt_succ_self n) _ _ _ _ _ h4 g1 g2 g3, h2, h3⟩
    · intro v' ins hg hd hrk
      obtain ⟨hg, hMM⟩ := hg
      have e1 : v' = v := congrArg Prod.fst hg
      have e2 : M = M1 := by rw [← hMM]; exact congrArg Prod.snd hg
      subst e1
      have := q_ret (p := p) (l := l) (e := e) (R := R) (below := below) (ph := ph) (n0 := n0) (kc := 0) (ks := 0) (M := M) (Lc := Lc) hF hr hlocks hx hd hrk
      rw [e2] at this ⊢
      exact this
end QBODY

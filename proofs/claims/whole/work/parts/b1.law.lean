/-! THE LAW'S OWN STEPS, from cut to cut -/
def q_itW (l : Launch) (WW : qF → qM → Prop) (RT : qV → Prop) : Nat → List Nat → qF → qM → Prop
  | 0, _, f, M => WW f M
  | n + 1, C, f, M => match qmem f.2.1 C with
    | true => WW f M
    | false => q_stp false (fun y2 as rt fr => y2 ≠ q_LED ∧ ∃ v M1, q_Met l false y2 as M v M1 ∧ M1.1 = M.1 ∧ (rt = 0 → q_itW l WW RT n C fr M1) ∧ (rt ≠ 0 → q_itW l WW RT n C (q_psh v fr) M1)) (q_itW l WW RT n C) (fun v _ => RT v) False f M
section QLAW
variable {p : Program} {l : Launch} {e : Env} {R : Room} {s : State} {m : MethodId} {args : Array Value} {below : List Frame} {meth : Method} {c : Code} {Q : State → Prop} {D : va_G} {cA : Nat → ClassId} {ad0 adV : Nat → Nat} {L : Nat} {xs : Nat → Int32} {A : Nat → Prop}
/-- one step of the law, with what comes behind it -/
theorem q_stepW (hJD : q_HJ l) (hOK : q_OK) {kc ks n0 : Nat} (hF : q_Fx p R s m args meth c D cA ad0 adV L xs A q_LAW) (hn0 : n0 ≤ q_NX) (hcr : kc + (q_NX - n0) ≤ R.cells ∧ ks + (q_cum q_NX - q_cum n0) ≤ R.slots) {RT : qV → Prop}
    (hret : ∀ (v : qV) (M : qM) (pc : Nat) (Lc st : List qV) (ins : Instr), RT v → decode (q_by q_LAW) pc = .ok (ins, q_len ins 0) → q_rok q_LAW ins st v → M.1 = q_NX → q_W p l e R s m args below meth c Q D cA ad0 L xs A false q_LAW n0 kc ks (q_LAW, pc, Lc, st) M)
    {G : qF → qM → Prop} (hG : ∀ f M, f.1 = q_LAW → M.1 = q_NX → G f M → q_W p l e R s m args below meth c Q D cA ad0 L xs A false q_LAW n0 kc ks f M)
    {f : qF} {M : qM} (hf : f.1 = q_LAW) (hM : M.1 = q_NX) (h : q_stp false (fun y2 as rt fr => y2 ≠ q_LED ∧ ∃ v M1, q_Met l false y2 as M v M1 ∧ M1.1 = M.1 ∧ (rt = 0 → G fr M1) ∧ (rt ≠ 0 → G (q_psh v fr) M1)) G (fun v _ => RT v) False f M) :
    q_W p l e R s m args below meth c Q D cA ad0 L xs A false q_LAW n0 kc ks f M := by
  obtain ⟨y, pc, Lc, st⟩ := f
  simp only at hf
  subst hf
  have h2 : q_stp false (fun y2 as rt fr => fr.1 = q_LAW ∧ y2 ≠ q_LED ∧ ∃ v M1, q_Met l false y2 as M v M1 ∧ M1.1 = M.1 ∧ (rt = 0 → G fr M1) ∧ (rt ≠ 0 → G (q_psh v fr) M1)) (fun f' M' => f'.1 = q_LAW ∧ M'.1 = M.1 ∧ G f' M') (fun v M' => M' = M ∧ RT v) False (q_LAW, pc, Lc, st) M := by
    rcases q_stp_tf (q_LAW, pc, Lc, st) M with ⟨f', M', h1, hM', e⟩ | ⟨v', e⟩ | e | ⟨as, rt, fr, t, h1, -, -, -, e⟩
    · rw [e] at h ⊢; exact ⟨h1, hM', h⟩
    · rw [e] at h ⊢; exact ⟨rfl, h⟩
    · rw [e] at h; exact h.elim
    · rw [e] at h ⊢; exact ⟨h1, h⟩
  refine q_step hF (hOK.1 q_LAW) hJD (by rw [hM]; exact hn0) (by rw [hM]; exact hcr) ?_ ?_ ?_ ?_ (call := fun y2 as rt fr => fr.1 = q_LAW ∧ y2 ≠ q_LED ∧ ∃ v M1, q_Met l false y2 as M v M1 ∧ M1.1 = M.1 ∧ (rt = 0 → G fr M1) ∧ (rt ≠ 0 → G (q_psh v fr) M1)) (go := fun f' M' => f'.1 = q_LAW ∧ M'.1 = M.1 ∧ G f' M') (ret := fun v M' => M' = M ∧ RT v) h2
  · intro f' M' hg hf'
    exact hG f' M' hf' (hg.2.1.trans hM) hg.2.2
  · intro f' M' hg _
    rw [hg.2.1, hM]; exact hcr
  · intro y' as rt fr hg
    obtain ⟨h1, h3, v, M1, h4, h5, h6, h7⟩ := hg
    exact ⟨h3, v, M1, h4, fun z => ⟨h1, h5, h6 z⟩, fun z => ⟨h1, h5, h7 z⟩⟩
  · intro v ins hg hd hrk
    exact hret v M pc Lc st ins hg.2 hd hrk hM
theorem q_itW_of (hJD : q_HJ l) (hOK : q_OK) {kc ks n0 : Nat} (hF : q_Fx p R s m args meth c D cA ad0 adV L xs A q_LAW) (hn0 : n0 ≤ q_NX) (hcr : kc + (q_NX - n0) ≤ R.cells ∧ ks + (q_cum q_NX - q_cum n0) ≤ R.slots) {RT : qV → Prop}
    (hret : ∀ (v : qV) (M : qM) (pc : Nat) (Lc st : List qV) (ins : Instr), RT v → decode (q_by q_LAW) pc = .ok (ins, q_len ins 0) → q_rok q_LAW ins st v → M.1 = q_NX → q_W p l e R s m args below meth c Q D cA ad0 L xs A false q_LAW n0 kc ks (q_LAW, pc, Lc, st) M) :
    ∀ (n : Nat) (C : List Nat) (f : qF) (M : qM), f.1 = q_LAW → M.1 = q_NX → q_itW l (q_W p l e R s m args below meth c Q D cA ad0 L xs A false q_LAW n0 kc ks) RT n C f M → q_W p l e R s m args below meth c Q D cA ad0 L xs A false q_LAW n0 kc ks f M := by
  intro n
  induction n with
  | zero => intro C f M _ _ h; exact h
  | succ n ih =>
    intro C f M hf hM h
    unfold q_itW at h
    cases hq : qmem f.2.1 C with
    | true => rw [hq] at h; exact h
    | false =>
      rw [hq] at h
      exact q_stepW hJD hOK hF hn0 hcr hret (fun f' M' h1 h2 h3 => ih C f' M' h1 h2 h3) hf hM h
/-- a call's contract out of what the abstract machine answers -/
theorem q_MetE (hJD : q_HJ l) (hOK : q_OK) {y : Nat} {as : List qV} {M : qM} {v : qV} {M1 : qM} (h : q_E (q_ent y as) M = some (v, M1)) (h1 : y ≠ q_XLED) (h2 : y ≠ q_LAW) (h3 : y ≠ q_LED) : q_Met l false y as M v M1 := by
  obtain ⟨n, hn⟩ := q_E_iff.mp h
  exact q_met hJD hOK n y as M v M1 hn h1 h2 h3
end QLAW

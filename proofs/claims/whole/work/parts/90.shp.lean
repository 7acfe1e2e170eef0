/-! SHAPES ONCE MORE, with what a step leaves of the memory's size, and whom it asks -/
def qTh (M0 : qM) (x0 : List Nat) (b0 : Bool) (F : qT) : Prop :=
  (∃ L st M, M0.1 ≤ M.1 ∧ ∀ α call nx jp ret bad, F α call nx jp ret bad = nx L st M) ∨ (∃ t st, ∀ α call nx jp ret bad, F α call nx jp ret bad = jp t st) ∨ (∃ v, ∀ α call nx jp ret bad, F α call nx jp ret bad = ret v M0) ∨ (∀ α call nx jp ret bad, F α call nx jp ret bad = bad) ∨ (∃ as rt r, b0 = true ∧ qx x0 0 = 0 ∧ ∀ α call nx jp ret bad, F α call nx jp ret bad = call (qx x0 1) as rt r)
theorem qTh_nx {M0 : qM} {x0 : List Nat} {b0 : Bool} {L st : List qV} {M : qM} (hM : M0.1 ≤ M.1) : qTh M0 x0 b0 (fun _ _ nx _ _ _ => nx L st M) := Or.inl ⟨L, st, M, hM, fun _ _ _ _ _ _ => rfl⟩
theorem qTh_jp {M0 : qM} {x0 : List Nat} {b0 : Bool} {t : Nat} {st : List qV} : qTh M0 x0 b0 (fun _ _ _ jp _ _ => jp t st) := Or.inr (Or.inl ⟨t, st, fun _ _ _ _ _ _ => rfl⟩)
theorem qTh_ret {M0 : qM} {x0 : List Nat} {b0 : Bool} {v : qV} : qTh M0 x0 b0 (fun _ _ _ _ ret _ => ret v M0) := Or.inr (Or.inr (Or.inl ⟨v, fun _ _ _ _ _ _ => rfl⟩))
theorem qTh_bad {M0 : qM} {x0 : List Nat} {b0 : Bool} : qTh M0 x0 b0 (fun _ _ _ _ _ bad => bad) := Or.inr (Or.inr (Or.inr (Or.inl fun _ _ _ _ _ _ => rfl)))
theorem qTh_call {M0 : qM} {x0 : List Nat} {b0 : Bool} {rt : Nat} {as r : List qV} (hb : b0 = true) (hz : qx x0 0 = 0) : qTh M0 x0 b0 (fun _ call _ _ _ _ => call (qx x0 1) as rt r) := Or.inr (Or.inr (Or.inr (Or.inr ⟨as, rt, r, hb, hz, fun _ _ _ _ _ _ => rfl⟩)))
theorem qTh_eq {M0 : qM} {x0 : List Nat} {b0 : Bool} {F G : qT} (h : ∀ α call nx jp ret bad, F α call nx jp ret bad = G α call nx jp ret bad) (hG : qTh M0 x0 b0 G) : qTh M0 x0 b0 F := by
  have e : F = G := by
    funext α call nx jp ret bad
    exact h α call nx jp ret bad
  rw [e]; exact hG
theorem qTh_ite {M0 : qM} {x0 : List Nat} {b0 : Bool} {c : Prop} [Decidable c] {F G : qT} (hF : c → qTh M0 x0 b0 F) (hG : ¬ c → qTh M0 x0 b0 G) : qTh M0 x0 b0 (fun α call nx jp ret bad => if c then F α call nx jp ret bad else G α call nx jp ret bad) := by
  by_cases h : c
  · exact qTh_eq (fun _ _ _ _ _ _ => if_pos h) (hF h)
  · exact qTh_eq (fun _ _ _ _ _ _ => if_neg h) (hG h)
theorem qTh_qi1 {M0 : qM} {x0 : List Nat} {b0 : Bool} {st : List qV} {K : Int → List qV → qT} (h : ∀ a r, qTh M0 x0 b0 (K a r)) : qTh M0 x0 b0 (fun α call nx jp ret bad => qi1 st bad (fun a r => K a r α call nx jp ret bad)) := by
  rcases st with _ | ⟨a | v, r⟩ <;> first | exact qTh_bad | exact h _ _
theorem qTh_qi2 {M0 : qM} {x0 : List Nat} {b0 : Bool} {st : List qV} {K : Int → Int → List qV → qT} (h : ∀ a b r, qTh M0 x0 b0 (K a b r)) : qTh M0 x0 b0 (fun α call nx jp ret bad => qi2 st bad (fun a b r => K a b r α call nx jp ret bad)) := by
  rcases st with _ | ⟨b | v, _ | ⟨a | w, r⟩⟩ <;> first | exact qTh_bad | exact h _ _ _
theorem qTh_ql1 {M0 : qM} {x0 : List Nat} {b0 : Bool} {st : List qV} {K : Int → List qV → qT} (h : ∀ a r, qTh M0 x0 b0 (K a r)) : qTh M0 x0 b0 (fun α call nx jp ret bad => ql1 st bad (fun a r => K a r α call nx jp ret bad)) := by
  rcases st with _ | ⟨a | a | v, r⟩ <;> first | exact qTh_bad | exact h _ _
theorem qTh_ql2 {M0 : qM} {x0 : List Nat} {b0 : Bool} {st : List qV} {K : Int → Int → List qV → qT} (h : ∀ a b r, qTh M0 x0 b0 (K a b r)) : qTh M0 x0 b0 (fun α call nx jp ret bad => ql2 st bad (fun a b r => K a b r α call nx jp ret bad)) := by
  rcases st with _ | ⟨b | b | v, _ | ⟨a | a | w, r⟩⟩ <;> first | exact qTh_bad | exact h _ _ _
theorem qTh_qr1 {M0 : qM} {x0 : List Nat} {b0 : Bool} {st : List qV} {K : Nat → List qV → qT} (h : ∀ a r, qTh M0 x0 b0 (K a r)) : qTh M0 x0 b0 (fun α call nx jp ret bad => qr1 st bad (fun a r => K a r α call nx jp ret bad)) := by
  rcases st with _ | ⟨a | a | a | v, r⟩ <;> first | exact qTh_bad | exact h _ _
theorem qTh_qri {M0 : qM} {x0 : List Nat} {b0 : Bool} {st : List qV} {K : Nat → Int → List qV → qT} (h : ∀ a i r, qTh M0 x0 b0 (K a i r)) : qTh M0 x0 b0 (fun α call nx jp ret bad => qri st bad (fun a i r => K a i r α call nx jp ret bad)) := by
  rcases st with _ | ⟨b | v, _ | ⟨a | a | a | w, r⟩⟩ <;> first | exact qTh_bad | exact h _ _ _
theorem qTh_qrv {M0 : qM} {x0 : List Nat} {b0 : Bool} {st : List qV} {K : Nat → Int → qV → List qV → qT} (h : ∀ a i v r, qTh M0 x0 b0 (K a i v r)) : qTh M0 x0 b0 (fun α call nx jp ret bad => qrv st bad (fun a i v r => K a i v r α call nx jp ret bad)) := by
  rcases st with _ | ⟨v, _ | ⟨b | w, _ | ⟨a | a | a | w, r⟩⟩⟩ <;> first | exact qTh_bad | exact h _ _ _ _
theorem qTh_qrp {M0 : qM} {x0 : List Nat} {b0 : Bool} {st : List qV} {K : Nat → qV → List qV → qT} (h : ∀ a v r, qTh M0 x0 b0 (K a v r)) : qTh M0 x0 b0 (fun α call nx jp ret bad => qrp st bad (fun a v r => K a v r α call nx jp ret bad)) := by
  rcases st with _ | ⟨v, _ | ⟨a | a | a | w, r⟩⟩ <;> first | exact qTh_bad | exact h _ _ _
theorem qTh_q_1 {M0 : qM} {x0 : List Nat} {b0 : Bool} {st : List qV} {K : qV → List qV → qT} (h : ∀ v r, qTh M0 x0 b0 (K v r)) : qTh M0 x0 b0 (fun α call nx jp ret bad => q_1 st bad (fun v r => K v r α call nx jp ret bad)) := by
  rcases st with _ | ⟨v, r⟩ <;> first | exact qTh_bad | exact h _ _
theorem qTh_qvi {M0 : qM} {x0 : List Nat} {b0 : Bool} {v : qV} {K : Int → qT} (h : ∀ a, qTh M0 x0 b0 (K a)) : qTh M0 x0 b0 (fun α call nx jp ret bad => qvi v bad (fun a => K a α call nx jp ret bad)) := by
  rcases v with a | a | a | u <;> first | exact qTh_bad | exact h _
theorem qTh_qvl {M0 : qM} {x0 : List Nat} {b0 : Bool} {v : qV} {K : Int → qT} (h : ∀ a, qTh M0 x0 b0 (K a)) : qTh M0 x0 b0 (fun α call nx jp ret bad => qvl v bad (fun a => K a α call nx jp ret bad)) := by
  rcases v with a | a | a | u <;> first | exact qTh_bad | exact h _
theorem qTh_qvr {M0 : qM} {x0 : List Nat} {b0 : Bool} {v : qV} {K : Nat → qT} (h : ∀ a, qTh M0 x0 b0 (K a)) : qTh M0 x0 b0 (fun α call nx jp ret bad => qvr v bad (fun a => K a α call nx jp ret bad)) := by
  rcases v with a | a | a | u <;> first | exact qTh_bad | exact h _
theorem qTh_qhd {M0 : qM} {x0 : List Nat} {b0 : Bool} {as : List qV} {K : Nat → qT} (h : ∀ a, qTh M0 x0 b0 (K a)) : qTh M0 x0 b0 (fun α call nx jp ret bad => qhd as bad (fun a => K a α call nx jp ret bad)) := by
  rcases as with _ | ⟨a | a | a | u, r⟩ <;> first | exact qTh_bad | exact h _
theorem qTh_nil {M0 : qM} {x0 : List Nat} {b0 : Bool} {st : List qV} {F : qT} (h : qTh M0 x0 b0 F) : qTh M0 x0 b0 (fun α call nx jp ret bad => q_nil st bad (F α call nx jp ret bad)) := by
  rcases st with _ | ⟨v, r⟩ <;> first | exact qTh_bad | exact h
theorem qTh_m {M0 : qM} {x0 : List Nat} {b0 : Bool} {t k : Nat} {F G : qT} (hF : t = k → qTh M0 x0 b0 F) (hG : qTh M0 x0 b0 G) : qTh M0 x0 b0 (fun α call nx jp ret bad => q_m t k (F α call nx jp ret bad) (G α call nx jp ret bad)) := by
  cases h : Nat.beq t k
  · exact qTh_eq (fun _ _ _ _ _ _ => by unfold q_m; rw [h]) hG
  · exact qTh_eq (fun _ _ _ _ _ _ => by unfold q_m; rw [h]) (hF (Nat.eq_of_beq_eq_true h))
theorem qTh_qpop {M0 : qM} {x0 : List Nat} {b0 : Bool} {K : List qV → List qV → qT} (h : ∀ as r, qTh M0 x0 b0 (K as r)) : ∀ (n : Nat) (acc st : List qV), qTh M0 x0 b0 (fun α call nx jp ret bad => qpop n acc st bad (fun as r => K as r α call nx jp ret bad))
  | 0, acc, st => h acc st
  | _ + 1, _, [] => qTh_bad
  | n + 1, acc, v :: st => qTh_qpop h n (v :: acc) st
theorem qTh_sw {M0 : qM} {x0 : List Nat} {b0 : Bool} {a : Int} {K : Nat → qT} (h : ∀ t, qTh M0 x0 b0 (K t)) (d : Nat) : ∀ (os : List Nat) (lo : Int), qTh M0 x0 b0 (fun α call nx jp ret bad => q_sw a lo os (fun t => K t α call nx jp ret bad) d)
  | [], _ => h d
  | o :: os, lo => qTh_ite (c := a = lo) (F := K o) (G := fun α call nx jp ret bad => q_sw a (lo + 1) os (fun t => K t α call nx jp ret bad) d) (fun _ => h o) (fun _ => qTh_sw h d os (lo + 1))
theorem qTh_get {M0 : qM} {x0 : List Nat} {b0 : Bool} {M : qM} {a k ty : Nat} {K : qV → qT} (h : ∀ v, qTh M0 x0 b0 (K v)) : qTh M0 x0 b0 (fun α call nx jp ret bad => q_get (fun v => K v α call nx jp ret bad) M a k ty) := by
  rcases ty with _ | _ | _ | ty <;> exact h _
theorem qTh_put {M0 : qM} {x0 : List Nat} {b0 : Bool} {M : qM} {a k ty : Nat} {v : qV} {K : qM → qT} (h : ∀ M', M'.1 = M.1 → qTh M0 x0 b0 (K M')) : qTh M0 x0 b0 (fun α call nx jp ret bad => q_put (fun M' => K M' α call nx jp ret bad) bad M a k ty v) := by
  rcases ty with _ | _ | _ | ty
  · exact qTh_qvi fun _ => h _ rfl
  · exact qTh_qvl fun _ => h _ rfl
  · exact qTh_qvr fun n => qTh_ite (c := n ≤ 998) (fun _ => h _ rfl) (fun _ => qTh_bad)
  · exact qTh_qvi fun z => qTh_ite (c := z = 0 ∨ z = 1) (fun _ => h _ rfl) (fun _ => qTh_bad)
theorem qTh_new {M0 : qM} {x0 : List Nat} {b0 : Bool} {ph : Bool} {M : qM} {kind len : Nat} {K : Nat → qM → qT} (h : ∀ n M', M.1 ≤ M'.1 → qTh M0 x0 b0 (K n M')) : qTh M0 x0 b0 (fun α call nx jp ret bad => q_new ph (fun n M' => K n M' α call nx jp ret bad) bad M kind len) := by
  cases ph
  · exact qTh_bad
  · exact qTh_ite (c := q_lay (M.1 + 1) = (kind, len)) (fun _ => h _ _ (Nat.le_succ _)) (fun _ => qTh_bad)
theorem qTh_inv {M0 : qM} {x0 : List Nat} {b0 : Bool} {ph virt : Bool} {st : List qV} {M : qM} (hb : b0 = true) (hz : qx x0 0 = 0) : qTh M0 x0 b0 (fun _ call _ _ _ bad => q_inv ph call bad st M x0 virt) := by
  cases virt
  · exact qTh_qpop (K := fun as r _ call _ _ _ bad => q_m (qcat r - 8 + ((q_args as).length - q_mxl (qx x0 1))) 0 (call (qx x0 1) as (qx x0 3) r) bad) (fun as r => qTh_m (fun _ => qTh_call hb hz) qTh_bad) _ _ _
  · exact qTh_qpop (K := fun as r _ call _ _ _ bad => q_m (qcat r - 8 + ((q_args as).length - q_mxl (qx x0 1))) 0 (qhd as bad fun a => if q_kd ph M a = qx x0 4 then call (qx x0 1) as (qx x0 3) r else bad) bad) (fun as r => qTh_m (fun _ => qTh_qhd fun a => qTh_ite (c := q_kd ph M a = qx x0 4) (fun _ => qTh_call hb hz) (fun _ => qTh_bad)) qTh_bad) _ _ _
def q_isinv (ins : Instr) : Bool := match ins with
  | .invokevirtual _ => true
  | .invokestatic _ => true
  | .invokespecial _ => true
  | _ => false
theorem q_ex_th (ph : Bool) (L st : List qV) (M : qM) (x : List Nat) (ins : Instr) : qTh M x (q_isinv ins) (fun _ call nx jp ret bad => q_ex ph call nx jp ret bad L st M x ins) := by
  cases ins with
  | aload i => exact qTh_qvr fun _ => (qTh_nx (Nat.le_refl _))
  | aload_n i => exact qTh_qvr fun _ => (qTh_nx (Nat.le_refl _))
  | iload i => exact qTh_qvi fun _ => (qTh_nx (Nat.le_refl _))
  | iload_n i => exact qTh_qvi fun _ => (qTh_nx (Nat.le_refl _))
  | lload i => exact qTh_qvl fun _ => (qTh_nx (Nat.le_refl _))
  | lload_n i => exact qTh_qvl fun _ => (qTh_nx (Nat.le_refl _))
  | astore i => exact qTh_qr1 fun _ _ => (qTh_nx (Nat.le_refl _))
  | astore_n i => exact qTh_qr1 fun _ _ => (qTh_nx (Nat.le_refl _))
  | istore i => exact qTh_qi1 fun _ _ => (qTh_nx (Nat.le_refl _))
  | istore_n i => exact qTh_qi1 fun _ _ => (qTh_nx (Nat.le_refl _))
  | lstore i => exact qTh_ql1 fun _ _ => (qTh_nx (Nat.le_refl _))
  | lstore_n i => exact qTh_ql1 fun _ _ => (qTh_nx (Nat.le_refl _))
  | iconst c => exact (qTh_nx (Nat.le_refl _))
  | bipush c => exact (qTh_nx (Nat.le_refl _))
  | sipush c => exact (qTh_nx (Nat.le_refl _))
  | lconst c => exact (qTh_nx (Nat.le_refl _))
  | ldc i => exact qTh_m (fun hz => (qTh_nx (Nat.le_refl _))) (qTh_nx (Nat.le_refl _))
  | ldc_w i => exact qTh_m (fun hz => (qTh_nx (Nat.le_refl _))) (qTh_nx (Nat.le_refl _))
  | ldc2_w i => exact (qTh_nx (Nat.le_refl _))
  | iadd => exact qTh_qi2 fun _ _ _ => (qTh_nx (Nat.le_refl _))
  | isub => exact qTh_qi2 fun _ _ _ => (qTh_nx (Nat.le_refl _))
  | imul => exact qTh_qi2 fun _ _ _ => (qTh_nx (Nat.le_refl _))
  | idiv => exact qTh_qi2 fun _ b _ => qTh_ite (c := b = 0) (fun _ => qTh_bad) (fun _ => (qTh_nx (Nat.le_refl _)))
  | irem => exact qTh_qi2 fun _ b _ => qTh_ite (c := b = 0) (fun _ => qTh_bad) (fun _ => (qTh_nx (Nat.le_refl _)))
  | ineg => exact qTh_qi1 fun _ _ => (qTh_nx (Nat.le_refl _))
  | ishl => exact qTh_qi2 fun _ _ _ => (qTh_nx (Nat.le_refl _))
  | ishr => exact qTh_qi2 fun _ _ _ => (qTh_nx (Nat.le_refl _))
  | iand => exact qTh_qi2 fun _ _ _ => (qTh_nx (Nat.le_refl _))
  | ior => exact qTh_qi2 fun _ _ _ => (qTh_nx (Nat.le_refl _))
  | ixor => exact qTh_qi2 fun _ _ _ => (qTh_nx (Nat.le_refl _))
  | ladd => exact qTh_ql2 fun _ _ _ => (qTh_nx (Nat.le_refl _))
  | lmul => exact qTh_ql2 fun _ _ _ => (qTh_nx (Nat.le_refl _))
  | ldiv => exact qTh_ql2 fun _ b _ => qTh_ite (c := b = 0) (fun _ => qTh_bad) (fun _ => (qTh_nx (Nat.le_refl _)))
  | lrem => exact qTh_ql2 fun _ b _ => qTh_ite (c := b = 0) (fun _ => qTh_bad) (fun _ => (qTh_nx (Nat.le_refl _)))
  | i2l => exact qTh_qi1 fun _ _ => (qTh_nx (Nat.le_refl _))
  | i2b => exact qTh_qi1 fun _ _ => (qTh_nx (Nat.le_refl _))
  | lcmp => exact qTh_ql2 fun a b _ => qTh_ite (c := a < b) (fun _ => (qTh_nx (Nat.le_refl _))) (fun _ => qTh_ite (c := a = b) (fun _ => (qTh_nx (Nat.le_refl _))) (fun _ => (qTh_nx (Nat.le_refl _))))
  | iinc i c => exact qTh_qvi fun _ => (qTh_nx (Nat.le_refl _))
  | goto o => exact qTh_jp
  | ifCond c o =>
    cases c
    · exact qTh_qi1 fun a _ => qTh_ite (c := a = 0) (fun _ => qTh_jp) (fun _ => (qTh_nx (Nat.le_refl _)))
    · exact qTh_qi1 fun a _ => qTh_ite (c := a = 0) (fun _ => (qTh_nx (Nat.le_refl _))) (fun _ => qTh_jp)
    · exact qTh_qi1 fun a _ => qTh_ite (c := a < 0) (fun _ => qTh_jp) (fun _ => (qTh_nx (Nat.le_refl _)))
    · exact qTh_qi1 fun a _ => qTh_ite (c := a < 0) (fun _ => (qTh_nx (Nat.le_refl _))) (fun _ => qTh_jp)
    · exact qTh_qi1 fun a _ => qTh_ite (c := 0 < a) (fun _ => qTh_jp) (fun _ => (qTh_nx (Nat.le_refl _)))
    · exact qTh_qi1 fun a _ => qTh_ite (c := 0 < a) (fun _ => (qTh_nx (Nat.le_refl _))) (fun _ => qTh_jp)
  | if_icmp c o =>
    cases c
    · exact qTh_qi2 fun a b _ => qTh_ite (c := a = b) (fun _ => qTh_jp) (fun _ => (qTh_nx (Nat.le_refl _)))
    · exact qTh_qi2 fun a b _ => qTh_ite (c := a = b) (fun _ => (qTh_nx (Nat.le_refl _))) (fun _ => qTh_jp)
    · exact qTh_qi2 fun a b _ => qTh_ite (c := a < b) (fun _ => qTh_jp) (fun _ => (qTh_nx (Nat.le_refl _)))
    · exact qTh_qi2 fun a b _ => qTh_ite (c := a < b) (fun _ => (qTh_nx (Nat.le_refl _))) (fun _ => qTh_jp)
    · exact qTh_qi2 fun a b _ => qTh_ite (c := b < a) (fun _ => qTh_jp) (fun _ => (qTh_nx (Nat.le_refl _)))
    · exact qTh_qi2 fun a b _ => qTh_ite (c := b < a) (fun _ => (qTh_nx (Nat.le_refl _))) (fun _ => qTh_jp)
  | tableswitch d lo hi os => exact qTh_qi1 fun _ _ => qTh_sw (fun _ => qTh_jp) _ _ _
  | getfield i => exact qTh_qr1 fun a _ => qTh_ite (c := q_kd ph M a = 10 + qx x 0) (fun _ => qTh_get fun _ => (qTh_nx (Nat.le_refl _))) (fun _ => qTh_bad)
  | putfield i => exact qTh_qrp fun a _ _ => qTh_ite (c := q_kd ph M a = 10 + qx x 0) (fun _ => qTh_put fun _ h9 => (qTh_nx (Nat.le_of_eq h9.symm))) (fun _ => qTh_bad)
  | iaload => exact qTh_qri fun a i _ => qTh_m (fun hz => (qTh_ite (c := q_kd ph M a = 1) (fun _ => qTh_ite (c := 0 ≤ i ∧ i < ln a) (fun _ => (qTh_nx (Nat.le_refl _))) (fun _ => qTh_bad)) (fun _ => qTh_bad))) (qTh_ite (c := a = 999) (fun _ => qTh_ite (c := 0 ≤ i ∧ i < mI M 998 0) (fun _ => (qTh_nx (Nat.le_refl _))) (fun _ => qTh_bad)) (fun _ => qTh_bad))
  | baload => exact qTh_qri fun a i _ => qTh_ite (c := q_kd ph M a = 2) (fun _ => qTh_ite (c := 0 ≤ i ∧ i < ln a) (fun _ => (qTh_nx (Nat.le_refl _))) (fun _ => qTh_bad)) (fun _ => qTh_bad)
  | aaload => exact qTh_qri fun a i _ => qTh_ite (c := q_kd ph M a = qx x 0) (fun _ => qTh_ite (c := 0 ≤ i ∧ i < ln a) (fun _ => (qTh_nx (Nat.le_refl _))) (fun _ => qTh_bad)) (fun _ => qTh_bad)
  | laload => exact qTh_qri fun a i _ => qTh_ite (c := q_kd ph M a = 3) (fun _ => qTh_ite (c := 0 ≤ i ∧ i < ln a) (fun _ => (qTh_nx (Nat.le_refl _))) (fun _ => qTh_bad)) (fun _ => qTh_bad)
  | iastore => exact qTh_qrv fun a i _ _ => qTh_qvi fun _ => qTh_ite (c := q_kd ph M a = 1) (fun _ => qTh_ite (c := 0 ≤ i ∧ i < ln a) (fun _ => (qTh_nx (Nat.le_refl _))) (fun _ => qTh_bad)) (fun _ => qTh_bad)
  | bastore => exact qTh_qrv fun a i _ _ => qTh_qvi fun _ => qTh_ite (c := q_kd ph M a = 2) (fun _ => qTh_ite (c := 0 ≤ i ∧ i < ln a) (fun _ => (qTh_nx (Nat.le_refl _))) (fun _ => qTh_bad)) (fun _ => qTh_bad)
  | lastore => exact qTh_qrv fun a i _ _ => qTh_qvl fun _ => qTh_ite (c := q_kd ph M a = 3) (fun _ => qTh_ite (c := 0 ≤ i ∧ i < ln a) (fun _ => (qTh_nx (Nat.le_refl _))) (fun _ => qTh_bad)) (fun _ => qTh_bad)
  | aastore => exact qTh_qrv fun a i _ _ => qTh_qvr fun n => qTh_ite (c := q_kd ph M a = qx x 0) (fun _ => qTh_ite (c := q_kd ph M n = qx x 1) (fun _ => qTh_ite (c := 0 ≤ i ∧ i < ln a) (fun _ => (qTh_nx (Nat.le_refl _))) (fun _ => qTh_bad)) (fun _ => qTh_bad)) (fun _ => qTh_bad)
  | arraylength => exact qTh_qr1 fun a _ => qTh_m (fun hz => (qTh_ite (c := a = 999) (fun _ => (qTh_nx (Nat.le_refl _))) (fun _ => qTh_bad))) (qTh_ite (c := q_kd ph M a = qx x 0) (fun _ => (qTh_nx (Nat.le_refl _))) (fun _ => qTh_bad))
  | new i => exact qTh_m (fun hz => (qTh_nil qTh_ret)) (qTh_new fun _ _ h9 => (qTh_nx h9))
  | newarray i => exact qTh_qi1 fun a _ => qTh_ite (c := a < 0) (fun _ => qTh_bad) (fun _ => qTh_new fun _ _ h9 => (qTh_nx h9))
  | anewarray i => exact qTh_qi1 fun a _ => qTh_ite (c := a < 0) (fun _ => qTh_bad) (fun _ => qTh_new fun _ _ h9 => (qTh_nx h9))
  | dup => exact qTh_q_1 fun _ _ => qTh_m (fun hz => (qTh_nx (Nat.le_refl _))) qTh_bad
  | dup2 => exact qTh_q_1 fun _ _ => qTh_q_1 fun _ _ => qTh_m (fun hz => (qTh_m (fun hz => (qTh_nx (Nat.le_refl _))) qTh_bad)) qTh_bad
  | pop => exact qTh_q_1 fun _ _ => qTh_m (fun hz => (qTh_nx (Nat.le_refl _))) qTh_bad
  | invokevirtual i => exact qTh_m (fun hz => qTh_inv rfl hz) (qTh_m (fun hz => (qTh_qr1 fun s _ => qTh_m (fun hz => (qTh_ite (c := kd s = 7) (fun _ => (qTh_nx (Nat.le_refl _))) (fun _ => qTh_bad))) qTh_bad)) (qTh_qri fun s i _ => qTh_m (fun hz => (qTh_ite (c := kd s = 7) (fun _ => qTh_ite (c := 0 ≤ i ∧ i < q_slen s) (fun _ => (qTh_nx (Nat.le_refl _))) (fun _ => qTh_bad)) (fun _ => qTh_bad))) qTh_bad))
  | invokespecial i => exact qTh_m (fun hz => qTh_inv rfl hz) (qTh_qr1 fun a _ => qTh_nil (qTh_ite (c := 1 ≤ a) (fun _ => (qTh_nx (Nat.le_refl _))) (fun _ => qTh_bad)))
  | invokestatic i => exact qTh_m (fun hz => qTh_inv rfl hz) (qTh_m (fun hz => (qTh_qi2 fun a b _ => qTh_m (fun hz => (qTh_ite (c := a < b) (fun _ => (qTh_nx (Nat.le_refl _))) (fun _ => (qTh_nx (Nat.le_refl _))))) qTh_bad)) (qTh_m (fun hz => (qTh_qi2 fun a b _ => qTh_m (fun hz => (qTh_ite (c := a < b) (fun _ => (qTh_nx (Nat.le_refl _))) (fun _ => (qTh_nx (Nat.le_refl _))))) qTh_bad)) (qTh_qi2 fun dp n _ => qTh_qr1 fun b _ => qTh_qi1 fun sp _ => qTh_qr1 fun a _ => qTh_nil (qTh_ite (c := q_kd ph M a = 1) (fun _ => qTh_ite (c := q_kd ph M b = 1) (fun _ => qTh_ite (c := 0 ≤ sp ∧ 0 ≤ dp ∧ 0 ≤ n ∧ sp + n ≤ ln a ∧ dp + n ≤ ln b) (fun _ => (qTh_nx (Nat.le_refl _))) (fun _ => qTh_bad)) (fun _ => qTh_bad)) (fun _ => qTh_bad)))))
  | ireturn => exact qTh_qi1 fun a _ => qTh_nil (qTh_m (fun hz => qTh_ret) (qTh_ite (c := a = 0 ∨ a = 1) (fun _ => qTh_ret) (fun _ => qTh_bad)))
  | lreturn => exact qTh_ql1 fun _ _ => qTh_nil qTh_ret
  | areturn => exact qTh_qr1 fun _ _ => qTh_nil qTh_ret
  | return_ => exact qTh_nil qTh_ret
  | _ => exact qTh_bad
theorem q_stp_th (ph : Bool) (f : qF) (M : qM) :
    (∃ f' M', f'.1 = f.1 ∧ M.1 ≤ M'.1 ∧ ∀ (α : Type) (call : Nat → List qV → Nat → qF → α) (go : qF → qM → α) (ret : qV → qM → α) (bad : α), q_stp ph call go ret bad f M = go f' M') ∨ (∃ v, ∀ (α : Type) (call : Nat → List qV → Nat → qF → α) (go : qF → qM → α) (ret : qV → qM → α) (bad : α), q_stp ph call go ret bad f M = ret v M) ∨ (∀ (α : Type) (call : Nat → List qV → Nat → qF → α) (go : qF → qM → α) (ret : qV → qM → α) (bad : α), q_stp ph call go ret bad f M = bad) ∨ (∃ as rt fr t, fr.1 = f.1 ∧ q_code f.1 f.2.1 = some t ∧ q_isinv t.1 = true ∧ qx t.2.2.2.2 0 = 0 ∧ ∀ (α : Type) (call : Nat → List qV → Nat → qF → α) (go : qF → qM → α) (ret : qV → qM → α) (bad : α), q_stp ph call go ret bad f M = call (qx t.2.2.2.2 1) as rt fr) := by
  cases hc : q_code f.1 f.2.1 with
  | none => exact Or.inr (Or.inr (Or.inl fun α call go ret bad => by unfold q_stp; rw [hc]))
  | some t =>
    obtain ⟨ins, len, kf, kj, x⟩ := t
    have e : ∀ (α : Type) (call : Nat → List qV → Nat → qF → α) (go : qF → qM → α) (ret : qV → qM → α) (bad : α), q_stp ph call go ret bad f M = q_ex ph (fun y as rt r => call y as rt (f.1, f.2.1 + len, q_kl kf f.2.2.1, r)) (fun L st M' => go (f.1, f.2.1 + len, q_kl kf L, st) M') (fun t st => go (f.1, t, q_kl kj f.2.2.1, st) M) ret bad f.2.2.1 f.2.2.2 M x ins := by
      intro α call go ret bad
      unfold q_stp
      rw [hc]
    rcases q_ex_th ph f.2.2.1 f.2.2.2 M x ins with ⟨L, st, M', hM, h⟩ | ⟨t, st, h⟩ | ⟨v, h⟩ | h | ⟨as, rt, r, hb, hz, h⟩
    · exact Or.inl ⟨(f.1, f.2.1 + len, q_kl kf L, st), M', rfl, hM, fun α call go ret bad => (e α call go ret bad).trans (h _ _ _ _ _ _)⟩
    · exact Or.inl ⟨(f.1, t, q_kl kj f.2.2.1, st), M, rfl, Nat.le_refl _, fun α call go ret bad => (e α call go ret bad).trans (h _ _ _ _ _ _)⟩
    · exact Or.inr (Or.inl ⟨_, fun α call go ret bad => (e α call go ret bad).trans (h _ _ _ _ _ _)⟩)
    · exact Or.inr (Or.inr (Or.inl fun α call go ret bad => (e α call go ret bad).trans (h _ _ _ _ _ _)))
    · exact Or.inr (Or.inr (Or.inr ⟨as, rt, (f.1, f.2.1 + len, q_kl kf f.2.2.1, r), (ins, len, kf, kj, x), rfl, rfl, hb, hz, fun α call go ret bad => (e α call go ret bad).trans (h _ _ _ _ _ _)⟩))

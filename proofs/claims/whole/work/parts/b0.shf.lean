/-! SHAPES A THIRD TIME: where nothing is made the memory keeps its size -/
def qTf (M0 : qM) (x0 : List Nat) (b0 : Bool) (F : qT) : Prop :=
  (∃ L st M, M.1 = M0.1 ∧ ∀ α call nx jp ret bad, F α call nx jp ret bad = nx L st M) ∨ (∃ t st, ∀ α call nx jp ret bad, F α call nx jp ret bad = jp t st) ∨ (∃ v, ∀ α call nx jp ret bad, F α call nx jp ret bad = ret v M0) ∨ (∀ α call nx jp ret bad, F α call nx jp ret bad = bad) ∨ (∃ as rt r, b0 = true ∧ qx x0 0 = 0 ∧ ∀ α call nx jp ret bad, F α call nx jp ret bad = call (qx x0 1) as rt r)
theorem qTf_nx {M0 : qM} {x0 : List Nat} {b0 : Bool} {L st : List qV} {M : qM} (hM : M.1 = M0.1) : qTf M0 x0 b0 (fun _ _ nx _ _ _ => nx L st M) := Or.inl ⟨L, st, M, hM, fun _ _ _ _ _ _ => rfl⟩
theorem qTf_jp {M0 : qM} {x0 : List Nat} {b0 : Bool} {t : Nat} {st : List qV} : qTf M0 x0 b0 (fun _ _ _ jp _ _ => jp t st) := Or.inr (Or.inl ⟨t, st, fun _ _ _ _ _ _ => rfl⟩)
theorem qTf_ret {M0 : qM} {x0 : List Nat} {b0 : Bool} {v : qV} : qTf M0 x0 b0 (fun _ _ _ _ ret _ => ret v M0) := Or.inr (Or.inr (Or.inl ⟨v, fun _ _ _ _ _ _ => rfl⟩))
theorem qTf_bad {M0 : qM} {x0 : List Nat} {b0 : Bool} : qTf M0 x0 b0 (fun _ _ _ _ _ bad => bad) := Or.inr (Or.inr (Or.inr (Or.inl fun _ _ _ _ _ _ => rfl)))
theorem qTf_call {M0 : qM} {x0 : List Nat} {b0 : Bool} {rt : Nat} {as r : List qV} (hb : b0 = true) (hz : qx x0 0 = 0) : qTf M0 x0 b0 (fun _ call _ _ _ _ => call (qx x0 1) as rt r) := Or.inr (Or.inr (Or.inr (Or.inr ⟨as, rt, r, hb, hz, fun _ _ _ _ _ _ => rfl⟩)))
theorem qTf_eq {M0 : qM} {x0 : List Nat} {b0 : Bool} {F G : qT} (h : ∀ α call nx jp ret bad, F α call nx jp ret bad = G α call nx jp ret bad) (hG : qTf M0 x0 b0 G) : qTf M0 x0 b0 F := by
  have e : F = G := by
    funext α call nx jp ret bad
    exact h α call nx jp ret bad
  rw [e]; exact hG
theorem qTf_ite {M0 : qM} {x0 : List Nat} {b0 : Bool} {c : Prop} [Decidable c] {F G : qT} (hF : c → qTf M0 x0 b0 F) (hG : ¬ c → qTf M0 x0 b0 G) : qTf M0 x0 b0 (fun α call nx jp ret bad => if c then F α call nx jp ret bad else G α call nx jp ret bad) := by
  by_cases h : c
  · exact qTf_eq (fun _ _ _ _ _ _ => if_pos h) (hF h)
  · exact qTf_eq (fun _ _ _ _ _ _ => if_neg h) (hG h)
theorem qTf_qi1 {M0 : qM} {x0 : List Nat} {b0 : Bool} {st : List qV} {K : Int → List qV → qT} (h : ∀ a r, qTf M0 x0 b0 (K a r)) : qTf M0 x0 b0 (fun α call nx jp ret bad => qi1 st bad (fun a r => K a r α call nx jp ret bad)) := by
  rcases st with _ | ⟨a | v, r⟩ <;> first | exact qTf_bad | exact h _ _
theorem qTf_qi2 {M0 : qM} {x0 : List Nat} {b0 : Bool} {st : List qV} {K : Int → Int → List qV → qT} (h : ∀ a b r, qTf M0 x0 b0 (K a b r)) : qTf M0 x0 b0 (fun α call nx jp ret bad => qi2 st bad (fun a b r => K a b r α call nx jp ret bad)) := by
  rcases st with _ | ⟨b | v, _ | ⟨a | w, r⟩⟩ <;> first | exact qTf_bad | exact h _ _ _
theorem qTf_ql1 {M0 : qM} {x0 : List Nat} {b0 : Bool} {st : List qV} {K : Int → List qV → qT} (h : ∀ a r, qTf M0 x0 b0 (K a r)) : qTf M0 x0 b0 (fun α call nx jp ret bad => ql1 st bad (fun a r => K a r α call nx jp ret bad)) := by
  rcases st with _ | ⟨a | a | v, r⟩ <;> first | exact qTf_bad | exact h _ _
theorem qTf_ql2 {M0 : qM} {x0 : List Nat} {b0 : Bool} {st : List qV} {K : Int → Int → List qV → qT} (h : ∀ a b r, qTf M0 x0 b0 (K a b r)) : qTf M0 x0 b0 (fun α call nx jp ret bad => ql2 st bad (fun a b r => K a b r α call nx jp ret bad)) := by
  rcases st with _ | ⟨b | b | v, _ | ⟨a | a | w, r⟩⟩ <;> first | exact qTf_bad | exact h _ _ _
theorem qTf_qr1 {M0 : qM} {x0 : List Nat} {b0 : Bool} {st : List qV} {K : Nat → List qV → qT} (h : ∀ a r, qTf M0 x0 b0 (K a r)) : qTf M0 x0 b0 (fun α call nx jp ret bad => qr1 st bad (fun a r => K a r α call nx jp ret bad)) := by
  rcases st with _ | ⟨a | a | a | v, r⟩ <;> first | exact qTf_bad | exact h _ _
theorem qTf_qri {M0 : qM} {x0 : List Nat} {b0 : Bool} {st : List qV} {K : Nat → Int → List qV → qT} (h : ∀ a i r, qTf M0 x0 b0 (K a i r)) : qTf M0 x0 b0 (fun α call nx jp ret bad => qri st bad (fun a i r => K a i r α call nx jp ret bad)) := by
  rcases st with _ | ⟨b | v, _ | ⟨a | a | a | w, r⟩⟩ <;> first | exact qTf_bad | exact h _ _ _
theorem qTf_qrv {M0 : qM} {x0 : List Nat} {b0 : Bool} {st : List qV} {K : Nat → Int → qV → List qV → qT} (h : ∀ a i v r, qTf M0 x0 b0 (K a i v r)) : qTf M0 x0 b0 (fun α call nx jp ret bad => qrv st bad (fun a i v r => K a i v r α call nx jp ret bad)) := by
  rcases st with _ | ⟨v, _ | ⟨b | w, _ | ⟨a | a | a | w, r⟩⟩⟩ <;> first | exact qTf_bad | exact h _ _ _ _
theorem qTf_qrp {M0 : qM} {x0 : List Nat} {b0 : Bool} {st : List qV} {K : Nat → qV → List qV → qT} (h : ∀ a v r, qTf M0 x0 b0 (K a v r)) : qTf M0 x0 b0 (fun α call nx jp ret bad => qrp st bad (fun a v r => K a v r α call nx jp ret bad)) := by
  rcases st with _ | ⟨v, _ | ⟨a | a | a | w, r⟩⟩ <;> first | exact qTf_bad | exact h _ _ _
theorem qTf_q_1 {M0 : qM} {x0 : List Nat} {b0 : Bool} {st : List qV} {K : qV → List qV → qT} (h : ∀ v r, qTf M0 x0 b0 (K v r)) : qTf M0 x0 b0 (fun α call nx jp ret bad => q_1 st bad (fun v r => K v r α call nx jp ret bad)) := by
  rcases st with _ | ⟨v, r⟩ <;> first | exact qTf_bad | exact h _ _
theorem qTf_qvi {M0 : qM} {x0 : List Nat} {b0 : Bool} {v : qV} {K : Int → qT} (h : ∀ a, qTf M0 x0 b0 (K a)) : qTf M0 x0 b0 (fun α call nx jp ret bad => qvi v bad (fun a => K a α call nx jp ret bad)) := by
  rcases v with a | a | a | u <;> first | exact qTf_bad | exact h _
theorem qTf_qvl {M0 : qM} {x0 : List Nat} {b0 : Bool} {v : qV} {K : Int → qT} (h : ∀ a, qTf M0 x0 b0 (K a)) : qTf M0 x0 b0 (fun α call nx jp ret bad => qvl v bad (fun a => K a α call nx jp ret bad)) := by
  rcases v with a | a | a | u <;> first | exact qTf_bad | exact h _
theorem qTf_qvr {M0 : qM} {x0 : List Nat} {b0 : Bool} {v : qV} {K : Nat → qT} (h : ∀ a, qTf M0 x0 b0 (K a)) : qTf M0 x0 b0 (fun α call nx jp ret bad => qvr v bad (fun a => K a α call nx jp ret bad)) := by
  rcases v with a | a | a | u <;> first | exact qTf_bad | exact h _
theorem qTf_qhd {M0 : qM} {x0 : List Nat} {b0 : Bool} {as : List qV} {K : Nat → qT} (h : ∀ a, qTf M0 x0 b0 (K a)) : qTf M0 x0 b0 (fun α call nx jp ret bad => qhd as bad (fun a => K a α call nx jp ret bad)) := by
  rcases as with _ | ⟨a | a | a | u, r⟩ <;> first | exact qTf_bad | exact h _
theorem qTf_nil {M0 : qM} {x0 : List Nat} {b0 : Bool} {st : List qV} {F : qT} (h : qTf M0 x0 b0 F) : qTf M0 x0 b0 (fun α call nx jp ret bad => q_nil st bad (F α call nx jp ret bad)) := by
  rcases st with _ | ⟨v, r⟩ <;> first | exact qTf_bad | exact h
theorem qTf_m {M0 : qM} {x0 : List Nat} {b0 : Bool} {t k : Nat} {F G : qT} (hF : t = k → qTf M0 x0 b0 F) (hG : qTf M0 x0 b0 G) : qTf M0 x0 b0 (fun α call nx jp ret bad => q_m t k (F α call nx jp ret bad) (G α call nx jp ret bad)) := by
  cases h : Nat.beq t k
  · exact qTf_eq (fun _ _ _ _ _ _ => by unfold q_m; rw [h]) hG
  · exact qTf_eq (fun _ _ _ _ _ _ => by unfold q_m; rw [h]) (hF (Nat.eq_of_beq_eq_true h))
theorem qTf_qpop {M0 : qM} {x0 : List Nat} {b0 : Bool} {K : List qV → List qV → qT} (h : ∀ as r, qTf M0 x0 b0 (K as r)) : ∀ (n : Nat) (acc st : List qV), qTf M0 x0 b0 (fun α call nx jp ret bad => qpop n acc st bad (fun as r => K as r α call nx jp ret bad))
  | 0, acc, st => h acc st
  | _ + 1, _, [] => qTf_bad
  | n + 1, acc, v :: st => qTf_qpop h n (v :: acc) st
theorem qTf_sw {M0 : qM} {x0 : List Nat} {b0 : Bool} {a : Int} {K : Nat → qT} (h : ∀ t, qTf M0 x0 b0 (K t)) (d : Nat) : ∀ (os : List Nat) (lo : Int), qTf M0 x0 b0 (fun α call nx jp ret bad => q_sw a lo os (fun t => K t α call nx jp ret bad) d)
  | [], _ => h d
  | o :: os, lo => qTf_ite (c := a = lo) (F := K o) (G := fun α call nx jp ret bad => q_sw a (lo + 1) os (fun t => K t α call nx jp ret bad) d) (fun _ => h o) (fun _ => qTf_sw h d os (lo + 1))
theorem qTf_get {M0 : qM} {x0 : List Nat} {b0 : Bool} {M : qM} {a k ty : Nat} {K : qV → qT} (h : ∀ v, qTf M0 x0 b0 (K v)) : qTf M0 x0 b0 (fun α call nx jp ret bad => q_get (fun v => K v α call nx jp ret bad) M a k ty) := by
  rcases ty with _ | _ | _ | ty <;> exact h _
theorem qTf_put {M0 : qM} {x0 : List Nat} {b0 : Bool} {M : qM} {a k ty : Nat} {v : qV} {K : qM → qT} (h : ∀ M', M'.1 = M.1 → qTf M0 x0 b0 (K M')) : qTf M0 x0 b0 (fun α call nx jp ret bad => q_put (fun M' => K M' α call nx jp ret bad) bad M a k ty v) := by
  rcases ty with _ | _ | _ | ty
  · exact qTf_qvi fun _ => h _ rfl
  · exact qTf_qvl fun _ => h _ rfl
  · exact qTf_qvr fun n => qTf_ite (c := n ≤ 998) (fun _ => h _ rfl) (fun _ => qTf_bad)
  · exact qTf_qvi fun z => qTf_ite (c := z = 0 ∨ z = 1) (fun _ => h _ rfl) (fun _ => qTf_bad)
theorem qTf_new {M0 : qM} {x0 : List Nat} {b0 : Bool} {M : qM} {kind len : Nat} {K : Nat → qM → qT} (_ : ∀ n M', M'.1 = M.1 → qTf M0 x0 b0 (K n M')) : qTf M0 x0 b0 (fun α call nx jp ret bad => q_new false (fun n M' => K n M' α call nx jp ret bad) bad M kind len) := qTf_bad
theorem qTf_inv {M0 : qM} {x0 : List Nat} {b0 : Bool} {ph virt : Bool} {st : List qV} {M : qM} (hb : b0 = true) (hz : qx x0 0 = 0) : qTf M0 x0 b0 (fun _ call _ _ _ bad => q_inv ph call bad st M x0 virt) := by
  cases virt
  · exact qTf_qpop (K := fun as r _ call _ _ _ bad => q_m (qcat r - 8 + ((q_args as).length - q_mxl (qx x0 1))) 0 (call (qx x0 1) as (qx x0 3) r) bad) (fun as r => qTf_m (fun _ => qTf_call hb hz) qTf_bad) _ _ _
  · exact qTf_qpop (K := fun as r _ call _ _ _ bad => q_m (qcat r - 8 + ((q_args as).length - q_mxl (qx x0 1))) 0 (qhd as bad fun a => if q_kd ph M a = qx x0 4 then call (qx x0 1) as (qx x0 3) r else bad) bad) (fun as r => qTf_m (fun _ => qTf_qhd fun a => qTf_ite (c := q_kd ph M a = qx x0 4) (fun _ => qTf_call hb hz) (fun _ => qTf_bad)) qTf_bad) _ _ _
theorem q_ex_tf (L st : List qV) (M : qM) (x : List Nat) (ins : Instr) : qTf M x (q_isinv ins) (fun _ call nx jp ret bad => q_ex false call nx jp ret bad L st M x ins) := by
  cases ins with
  | aload i => exact qTf_qvr fun _ => (qTf_nx rfl)
  | aload_n i => exact qTf_qvr fun _ => (qTf_nx rfl)
  | iload i => exact qTf_qvi fun _ => (qTf_nx rfl)
  | iload_n i => exact qTf_qvi fun _ => (qTf_nx rfl)
  | lload i => exact qTf_qvl fun _ => (qTf_nx rfl)
  | lload_n i => exact qTf_qvl fun _ => (qTf_nx rfl)
  | astore i => exact qTf_qr1 fun _ _ => (qTf_nx rfl)
  | astore_n i => exact qTf_qr1 fun _ _ => (qTf_nx rfl)
  | istore i => exact qTf_qi1 fun _ _ => (qTf_nx rfl)
  | istore_n i => exact qTf_qi1 fun _ _ => (qTf_nx rfl)
  | lstore i => exact qTf_ql1 fun _ _ => (qTf_nx rfl)
  | lstore_n i => exact qTf_ql1 fun _ _ => (qTf_nx rfl)
  | iconst c => exact (qTf_nx rfl)
  | bipush c => exact (qTf_nx rfl)
  | sipush c => exact (qTf_nx rfl)
  | lconst c => exact (qTf_nx rfl)
  | ldc i => exact qTf_m (fun hz => (qTf_nx rfl)) (qTf_nx rfl)
  | ldc_w i => exact qTf_m (fun hz => (qTf_nx rfl)) (qTf_nx rfl)
  | ldc2_w i => exact (qTf_nx rfl)
  | iadd => exact qTf_qi2 fun _ _ _ => (qTf_nx rfl)
  | isub => exact qTf_qi2 fun _ _ _ => (qTf_nx rfl)
  | imul => exact qTf_qi2 fun _ _ _ => (qTf_nx rfl)
  | idiv => exact qTf_qi2 fun _ b _ => qTf_ite (c := b = 0) (fun _ => qTf_bad) (fun _ => (qTf_nx rfl))
  | irem => exact qTf_qi2 fun _ b _ => qTf_ite (c := b = 0) (fun _ => qTf_bad) (fun _ => (qTf_nx rfl))
  | ineg => exact qTf_qi1 fun _ _ => (qTf_nx rfl)
  | ishl => exact qTf_qi2 fun _ _ _ => (qTf_nx rfl)
  | ishr => exact qTf_qi2 fun _ _ _ => (qTf_nx rfl)
  | iand => exact qTf_qi2 fun _ _ _ => (qTf_nx rfl)
  | ior => exact qTf_qi2 fun _ _ _ => (qTf_nx rfl)
  | ixor => exact qTf_qi2 fun _ _ _ => (qTf_nx rfl)
  | ladd => exact qTf_ql2 fun _ _ _ => (qTf_nx rfl)
  | lmul => exact qTf_ql2 fun _ _ _ => (qTf_nx rfl)
  | ldiv => exact qTf_ql2 fun _ b _ => qTf_ite (c := b = 0) (fun _ => qTf_bad) (fun _ => (qTf_nx rfl))
  | lrem => exact qTf_ql2 fun _ b _ => qTf_ite (c := b = 0) (fun _ => qTf_bad) (fun _ => (qTf_nx rfl))
  | i2l => exact qTf_qi1 fun _ _ => (qTf_nx rfl)
  | i2b => exact qTf_qi1 fun _ _ => (qTf_nx rfl)
  | lcmp => exact qTf_ql2 fun a b _ => qTf_ite (c := a < b) (fun _ => (qTf_nx rfl)) (fun _ => qTf_ite (c := a = b) (fun _ => (qTf_nx rfl)) (fun _ => (qTf_nx rfl)))
  | iinc i c => exact qTf_qvi fun _ => (qTf_nx rfl)
  | goto o => exact qTf_jp
  | ifCond c o =>
    cases c
    · exact qTf_qi1 fun a _ => qTf_ite (c := a = 0) (fun _ => qTf_jp) (fun _ => (qTf_nx rfl))
    · exact qTf_qi1 fun a _ => qTf_ite (c := a = 0) (fun _ => (qTf_nx rfl)) (fun _ => qTf_jp)
    · exact qTf_qi1 fun a _ => qTf_ite (c := a < 0) (fun _ => qTf_jp) (fun _ => (qTf_nx rfl))
    · exact qTf_qi1 fun a _ => qTf_ite (c := a < 0) (fun _ => (qTf_nx rfl)) (fun _ => qTf_jp)
    · exact qTf_qi1 fun a _ => qTf_ite (c := 0 < a) (fun _ => qTf_jp) (fun _ => (qTf_nx rfl))
    · exact qTf_qi1 fun a _ => qTf_ite (c := 0 < a) (fun _ => (qTf_nx rfl)) (fun _ => qTf_jp)
  | if_icmp c o =>
    cases c
    · exact qTf_qi2 fun a b _ => qTf_ite (c := a = b) (fun _ => qTf_jp) (fun _ => (qTf_nx rfl))
    · exact qTf_qi2 fun a b _ => qTf_ite (c := a = b) (fun _ => (qTf_nx rfl)) (fun _ => qTf_jp)
    · exact qTf_qi2 fun a b _ => qTf_ite (c := a < b) (fun _ => qTf_jp) (fun _ => (qTf_nx rfl))
    · exact qTf_qi2 fun a b _ => qTf_ite (c := a < b) (fun _ => (qTf_nx rfl)) (fun _ => qTf_jp)
    · exact qTf_qi2 fun a b _ => qTf_ite (c := b < a) (fun _ => qTf_jp) (fun _ => (qTf_nx rfl))
    · exact qTf_qi2 fun a b _ => qTf_ite (c := b < a) (fun _ => (qTf_nx rfl)) (fun _ => qTf_jp)
  | tableswitch d lo hi os => exact qTf_qi1 fun _ _ => qTf_sw (fun _ => qTf_jp) _ _ _
  | getfield i => exact qTf_qr1 fun a _ => qTf_ite (c := q_kd false M a = 10 + qx x 0) (fun _ => qTf_get fun _ => (qTf_nx rfl)) (fun _ => qTf_bad)
  | putfield i => exact qTf_qrp fun a _ _ => qTf_ite (c := q_kd false M a = 10 + qx x 0) (fun _ => qTf_put fun _ h9 => (qTf_nx h9)) (fun _ => qTf_bad)
  | iaload => exact qTf_qri fun a i _ => qTf_m (fun hz => (qTf_ite (c := q_kd false M a = 1) (fun _ => qTf_ite (c := 0 ≤ i ∧ i < ln a) (fun _ => (qTf_nx rfl)) (fun _ => qTf_bad)) (fun _ => qTf_bad))) (qTf_ite (c := a = 999) (fun _ => qTf_ite (c := 0 ≤ i ∧ i < mI M 998 0) (fun _ => (qTf_nx rfl)) (fun _ => qTf_bad)) (fun _ => qTf_bad))
  | baload => exact qTf_qri fun a i _ => qTf_ite (c := q_kd false M a = 2) (fun _ => qTf_ite (c := 0 ≤ i ∧ i < ln a) (fun _ => (qTf_nx rfl)) (fun _ => qTf_bad)) (fun _ => qTf_bad)
  | aaload => exact qTf_qri fun a i _ => qTf_ite (c := q_kd false M a = qx x 0) (fun _ => qTf_ite (c := 0 ≤ i ∧ i < ln a) (fun _ => (qTf_nx rfl)) (fun _ => qTf_bad)) (fun _ => qTf_bad)
  | laload => exact qTf_qri fun a i _ => qTf_ite (c := q_kd false M a = 3) (fun _ => qTf_ite (c := 0 ≤ i ∧ i < ln a) (fun _ => (qTf_nx rfl)) (fun _ => qTf_bad)) (fun _ => qTf_bad)
  | iastore => exact qTf_qrv fun a i _ _ => qTf_qvi fun _ => qTf_ite (c := q_kd false M a = 1) (fun _ => qTf_ite (c := 0 ≤ i ∧ i < ln a) (fun _ => (qTf_nx rfl)) (fun _ => qTf_bad)) (fun _ => qTf_bad)
  | bastore => exact qTf_qrv fun a i _ _ => qTf_qvi fun _ => qTf_ite (c := q_kd false M a = 2) (fun _ => qTf_ite (c := 0 ≤ i ∧ i < ln a) (fun _ => (qTf_nx rfl)) (fun _ => qTf_bad)) (fun _ => qTf_bad)
  | lastore => exact qTf_qrv fun a i _ _ => qTf_qvl fun _ => qTf_ite (c := q_kd false M a = 3) (fun _ => qTf_ite (c := 0 ≤ i ∧ i < ln a) (fun _ => (qTf_nx rfl)) (fun _ => qTf_bad)) (fun _ => qTf_bad)
  | aastore => exact qTf_qrv fun a i _ _ => qTf_qvr fun n => qTf_ite (c := q_kd false M a = qx x 0) (fun _ => qTf_ite (c := q_kd false M n = qx x 1) (fun _ => qTf_ite (c := 0 ≤ i ∧ i < ln a) (fun _ => (qTf_nx rfl)) (fun _ => qTf_bad)) (fun _ => qTf_bad)) (fun _ => qTf_bad)
  | arraylength => exact qTf_qr1 fun a _ => qTf_m (fun hz => (qTf_ite (c := a = 999) (fun _ => (qTf_nx rfl)) (fun _ => qTf_bad))) (qTf_ite (c := q_kd false M a = qx x 0) (fun _ => (qTf_nx rfl)) (fun _ => qTf_bad))
  | new i => exact qTf_m (fun hz => (qTf_nil qTf_ret)) (qTf_new fun _ _ h9 => (qTf_nx h9))
  | newarray i => exact qTf_qi1 fun a _ => qTf_ite (c := a < 0) (fun _ => qTf_bad) (fun _ => qTf_new fun _ _ h9 => (qTf_nx h9))
  | anewarray i => exact qTf_qi1 fun a _ => qTf_ite (c := a < 0) (fun _ => qTf_bad) (fun _ => qTf_new fun _ _ h9 => (qTf_nx h9))
  | dup => exact qTf_q_1 fun _ _ => qTf_m (fun hz => (qTf_nx rfl)) qTf_bad
  | dup2 => exact qTf_q_1 fun _ _ => qTf_q_1 fun _ _ => qTf_m (fun hz => (qTf_m (fun hz => (qTf_nx rfl)) qTf_bad)) qTf_bad
  | pop => exact qTf_q_1 fun _ _ => qTf_m (fun hz => (qTf_nx rfl)) qTf_bad
  | invokevirtual i => exact qTf_m (fun hz => qTf_inv rfl hz) (qTf_m (fun hz => (qTf_qr1 fun s _ => qTf_m (fun hz => (qTf_ite (c := kd s = 7) (fun _ => (qTf_nx rfl)) (fun _ => qTf_bad))) qTf_bad)) (qTf_qri fun s i _ => qTf_m (fun hz => (qTf_ite (c := kd s = 7) (fun _ => qTf_ite (c := 0 ≤ i ∧ i < q_slen s) (fun _ => (qTf_nx rfl)) (fun _ => qTf_bad)) (fun _ => qTf_bad))) qTf_bad))
  | invokespecial i => exact qTf_m (fun hz => qTf_inv rfl hz) (qTf_qr1 fun a _ => qTf_nil (qTf_ite (c := 1 ≤ a) (fun _ => (qTf_nx rfl)) (fun _ => qTf_bad)))
  | invokestatic i => exact qTf_m (fun hz => qTf_inv rfl hz) (qTf_m (fun hz => (qTf_qi2 fun a b _ => qTf_m (fun hz => (qTf_ite (c := a < b) (fun _ => (qTf_nx rfl)) (fun _ => (qTf_nx rfl)))) qTf_bad)) (qTf_m (fun hz => (qTf_qi2 fun a b _ => qTf_m (fun hz => (qTf_ite (c := a < b) (fun _ => (qTf_nx rfl)) (fun _ => (qTf_nx rfl)))) qTf_bad)) (qTf_qi2 fun dp n _ => qTf_qr1 fun b _ => qTf_qi1 fun sp _ => qTf_qr1 fun a _ => qTf_nil (qTf_ite (c := q_kd false M a = 1) (fun _ => qTf_ite (c := q_kd false M b = 1) (fun _ => qTf_ite (c := 0 ≤ sp ∧ 0 ≤ dp ∧ 0 ≤ n ∧ sp + n ≤ ln a ∧ dp + n ≤ ln b) (fun _ => (qTf_nx rfl)) (fun _ => qTf_bad)) (fun _ => qTf_bad)) (fun _ => qTf_bad)))))
  | ireturn => exact qTf_qi1 fun a _ => qTf_nil (qTf_m (fun hz => qTf_ret) (qTf_ite (c := a = 0 ∨ a = 1) (fun _ => qTf_ret) (fun _ => qTf_bad)))
  | lreturn => exact qTf_ql1 fun _ _ => qTf_nil qTf_ret
  | areturn => exact qTf_qr1 fun _ _ => qTf_nil qTf_ret
  | return_ => exact qTf_nil qTf_ret
  | _ => exact qTf_bad
theorem q_stp_tf (f : qF) (M : qM) :
    (∃ f' M', f'.1 = f.1 ∧ M'.1 = M.1 ∧ ∀ (α : Type) (call : Nat → List qV → Nat → qF → α) (go : qF → qM → α) (ret : qV → qM → α) (bad : α), q_stp false call go ret bad f M = go f' M') ∨ (∃ v, ∀ (α : Type) (call : Nat → List qV → Nat → qF → α) (go : qF → qM → α) (ret : qV → qM → α) (bad : α), q_stp false call go ret bad f M = ret v M) ∨ (∀ (α : Type) (call : Nat → List qV → Nat → qF → α) (go : qF → qM → α) (ret : qV → qM → α) (bad : α), q_stp false call go ret bad f M = bad) ∨ (∃ as rt fr t, fr.1 = f.1 ∧ q_code f.1 f.2.1 = some t ∧ q_isinv t.1 = true ∧ qx t.2.2.2.2 0 = 0 ∧ ∀ (α : Type) (call : Nat → List qV → Nat → qF → α) (go : qF → qM → α) (ret : qV → qM → α) (bad : α), q_stp false call go ret bad f M = call (qx t.2.2.2.2 1) as rt fr) := by
  cases hc : q_code f.1 f.2.1 with
  | none => exact Or.inr (Or.inr (Or.inl fun α call go ret bad => by unfold q_stp; rw [hc]))
  | some t =>
    obtain ⟨ins, len, kf, kj, x⟩ := t
    have e : ∀ (α : Type) (call : Nat → List qV → Nat → qF → α) (go : qF → qM → α) (ret : qV → qM → α) (bad : α), q_stp false call go ret bad f M = q_ex false (fun y as rt r => call y as rt (f.1, f.2.1 + len, q_kl kf f.2.2.1, r)) (fun L st M' => go (f.1, f.2.1 + len, q_kl kf L, st) M') (fun t st => go (f.1, t, q_kl kj f.2.2.1, st) M) ret bad f.2.2.1 f.2.2.2 M x ins := by
      intro α call go ret bad
      unfold q_stp
      rw [hc]
    rcases q_ex_tf f.2.2.1 f.2.2.2 M x ins with ⟨L, st, M', hM, h⟩ | ⟨t, st, h⟩ | ⟨v, h⟩ | h | ⟨as, rt, r, hb, hz, h⟩
    · exact Or.inl ⟨(f.1, f.2.1 + len, q_kl kf L, st), M', rfl, hM, fun α call go ret bad => (e α call go ret bad).trans (h _ _ _ _ _ _)⟩
    · exact Or.inl ⟨(f.1, t, q_kl kj f.2.2.1, st), M, rfl, rfl, fun α call go ret bad => (e α call go ret bad).trans (h _ _ _ _ _ _)⟩
    · exact Or.inr (Or.inl ⟨_, fun α call go ret bad => (e α call go ret bad).trans (h _ _ _ _ _ _)⟩)
    · exact Or.inr (Or.inr (Or.inl fun α call go ret bad => (e α call go ret bad).trans (h _ _ _ _ _ _)))
    · exact Or.inr (Or.inr (Or.inr ⟨as, rt, (f.1, f.2.1 + len, q_kl kf f.2.2.1, r), (ins, len, kf, kj, x), rfl, rfl, hb, hz, fun α call go ret bad => (e α call go ret bad).trans (h _ _ _ _ _ _)⟩))

/-! HOW A TEXT IS READ: of its bytes alone -/
abbrev PSt : Type := Tt × (Nat → List Nat) × Tk
abbrev Flt : Type := Nat × Nat
def sb {α β : Type} (x : Sum α Flt) (f : α → Sum β Flt) : Sum β Flt := match x with
  | Sum.inl a => f a
  | Sum.inr e => Sum.inr e
theorem sb_l {α β : Type} {a : α} {f : α → Sum β Flt} : sb (Sum.inl a) f = f a := rfl
theorem sb_r {α β : Type} {e : Flt} {f : α → Sum β Flt} : sb (Sum.inr e) f = Sum.inr e := rfl
def updF {α : Type} (f : Nat → α) (i : Nat) (v : α) : Nat → α := fun j => if j = i then v else f j
def wHS (T : Tt) (h s : Nat) : Tt := ((h, s, tC T), T.2)
def wCl (T : Tt) (law : Nat) (xs : List Nat) : Tt := ((tH T, tS T, tC T + 1), updF (tL T) (tC T) law, updF (tB T) (tC T) (xs, 0), T.2.2.2)
def wUn (T : Tt) (c v : Nat) : Tt := (T.1, tL T, tB T, (tU T + 1, updF (tUc T) (tU T) c, updF (tUs T) (tU T) v), T.2.2.2.2)
def wSe (T : Tt) (c m h : Nat) : Tt := (T.1, tL T, tB T, T.2.2.2.1, (tE T + 1, updF (tEc T) (tE T) c, updF (tEn T) (tE T) m, updF (tEh T) (tE T) h))
def rWord (b : Nat → Nat) (n s : Nat) (k : Tk) : Sum Tk Flt := if isWd b k s then Sum.inl (tok b n k.2.2) else Sum.inr (1, k.2.1)
def rWhole (b : Nat → Nat) (n lo hi : Nat) (k : Tk) : Sum (Nat × Tk) Flt := if k.1 = 2 then (if tvl b k < lo ∨ hi < tvl b k then Sum.inr (4, k.2.1) else Sum.inl (tvl b k, tok b n k.2.2)) else Sum.inr (1, k.2.1)
def rStore (b : Nat → Nat) (n : Nat) (T : Tt) (k : Tk) : Sum (Tt × Tk) Flt := sb (rWord b n 1001 (tok b n k.2.2)) fun k1 => sb (rWhole b n 2 9 k1) fun h => sb (rWord b n 1002 h.2) fun k3 => sb (rWhole b n 0 100 k3) fun s => Sum.inl (wHS T h.1 s.1, s.2)
def isNm (b : Nat → Nat) (k : Tk) : Bool := decide (k.1 = 1) && (!isWd b k 1000 && (!isWd b k 1003 && (!isWd b k 1004 && !isWd b k 1005)))
def fnd (b : Nat → Nat) (T : Tt) (nm : Nat → List Nat) (k : Tk) : Nat := fsti (fun c => decide (nm c = wrd b k.2.1 k.2.2)) (tC T)
def lawN (b : Nat → Nat) (k : Tk) : Nat := if isWd b k 1006 then 0 else if isWd b k 1007 then 1 else if isWd b k 1008 then 2 else if isWd b k 1009 then 3 else 4
def rHp (b : Nat → Nat) (n : Nat) : Nat → List Nat → Tk → Sum (List Nat × Tk) Flt
  | 0, xs, k => Sum.inl (xs, k)
  | f + 1, xs, k => if k.1 = 2 then (if tvl b k < 1 ∨ 30 < tvl b k ∨ 40 < xs.sum + tvl b k then Sum.inr (4, k.2.1) else if 8 ≤ xs.length then Sum.inr (5, k.2.1) else rHp b n f (ins (tvl b k) xs) (tok b n k.2.2)) else Sum.inl (xs, k)
def rHeaps (b : Nat → Nat) (n : Nat) (k : Tk) : Sum (List Nat × Tk) Flt := if k.1 = 2 then rHp b n 9 [] k else Sum.inr (1, k.2.1)
def rCellar (b : Nat → Nat) (n : Nat) (T : Tt) (nm : Nat → List Nat) (k : Tk) : Sum PSt Flt :=
  if isNm b k then (if fnd b T nm k < tC T then Sum.inr (3, k.2.1) else if lawN b (tok b n k.2.2) = 4 then Sum.inr (1, (tok b n k.2.2).2.1) else sb (rHeaps b n (tok b n (tok b n k.2.2).2.2)) fun x => Sum.inl (wCl T (lawN b (tok b n k.2.2)) x.1, updF nm (tC T) (wrd b k.2.1 k.2.2), x.2)) else Sum.inr (1, k.2.1)
def rNamed (b : Nat → Nat) (T : Tt) (nm : Nat → List Nat) (k : Tk) : Sum Nat Flt := if isNm b k then (if fnd b T nm k < tC T then Sum.inl (fnd b T nm k) else Sum.inr (2, k.2.1)) else Sum.inr (1, k.2.1)
def rUnsure (b : Nat → Nat) (n : Nat) (T : Tt) (nm : Nat → List Nat) (k : Tk) : Sum PSt Flt := sb (rNamed b T nm k) fun c => if upl T c < tU T then Sum.inr (3, k.2.1) else sb (rWhole b n 1 9 (tok b n k.2.2)) fun v => Sum.inl (wUn T c v.1, nm, v.2)
def saw (T : Tt) (c m : Nat) : Bool := (List.range (tE T)).any (fun i => decide (tEc T i = c ∧ tEn T i = m))
def rSeen (b : Nat → Nat) (n : Nat) (T : Tt) (nm : Nat → List Nat) (k : Tk) : Sum PSt Flt := sb (rNamed b T nm k) fun c => sb (rWord b n 1010 (tok b n k.2.2)) fun k2 => if k2.1 = 2 ∧ saw T c (tvl b k2) = true then Sum.inr (3, k2.2.1) else sb (rWhole b n 0 99 k2) fun m => sb (rWord b n 1011 m.2) fun k4 => sb (rWhole b n 0 60 k4) fun h => Sum.inl (wSe T c m.1 h.1, nm, h.2)
def rOpen (b : Nat → Nat) (n : Nat) (room : Bool) (T : Tt) (k : Tk) : Sum Tk Flt := if room then (if tH T = 0 then Sum.inr (6, k.2.1) else Sum.inl (tok b n k.2.2)) else Sum.inr (5, k.2.1)
def rLine (b : Nat → Nat) (n : Nat) (s : PSt) : Sum PSt Flt :=
  if isWd b s.2.2 1000 then (if tH s.1 = 0 then sb (rStore b n s.1 s.2.2) (fun x => Sum.inl (x.1, s.2.1, x.2)) else Sum.inr (3, s.2.2.2.1))
  else if isWd b s.2.2 1003 then sb (rOpen b n (decide (tC s.1 < 4)) s.1 s.2.2) (fun k => rCellar b n s.1 s.2.1 k)
  else if isWd b s.2.2 1004 then sb (rOpen b n true s.1 s.2.2) (fun k => rUnsure b n s.1 s.2.1 k)
  else if isWd b s.2.2 1005 then sb (rOpen b n (decide (tE s.1 < 6)) s.1 s.2.2) (fun k => rSeen b n s.1 s.2.1 k)
  else Sum.inr (1, s.2.2.2.1)
def rLoop (b : Nat → Nat) (n : Nat) : Nat → PSt → Sum PSt Flt
  | 0, s => Sum.inl s
  | f + 1, s => if s.2.2.1 = 3 then sb (rLine b n (s.1, s.2.1, tok b n s.2.2.2.2)) (fun s' => rLoop b n f s') else Sum.inl s
def rRead (b : Nat → Nat) (n : Nat) (nm : Nat → List Nat) : Sum PSt Flt := sb (rLine b n (T0, nm, tok b n 0)) fun s => sb (rLoop b n 900 s) fun s => if s.2.2.1 = 0 then (if tC s.1 = 0 then Sum.inr (6, s.2.2.2.1) else Sum.inl s) else Sum.inr (1, s.2.2.2.1)
/-- what has been read so far is right -/
def PTk (T : Tt) : Prop := TOk T ∨ (tH T = 0 ∧ tS T = 0 ∧ tC T = 0 ∧ tU T = 0 ∧ tE T = 0 ∧ ∀ c, tB T c = ([], 0))
theorem PTk_0 : PTk T0 := Or.inr ⟨rfl, rfl, rfl, rfl, rfl, fun _ => rfl⟩
theorem PTk_h {T : Tt} (h : PTk T) (q : tH T ≠ 0) : TOk T := h.elim id (fun z => absurd z.1 q)
theorem isNm_1 {b : Nat → Nat} {k : Tk} (h : isNm b k = true) : k.1 = 1 := by
  unfold isNm at h
  exact of_decide_eq_true (Bool.and_eq_true_iff.mp h).1
theorem PTk_HS {T : Tt} {h s : Nat} (p : PTk T) (q : tH T = 0) (h1 : 2 ≤ h) (h2 : h ≤ 9) (h3 : s ≤ 100) : PTk (wHS T h s) := by
  rcases p with p | ⟨-, p2, p3, p4, p5, p6⟩
  · have := p.1; omega
  · refine Or.inl ⟨h1, h2, h3, ?_, fun c hc => ?_, fun c => ?_, fun c _ => p6 c, ?_, fun i hi => ?_, fun i j _ hj => ?_, ?_, fun i hi => ?_⟩
    · show tC T ≤ 4; omega
    · exact absurd hc (by show ¬ c < tC T; omega)
    · show SD (tB T c).1 ∧ PS (tB T c).1 ∧ (tB T c).1.sum ≤ 40 ∧ (tB T c).2 = 0
      rw [p6 c]
      exact ⟨List.Pairwise.nil, fun a ha => (by cases ha), Nat.zero_le _, rfl⟩
    · show tU T ≤ 4; omega
    · exact absurd hi (by show ¬ i < tU T; omega)
    · exact absurd hj (by show ¬ j < tU T; omega)
    · show tE T ≤ 6; omega
    · exact absurd hi (by show ¬ i < tE T; omega)
theorem PTk_Cl {T : Tt} {law : Nat} {xs : List Nat} (p : TOk T) (q : tC T < 4) (h1 : law ≤ 3) (h2 : SD xs) (h3 : PS xs) (h4 : xs.sum ≤ 40) : TOk (wCl T law xs) := by
  obtain ⟨o1, o2, o3, o4, o5, o6, o7, o8, o9, o10, o11, o12⟩ := p
  refine ⟨o1, o2, o3, ?_, fun c hc => ?_, fun c => ?_, fun c hc => ?_, o8, fun i hi => ?_, o10, o11, fun i hi => ?_⟩
  · show tC T + 1 ≤ 4; omega
  · have hc : c < tC T + 1 := hc
    show updF (tL T) (tC T) law c ≤ 3
    unfold updF
    split
    · exact h1
    · exact o5 c (by omega)
  · show SD (updF (tB T) (tC T) (xs, 0) c).1 ∧ PS (updF (tB T) (tC T) (xs, 0) c).1 ∧ (updF (tB T) (tC T) (xs, 0) c).1.sum ≤ 40 ∧ (updF (tB T) (tC T) (xs, 0) c).2 = 0
    unfold updF
    split
    · exact ⟨h2, h3, h4, rfl⟩
    · exact o6 c
  · have hc : tC T + 1 ≤ c := hc
    show updF (tB T) (tC T) (xs, 0) c = _
    unfold updF
    rw [if_neg (by omega)]
    exact o7 c (by omega)
  · have := o9 i hi
    exact ⟨by show tUc T i < tC T + 1; omega, this.2⟩
  · have := o12 i hi
    exact ⟨by show tEc T i < tC T + 1; omega, this.2⟩
theorem PTk_Un {T : Tt} {c v : Nat} (p : TOk T) (q : tU T < 4) (h0 : c < tC T) (h1 : ¬ upl T c < tU T) (h2 : 1 ≤ v) (h3 : v ≤ 9) : TOk (wUn T c v) := by
  obtain ⟨o1, o2, o3, o4, o5, o6, o7, o8, o9, o10, o11, o12⟩ := p
  have ne : ∀ i, i < tU T → tUc T i ≠ c := fun i hi z => by
    have hle : upl T c ≤ tU T := fsti_le _ _
    have := fsti_f (tU T) (fun u => decide (tUc T u = c)) i (by unfold upl at h1 hle; omega)
    exact of_decide_eq_false this z
  refine ⟨o1, o2, o3, o4, o5, o6, o7, ?_, fun i hi => ?_, fun i j hij hj => ?_, o11, o12⟩
  · show tU T + 1 ≤ 4; omega
  · have hi : i < tU T + 1 := hi
    show updF (tUc T) (tU T) c i < tC T ∧ 1 ≤ updF (tUs T) (tU T) v i ∧ updF (tUs T) (tU T) v i ≤ 9
    unfold updF
    split
    · exact ⟨h0, h2, h3⟩
    · exact o9 i (by omega)
  · have hj : j < tU T + 1 := hj
    show updF (tUc T) (tU T) c i ≠ updF (tUc T) (tU T) c j
    unfold updF
    rw [if_neg (show ¬ i = tU T by omega)]
    split
    · exact ne i (by omega)
    · exact o10 i j hij (by omega)
theorem PTk_Se {T : Tt} {c m h : Nat} (p : TOk T) (q : tE T < 6) (h0 : c < tC T) (h1 : m ≤ 99) (h2 : h ≤ 60) : TOk (wSe T c m h) := by
  obtain ⟨o1, o2, o3, o4, o5, o6, o7, o8, o9, o10, o11, o12⟩ := p
  refine ⟨o1, o2, o3, o4, o5, o6, o7, o8, o9, o10, ?_, fun i hi => ?_⟩
  · show tE T + 1 ≤ 6; omega
  · have hi : i < tE T + 1 := hi
    show updF (tEc T) (tE T) c i < tC T ∧ updF (tEn T) (tE T) m i ≤ 99 ∧ updF (tEh T) (tE T) h i ≤ 60
    unfold updF
    split
    · exact ⟨h0, h1, h2⟩
    · exact o12 i (by omega)
/-- four unsure ones are all -/
theorem un_4 {T : Tt} (p : TOk T) (q : tU T = 4) {c : Nat} (hc : c < tC T) : upl T c < tU T := by
  obtain ⟨o1, o2, o3, o4, o5, o6, o7, o8, o9, o10, o11, o12⟩ := p
  have hle : upl T c ≤ tU T := fsti_le _ _
  rcases Nat.lt_or_ge (upl T c) (tU T) with z | z
  · exact z
  · exfalso
    have ne : ∀ i, i < tU T → tUc T i ≠ c := fun i hi w => by
      have := fsti_f (tU T) (fun u => decide (tUc T u = c)) i (by unfold upl at z; omega)
      exact of_decide_eq_false this w
    have a0 := (o9 0 (by omega)).1
    have a1 := (o9 1 (by omega)).1
    have a2 := (o9 2 (by omega)).1
    have a3 := (o9 3 (by omega)).1
    have n0 := ne 0 (by omega)
    have n1 := ne 1 (by omega)
    have n2 := ne 2 (by omega)
    have n3 := ne 3 (by omega)
    have d1 := o10 0 1 (by omega) (by omega)
    have d2 := o10 0 2 (by omega) (by omega)
    have d3 := o10 0 3 (by omega) (by omega)
    have d4 := o10 1 2 (by omega) (by omega)
    have d5 := o10 1 3 (by omega) (by omega)
    have d6 := o10 2 3 (by omega) (by omega)
    generalize tUc T 0 = x0 at *
    generalize tUc T 1 = x1 at *
    generalize tUc T 2 = x2 at *
    generalize tUc T 3 = x3 at *
    omega
theorem rHp_ok {b : Nat → Nat} {n : Nat} : ∀ (f : Nat) (xs : List Nat) (k : Tk) (r : List Nat × Tk), SD xs → PS xs → xs.sum ≤ 40 → rHp b n f xs k = Sum.inl r → SD r.1 ∧ PS r.1 ∧ r.1.sum ≤ 40
  | 0, xs, k, r, h1, h2, h3, h => by
    unfold rHp at h
    rw [← Sum.inl.inj h]
    exact ⟨h1, h2, h3⟩
  | f + 1, xs, k, r, h1, h2, h3, h => by
    unfold rHp at h
    split at h
    · split at h
      · cases h
      · rename_i q
        split at h
        · cases h
        · exact rHp_ok f _ _ r (ins_sd _ _ h1) (ins_ps (by omega) h2) (by rw [ins_sum]; omega) h
    · rw [← Sum.inl.inj h]
      exact ⟨h1, h2, h3⟩

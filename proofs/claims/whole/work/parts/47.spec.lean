/-! WHAT EACH CALL ANSWERS, the trouble it leaves: of the state alone -/
abbrev rw1 (S : St) (c : Nat) : List Nat := ((sNw S).1 c).1
def spC (S : St) (c : Int) (f : Nat → Int) : Int × Int := if isCl S c then (f c.toNat, 0) else (-1, 1)
def spN (S : St) (c n m : Int) (f : Nat → Nat → Int) : Int × Int := if isCl S c then (if 0 ≤ n ∧ n ≤ m then (f c.toNat n.toNat, 0) else (-1, 2)) else (-1, 1)
def spW (S : St) (n m : Int) (f : Nat → Int) : Int × Int := if 0 < tC (sTo S) then (if 0 ≤ n ∧ n ≤ m then (f n.toNat, 0) else (-1, 2)) else (-1, 1)
def spS (S : St) (a : Int) : Int × Int := if 0 < tC (sTo S) then (a, 0) else (-1, 1)
def rpN (s : Nat → Hp) : Nat := fsti (fun n => (List.range n).any (fun k => decide (s k = s n))) 401
def stl (s : Nat → Hp) : Int := if rpN s < 401 then (fsti (fun k => decide (s k = s (rpN s))) (rpN s) : Int) else -2
def rnd (s : Nat → Hp) : Int := if rpN s < 401 then (rpN s : Int) - stl s else -2
def fwst (f : Nat → Nat) : Nat → Nat × Nat
  | 0 => (0, f 0)
  | n + 1 => if f (n + 1) < (fwst f n).2 then (n + 1, f (n + 1)) else fwst f n
def fint (p : Nat → Bool) (n : Nat) : Int := if fsti p n < n then (fsti p n : Int) else -2
def sp_cellar (S : St) (c w : Int) : Int × Int := if isCl S c ∧ 0 ≤ w ∧ w ≤ 4 then (if w = 0 then (tL (sTo S) c.toNat : Int) else if w = 1 then ((rw1 S c.toNat).length : Int) else if w = 2 then (((rw1 S c.toNat).sum + ((sNw S).1 c.toNat).2 : Nat) : Int) else if w = 3 then ((rw1 S c.toNat).getD 0 0 : Int) else (((sNw S).1 c.toNat).2 : Int), 0) else (-1, 1)
def sp_heap (S : St) (c i : Int) : Int × Int := if isHp S c i then (((rw1 S c.toNat).getD i.toNat 0 : Int), 0) else (-1, 1)
def sp_still (S : St) (c : Int) : Int × Int := spC S c (fun c => if ahd S c 1 = (sNw S).1 c then 1 else 0)
def sp_heaps (S : St) (c n : Int) : Int × Int := spN S c n 999 (fun c n => ((ahd S c n).1.length : Int))
def sp_greatest (S : St) (c n : Int) : Int × Int := spN S c n 999 (fun c n => ((ahd S c n).1.getD 0 0 : Int))
def sp_heapIn (S : St) (c n i : Int) : Int × Int := if isCl S c then (if 0 ≤ n ∧ n ≤ 999 then (if 0 ≤ i ∧ i ≤ 59 then (((ahd S c.toNat n.toNat).1.getD i.toNat 0 : Int), 0) else (-1, 2)) else (-1, 2)) else (-1, 1)
def sp_held (S : St) (c n : Int) : Int × Int := spN S c n 999 (fun c n => ((ahd S c n).2 : Int))
def sp_settles (S : St) (c : Int) : Int × Int := spC S c (fun c => stl (ahd S c))
def sp_round (S : St) (c : Int) : Int × Int := spC S c (fun c => rnd (ahd S c))
def sp_fewest (S : St) (c : Int) : Int × Int := spC S c (fun c => ((fwst (fun n => (ahd S c n).1.length) 400).1 : Int))
def sp_alike (S : St) (c d : Int) : Int × Int := if isCl S c ∧ isCl S d ∧ c ≠ d then (fint (fun n => decide ((ahd S c.toNat n).1 = (ahd S d.toNat n).1)) 401, 0) else (-1, 1)
def sp_column (S : St) (c j : Int) : Int × Int := spN S c j 59 (fun c j => (cnt (rw1 S c) j : Int))
def sp_square (S : St) (c : Int) : Int × Int := spC S c (fun c => (sqr (rw1 S c) : Int))
def sp_corners (S : St) (c : Int) : Int × Int := spC S c (fun c => (crF (rw1 S c) : Int))
def sp_rank (S : St) (c : Int) : Int × Int := if isCl S c then (((rw1 S c.toNat).getD 0 0 : Int) - ((rw1 S c.toNat).length : Int), 0) else (-1000, 1)
def sp_hook (S : St) (c i j : Int) : Int × Int := if isHp S c i ∧ 0 ≤ j ∧ j < ((rw1 S c.toNat).getD i.toNat 0 : Int) then (hkI (rw1 S c.toNat) i.toNat j.toNat, 0) else (-1, 1)
def sp_orders (S : St) (c : Int) : Int × Int := if isCl S c then (if 30 < (rw1 S c.toNat).sum then (-1, 3) else (ordI (rw1 S c.toNat), 0)) else (-1, 1)
def sp_common (S : St) (c d : Int) : Int × Int := if isCl S c ∧ isCl S d then ((cmn (rw1 S c.toNat) (rw1 S d.toNat) : Int), 0) else (-1, 1)
def sp_mirrors (S : St) (c d : Int) : Int × Int := if isCl S c ∧ isCl S d then (if mir (rw1 S c.toNat) (rw1 S d.toNat) = true then 1 else 0, 0) else (-1, 1)
def sp_sources (S : St) (c : Int) : Int × Int := spC S c (fun c => (srcN (rw1 S c) : Int))
def sp_source (S : St) (c k i : Int) : Int × Int := if isCl S c ∧ 0 ≤ k ∧ k < (srcN (rw1 S c.toNat) : Int) then (if 0 ≤ i ∧ i ≤ 59 then ((srcH (rw1 S c.toNat) k.toNat i.toNat : Int), 0) else (-1, 2)) else (-1, 1)
def sp_ways (S : St) (n : Int) : Int × Int := spW S n 60 (fun n => (wQ n n : Int))
def sp_waysBy (S : St) (n k : Int) : Int × Int := if 0 < tC (sTo S) then (if 0 ≤ n ∧ n ≤ 60 ∧ 0 ≤ k ∧ k ≤ 60 then (if n < k then 0 else (wQ k.toNat (n.toNat - k.toNat) : Int), 0) else (-1, 2)) else (-1, 1)
def sp_waysUnlike (S : St) (n : Int) : Int × Int := spW S n 60 (fun n => (uQ n n : Int))
def sp_eats (S : St) (c : Int) : Int × Int := spC S c (fun c => if xr (rw1 S c) = 0 then 0 else 1)
def sp_eatsOf (S : St) (c : Int) : Int × Int := spC S c (fun c => fint (fun i => decide (wbI (rw1 S c) i ≠ -2)) (rw1 S c).length)
def sp_eatsMany (S : St) (c : Int) : Int × Int := spC S c (fun c => if fsti (fun i => decide (wbI (rw1 S c) i ≠ -2)) (rw1 S c).length < (rw1 S c).length then wbI (rw1 S c) (fsti (fun i => decide (wbI (rw1 S c) i ≠ -2)) (rw1 S c).length) else -2)
def sp_carry (S : St) (c : Int) : Int × Int := spC S c (fun c => (huf ((rw1 S c).length - 1) (rw1 S c) : Int))
def sp_level (S : St) (c : Int) : Int × Int := spC S c (fun c => (lev (rw1 S c) : Int))
def sp_makes (S : St) (c k : Int) : Int × Int := spN S c k 60 (fun c k => enc (fwi (rw1 S c) (rw1 S c).length k))
def sp_half (S : St) (c : Int) : Int × Int := spC S c (fun c => (hal (fwi (rw1 S c) (rw1 S c).length) ((rw1 S c).sum / 2) : Int))
def sp_fits (S : St) : Int × Int := spS S ((fitL (sTo S)).length : Int)
def sp_fitAt (S : St) (i : Int) : Int × Int := if 0 < tC (sTo S) ∧ 0 ≤ i ∧ i < ((fitL (sTo S)).length : Int) then (((fitL (sTo S)).getD i.toNat 0 : Int), 0) else (-1, 1)
def sp_could (S : St) : Int × Int := spS S (someL (fitL (sTo S)) : Int)
def sp_surely (S : St) : Int × Int := spS S (allL (fitL (sTo S)) : Int)
def sp_ask (S : St) : Int × Int := spS S (askI (fitL (sTo S)) (tU (sTo S)))
def sp_askLeaves (S : St) : Int × Int := spS S (if askI (fitL (sTo S)) (tU (sTo S)) = -2 then -2 else (lvs (fitL (sTo S)) (askI (fitL (sTo S)) (tU (sTo S))).toNat : Int))
def sp_judge (S : St) : Int × Int := spS S (fnso (sTo S))
def stHas (cheese : Int) (s m : Bool) : Int := if s then (if m then -cheese else -1) else if m then 0 else 1
def moHas (s m : Bool) : Int := if s then (if m then 1 else 0) else if m then 4 else 2
def isRst (cheese : Int) (p : Nat) : Bool := decide (stHas cheese (!decide (2 ≤ p)) (decide (p % 2 = 1)) ≤ stHas cheese (decide (2 ≤ p)) (decide (p % 2 = 1))) && decide (moHas (decide (2 ≤ p)) (!decide (p % 2 = 1)) ≤ moHas (decide (2 ≤ p)) (decide (p % 2 = 1)))
def sp_comes (S : St) (cheese : Int) (s m o : Bool) : Int × Int := if 0 < tC (sTo S) then (if 0 ≤ cheese ∧ cheese ≤ 9 then (if o then moHas s m else stHas cheese s m, 0) else (-100, 2)) else (-100, 1)
def rstN (cheese : Int) : Nat := (List.range 4).countP (isRst cheese)
def rst1 (cheese : Int) : Int := if fsti (isRst cheese) 4 < 4 then ((10 * (fsti (isRst cheese) 4 / 2) + fsti (isRst cheese) 4 % 2 : Nat) : Int) else -2
def sp_rests (S : St) (n : Int) : Int × Int := spW S n 9 (fun n => (rstN n : Int))
def sp_rest (S : St) (n : Int) : Int × Int := spW S n 9 (fun n => rst1 n)
def sp_odds (S : St) (c n m : Int) (l : Bool) : Int × Int := if isCl S c then (if 0 ≤ n ∧ n ≤ 8 ∧ 0 ≤ m ∧ m ≤ 60 then ((lowN (bn (100 - tS (sTo S)) (tS (sTo S)) n.toNat (fun a => if m.toNat ≤ (ahd S c.toNat a).1.length then 1 else 0)) (100 ^ n.toNat) l : Int), 0) else (-1, 2)) else (-1, 1)
def sp_mean (S : St) (c n : Int) (l : Bool) : Int × Int := if isCl S c then (if 0 ≤ n ∧ n ≤ 8 then ((lowN (bn (100 - tS (sTo S)) (tS (sTo S)) n.toNat (fun a => (ahd S c.toNat a).1.length)) (100 ^ n.toNat) l : Int), 0) else (-1, 2)) else (-1, 1)
/-- how many nights aren't slept, by a seed: the seed then -/
def drw (sleeps seed : Nat) : Nat → Nat × Nat
  | 0 => (seed, 0)
  | n + 1 => ((75 * (drw sleeps seed n).1 + 74) % 65537, (drw sleeps seed n).2 + if sleeps ≤ (75 * (drw sleeps seed n).1 + 74) % 65537 % 100 then 1 else 0)
def sp_drawn (S : St) (c s n : Int) : Int × Int := if isCl S c then (if 0 ≤ s ∧ s ≤ 65536 ∧ 0 ≤ n ∧ n ≤ 200 then (((ahd S c.toNat (drw (tS (sTo S)) s.toNat n.toNat).2).1.length : Int), 0) else (-1, 2)) else (-1, 1)
/-- a round that goes through all -/
theorem rp_A {law hold : Nat} {x : Hp} {v : Int} (F : FRd law hold x v) (h : rpN (fun n => nti law hold n x) < 401) : v = rnd (fun n => nti law hold n x) ∧ ∃ p : Nat, v = (p : Int) ∧ p ≤ 1000 ∧ forI (fun n => nti law hold n x) p = stl (fun n => nti law hold n x) ∧ stl (fun n => nti law hold n x) ≠ -2 := by
  generalize hs : (fun n => nti law hold n x) = s at h ⊢
  have es : ∀ n, nti law hold n x = s n := fun n => by rw [← hs]
  have per : ∀ {m n : Nat}, s n = s m → ∀ k, s (n + k) = s (m + k) := fun {m n} q k => by
    rw [← es, ← es] at q ⊢; exact nti_eq q k
  have t0 := fsti_t 401 (fun n => (List.range n).any (fun k => decide (s k = s n))) h
  have mn : ∀ n, n < rpN s → ∀ k, k < n → s k ≠ s n := fun n hn k hk q => by
    have := fsti_f 401 (fun n => (List.range n).any (fun k => decide (s k = s n))) n hn
    rw [List.any_eq_false] at this
    exact this k (List.mem_range.mpr hk) (decide_eq_true q)
  obtain ⟨k1, hk1, q1⟩ := List.any_eq_true.mp t0
  have hk1 : k1 < rpN s := List.mem_range.mp hk1
  have q1 : s k1 = s (rpN s) := of_decide_eq_true q1
  have u1 : fsti (fun k => decide (s k = s (rpN s))) (rpN s) < rpN s := by
    rcases Nat.lt_or_ge (fsti (fun k => decide (s k = s (rpN s))) (rpN s)) (rpN s) with z | z
    · exact z
    · have := fsti_f (rpN s) (fun k => decide (s k = s (rpN s))) k1 (by omega)
      exact absurd (decide_eq_true q1) (by rw [this]; decide)
  have u2 := of_decide_eq_true (fsti_t (rpN s) (fun k => decide (s k = s (rpN s))) u1)
  have est : stl s = (fsti (fun k => decide (s k = s (rpN s))) (rpN s) : Int) := if_pos h
  have ernd : rnd s = (rpN s : Int) - stl s := if_pos h
  rw [ernd, est]
  generalize fsti (fun k => decide (s k = s (rpN s))) (rpN s) = k0 at u1 u2
  generalize rpN s = n0 at *
  have lam : ∀ q k, s (k0 + (q * (n0 - k0) + k)) = s (k0 + k) := by
    intro q k
    have := nti_per (law := law) (hold := hold) (x := x) (m := k0) (p := n0 - k0) (by rw [es, es, show k0 + (n0 - k0) = n0 by omega]; exact u2.symm) q k
    rw [es, es] at this; exact this
  have red : ∀ i, k0 ≤ i → s i = s (k0 + (i - k0) % (n0 - k0)) := fun i hi => by
    have a := lam ((i - k0) / (n0 - k0)) ((i - k0) % (n0 - k0))
    have b : (i - k0) / (n0 - k0) * (n0 - k0) + (i - k0) % (n0 - k0) = i - k0 := by rw [Nat.mul_comm]; exact Nat.div_add_mod _ _
    rw [b, show k0 + (i - k0) = i by omega] at a
    exact a
  have hv : v = ((n0 - k0 : Nat) : Int) := by
    rcases F with ⟨m, p, e, p0, p1, r, ne⟩ | ⟨e, ne⟩
    · rw [es, es] at r
      have hm : k0 ≤ m := by
        rcases Nat.lt_or_ge m k0 with z | z
        · exfalso
          by_cases y : m + p < n0
          · exact mn (m + p) y m (by omega) r.symm
          · have b := red (m + p) (by omega)
            have c := Nat.mod_lt (m + p - k0) (show 0 < n0 - k0 by omega)
            rw [r] at b
            exact mn _ (show k0 + (m + p - k0) % (n0 - k0) < n0 by omega) m (by omega) b
        · exact z
      have p2 : p ≤ n0 - k0 := by
        rcases Nat.lt_or_ge (n0 - k0) p with z | z
        · exfalso
          refine ne (n0 - k0) (by omega) z ?_
          rw [es, es]
          have := lam 1 (m - k0)
          rw [show k0 + (1 * (n0 - k0) + (m - k0)) = m + (n0 - k0) by omega, show k0 + (m - k0) = m by omega] at this
          exact this
        · exact z
      have p3 : ¬ p < n0 - k0 := fun z => by
        have b := lam (m - k0 + 1) 0
        have b2 := lam (m - k0 + 1) p
        have ge : m - k0 + 1 ≤ (m - k0 + 1) * (n0 - k0) := Nat.le_mul_of_pos_right _ (by omega)
        have c := per r ((m - k0 + 1) * (n0 - k0) - (m - k0))
        rw [show m + p + ((m - k0 + 1) * (n0 - k0) - (m - k0)) = k0 + ((m - k0 + 1) * (n0 - k0) + p) by omega, show m + ((m - k0 + 1) * (n0 - k0) - (m - k0)) = k0 + ((m - k0 + 1) * (n0 - k0) + 0) by omega, b, b2] at c
        exact mn (k0 + p) (by omega) k0 (by omega) c.symm
      rw [e]; omega
    · exfalso
      have := per u2.symm (511 - k0)
      rw [show n0 + (511 - k0) = 511 + (n0 - k0) by omega, show k0 + (511 - k0) = 511 by omega] at this
      have w := ne (n0 - k0) (by omega) (by omega)
      rw [es, es] at w
      exact w this
  refine ⟨by rw [hv]; omega, n0 - k0, hv, by omega, ?_, by omega⟩
  have e : fsti (fun n => decide (s n = s (n + (n0 - k0)))) (401 - (n0 - k0)) = k0 := fsti_eq (by omega) (fun i hi => decide_eq_false (fun z => mn (i + (n0 - k0)) (by omega) i (by omega) z)) (fun _ => decide_eq_true (by rw [show k0 + (n0 - k0) = n0 by omega]; exact u2))
  unfold forI
  rw [e, if_pos (by omega)]
theorem rp_B {s : Nat → Hp} (h : ¬ rpN s < 401) {p : Nat} (hp : 0 < p) : forI s p = -2 := by
  have e : fsti (fun n => decide (s n = s (n + p))) (401 - p) = 401 - p := fsti_eq (Nat.le_refl _) (fun i hi => decide_eq_false (fun z => by
    have hl : rpN s = 401 := by have : rpN s ≤ 401 := fsti_le _ _; omega
    have := fsti_f 401 (fun n => (List.range n).any (fun k => decide (s k = s n))) (i + p) (by unfold rpN at hl; omega)
    rw [List.any_eq_false] at this
    exact this i (List.mem_range.mpr (by omega)) (decide_eq_true z))) (fun z => by omega)
  unfold forI
  rw [e, if_neg (by omega)]

/-! Guesses -/
def uplI (T : Tt) (c : Nat) : Int := if upl T c < tU T then (upl T c : Int) else -1
def gw (T : Tt) : Nat → Bool
  | 0 => true
  | s + 1 => gw T s && (decide (uplI T (tEc T s) ≠ -1) || so T s 0)
def ma1 (T : Tt) (u : Nat) : Nat → Bool
  | 0 => true
  | s + 1 => ma1 T u s && (!decide (uplI T (tEc T s) = (u : Int)) || so T s 0)
def ma2 (T : Tt) (u : Nat) : Nat → Bool
  | 0 => true
  | s + 1 => ma2 T u s && (!decide (uplI T (tEc T s) = (u : Int)) || so T s (tUs T u))
def fnw (T : Tt) : Nat → Int
  | 0 => -2
  | s + 1 => if fnw T s = -2 ∧ so T s 0 = false then (s : Int) else fnw T s
theorem uplI_m (T : Tt) (c : Nat) : uplI T c ≠ -1 ↔ upl T c < tU T := by unfold uplI; split <;> omega
theorem uplI_u (T : Tt) (c u : Nat) : uplI T c = (u : Int) ↔ upl T c = u ∧ u < tU T := by unfold uplI; split <;> omega
theorem gw_iff (T : Tt) : ∀ n, gw T n = true ↔ ∀ i, i < n → upl T (tEc T i) < tU T ∨ so T i 0 = true
  | 0 => ⟨fun _ i hi => by omega, fun _ => rfl⟩
  | n + 1 => by
    unfold gw
    rw [Bool.and_eq_true, gw_iff T n, Bool.or_eq_true, decide_eq_true_iff, uplI_m]
    constructor
    · intro ⟨h1, h2⟩ i hi
      by_cases e : i = n
      · rw [e]; exact h2
      · exact h1 i (by omega)
    · intro h; exact ⟨fun i hi => h i (by omega), h n (by omega)⟩
theorem ma1_iff (T : Tt) (u : Nat) (hu : u < tU T) : ∀ n, ma1 T u n = true ↔ ∀ i, i < n → upl T (tEc T i) = u → so T i 0 = true
  | 0 => ⟨fun _ i hi => by omega, fun _ => rfl⟩
  | n + 1 => by
    unfold ma1
    rw [Bool.and_eq_true, ma1_iff T u hu n, Bool.or_eq_true, Bool.not_eq_true', decide_eq_false_iff_not, uplI_u]
    constructor
    · intro ⟨h1, h2⟩ i hi q
      by_cases e : i = n
      · subst e; exact h2.resolve_left (fun z => z ⟨q, hu⟩)
      · exact h1 i (by omega) q
    · intro h
      refine ⟨fun i hi => h i (by omega), ?_⟩
      by_cases q : upl T (tEc T n) = u
      · exact Or.inr (h n (by omega) q)
      · exact Or.inl (fun z => q z.1)
theorem ma2_iff (T : Tt) (u : Nat) (hu : u < tU T) : ∀ n, ma2 T u n = true ↔ ∀ i, i < n → upl T (tEc T i) = u → so T i (tUs T u) = true
  | 0 => ⟨fun _ i hi => by omega, fun _ => rfl⟩
  | n + 1 => by
    unfold ma2
    rw [Bool.and_eq_true, ma2_iff T u hu n, Bool.or_eq_true, Bool.not_eq_true', decide_eq_false_iff_not, uplI_u]
    constructor
    · intro ⟨h1, h2⟩ i hi q
      by_cases e : i = n
      · subst e; exact h2.resolve_left (fun z => z ⟨q, hu⟩)
      · exact h1 i (by omega) q
    · intro h
      refine ⟨fun i hi => h i (by omega), ?_⟩
      by_cases q : upl T (tEc T n) = u
      · exact Or.inr (h n (by omega) q)
      · exact Or.inl (fun z => q z.1)
theorem fnw_eq (T : Tt) : ∀ n, fnw T n = if fsti (fun s => !so T s 0) n < n then (fsti (fun s => !so T s 0) n : Int) else -2
  | 0 => rfl
  | n + 1 => by
    unfold fnw
    rw [fnw_eq T n]
    by_cases q : fsti (fun s => !so T s 0) n < n
    · have e : fsti (fun s => !so T s 0) (n + 1) = fsti (fun s => !so T s 0) n := fsti_eq (by omega) (fun i hi => fsti_f n (fun s => !so T s 0) i hi) (fun _ => fsti_t n (fun s => !so T s 0) q)
      rw [if_pos q, e, if_pos (show fsti (fun s => !so T s 0) n < n + 1 by omega), if_neg (fun z => by omega)]
    · have hle := fsti_le n (fun s => !so T s 0)
      have e0 : fsti (fun s => !so T s 0) n = n := by omega
      rw [if_neg q]
      cases hs : so T n 0 with
      | false =>
        have e : fsti (fun s => !so T s 0) (n + 1) = n := fsti_eq (by omega) (fun i hi => fsti_f n (fun s => !so T s 0) i (by omega)) (fun _ => by show (!so T n 0) = true; rw [hs]; rfl)
        rw [e, if_pos ⟨rfl, rfl⟩, if_pos (show n < n + 1 by omega)]
      | true =>
        have e : fsti (fun s => !so T s 0) (n + 1) = n + 1 := fsti_eq (by omega) (fun i hi => by
          by_cases z : i = n
          · subst z; show (!so T i 0) = false; rw [hs]; rfl
          · exact fsti_f n (fun s => !so T s 0) i (by omega)) (fun z => by omega)
        rw [e, if_neg (fun z => by cases z.2), if_neg (show ¬ n + 1 < n + 1 by omega)]
def may (T : Tt) (set : Nat) : Bool := gw T (tE T) && (List.range (tU T)).all (fun u => if bt set u = 1 then ma2 T u (tE T) else ma1 T u (tE T))
theorem may_eq (T : Tt) (set : Nat) : may T set = (List.range (tE T)).all (fun s => so T s (mor T set (tEc T s))) := by
  rw [Bool.eq_iff_iff]
  unfold may
  rw [Bool.and_eq_true, gw_iff, List.all_eq_true, List.all_eq_true]
  constructor
  · intro ⟨h1, h2⟩ s hs
    have hs := List.mem_range.mp hs
    unfold mor
    by_cases q : upl T (tEc T s) < tU T
    · have h3 := h2 _ (List.mem_range.mpr q)
      by_cases b : bt set (upl T (tEc T s)) = 1
      · rw [if_pos b] at h3
        rw [if_pos ⟨q, b⟩]
        exact (ma2_iff T _ q _).mp h3 s hs rfl
      · rw [if_neg b] at h3
        rw [if_neg (fun z => b z.2)]
        exact (ma1_iff T _ q _).mp h3 s hs rfl
    · rw [if_neg (fun z => q z.1)]
      exact (h1 s hs).resolve_left q
  · intro h
    have h' : ∀ s, s < tE T → so T s (mor T set (tEc T s)) = true := fun s hs => h s (List.mem_range.mpr hs)
    unfold mor at h'
    refine ⟨fun i hi => ?_, fun u hu => ?_⟩
    · by_cases q : upl T (tEc T i) < tU T
      · exact Or.inl q
      · have := h' i hi
        rw [if_neg (fun z => q z.1)] at this
        exact Or.inr this
    · have hu := List.mem_range.mp hu
      by_cases b : bt set u = 1
      · rw [if_pos b, ma2_iff _ _ hu]
        intro i hi e
        have := h' i hi
        rw [e, if_pos ⟨hu, b⟩] at this
        exact this
      · rw [if_neg b, ma1_iff _ _ hu]
        intro i hi e
        have := h' i hi
        rw [e, if_neg (fun z => b z.2)] at this
        exact this
theorem fitL_may (T : Tt) : fitL T = (List.range (2 ^ tU T)).filter (may T) := by
  unfold fitL
  congr 1
  funext set
  exact (may_eq T set).symm
def GAt (I : Nat → Nat → Int) (T : Tt) : Prop := I 227 1 = ((fitL T).length : Int) ∧ (∀ i, i < (fitL T).length → I 228 i = ((fitL T).getD i 0 : Int)) ∧ I 227 2 = fnso T
theorem GAt_kp {I I' : Nat → Nat → Int} {lo hi : Nat} {T : Tt} (H : GAt I T) (K : Kp lo hi I I') (q : hi < 227 ∨ 228 < lo) : GAt I' T := by
  obtain ⟨h1, h2, h3⟩ := H
  refine ⟨by rw [K 227 (by omega)]; exact h1, fun i hi => by rw [K 228 (by omega)]; exact h2 i hi, by rw [K 227 (by omega)]; exact h3⟩
theorem b_ma : ∀ a : Bool, ∀ b : Bool, q_and (((if a then 1 else 0) + (if b then 2 else 0) : Nat) : Int) (-2) = (((if b then 2 else 0) : Nat) : Int) ∧ q_and (((if a then 1 else 0) + (if b then 2 else 0) : Nat) : Int) (-3) = (((if a then 1 else 0) : Nat) : Int) ∧ q_and (((if a then 1 else 0) + (if b then 2 else 0) : Nat) : Int) 1 = (((if a then 1 else 0) : Nat) : Int) ∧ q_and (((if a then 1 else 0) + (if b then 2 else 0) : Nat) : Int) 2 = (((if b then 2 else 0) : Nat) : Int) := by decide +kernel
theorem fit_len {T : Tt} (h : tU T ≤ 4) : (fitL T).length ≤ 16 := by
  have := List.length_filter_le (fun set => (List.range (tE T)).all (fun s => so T s (mor T set (tEc T s)))) (List.range (2 ^ tU T))
  rw [List.length_range] at this
  have := pow_le_16 h
  unfold fitL
  omega
section
variable {t u : Nat} {I J : Nat → Nat → Int} {X : Nat} {T : Tt}
/-- what 'note' does: the first not so, whether all sure ones are so, what may be -/
theorem c_note {s : Nat} {p : Int} {a b : Bool} {f : Int} {g : Bool} (hp : p = -1 ∨ ∃ v : Nat, v < 4 ∧ p = (v : Int)) (hf : I 227 2 = f) (hg : I 227 5 = if g then 1 else 0) (m1 m2 : Nat → Bool) (hm : ∀ v, v < 4 → I 229 v = (((if m1 v then 1 else 0) + (if m2 v then 2 else 0) : Nat) : Int)) : ∃ I', q_E (13, 0, [vr 227, vi (s : Int), vi p, vi (if a = true then 1 else 0), vi (if b = true then 1 else 0)], []) (qk t u I J) = some (vu, qk t u I' J) ∧ I' 227 2 = (if f = -2 ∧ a = false then (s : Int) else f) ∧ I' 227 5 = (if g && (decide (p ≠ -1) || a) then 1 else 0) ∧ (∀ v : Nat, v < 4 → I' 229 v = (((if m1 v && (!decide (p = (v : Int)) || a) then 1 else 0) + (if m2 v && (!decide (p = (v : Int)) || b) then 2 else 0) : Nat) : Int)) ∧ Kp 227 229 I I' := by
  have st : ∃ I1, q_E (13, 0, [vr 227, vi (s : Int), vi p, vi (if a = true then 1 else 0), vi (if b = true then 1 else 0)], []) (qk t u I J) = q_E (13, 18, [vr 227, vu, vi p, vi (if a = true then 1 else 0), vi (if b = true then 1 else 0)], []) (qk t u I1 J) ∧ I1 227 2 = (if f = -2 ∧ a = false then (s : Int) else f) ∧ I1 227 5 = (if g then 1 else 0) ∧ I1 229 = I 229 ∧ Kp 227 227 I I1 := by
    rw [e13_0]
    cases a with
    | true => exact ⟨I, by simp (disch := omega) only [↓reduceIte, lt_TI, lt_FI, le_TI, le_FI, eq_TI, eq_FI, lt_TN, lt_FN, le_TN, le_FN, eq_TN, eq_FN, and_self, and_true, true_and, and_false, false_and, or_true, true_or, or_false, false_or, not_true_eq_false, not_false_eq_true, wr_of, uI_at, uC_at, q_bi_s, q_bl_s, q_br_s, q_bv_s, Int.toNat_natCast, tn_1, tn_m, tn_n, Int.toNat_zero, Int.toNat_one, Bool.true_eq_false], by simp (disch := omega) only [↓reduceIte, lt_TI, lt_FI, le_TI, le_FI, eq_TI, eq_FI, lt_TN, lt_FN, le_TN, le_FN, eq_TN, eq_FN, and_self, and_true, true_and, and_false, false_and, or_true, true_or, or_false, false_or, not_true_eq_false, not_false_eq_true, wr_of, uI_at, uC_at, q_bi_s, q_bl_s, q_br_s, q_bv_s, Int.toNat_natCast, tn_1, tn_m, tn_n, Int.toNat_zero, Int.toNat_one, Bool.true_eq_false] <;> exact hf, hg, rfl, Kp_rf⟩
    | false =>
      by_cases q : f = -2
      · refine ⟨uI I 227 2 (s : Int), by simp (disch := omega) only [↓reduceIte, lt_TI, lt_FI, le_TI, le_FI, eq_TI, eq_FI, lt_TN, lt_FN, le_TN, le_FN, eq_TN, eq_FN, and_self, and_true, true_and, and_false, false_and, or_true, true_or, or_false, false_or, not_true_eq_false, not_false_eq_true, wr_of, uI_at, uC_at, q_bi_s, q_bl_s, q_br_s, q_bv_s, Int.toNat_natCast, tn_1, tn_m, tn_n, Int.toNat_zero, Int.toNat_one, Bool.false_eq_true, hf, q], by simp (disch := omega) only [↓reduceIte, lt_TI, lt_FI, le_TI, le_FI, eq_TI, eq_FI, lt_TN, lt_FN, le_TN, le_FN, eq_TN, eq_FN, and_self, and_true, true_and, and_false, false_and, or_true, true_or, or_false, false_or, not_true_eq_false, not_false_eq_true, wr_of, uI_at, uC_at, q_bi_s, q_bl_s, q_br_s, q_bv_s, Int.toNat_natCast, tn_1, tn_m, tn_n, Int.toNat_zero, Int.toNat_one, q], by simp (disch := omega) only [↓reduceIte, lt_TI, lt_FI, le_TI, le_FI, eq_TI, eq_FI, lt_TN, lt_FN, le_TN, le_FN, eq_TN, eq_FN, and_self, and_true, true_and, and_false, false_and, or_true, true_or, or_false, false_or, not_true_eq_false, not_false_eq_true, wr_of, uI_at, uC_at, q_bi_s, q_bl_s, q_br_s, q_bv_s, Int.toNat_natCast, tn_1, tn_m, tn_n, Int.toNat_zero, Int.toNat_one] <;> exact hg, ?_, Kp_uI Kp_rf (by omega) (by omega)⟩
        funext k; simp (disch := omega) only [↓reduceIte, lt_TI, lt_FI, le_TI, le_FI, eq_TI, eq_FI, lt_TN, lt_FN, le_TN, le_FN, eq_TN, eq_FN, and_self, and_true, true_and, and_false, false_and, or_true, true_or, or_false, false_or, not_true_eq_false, not_false_eq_true, wr_of, uI_at, uC_at, q_bi_s, q_bl_s, q_br_s, q_bv_s, Int.toNat_natCast, tn_1, tn_m, tn_n, Int.toNat_zero, Int.toNat_one]
      · exact ⟨I, by rw [hf, if_neg q]; simp (disch := omega) only [↓reduceIte, lt_TI, lt_FI, le_TI, le_FI, eq_TI, eq_FI, lt_TN, lt_FN, le_TN, le_FN, eq_TN, eq_FN, and_self, and_true, true_and, and_false, false_and, or_true, true_or, or_false, false_or, not_true_eq_false, not_false_eq_true, wr_of, uI_at, uC_at, q_bi_s, q_bl_s, q_br_s, q_bv_s, Int.toNat_natCast, tn_1, tn_m, tn_n, Int.toNat_zero, Int.toNat_one, Bool.false_eq_true], by rw [if_neg (fun z => q z.1)]; exact hf, hg, rfl, Kp_rf⟩
  obtain ⟨I1, e1, e2, e3, e4, e5⟩ := st
  rw [e1, e13_18]
  rcases hp with q | ⟨v, hv, q⟩
  · subst q
    have hmv : ∀ v : Nat, v < 4 → I1 229 v = (((if m1 v && (!decide ((-1 : Int) = (v : Int)) || a) then 1 else 0) + (if m2 v && (!decide ((-1 : Int) = (v : Int)) || b) then 2 else 0) : Nat) : Int) := fun v hv => by
      have : decide ((-1 : Int) = (v : Int)) = false := decide_eq_false (by omega)
      rw [this, e4, hm v hv]
      simp
    cases g with
    | false =>
      refine ⟨uI I1 227 5 0, by simp (disch := omega) only [↓reduceIte, lt_TI, lt_FI, le_TI, le_FI, eq_TI, eq_FI, lt_TN, lt_FN, le_TN, le_FN, eq_TN, eq_FN, and_self, and_true, true_and, and_false, false_and, or_true, true_or, or_false, false_or, not_true_eq_false, not_false_eq_true, wr_of, uI_at, uC_at, q_bi_s, q_bl_s, q_br_s, q_bv_s, Int.toNat_natCast, tn_1, tn_m, tn_n, Int.toNat_zero, Int.toNat_one, e3, Bool.false_eq_true], by simp (disch := omega) only [↓reduceIte, lt_TI, lt_FI, le_TI, le_FI, eq_TI, eq_FI, lt_TN, lt_FN, le_TN, le_FN, eq_TN, eq_FN, and_self, and_true, true_and, and_false, false_and, or_true, true_or, or_false, false_or, not_true_eq_false, not_false_eq_true, wr_of, uI_at, uC_at, q_bi_s, q_bl_s, q_br_s, q_bv_s, Int.toNat_natCast, tn_1, tn_m, tn_n, Int.toNat_zero, Int.toNat_one, e2], by simp (disch := omega) only [↓reduceIte, lt_TI, lt_FI, le_TI, le_FI, eq_TI, eq_FI, lt_TN, lt_FN, le_TN, le_FN, eq_TN, eq_FN, and_self, and_true, true_and, and_false, false_and, or_true, true_or, or_false, false_or, not_true_eq_false, not_false_eq_true, wr_of, uI_at, uC_at, q_bi_s, q_bl_s, q_br_s, q_bv_s, Int.toNat_natCast, tn_1, tn_m, tn_n, Int.toNat_zero, Int.toNat_one, Bool.false_and, Bool.false_eq_true], fun v hv => by simp (disch := omega) only [↓reduceIte, lt_TI, lt_FI, le_TI, le_FI, eq_TI, eq_FI, lt_TN, lt_FN, le_TN, le_FN, eq_TN, eq_FN, and_self, and_true, true_and, and_false, false_and, or_true, true_or, or_false, false_or, not_true_eq_false, not_false_eq_true, wr_of, uI_at, uC_at, q_bi_s, q_bl_s, q_br_s, q_bv_s, Int.toNat_natCast, tn_1, tn_m, tn_n, Int.toNat_zero, Int.toNat_one] <;> exact hmv v hv, Kp_tr e5 (Kp_uI Kp_rf (by omega) (by omega) : Kp 227 227 I1 _) (by omega) (by omega) (by omega) (by omega)⟩
    | true =>
      cases a with
      | false => exact ⟨uI I1 227 5 0, by simp (disch := omega) only [↓reduceIte, lt_TI, lt_FI, le_TI, le_FI, eq_TI, eq_FI, lt_TN, lt_FN, le_TN, le_FN, eq_TN, eq_FN, and_self, and_true, true_and, and_false, false_and, or_true, true_or, or_false, false_or, not_true_eq_false, not_false_eq_true, wr_of, uI_at, uC_at, q_bi_s, q_bl_s, q_br_s, q_bv_s, Int.toNat_natCast, tn_1, tn_m, tn_n, Int.toNat_zero, Int.toNat_one, e3, Bool.false_eq_true], by simp (disch := omega) only [↓reduceIte, lt_TI, lt_FI, le_TI, le_FI, eq_TI, eq_FI, lt_TN, lt_FN, le_TN, le_FN, eq_TN, eq_FN, and_self, and_true, true_and, and_false, false_and, or_true, true_or, or_false, false_or, not_true_eq_false, not_false_eq_true, wr_of, uI_at, uC_at, q_bi_s, q_bl_s, q_br_s, q_bv_s, Int.toNat_natCast, tn_1, tn_m, tn_n, Int.toNat_zero, Int.toNat_one, e2], by simp (disch := omega) only [↓reduceIte, lt_TI, lt_FI, le_TI, le_FI, eq_TI, eq_FI, lt_TN, lt_FN, le_TN, le_FN, eq_TN, eq_FN, and_self, and_true, true_and, and_false, false_and, or_true, true_or, or_false, false_or, not_true_eq_false, not_false_eq_true, wr_of, uI_at, uC_at, q_bi_s, q_bl_s, q_br_s, q_bv_s, Int.toNat_natCast, tn_1, tn_m, tn_n, Int.toNat_zero, Int.toNat_one, Bool.true_and, Bool.false_eq_true, Bool.or_false, decide_not, Bool.not_eq_true', decide_eq_false_iff_not, not_true_eq_false], fun v hv => by simp (disch := omega) only [↓reduceIte, lt_TI, lt_FI, le_TI, le_FI, eq_TI, eq_FI, lt_TN, lt_FN, le_TN, le_FN, eq_TN, eq_FN, and_self, and_true, true_and, and_false, false_and, or_true, true_or, or_false, false_or, not_true_eq_false, not_false_eq_true, wr_of, uI_at, uC_at, q_bi_s, q_bl_s, q_br_s, q_bv_s, Int.toNat_natCast, tn_1, tn_m, tn_n, Int.toNat_zero, Int.toNat_one] <;> exact hmv v hv, Kp_tr e5 (Kp_uI Kp_rf (by omega) (by omega) : Kp 227 227 I1 _) (by omega) (by omega) (by omega) (by omega)⟩
      | true => exact ⟨uI I1 227 5 1, by simp (disch := omega) only [↓reduceIte, lt_TI, lt_FI, le_TI, le_FI, eq_TI, eq_FI, lt_TN, lt_FN, le_TN, le_FN, eq_TN, eq_FN, and_self, and_true, true_and, and_false, false_and, or_true, true_or, or_false, false_or, not_true_eq_false, not_false_eq_true, wr_of, uI_at, uC_at, q_bi_s, q_bl_s, q_br_s, q_bv_s, Int.toNat_natCast, tn_1, tn_m, tn_n, Int.toNat_zero, Int.toNat_one, e3, Bool.false_eq_true], by simp (disch := omega) only [↓reduceIte, lt_TI, lt_FI, le_TI, le_FI, eq_TI, eq_FI, lt_TN, lt_FN, le_TN, le_FN, eq_TN, eq_FN, and_self, and_true, true_and, and_false, false_and, or_true, true_or, or_false, false_or, not_true_eq_false, not_false_eq_true, wr_of, uI_at, uC_at, q_bi_s, q_bl_s, q_br_s, q_bv_s, Int.toNat_natCast, tn_1, tn_m, tn_n, Int.toNat_zero, Int.toNat_one, e2], by simp (disch := omega) only [↓reduceIte, lt_TI, lt_FI, le_TI, le_FI, eq_TI, eq_FI, lt_TN, lt_FN, le_TN, le_FN, eq_TN, eq_FN, and_self, and_true, true_and, and_false, false_and, or_true, true_or, or_false, false_or, not_true_eq_false, not_false_eq_true, wr_of, uI_at, uC_at, q_bi_s, q_bl_s, q_br_s, q_bv_s, Int.toNat_natCast, tn_1, tn_m, tn_n, Int.toNat_zero, Int.toNat_one, Bool.true_and, Bool.or_true], fun v hv => by simp (disch := omega) only [↓reduceIte, lt_TI, lt_FI, le_TI, le_FI, eq_TI, eq_FI, lt_TN, lt_FN, le_TN, le_FN, eq_TN, eq_FN, and_self, and_true, true_and, and_false, false_and, or_true, true_or, or_false, false_or, not_true_eq_false, not_false_eq_true, wr_of, uI_at, uC_at, q_bi_s, q_bl_s, q_br_s, q_bv_s, Int.toNat_natCast, tn_1, tn_m, tn_n, Int.toNat_zero, Int.toNat_one] <;> exact hmv v hv, Kp_tr e5 (Kp_uI Kp_rf (by omega) (by omega) : Kp 227 227 I1 _) (by omega) (by omega) (by omega) (by omega)⟩
  · subst q
    have hd : decide ((v : Int) ≠ -1) = true := decide_eq_true (by omega)
    have hg1 : I1 227 5 = (if g && (decide ((v : Int) ≠ -1) || a) then 1 else 0) := by rw [hd, e3]; simp
    have hw := hm v hv
    obtain ⟨x1, x2, -, -⟩ := b_ma (m1 v) (m2 v)
    obtain ⟨y1, y2, -, -⟩ := b_ma false (m2 v)
    rw [← e4] at hw
    have other : ∀ w : Nat, w < 4 → w ≠ v → I1 229 w = (((if m1 w && (!decide ((v : Int) = (w : Int)) || a) then 1 else 0) + (if m2 w && (!decide ((v : Int) = (w : Int)) || b) then 2 else 0) : Nat) : Int) := fun w hw2 ne => by
      have : decide ((v : Int) = (w : Int)) = false := decide_eq_false (by omega)
      rw [this, e4, hm w hw2]
      simp
    have K1 : ∀ z, Kp 229 229 I1 (uI I1 229 v z) := fun z => Kp_uI Kp_rf (by omega) (by omega)
    have K2 : ∀ z z', Kp 229 229 I1 (uI (uI I1 229 v z) 229 v z') := fun z z' => Kp_uI (Kp_uI Kp_rf (by omega) (by omega)) (by omega) (by omega)
    cases a with
    | true =>
      cases b with
      | true =>
        refine ⟨I1, ?_, e2, hg1, fun w hw2 => ?_, Kp_w e5 (by omega) (by omega)⟩
        · simp (disch := omega) only [↓reduceIte, lt_TI, lt_FI, le_TI, le_FI, eq_TI, eq_FI, lt_TN, lt_FN, le_TN, le_FN, eq_TN, eq_FN, and_self, and_true, true_and, and_false, false_and, or_true, true_or, or_false, false_or, not_true_eq_false, not_false_eq_true, wr_of, uI_at, uC_at, q_bi_s, q_bl_s, q_br_s, q_bv_s, Int.toNat_natCast, tn_1, tn_m, tn_n, Int.toNat_zero, Int.toNat_one]; rw [e13_59]; simp (disch := omega) only [↓reduceIte, lt_TI, lt_FI, le_TI, le_FI, eq_TI, eq_FI, lt_TN, lt_FN, le_TN, le_FN, eq_TN, eq_FN, and_self, and_true, true_and, and_false, false_and, or_true, true_or, or_false, false_or, not_true_eq_false, not_false_eq_true, wr_of, uI_at, uC_at, q_bi_s, q_bl_s, q_br_s, q_bv_s, Int.toNat_natCast, tn_1, tn_m, tn_n, Int.toNat_zero, Int.toNat_one]; exact e13_75 t u I1 J
        · by_cases ne : w = v
          · subst ne; rw [hw]; simp
          · exact other w hw2 ne
      | false =>
        refine ⟨uI I1 229 v (((if m1 v then 1 else 0) : Nat) : Int), ?_, ?_, ?_, fun w hw2 => ?_, Kp_tr e5 (K1 _) (by omega) (by omega) (by omega) (by omega)⟩
        · simp (disch := omega) only [↓reduceIte, lt_TI, lt_FI, le_TI, le_FI, eq_TI, eq_FI, lt_TN, lt_FN, le_TN, le_FN, eq_TN, eq_FN, and_self, and_true, true_and, and_false, false_and, or_true, true_or, or_false, false_or, not_true_eq_false, not_false_eq_true, wr_of, uI_at, uC_at, q_bi_s, q_bl_s, q_br_s, q_bv_s, Int.toNat_natCast, tn_1, tn_m, tn_n, Int.toNat_zero, Int.toNat_one]; rw [e13_59]; simp (disch := omega) only [↓reduceIte, lt_TI, lt_FI, le_TI, le_FI, eq_TI, eq_FI, lt_TN, lt_FN, le_TN, le_FN, eq_TN, eq_FN, and_self, and_true, true_and, and_false, false_and, or_true, true_or, or_false, false_or, not_true_eq_false, not_false_eq_true, wr_of, uI_at, uC_at, q_bi_s, q_bl_s, q_br_s, q_bv_s, Int.toNat_natCast, tn_1, tn_m, tn_n, Int.toNat_zero, Int.toNat_one, Bool.false_eq_true, hw, x2]; exact e13_75 t u _ J
        · simp (disch := omega) only [↓reduceIte, lt_TI, lt_FI, le_TI, le_FI, eq_TI, eq_FI, lt_TN, lt_FN, le_TN, le_FN, eq_TN, eq_FN, and_self, and_true, true_and, and_false, false_and, or_true, true_or, or_false, false_or, not_true_eq_false, not_false_eq_true, wr_of, uI_at, uC_at, q_bi_s, q_bl_s, q_br_s, q_bv_s, Int.toNat_natCast, tn_1, tn_m, tn_n, Int.toNat_zero, Int.toNat_one] <;> exact e2
        · simp (disch := omega) only [↓reduceIte, lt_TI, lt_FI, le_TI, le_FI, eq_TI, eq_FI, lt_TN, lt_FN, le_TN, le_FN, eq_TN, eq_FN, and_self, and_true, true_and, and_false, false_and, or_true, true_or, or_false, false_or, not_true_eq_false, not_false_eq_true, wr_of, uI_at, uC_at, q_bi_s, q_bl_s, q_br_s, q_bv_s, Int.toNat_natCast, tn_1, tn_m, tn_n, Int.toNat_zero, Int.toNat_one] <;> exact hg1
        · by_cases ne : w = v
          · subst ne; simp (disch := omega) only [↓reduceIte, lt_TI, lt_FI, le_TI, le_FI, eq_TI, eq_FI, lt_TN, lt_FN, le_TN, le_FN, eq_TN, eq_FN, and_self, and_true, true_and, and_false, false_and, or_true, true_or, or_false, false_or, not_true_eq_false, not_false_eq_true, wr_of, uI_at, uC_at, q_bi_s, q_bl_s, q_br_s, q_bv_s, Int.toNat_natCast, tn_1, tn_m, tn_n, Int.toNat_zero, Int.toNat_one]; simp
          · rw [uI_ne (Or.inr ne)]; exact other w hw2 ne
    | false =>
      cases b with
      | true =>
        refine ⟨uI I1 229 v (((if m2 v then 2 else 0) : Nat) : Int), ?_, ?_, ?_, fun w hw2 => ?_, Kp_tr e5 (K1 _) (by omega) (by omega) (by omega) (by omega)⟩
        · simp (disch := omega) only [↓reduceIte, lt_TI, lt_FI, le_TI, le_FI, eq_TI, eq_FI, lt_TN, lt_FN, le_TN, le_FN, eq_TN, eq_FN, and_self, and_true, true_and, and_false, false_and, or_true, true_or, or_false, false_or, not_true_eq_false, not_false_eq_true, wr_of, uI_at, uC_at, q_bi_s, q_bl_s, q_br_s, q_bv_s, Int.toNat_natCast, tn_1, tn_m, tn_n, Int.toNat_zero, Int.toNat_one, Bool.false_eq_true, hw, x1]; rw [e13_59]; simp (disch := omega) only [↓reduceIte, lt_TI, lt_FI, le_TI, le_FI, eq_TI, eq_FI, lt_TN, lt_FN, le_TN, le_FN, eq_TN, eq_FN, and_self, and_true, true_and, and_false, false_and, or_true, true_or, or_false, false_or, not_true_eq_false, not_false_eq_true, wr_of, uI_at, uC_at, q_bi_s, q_bl_s, q_br_s, q_bv_s, Int.toNat_natCast, tn_1, tn_m, tn_n, Int.toNat_zero, Int.toNat_one]; exact e13_75 t u _ J
        · rw [uI_ne (Or.inl (by omega))]; exact e2
        · simp (disch := omega) only [↓reduceIte, lt_TI, lt_FI, le_TI, le_FI, eq_TI, eq_FI, lt_TN, lt_FN, le_TN, le_FN, eq_TN, eq_FN, and_self, and_true, true_and, and_false, false_and, or_true, true_or, or_false, false_or, not_true_eq_false, not_false_eq_true, wr_of, uI_at, uC_at, q_bi_s, q_bl_s, q_br_s, q_bv_s, Int.toNat_natCast, tn_1, tn_m, tn_n, Int.toNat_zero, Int.toNat_one] <;> exact hg1
        · by_cases ne : w = v
          · subst ne; simp (disch := omega) only [↓reduceIte, lt_TI, lt_FI, le_TI, le_FI, eq_TI, eq_FI, lt_TN, lt_FN, le_TN, le_FN, eq_TN, eq_FN, and_self, and_true, true_and, and_false, false_and, or_true, true_or, or_false, false_or, not_true_eq_false, not_false_eq_true, wr_of, uI_at, uC_at, q_bi_s, q_bl_s, q_br_s, q_bv_s, Int.toNat_natCast, tn_1, tn_m, tn_n, Int.toNat_zero, Int.toNat_one]; simp
          · rw [uI_ne (Or.inr ne)]; exact other w hw2 ne
      | false =>
        refine ⟨uI (uI I1 229 v (((if m2 v then 2 else 0) : Nat) : Int)) 229 v 0, ?_, ?_, ?_, fun w hw2 => ?_, Kp_tr e5 (K2 _ _) (by omega) (by omega) (by omega) (by omega)⟩
        · simp (disch := omega) only [↓reduceIte, lt_TI, lt_FI, le_TI, le_FI, eq_TI, eq_FI, lt_TN, lt_FN, le_TN, le_FN, eq_TN, eq_FN, and_self, and_true, true_and, and_false, false_and, or_true, true_or, or_false, false_or, not_true_eq_false, not_false_eq_true, wr_of, uI_at, uC_at, q_bi_s, q_bl_s, q_br_s, q_bv_s, Int.toNat_natCast, tn_1, tn_m, tn_n, Int.toNat_zero, Int.toNat_one, Bool.false_eq_true, hw, x1]
          rw [e13_59]
          have y3 : q_and (((if m2 v = true then 2 else 0 : Nat) : Nat) : Int) (-3) = 0 := by
            simp only [Bool.false_eq_true, if_false, Nat.zero_add] at y2
            exact y2
          simp (disch := omega) only [↓reduceIte, lt_TI, lt_FI, le_TI, le_FI, eq_TI, eq_FI, lt_TN, lt_FN, le_TN, le_FN, eq_TN, eq_FN, and_self, and_true, true_and, and_false, false_and, or_true, true_or, or_false, false_or, not_true_eq_false, not_false_eq_true, wr_of, uI_at, uC_at, q_bi_s, q_bl_s, q_br_s, q_bv_s, Int.toNat_natCast, tn_1, tn_m, tn_n, Int.toNat_zero, Int.toNat_one, Bool.false_eq_true, y3]
          exact e13_75 t u _ J
        · rw [uI_ne (Or.inl (by omega)), uI_ne (Or.inl (by omega))]; exact e2
        · simp (disch := omega) only [↓reduceIte, lt_TI, lt_FI, le_TI, le_FI, eq_TI, eq_FI, lt_TN, lt_FN, le_TN, le_FN, eq_TN, eq_FN, and_self, and_true, true_and, and_false, false_and, or_true, true_or, or_false, false_or, not_true_eq_false, not_false_eq_true, wr_of, uI_at, uC_at, q_bi_s, q_bl_s, q_br_s, q_bv_s, Int.toNat_natCast, tn_1, tn_m, tn_n, Int.toNat_zero, Int.toNat_one] <;> exact hg1
        · by_cases ne : w = v
          · subst ne; simp (disch := omega) only [↓reduceIte, lt_TI, lt_FI, le_TI, le_FI, eq_TI, eq_FI, lt_TN, lt_FN, le_TN, le_FN, eq_TN, eq_FN, and_self, and_true, true_and, and_false, false_and, or_true, true_or, or_false, false_or, not_true_eq_false, not_false_eq_true, wr_of, uI_at, uC_at, q_bi_s, q_bl_s, q_br_s, q_bv_s, Int.toNat_natCast, tn_1, tn_m, tn_n, Int.toNat_zero, Int.toNat_one]; simp
          · rw [uI_ne (Or.inr ne), uI_ne (Or.inr ne)]; exact other w hw2 ne
end

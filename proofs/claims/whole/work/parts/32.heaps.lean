/-! one cellar's heaps, what is held there; a night of them -/
abbrev Hp : Type := List Nat × Nat
def HOk (x : Hp) : Prop := SD x.1 ∧ PS x.1 ∧ x.1.sum + x.2 ≤ 60
theorem HOk_len {x : Hp} (h : HOk x) : x.1.length ≤ 60 := by
  have := len_sum h.2.1
  have := h.2.2
  omega
def rg (n : Nat) (f : Nat → Nat) : List Nat := (List.range n).map f
theorem rg_len (n : Nat) (f : Nat → Nat) : (rg n f).length = n := by unfold rg; rw [List.length_map, List.length_range]
theorem rg_at {n i : Nat} {f : Nat → Nat} (h : i < n) : (rg n f).getD i 0 = f i := by
  unfold rg
  rw [gD_lt (by rw [List.length_map, List.length_range]; exact h), List.getElem_map, List.getElem_range]
theorem rg_s (n : Nat) (f : Nat → Nat) : rg (n + 1) f = rg n f ++ [f n] := by
  unfold rg; rw [List.range_succ, List.map_append]; rfl
theorem rg_id (l : List Nat) : rg l.length (fun i => l.getD i 0) = l := gD_ext (rg_len _ _) (fun i hi => rg_at (by rw [rg_len] at hi; exact hi))
theorem rg_sum_s (n : Nat) (f : Nat → Nat) : (rg (n + 1) f).sum = (rg n f).sum + f n := by rw [rg_s, List.sum_append_nat]; simp
def dec (l : List Nat) : List Nat := pos (l.map (fun a => a - 1))
def lst (l : List Nat) (i : Nat) : Bool := decide (l.getD (i + 1) 0 < l.getD i 0)
def dcH (l : List Nat) : List Nat := rg l.length (fun i => if lst l i then l.getD i 0 - 1 else l.getD i 0)
def crn (l : List Nat) : Nat := (List.range l.length).countP (lst l)
def giv (a : Nat) (l : List Nat) : List Nat := rg l.length (fun i => l.getD i 0 + if i < a then 1 else 0) ++ List.replicate (a - l.length) 1
def nt (law hold : Nat) (x : Hp) : Hp :=
  if x.1 = [] then x else if law = 0 then (ins x.1.length (dec x.1), x.2) else if law = 1 then (insR ((x.2 + x.1.length) / hold) hold (dec x.1), (x.2 + x.1.length) % hold) else if law = 2 then (ins (crn x.1) (pos (dcH x.1)), x.2) else (giv (x.1.getD 0 0) x.1.tail, x.2)
theorem map_pred_sum {l : List Nat} (h : PS l) : (l.map (fun a => a - 1)).sum + l.length = l.sum := by
  induction l with
  | nil => rfl
  | cons a l ih =>
    have := h a List.mem_cons_self
    have := ih (fun b hb => h b (List.mem_cons_of_mem _ hb))
    rw [List.map_cons, List.sum_cons, List.sum_cons, List.length_cons]; omega
theorem dec_sum {l : List Nat} (h : PS l) : (dec l).sum + l.length = l.sum := by unfold dec; rw [pos_sum]; exact map_pred_sum h
theorem map_pred_sd {l : List Nat} (h : SD l) : SD (l.map (fun a => a - 1)) := by
  refine List.pairwise_map.mpr (List.Pairwise.imp ?_ h)
  intro a b q; show b - 1 ≤ a - 1; omega
theorem dec_sd {l : List Nat} (h : SD l) : SD (dec l) := pos_sd (map_pred_sd h)
theorem rg_cnt (c : Nat → Bool) (g : Nat → Nat) : ∀ n, (∀ i, i < n → c i = true → 0 < g i) → (rg n (fun i => if c i then g i - 1 else g i)).sum + (List.range n).countP c = (rg n g).sum
  | 0, _ => rfl
  | n + 1, h => by
    have ih := rg_cnt c g n (fun i hi => h i (by omega))
    rw [rg_sum_s, rg_sum_s, List.range_succ, List.countP_append, List.countP_singleton]
    have := h n (by omega)
    cases hc : c n with
    | true =>
      have := this hc
      simp only [if_true]
      omega
    | false => simp only [Bool.false_eq_true, if_false]; omega
theorem dcH_sum {l : List Nat} : (dcH l).sum + crn l = l.sum := by
  have := rg_cnt (lst l) (fun i => l.getD i 0) l.length (fun i _ q => by unfold lst at q; have := of_decide_eq_true q; omega)
  rw [rg_id] at this
  exact this
theorem dcH_len (l : List Nat) : (dcH l).length = l.length := rg_len _ _
theorem dcH_at {l : List Nat} {i : Nat} (h : i < l.length) : (dcH l).getD i 0 = if lst l i then l.getD i 0 - 1 else l.getD i 0 := rg_at h
theorem dcH_sd {l : List Nat} (h : SD l) : SD (dcH l) := by
  refine SD_of fun i hi => ?_
  rw [dcH_len] at hi
  rw [dcH_at hi, dcH_at (by omega)]
  have := SD_gD h (show i ≤ i + 1 by omega)
  by_cases q : lst l i = true
  · have := of_decide_eq_true q
    rw [if_pos q]
    split <;> omega
  · have : ¬ l.getD (i + 1) 0 < l.getD i 0 := fun z => q (decide_eq_true z)
    rw [if_neg q]
    split <;> omega
theorem crn_pos {l : List Nat} (hs : PS l) (h : l ≠ []) : 0 < crn l := by
  unfold crn
  rw [List.countP_pos_iff]
  have hl : 0 < l.length := by cases l with | nil => exact absurd rfl h | cons a l => simp
  refine ⟨l.length - 1, List.mem_range.mpr (by omega), ?_⟩
  unfold lst
  have := PS_gD hs (show l.length - 1 < l.length by omega)
  rw [gD_ge (show l.length ≤ l.length - 1 + 1 by omega)]
  exact decide_eq_true this
theorem giv_sum (a : Nat) (l : List Nat) : (giv a l).sum = l.sum + a := by
  have key : ∀ n, (rg n (fun i => l.getD i 0 + if i < a then 1 else 0)).sum = (rg n (fun i => l.getD i 0)).sum + min a n := by
    intro n
    induction n with
    | zero => rw [Nat.min_zero]; rfl
    | succ n ih => rw [rg_sum_s, rg_sum_s, ih]; split <;> omega
  unfold giv
  rw [List.sum_append_nat, key, rg_id, List.sum_replicate_nat]
  omega
theorem giv_len (a : Nat) (l : List Nat) : (giv a l).length = l.length + (a - l.length) := by unfold giv; rw [List.length_append, rg_len, List.length_replicate]
theorem giv_at {a i : Nat} {l : List Nat} (h : i < l.length + (a - l.length)) : (giv a l).getD i 0 = if i < l.length then l.getD i 0 + (if i < a then 1 else 0) else 1 := by
  unfold giv
  rw [gD_app, rg_len]
  split
  · rename_i q; rw [rg_at q]
  · rename_i q; rw [gD_rep (by omega)]
theorem giv_sd {a : Nat} {l : List Nat} (h : SD l) (hp : PS l) : SD (giv a l) := by
  refine SD_of fun i hi => ?_
  rw [giv_len] at hi
  rw [giv_at hi, giv_at (by omega)]
  have := SD_gD h (show i ≤ i + 1 by omega)
  by_cases q1 : i + 1 < l.length
  · rw [if_pos q1, if_pos (show i < l.length by omega)]
    split <;> split <;> omega
  · rw [if_neg q1]
    by_cases q2 : i < l.length
    · rw [if_pos q2]
      have := PS_gD hp q2
      omega
    · rw [if_neg q2]; exact Nat.le_refl _
theorem giv_ps {a : Nat} {l : List Nat} (hp : PS l) : PS (giv a l) := by
  refine PS_of fun i hi => ?_
  rw [giv_len] at hi
  rw [giv_at hi]
  split
  · rename_i q; have := PS_gD hp q; omega
  · omega
theorem ins_ps {z : Nat} {l : List Nat} (hz : 0 < z) (h : PS l) : PS (ins z l) := PS_perm (ins_perm z l).symm (fun a ha => by
  rcases List.mem_cons.mp ha with e | e
  · omega
  · exact h a e)
theorem insR_ps {z : Nat} (hz : 0 < z) : ∀ (n : Nat) {l : List Nat}, PS l → PS (insR n z l)
  | 0, _, h => h
  | n + 1, _, h => insR_ps hz n (ins_ps hz h)
theorem insR_sum (z : Nat) : ∀ (n : Nat) (l : List Nat), (insR n z l).sum = n * z + l.sum
  | 0, l => by unfold insR; omega
  | n + 1, l => by unfold insR; rw [insR_sum z n, ins_sum, Nat.succ_mul]; omega
theorem SD_tail {l : List Nat} (h : SD l) : SD l.tail := List.Pairwise.sublist (List.tail_sublist _) h
theorem PS_tail {l : List Nat} (h : PS l) : PS l.tail := fun a ha => h a (List.mem_of_mem_tail ha)
theorem tail_sum {l : List Nat} : l.getD 0 0 + l.tail.sum = l.sum := by cases l <;> rfl
/-- a night leaves all stones there, and heaps in order -/
theorem nt_ok {law hold : Nat} {x : Hp} (h : HOk x) (hh : 2 ≤ hold) : HOk (nt law hold x) ∧ (nt law hold x).1.sum + (nt law hold x).2 = x.1.sum + x.2 := by
  obtain ⟨h1, h2, h3⟩ := h
  have hd := dec_sum h2
  have hc := dcH_sum (l := x.1)
  unfold nt
  by_cases e : x.1 = []
  · rw [if_pos e]; exact ⟨⟨h1, h2, h3⟩, rfl⟩
  rw [if_neg e]
  have hl : 0 < x.1.length := by cases q : x.1 with | nil => exact absurd q e | cons a l => simp
  split
  · have : (ins x.1.length (dec x.1)).sum + x.2 = x.1.sum + x.2 := by rw [ins_sum]; omega
    exact ⟨⟨ins_sd _ _ (dec_sd h1), ins_ps hl (pos_ps _), by show (ins x.1.length (dec x.1)).sum + x.2 ≤ 60; omega⟩, this⟩
  split
  · have : (insR ((x.2 + x.1.length) / hold) hold (dec x.1)).sum + (x.2 + x.1.length) % hold = x.1.sum + x.2 := by
      rw [insR_sum]
      have := Nat.div_add_mod (x.2 + x.1.length) hold
      rw [Nat.mul_comm] at this
      omega
    exact ⟨⟨insR_sd _ _ _ (dec_sd h1), insR_ps (by omega) _ (pos_ps _), by show (insR ((x.2 + x.1.length) / hold) hold (dec x.1)).sum + (x.2 + x.1.length) % hold ≤ 60; omega⟩, this⟩
  split
  · have : (ins (crn x.1) (pos (dcH x.1))).sum + x.2 = x.1.sum + x.2 := by rw [ins_sum, pos_sum]; omega
    exact ⟨⟨ins_sd _ _ (pos_sd (dcH_sd h1)), ins_ps (crn_pos h2 e) (pos_ps _), by show (ins (crn x.1) (pos (dcH x.1))).sum + x.2 ≤ 60; omega⟩, this⟩
  · have : (giv (x.1.getD 0 0) x.1.tail).sum + x.2 = x.1.sum + x.2 := by
      rw [giv_sum]
      have := tail_sum (l := x.1)
      omega
    exact ⟨⟨giv_sd (SD_tail h1) (PS_tail h2), giv_ps (PS_tail h2), by show (giv (x.1.getD 0 0) x.1.tail).sum + x.2 ≤ 60; omega⟩, this⟩
theorem cnt_at {l : List Nat} {j k : Nat} (h : SD l) (hk : k ≤ l.length) (h1 : ∀ i, i < k → j < l.getD i 0) (h2 : k < l.length → l.getD k 0 ≤ j) : l.countP (fun a => decide (j < a)) = k := by
  have e : l.countP (fun a => decide (j < a)) = (l.take k).countP (fun a => decide (j < a)) + (l.drop k).countP (fun a => decide (j < a)) := by
    rw [← List.countP_append, List.take_append_drop]
  rw [e]
  have a1 : (l.take k).countP (fun a => decide (j < a)) = (l.take k).length := by
    rw [List.countP_eq_length]
    intro a ha
    obtain ⟨i, hi, q⟩ := List.mem_iff_getElem.mp ha
    rw [List.length_take] at hi
    rw [← q, ← gD_lt, gD_tk, if_pos (by omega)]
    exact decide_eq_true (h1 i (by omega))
  have a2 : (l.drop k).countP (fun a => decide (j < a)) = 0 := by
    rw [List.countP_eq_zero]
    intro a ha
    obtain ⟨i, hi, q⟩ := List.mem_iff_getElem.mp ha
    rw [List.length_drop] at hi
    rw [← q, ← gD_lt, gD_dp]
    have := SD_gD h (show k ≤ k + i by omega)
    have := h2 (by omega)
    show ¬ decide (j < l.getD (k + i) 0) = true
    rw [decide_eq_true_iff]
    omega
  rw [a1, a2, List.length_take]
  omega

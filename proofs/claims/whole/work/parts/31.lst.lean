/-! lists of heaps: from the greatest on -/
theorem gD_ge {l : List Nat} {i : Nat} (h : l.length ≤ i) : l.getD i 0 = 0 := by
  rw [List.getD_eq_getElem?_getD, List.getElem?_eq_none h]; rfl
theorem gD_lt {l : List Nat} {i : Nat} (h : i < l.length) : l.getD i 0 = l[i] := by
  rw [List.getD_eq_getElem?_getD, List.getElem?_eq_getElem h]; rfl
theorem gD_mem {l : List Nat} {i : Nat} (h : i < l.length) : l.getD i 0 ∈ l := by rw [gD_lt h]; exact List.getElem_mem h
theorem gD_drop {l : List Nat} {i : Nat} (h : i < l.length) : l.drop i = l.getD i 0 :: l.drop (i + 1) := by rw [gD_lt h, List.drop_eq_getElem_cons h]
theorem gD_take {l : List Nat} {i : Nat} (h : i < l.length) : l.take (i + 1) = l.take i ++ [l.getD i 0] := by rw [gD_lt h, List.take_succ_eq_append_getElem h]
theorem gD_ext {l m : List Nat} (h : l.length = m.length) (e : ∀ i, i < l.length → l.getD i 0 = m.getD i 0) : l = m := by
  apply List.ext_getElem h
  intro i h1 h2
  rw [← gD_lt h1, ← gD_lt h2]
  exact e i h1
theorem gD_app {l m : List Nat} (i : Nat) : (l ++ m).getD i 0 = if i < l.length then l.getD i 0 else m.getD (i - l.length) 0 := by
  simp only [List.getD_eq_getElem?_getD]
  split
  · rename_i h; rw [List.getElem?_append_left h]
  · rename_i h; rw [List.getElem?_append_right (by omega)]
theorem gD_tk {l : List Nat} (n i : Nat) : (l.take n).getD i 0 = if i < n then l.getD i 0 else 0 := by
  simp only [List.getD_eq_getElem?_getD]
  split
  · rename_i h; rw [List.getElem?_take_of_lt h]
  · rename_i h; rw [List.getElem?_eq_none (by rw [List.length_take]; omega)]; rfl
theorem gD_dp {l : List Nat} (n i : Nat) : (l.drop n).getD i 0 = l.getD (n + i) 0 := by
  simp only [List.getD_eq_getElem?_getD, List.getElem?_drop]
theorem gD_map {l : List Nat} {f : Nat → Nat} {i : Nat} (h : i < l.length) : (l.map f).getD i 0 = f (l.getD i 0) := by
  rw [gD_lt h, gD_lt (by rw [List.length_map]; exact h), List.getElem_map]
theorem gD_rep {n v i : Nat} (h : i < n) : (List.replicate n v).getD i 0 = v := by
  rw [gD_lt (by rw [List.length_replicate]; exact h), List.getElem_replicate]
theorem gD_er {l : List Nat} (n i : Nat) : (l.eraseIdx n).getD i 0 = if i < n then l.getD i 0 else l.getD (i + 1) 0 := by
  simp only [List.getD_eq_getElem?_getD, List.getElem?_eraseIdx]
  split <;> rfl
/-- from the greatest on -/
def SD (l : List Nat) : Prop := l.Pairwise (fun a b => b ≤ a)
def PS (l : List Nat) : Prop := ∀ a ∈ l, 0 < a
theorem SD_gD {l : List Nat} (h : SD l) {i j : Nat} (hij : i ≤ j) : l.getD j 0 ≤ l.getD i 0 := by
  by_cases hj : j < l.length
  · by_cases e : i = j
    · subst e; exact Nat.le_refl _
    · rw [gD_lt hj, gD_lt (by omega)]
      exact List.pairwise_iff_getElem.mp h i j (by omega) hj (by omega)
  · rw [gD_ge (by omega)]; exact Nat.zero_le _
theorem SD_of {l : List Nat} (h : ∀ i, i + 1 < l.length → l.getD (i + 1) 0 ≤ l.getD i 0) : SD l := by
  have key : ∀ n i, i + n < l.length → l.getD (i + n) 0 ≤ l.getD i 0 := by
    intro n
    induction n with
    | zero => intro i _; exact Nat.le_refl _
    | succ n ih => intro i hi; exact Nat.le_trans (h (i + n) (by omega)) (ih i (by omega))
  refine List.pairwise_iff_getElem.mpr fun i j hi hj hij => ?_
  have := key (j - i) i (by omega)
  rw [show i + (j - i) = j by omega, gD_lt hi, gD_lt hj] at this
  exact this
theorem PS_gD {l : List Nat} (h : PS l) {i : Nat} (hi : i < l.length) : 0 < l.getD i 0 := h _ (gD_mem hi)
theorem PS_of {l : List Nat} (h : ∀ i, i < l.length → 0 < l.getD i 0) : PS l := by
  intro a ha
  obtain ⟨i, hi, e⟩ := List.mem_iff_getElem.mp ha
  rw [← e, ← gD_lt hi]
  exact h i hi
theorem SD_eq {l m : List Nat} (h1 : SD l) (h2 : SD m) (h : l.Perm m) : l = m := h.eq_of_pairwise (fun a b _ _ q1 q2 => Nat.le_antisymm q2 q1) h1 h2
theorem sum_le {l : List Nat} {a : Nat} (h : a ∈ l) : a ≤ l.sum := by
  induction l with
  | nil => cases h
  | cons b l ih =>
    rw [List.sum_cons]
    rcases List.mem_cons.mp h with h | h
    · omega
    · have := ih h; omega
theorem len_sum {l : List Nat} (h : PS l) : l.length ≤ l.sum := by
  induction l with
  | nil => exact Nat.le_refl _
  | cons b l ih =>
    have := h b List.mem_cons_self
    have := ih (fun a ha => h a (List.mem_cons_of_mem _ ha))
    rw [List.sum_cons, List.length_cons]; omega
theorem gD_sum {l : List Nat} (i : Nat) : l.getD i 0 ≤ l.sum := by
  by_cases h : i < l.length
  · exact sum_le (gD_mem h)
  · rw [gD_ge (by omega)]; exact Nat.zero_le _
theorem sum_drop {l : List Nat} {i : Nat} (h : i < l.length) : (l.drop i).sum = l.getD i 0 + (l.drop (i + 1)).sum := by rw [gD_drop h, List.sum_cons]
theorem sum_drop_le {l : List Nat} (i : Nat) : (l.drop i).sum ≤ l.sum := by
  have := List.sum_append_nat (l₁ := l.take i) (l₂ := l.drop i)
  rw [List.take_append_drop] at this; omega
theorem perm_sum {l m : List Nat} (h : l.Perm m) : l.sum = m.sum := by
  induction h with
  | nil => rfl
  | cons x _ ih => rw [List.sum_cons, List.sum_cons, ih]
  | swap x y l => simp only [List.sum_cons]; omega
  | trans _ _ a b => exact a.trans b
theorem PS_perm {l m : List Nat} (h : l.Perm m) (p : PS l) : PS m := fun a ha => p a (h.mem_iff.mpr ha)
/-- a heap comes to its place -/
def ins (z : Nat) : List Nat → List Nat
  | [] => [z]
  | a :: l => if a < z then z :: a :: l else a :: ins z l
theorem ins_len (z : Nat) : ∀ l, (ins z l).length = l.length + 1
  | [] => rfl
  | a :: l => by
    unfold ins
    split
    · rfl
    · rw [List.length_cons, ins_len z l, List.length_cons]
theorem ins_perm (z : Nat) : ∀ l, (ins z l).Perm (z :: l)
  | [] => List.Perm.refl _
  | a :: l => by
    unfold ins
    split
    · exact List.Perm.refl _
    · exact (List.Perm.cons a (ins_perm z l)).trans (List.Perm.swap z a l)
theorem ins_sd (z : Nat) : ∀ l, SD l → SD (ins z l)
  | [], _ => List.pairwise_singleton _ _
  | a :: l, h => by
    unfold ins
    obtain ⟨h1, h2⟩ := List.pairwise_cons.mp h
    split
    · rename_i q
      exact List.pairwise_cons.mpr ⟨fun b hb => by
        rcases List.mem_cons.mp hb with e | e
        · omega
        · have := h1 b e; omega, h⟩
    · rename_i q
      refine List.pairwise_cons.mpr ⟨fun b hb => ?_, ins_sd z l h2⟩
      rcases List.mem_cons.mp ((ins_perm z l).mem_iff.mp hb) with e | e
      · omega
      · exact h1 b e
theorem ins_sum (z : Nat) (l : List Nat) : (ins z l).sum = z + l.sum := by rw [perm_sum (ins_perm z l), List.sum_cons]
/-- where it comes to: k, all ahead as high at least, all behind lower -/
theorem ins_at (z : Nat) : ∀ (l : List Nat) (k : Nat), k ≤ l.length → (∀ i, i < k → z ≤ l.getD i 0) → (∀ i, k ≤ i → i < l.length → l.getD i 0 < z) → ins z l = l.take k ++ z :: l.drop k
  | [], k, hk, _, _ => by
    have : k = 0 := by simpa using hk
    subst this; rfl
  | a :: l, 0, _, _, h2 => by
    unfold ins
    have := h2 0 (Nat.le_refl _) (by simp)
    rw [List.getD_cons_zero] at this
    rw [if_pos this]; rfl
  | a :: l, k + 1, hk, h1, h2 => by
    unfold ins
    have := h1 0 (by omega)
    rw [List.getD_cons_zero] at this
    rw [if_neg (by omega), ins_at z l k (by simpa using hk) (fun i hi => by have := h1 (i + 1) (by omega); rwa [List.getD_cons_succ] at this) (fun i q1 q2 => by have := h2 (i + 1) (by omega) (by rw [List.length_cons]; omega); rwa [List.getD_cons_succ] at this)]
    rfl
def insR : Nat → Nat → List Nat → List Nat
  | 0, _, l => l
  | n + 1, z, l => insR n z (ins z l)
theorem insR_perm (z : Nat) : ∀ n l, (insR n z l).Perm (List.replicate n z ++ l)
  | 0, l => List.Perm.refl _
  | n + 1, l => (insR_perm z n (ins z l)).trans (by
    rw [List.replicate_succ]
    exact (List.Perm.append_left _ (ins_perm z l)).trans List.perm_middle)
theorem insR_sd (z : Nat) : ∀ n l, SD l → SD (insR n z l)
  | 0, _, h => h
  | n + 1, _, h => insR_sd z n _ (ins_sd z _ h)
/-- the stones of which none is lower than 1 stand ahead -/
theorem SD_filter {l : List Nat} (h : SD l) : l.filter (fun a => decide (0 < a)) = l.take (l.countP (fun a => decide (0 < a))) := by
  induction l with
  | nil => rfl
  | cons a l ih =>
    obtain ⟨h1, h2⟩ := List.pairwise_cons.mp h
    by_cases q : 0 < a
    · rw [List.filter_cons_of_pos (by simpa using q), List.countP_cons_of_pos (by simpa using q), List.take_succ_cons, ih h2]
    · have e : a = 0 := by omega
      have z : ∀ b ∈ l, b = 0 := fun b hb => by have := h1 b hb; omega
      have c : l.countP (fun a => decide (0 < a)) = 0 := by
        rw [List.countP_eq_zero]
        intro b hb; rw [z b hb]; simp
      rw [List.filter_cons_of_neg (by simpa using q), List.countP_cons_of_neg (by simpa using q), c]
      rw [List.filter_eq_nil_iff.mpr (fun b hb => by rw [z b hb]; simp)]
      rfl
def pos (l : List Nat) : List Nat := l.filter (fun a => decide (0 < a))
theorem pos_ps (l : List Nat) : PS (pos l) := fun a ha => by simpa using (List.mem_filter.mp ha).2
theorem pos_sd {l : List Nat} (h : SD l) : SD (pos l) := List.Pairwise.filter _ h
theorem pos_perm {l m : List Nat} (h : l.Perm m) : (pos l).Perm (pos m) := h.filter _
theorem pos_id {l : List Nat} (h : PS l) : pos l = l := List.filter_eq_self.mpr (fun a ha => by simpa using h a ha)
theorem pos_sum : ∀ l : List Nat, (pos l).sum = l.sum
  | [] => rfl
  | a :: l => by
    unfold pos
    by_cases q : 0 < a
    · rw [List.filter_cons_of_pos (by simpa using q), List.sum_cons, List.sum_cons]
      exact congrArg _ (pos_sum l)
    · rw [List.filter_cons_of_neg (by simpa using q), List.sum_cons]
      have := pos_sum l
      unfold pos at this
      omega
theorem pos_app (l m : List Nat) : pos (l ++ m) = pos l ++ pos m := List.filter_append ..

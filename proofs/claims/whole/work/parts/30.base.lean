/-! PURE: what the abstract machine answers; the words for it -/
theorem wr_of {z : Int} (h1 : -2147483648 ≤ z) (h2 : z ≤ 2147483647) : wr z = z := by
  unfold wr
  rw [Int.bmod_def]
  split <;> omega
theorem wl_of {z : Int} (h1 : -9223372036854775808 ≤ z) (h2 : z ≤ 9223372036854775807) : wl z = z := by
  unfold wl
  rw [Int.bmod_def]
  split <;> omega
theorem uI_at (I : Nat → Nat → Int) (a k : Nat) (v : Int) (b j : Nat) : uI I a k v b j = if b = a ∧ j = k then v else I b j := rfl
theorem uI_o {I : Nat → Nat → Int} {a k : Nat} {v : Int} {b j : Nat} (h : b ≠ a) : uI I a k v b j = I b j := if_neg (fun q => h q.1)
theorem uI_s {I : Nat → Nat → Int} {a k : Nat} {v : Int} : uI I a k v a k = v := if_pos ⟨rfl, rfl⟩
theorem uI_k {I : Nat → Nat → Int} {a k : Nat} {v : Int} {b j : Nat} (h : j ≠ k) : uI I a k v b j = I b j := if_neg (fun q => h q.2)
theorem uC_at (I : Nat → Nat → Int) (a sp b dp n d j : Nat) : uC I a sp b dp n d j = if d = b ∧ dp ≤ j ∧ j < dp + n then I a (sp + (j - dp)) else I d j := rfl
theorem uC_o {I : Nat → Nat → Int} {a sp b dp n d j : Nat} (h : d ≠ b) : uC I a sp b dp n d j = I d j := if_neg (fun q => h q.1)
theorem q_bi_s (z : Int) (M : qM) (k : Int → qM → Option (qV × qM)) : q_bi (some (vi z, M)) k = k z M := rfl
theorem q_bl_s (z : Int) (M : qM) (k : Int → qM → Option (qV × qM)) : q_bl (some (vl z, M)) k = k z M := rfl
theorem q_br_s (z : Nat) (M : qM) (k : Nat → qM → Option (qV × qM)) : q_br (some (vr z, M)) k = k z M := rfl
theorem q_bv_s (v : qV) (M : qM) (k : qM → Option (qV × qM)) : q_bv (some (v, M)) k = k M := rfl
/-- a cell of heaps, its row behind it -/
def HId (h : Nat) : Prop := kd h = 12 ∧ kd (h + 1) = 1 ∧ ln (h + 1) = 60 ∧ h + 1 ≤ 264 ∧ ∀ t u, q_R t u h 0 = h + 1
def HAt (I : Nat → Nat → Int) (h : Nat) (xs : List Nat) (k : Nat) : Prop := HId h ∧ I h 1 = (xs.length : Int) ∧ I h 2 = (k : Int) ∧ xs.length ≤ 60 ∧ ∀ i, i < xs.length → I (h + 1) i = (xs.getD i 0 : Int)
theorem c_heightAt {t u : Nat} {I J : Nat → Nat → Int} {h : Nat} {xs : List Nat} {k : Nat} (H : HAt I h xs k) (i : Int) : q_E (25, 0, [vr h, vi i], []) (qk t u I J) = some (vi (if 0 ≤ i then (xs.getD i.toNat 0 : Int) else 0), qk t u I J) := by
  obtain ⟨⟨h1, h2, h3, h4, h5⟩, h6, h7, h8, h9⟩ := H
  rw [e25_0]
  by_cases hi : i < 0
  · rw [if_pos hi, if_neg (by omega)]
  · have hi0 : 0 ≤ i := by omega
    rw [if_neg hi]
    simp only [h1, h5, h2, h3, h6, hi0, if_true]
    by_cases hl : i < (xs.length : Int)
    · rw [if_pos hl, if_pos ⟨trivial, by omega⟩, h9 _ (by omega)]
    · rw [if_neg hl]
      have : xs.getD i.toNat 0 = 0 := by rw [List.getD_eq_getElem?_getD, List.getElem?_eq_none (by omega)]; rfl
      rw [this]; rfl

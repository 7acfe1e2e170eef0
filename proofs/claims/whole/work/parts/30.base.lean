/-! PURE: what the abstract machine answers; the words for it -/
theorem wr_of {z : Int} (h1 : -2147483648 ≤ z) (h2 : z ≤ 2147483647) : wr z = z := by
  unfold wr
  rw [Int.bmod_def]
  split <;> omega
theorem wl_of {z : Int} (h1 : -9223372036854775808 ≤ z) (h2 : z ≤ 9223372036854775807) : wl z = z := by
  unfold wl
  rw [Int.bmod_def]
  split <;> omega
theorem lt_TI {a b : Int} (h : a < b) : (a < b) = True := eq_true h
theorem lt_FI {a b : Int} (h : b ≤ a) : (a < b) = False := eq_false (by omega)
theorem le_TI {a b : Int} (h : a ≤ b) : (a ≤ b) = True := eq_true h
theorem le_FI {a b : Int} (h : b < a) : (a ≤ b) = False := eq_false (by omega)
theorem eq_TI {a b : Int} (h : a = b) : (a = b) = True := eq_true h
theorem eq_FI {a b : Int} (h : a < b ∨ b < a) : (a = b) = False := eq_false (by omega)
theorem lt_TN {a b : Nat} (h : a < b) : (a < b) = True := eq_true h
theorem lt_FN {a b : Nat} (h : b ≤ a) : (a < b) = False := eq_false (by omega)
theorem le_TN {a b : Nat} (h : a ≤ b) : (a ≤ b) = True := eq_true h
theorem le_FN {a b : Nat} (h : b < a) : (a ≤ b) = False := eq_false (by omega)
theorem eq_TN {a b : Nat} (h : a = b) : (a = b) = True := eq_true h
theorem eq_FN {a b : Nat} (h : a < b ∨ b < a) : (a = b) = False := eq_false (by omega)
theorem tn_1 (n : Nat) : ((n : Int) + 1).toNat = n + 1 := by omega
theorem tn_2 (n : Nat) : ((n : Int) + 2).toNat = n + 2 := by omega
theorem tn_m (n : Nat) : ((n : Int) - 1).toNat = n - 1 := by omega
theorem tn_n (n : Nat) : ((n : Int) + -1).toNat = n - 1 := by omega
theorem tn_a (n m : Nat) : ((n : Int) + (m : Int)).toNat = n + m := by omega
theorem tn_am (n m : Nat) : ((n : Int) + (m : Int) - 1).toNat = n + m - 1 := by omega
theorem tn_a1 (n m : Nat) : ((n : Int) + (m : Int) + 1).toNat = n + m + 1 := by omega
theorem tn_60 (n : Nat) : ((n : Int) + 60).toNat = n + 60 := by omega
theorem tn_s (n m : Nat) : ((n : Int) - (m : Int)).toNat = n - m := by omega
theorem uI_at (I : Nat → Nat → Int) (a k : Nat) (v : Int) (b j : Nat) : uI I a k v b j = if b = a ∧ j = k then v else I b j := rfl
theorem uI_ne {I : Nat → Nat → Int} {a k : Nat} {v : Int} {b j : Nat} (h : b ≠ a ∨ j ≠ k) : uI I a k v b j = I b j := if_neg (fun q => h.elim (fun z => z q.1) (fun z => z q.2))
theorem uI_o1 {I : Nat → Nat → Int} {a k : Nat} {v : Int} {b : Nat} (h : b ≠ a) : uI I a k v b = I b := by
  funext j
  exact if_neg (fun q => h q.1)
theorem uC_at (I : Nat → Nat → Int) (a sp b dp n d j : Nat) : uC I a sp b dp n d j = if d = b ∧ dp ≤ j ∧ j < dp + n then I a (sp + (j - dp)) else I d j := rfl
theorem q_bi_s (z : Int) (M : qM) (k : Int → qM → Option (qV × qM)) : q_bi (some (vi z, M)) k = k z M := rfl
theorem q_bl_s (z : Int) (M : qM) (k : Int → qM → Option (qV × qM)) : q_bl (some (vl z, M)) k = k z M := rfl
theorem q_br_s (z : Nat) (M : qM) (k : Nat → qM → Option (qV × qM)) : q_br (some (vr z, M)) k = k z M := rfl
theorem q_bv_s (v : qV) (M : qM) (k : qM → Option (qV × qM)) : q_bv (some (v, M)) k = k M := rfl
/-- nothing but the cells lo .. hi has changed -/
def Kp (lo hi : Nat) (I I' : Nat → Nat → Int) : Prop := ∀ a, a < lo ∨ hi < a → I' a = I a
theorem Kp_rf {lo hi : Nat} {I : Nat → Nat → Int} : Kp lo hi I I := fun _ _ => rfl
theorem Kp_uI {lo hi a k : Nat} {v : Int} {I I' : Nat → Nat → Int} (h : Kp lo hi I I') (h1 : lo ≤ a) (h2 : a ≤ hi) : Kp lo hi I (uI I' a k v) := fun b hb => by
  rw [← h b hb]
  funext j
  exact if_neg (fun q => by omega)
theorem Kp_uC {lo hi a sp b dp n : Nat} {I I' : Nat → Nat → Int} (h : Kp lo hi I I') (h1 : lo ≤ b) (h2 : b ≤ hi) : Kp lo hi I (uC I' a sp b dp n) := fun c hc => by
  rw [← h c hc]
  funext j
  exact if_neg (fun q => by omega)
theorem Kp_tr {lo hi l1 h1 l2 h2 : Nat} {I I1 I2 : Nat → Nat → Int} (a : Kp l1 h1 I I1) (b : Kp l2 h2 I1 I2) (q1 : lo ≤ l1) (q2 : h1 ≤ hi) (q3 : lo ≤ l2) (q4 : h2 ≤ hi) : Kp lo hi I I2 := fun c hc => (b c (by omega)).trans (a c (by omega))
theorem Kp_w {lo hi l1 h1 : Nat} {I I1 : Nat → Nat → Int} (a : Kp l1 h1 I I1) (q1 : lo ≤ l1) (q2 : h1 ≤ hi) : Kp lo hi I I1 := fun c hc => a c (by omega)
theorem Kp_at {lo hi a : Nat} {I I' : Nat → Nat → Int} (h : Kp lo hi I I') (q : a < lo ∨ hi < a) (k : Nat) : I' a k = I a k := by rw [h a q]
/-- a cell of heaps, its row behind it -/
def HId (h : Nat) : Prop := kd h = 12 ∧ kd (h + 1) = 1 ∧ ln (h + 1) = 60 ∧ 1 ≤ h ∧ h + 1 ≤ 264 ∧ ∀ t u, q_R t u h 0 = h + 1
def HAt (I : Nat → Nat → Int) (h : Nat) (xs : List Nat) (k : Nat) : Prop := HId h ∧ I h 1 = (xs.length : Int) ∧ I h 2 = (k : Int) ∧ xs.length ≤ 60 ∧ ∀ i, i < xs.length → I (h + 1) i = (xs.getD i 0 : Int)
theorem HAt_kp {I I' : Nat → Nat → Int} {h lo hi k : Nat} {xs : List Nat} (H : HAt I h xs k) (K : Kp lo hi I I') (q : h + 1 < lo ∨ hi < h) : HAt I' h xs k := by
  obtain ⟨h1, h2, h3, h4, h5⟩ := H
  exact ⟨h1, by rw [K h (by omega)]; exact h2, by rw [K h (by omega)]; exact h3, h4, fun i hi => by rw [K (h + 1) (by omega)]; exact h5 i hi⟩

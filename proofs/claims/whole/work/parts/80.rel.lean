/-! HOW THE MACHINE HOLDS A MEMORY OF THE ABSTRACT ONE -/
def q_i32 (z : Int) : Prop := -2147483648 ≤ z ∧ z < 2147483648
def q_i64 (z : Int) : Prop := -9223372036854775808 ≤ z ∧ z < 9223372036854775808
def q_ro (ad : Nat → Nat) (n : Nat) : Option Nat := if n = 0 then none else some (ad n)
def q_cv (ad : Nat → Nat) (v : qV) : Value := match v with
  | Sum.inl z => .int (Int32.ofInt z)
  | Sum.inr (Sum.inl z) => .long (Int64.ofInt z)
  | Sum.inr (Sum.inr (Sum.inl n)) => va_rf (q_ro ad n)
  | Sum.inr (Sum.inr (Sum.inr _)) => .null
def q_vok (N : Nat) (v : qV) : Prop := match v with
  | Sum.inl z => q_i32 z
  | Sum.inr (Sum.inl z) => q_i64 z
  | Sum.inr (Sum.inr (Sum.inl n)) => n ≤ N ∨ 999 ≤ n
  | _ => True
def q_fv (ad : Nat → Nat) (M : qM) (n c j : Nat) : Value := if q_tc (q_ty c j) = 1 then .long (Int64.ofInt (mJ M n j)) else if q_tc (q_ty c j) = 2 then va_rf (q_ro ad (mR M n j)) else .int (Int32.ofInt (mI M n j))
def q_fs (ad : Nat → Nat) (M : qM) (n c : Nat) : List Value := (List.range (q_N c)).map (q_fv ad M n c)
def q_ce (cA : Nat → ClassId) (ad : Nat → Nat) (M : qM) (n : Nat) : va_E :=
  if kd n = 1 ∨ kd n = 2 then .inl (cA (kd n), (q_lay n).2, .inl (fun j => Int32.ofInt (mI M n j)))
  else if kd n = 3 then .inl (cA (kd n), (q_lay n).2, .inr (.inl (fun j => Int64.ofInt (mJ M n j))))
  else if kd n = 4 ∨ kd n = 5 then .inl (cA (kd n), (q_lay n).2, .inr (.inr (.inr (.inr (fun j => q_ro ad (mR M n j))))))
  else .inr (kd n - 10, q_fs ad M n (kd n - 10))
def q_ws (cA : Nat → ClassId) (ad : Nat → Nat) (M : qM) : va_W := (List.range M.1).map (fun i => (ad (i + 1), q_ce cA ad M (i + 1)))
def q_rng (M : qM) : Prop := (∀ a k, q_i32 (mI M a k)) ∧ (∀ a k, q_i64 (mJ M a k)) ∧ ∀ a k, mR M a k ≤ M.1
def q_Wd (D : va_G) (cA : Nat → ClassId) (ad : Nat → Nat) (L : Nat) (xs : Nat → Int32) (A : Nat → Prop) (ph : Bool) (M : qM) (U : State) (H : Heap) : Prop :=
  va_P D q_cl (q_ws cA ad M) H ∧ va_D A (q_ws cA ad M) ∧ (∀ n, 1 ≤ n → n ≤ M.1 → 1 ≤ kd n → kd n ≤ 5 → ArrOfT U (cA (kd n)) (q_at (kd n)) ∧ va_RA U (cA (kd n)) (q_at (kd n))) ∧ q_rng M ∧ (mI M 998 0 = (L : Int) ∧ ∀ j, j < L → mI M 999 j = (xs j).toInt) ∧ M.1 ≤ q_NX ∧ (ph = false → M.1 = q_NX)
/-- the lengths and the bytes of the texts, by their places -/
def q_tl : List Nat := (List.range 12).map (fun i => (q_str (1000 + i)).length)
def q_tb : List (List Int32) := (List.range 12).map (fun i => (q_str (1000 + i)).map (fun c => Int32.ofNat c))
/-- what holds of the machine beside the memory: classes, links, texts, the script ('sp': the addresses of the numbers from 999 on) -/
def q_St (D : va_G) (cA : Nat → ClassId) (sp adV : Nat → Nat) (L : Nat) (xs : Nat → Int32) (A : Nat → Prop) (U : State) (H : Heap) : Prop :=
  va_K D q_cl [] U ∧ (∀ k c, U.vm.findClass ("[" ++ (q_at k).toString) = some c → c = cA k) ∧ (∀ w ∈ q_nst, va_Nw w U) ∧ va_AO RX3 U ∧ va_AO RX0 U ∧ (∀ t ∈ q_strs, vk_R t.1 t.2.1 t.2.2.1 (sp (1000 + t.2.2.2)) U) ∧ vk_S 12 q_tl q_tb (fun k => sp (1000 + k)) adV A U H ∧ va_X (sp 999) L xs U H ∧ sp 999 < H.size ∧ ¬ A (sp 999) ∧ L < 2147483648 ∧ va_Z "java/lang/String" "COMPACT_STRINGS" "Z" (.int 1) A U H ∧ va_Zq "jdk/internal/util/Preconditions" "SIOOBE_FORMATTER" "Ljava/util/function/BiFunction;" A U H
/-- what is kept nearby -/
def q_LL (ad : Nat → Nat) (B N : Nat) (ls : Array Slot) (L : List qV) : Prop := L.length = N ∧ lv_has ls N [] ∧ (∀ (i : Nat) (v : qV), L[i]? = some v → v ≠ vu → ls[i]? = some (Slot.val (q_cv ad v))) ∧ ∀ v ∈ L, q_vok B v
def q_cum : Nat → Nat
  | 0 => 0
  | n + 1 => q_cum n + (if 10 ≤ kd (n + 1) then q_N (kd (n + 1) - 10) else (q_lay (n + 1)).2)
def q_lvl (ad : Nat → Nat) : Nat → List qV → List (Nat × Value)
  | _, [] => []
  | i, v :: L => if v = vu then q_lvl ad (i + 1) L else (i, q_cv ad v) :: q_lvl ad (i + 1) L
theorem q_lvl_mem {ad : Nat → Nat} : ∀ (L : List qV) (k : Nat) (q : Nat × Value), q ∈ q_lvl ad k L ↔ ∃ j v, L[j]? = some v ∧ v ≠ vu ∧ q = (k + j, q_cv ad v)
  | [], k, q => by
    constructor
    · intro h; cases h
    · rintro ⟨j, v, h, -⟩; simp at h
  | w :: L, k, q => by
    have ih := q_lvl_mem (ad := ad) L (k + 1) q
    unfold q_lvl
    constructor
    · intro h
      split at h
      · obtain ⟨j, v, h1, h2, h3⟩ := ih.mp h
        exact ⟨j + 1, v, by simpa using h1, h2, by rw [h3]; congr 1; omega⟩
      · rcases List.mem_cons.mp h with h | h
        · exact ⟨0, w, by simp, by assumption, h⟩
        · obtain ⟨j, v, h1, h2, h3⟩ := ih.mp h
          exact ⟨j + 1, v, by simpa using h1, h2, by rw [h3]; congr 1; omega⟩
    · rintro ⟨j, v, h1, h2, h3⟩
      cases j with
      | zero =>
        simp at h1
        subst h1
        rw [if_neg h2, h3]
        exact List.mem_cons_self
      | succ j =>
        have : q ∈ q_lvl ad (k + 1) L := ih.mpr ⟨j, v, by simpa using h1, h2, by rw [h3]; congr 1; omega⟩
        split
        · exact this
        · exact List.mem_cons_of_mem _ this
theorem q_LL_lv {ad : Nat → Nat} {B N : Nat} {ls : Array Slot} {L : List qV} (h : q_LL ad B N ls L) : lv_has ls N (q_lvl ad 0 L) := by
  obtain ⟨-, ⟨h1, h2, -⟩, h3, -⟩ := h
  refine ⟨h1, h2, fun q hq => ?_⟩
  obtain ⟨j, v, e1, e2, e3⟩ := (q_lvl_mem L 0 q).mp hq
  rw [e3]
  simpa using h3 j v e1 e2
theorem q_LL_at {ad : Nat → Nat} {B N : Nat} {ls : Array Slot} {L : List qV} (h : q_LL ad B N ls L) {i : Nat} {v : qV} (hv : L.getD i vu = v) (hn : v ≠ vu) : ls[i]? = some (.val (q_cv ad v)) := by
  refine h.2.2.1 i v ?_ hn
  rw [List.getD_eq_getElem?_getD] at hv
  cases hl : L[i]? with
  | none => rw [hl] at hv; exact absurd hv.symm hn
  | some w => rw [hl] at hv; simp at hv; rw [hv]
theorem q_LL_ok {ad : Nat → Nat} {B N : Nat} {ls : Array Slot} {L : List qV} (h : q_LL ad B N ls L) {i : Nat} {v : qV} (hv : L.getD i vu = v) (hn : v ≠ vu) : q_vok B v := by
  refine h.2.2.2 v ?_
  rw [List.getD_eq_getElem?_getD] at hv
  cases hl : L[i]? with
  | none => rw [hl] at hv; exact absurd hv.symm hn
  | some w => rw [hl] at hv; simp at hv; subst hv; exact List.mem_of_getElem? hl
theorem q_LL_kl {ad : Nat → Nat} {B N : Nat} {ls : Array Slot} : ∀ (ks : List Nat) (L : List qV), q_LL ad B N ls L → q_LL ad B N ls (q_kl ks L)
  | [], _, h => h
  | k :: ks, L, h => q_LL_kl ks (L.set k vu) ⟨by rw [List.length_set]; exact h.1, h.2.1, fun i v h1 h2 => by
      rw [List.getElem?_set] at h1
      split at h1
      · split at h1
        · exact absurd (Option.some.inj h1).symm h2
        · cases h1
      · exact h.2.2.1 i v h1 h2, fun v hv => by
      rcases List.mem_or_eq_of_mem_set hv with h1 | h1
      · exact h.2.2.2 v h1
      · rw [h1]; trivial⟩
theorem q_kp_len (L : List qV) (i : Nat) : (q_kp L i).length = L.length := by
  unfold q_kp
  split
  · rfl
  · split
    · rw [List.length_set]
    · rfl
theorem q_kp_get {L : List qV} {i j : Nat} {u : qV} (h : (q_kp L i)[j]? = some u) (hu : u ≠ vu) : L[j]? = some u ∧ ¬ (j + 1 = i ∧ ∃ z, u = vl z) := by
  unfold q_kp at h
  cases i with
  | zero => exact ⟨h, fun q => by omega⟩
  | succ i =>
    simp only at h
    split at h
    · rename_i z hz
      rw [List.getElem?_set] at h
      split at h
      · split at h
        · exact absurd (Option.some.inj h).symm hu
        · cases h
      · exact ⟨h, fun q => by omega⟩
    · rename_i hz
      refine ⟨h, fun q => ?_⟩
      obtain ⟨q1, z, q2⟩ := q
      have e : i = j := by omega
      subst e
      subst q2
      refine hz z ?_
      rw [List.getD_eq_getElem?_getD, h]
      rfl
theorem q_kp_ok {B : Nat} {L : List qV} {i : Nat} (h : ∀ v ∈ L, q_vok B v) : ∀ v ∈ q_kp L i, q_vok B v := by
  intro v hv
  unfold q_kp at hv
  split at hv
  · exact h v hv
  · split at hv
    · rcases List.mem_or_eq_of_mem_set hv with h1 | h1
      · exact h v h1
      · rw [h1]; trivial
    · exact h v hv
theorem q_cat_cv (ad : Nat → Nat) (v : qV) : (q_cv ad v).category = qcat1 v := by
  rcases v with z | z | n | u
  · rfl
  · rfl
  · show (va_rf (q_ro ad n)).category = 1
    unfold va_rf
    split <;> rfl
  · rfl
theorem q_cat_sum (ad : Nat → Nat) : ∀ st : List qV, ((st.map (q_cv ad)).map fun v => v.category).sum = qcat st
  | [] => rfl
  | v :: st => by
    rw [List.map_cons, List.map_cons, List.sum_cons, q_cat_sum ad st, q_cat_cv]
    rfl
theorem q_cat_1 {v : qV} (h : (∃ z, v = vi z) ∨ ∃ n, v = vr n) (ad : Nat → Nat) : (q_cv ad v).category = 1 := by
  rw [q_cat_cv]
  rcases h with ⟨z, rfl⟩ | ⟨n, rfl⟩ <;> rfl
/-- after a store of a value of one place -/
theorem q_LL_set {ad : Nat → Nat} {B N : Nat} {ls ls' : Array Slot} {L : List qV} {i : Nat} {v : qV} (h : q_LL ad B N ls L) (hv : q_vok B v) (h' : lv_has ls' N ((i, q_cv ad v) :: (q_lvl ad 0 L).filter (fun q => !(q.1 == i) && !(q.1 + 1 == i && q.2.category == 2)))) : q_LL ad B N ls' (q_set L i v) := by
  refine ⟨by unfold q_set; rw [List.length_set, q_kp_len]; exact h.1, ⟨h'.1, h'.2.1, fun _ q => by cases q⟩, fun j u h1 h2 => ?_, fun u hu => ?_⟩
  · unfold q_set at h1
    rw [List.getElem?_set] at h1
    split at h1
    · rename_i e
      split at h1
      · have e2 := Option.some.inj h1
        subst e; subst e2
        exact h'.2.2 _ List.mem_cons_self
      · cases h1
    · rename_i e
      obtain ⟨g1, g2⟩ := q_kp_get h1 h2
      refine h'.2.2 (j, q_cv ad u) (List.mem_cons_of_mem _ (List.mem_filter.mpr ⟨(q_lvl_mem L 0 _).mpr ⟨j, u, g1, h2, by rw [Nat.zero_add]⟩, ?_⟩))
      have e1 : (j == i) = false := by rw [beq_eq_false_iff_ne]; exact fun q => e q.symm
      simp only [e1, Bool.not_false, Bool.true_and]
      rcases u with z | z | n | w
      · show (!(j + 1 == i && false)) = true; rw [Bool.and_false]; rfl
      · have e3 : (j + 1 == i) = false := by rw [beq_eq_false_iff_ne]; exact fun q => g2 ⟨q, z, rfl⟩
        rw [e3]; rfl
      · have : (q_cv ad (vr n)).category = 1 := q_cat_1 (Or.inr ⟨n, rfl⟩) ad
        show (!(j + 1 == i && ((q_cv ad (vr n)).category == 2))) = true
        rw [this]; simp
      · exact absurd rfl h2
  · unfold q_set at hu
    rcases List.mem_or_eq_of_mem_set hu with q | q
    · exact q_kp_ok h.2.2.2 u q
    · rw [q]; exact hv
theorem q_LL_setl {ad : Nat → Nat} {B N : Nat} {ls ls' : Array Slot} {L : List qV} {i : Nat} {v : qV} (h : q_LL ad B N ls L) (hv : q_vok B v) (h' : lv_has ls' N ((i, q_cv ad v) :: (q_lvl ad 0 L).filter (fun q => !(q.1 == i) && (!(q.1 == i + 1) && !(q.1 + 1 == i && q.2.category == 2))))) : q_LL ad B N ls' (q_setl L i v) := by
  refine ⟨by unfold q_setl; rw [List.length_set, List.length_set, q_kp_len]; exact h.1, ⟨h'.1, h'.2.1, fun _ q => by cases q⟩, fun j u h1 h2 => ?_, fun u hu => ?_⟩
  · unfold q_setl at h1
    rw [List.getElem?_set] at h1
    split at h1
    · split at h1
      · exact absurd (Option.some.inj h1).symm h2
      · cases h1
    · rename_i ee
      rw [List.getElem?_set] at h1
      split at h1
      · rename_i e
        split at h1
        · have e2 := Option.some.inj h1
          subst e; subst e2
          exact h'.2.2 _ List.mem_cons_self
        · cases h1
      · rename_i e
        obtain ⟨g1, g2⟩ := q_kp_get h1 h2
        refine h'.2.2 (j, q_cv ad u) (List.mem_cons_of_mem _ (List.mem_filter.mpr ⟨(q_lvl_mem L 0 _).mpr ⟨j, u, g1, h2, by rw [Nat.zero_add]⟩, ?_⟩))
        have e1 : (j == i) = false := by rw [beq_eq_false_iff_ne]; exact fun q => e q.symm
        have e4 : (j == i + 1) = false := by rw [beq_eq_false_iff_ne]; exact fun q => ee q.symm
        simp only [e1, e4, Bool.not_false, Bool.true_and]
        rcases u with z | z | n | w
        · show (!(j + 1 == i && false)) = true; rw [Bool.and_false]; rfl
        · have e3 : (j + 1 == i) = false := by rw [beq_eq_false_iff_ne]; exact fun q => g2 ⟨q, z, rfl⟩
          rw [e3]; rfl
        · have : (q_cv ad (vr n)).category = 1 := q_cat_1 (Or.inr ⟨n, rfl⟩) ad
          show (!(j + 1 == i && ((q_cv ad (vr n)).category == 2))) = true
          rw [this]; simp
        · exact absurd rfl h2
  · unfold q_setl at hu
    rcases List.mem_or_eq_of_mem_set hu with q | q
    · rcases List.mem_or_eq_of_mem_set q with q | q
      · exact q_kp_ok h.2.2.2 u q
      · rw [q]; exact hv
    · rw [q]; trivial
theorem q_LL_inc {ad : Nat → Nat} {B N : Nat} {ls ls' : Array Slot} {L : List qV} {i : Nat} {z0 z : Int} (h : q_LL ad B N ls L) (h0 : L.getD i vu = vi z0) (hv : q_vok B (vi z)) (h' : lv_has ls' N ((i, q_cv ad (vi z)) :: (q_lvl ad 0 L).filter (fun q => !(q.1 == i) && !(q.1 + 1 == i && q.2.category == 2)))) : q_LL ad B N ls' (L.set i (vi z)) := by
  have hi := q_LL_at h h0 (by intro q; cases q)
  have e : L.set i (vi z) = q_set L i (vi z) := by
    unfold q_set q_kp
    cases i with
    | zero => rfl
    | succ i =>
      simp only
      split
      · rename_i w hw
        exfalso
        have h1 := q_LL_at h hw (by intro q; cases q)
        have h2 := h.2.1.2.1.1 i _ h1 rfl
        rw [h2] at hi
        cases hi
      · rfl
  rw [e]
  exact q_LL_set h hv h'
theorem q_cv_ext {ad ad' : Nat → Nat} {B : Nat} (ha : ∀ n, n ≤ B ∨ 999 ≤ n → ad' n = ad n) {v : qV} (hv : q_vok B v) : q_cv ad' v = q_cv ad v := by
  rcases v with z | z | n | u
  · rfl
  · rfl
  · show va_rf (q_ro ad' n) = va_rf (q_ro ad n)
    unfold q_ro
    rw [ha n hv]
  · rfl
theorem q_vok_le {B B' : Nat} (h : B ≤ B') {v : qV} (hv : q_vok B v) : q_vok B' v := by
  rcases v with z | z | n | u
  · exact hv
  · exact hv
  · rcases hv with h1 | h1
    · exact Or.inl (Nat.le_trans h1 h)
    · exact Or.inr h1
  · trivial
theorem q_LL_ext {ad ad' : Nat → Nat} {B B' N : Nat} {ls : Array Slot} {L : List qV} (h : q_LL ad B N ls L) (ha : ∀ n, n ≤ B ∨ 999 ≤ n → ad' n = ad n) (hB : B ≤ B') : q_LL ad' B' N ls L :=
  ⟨h.1, h.2.1, fun i v h1 h2 => by rw [q_cv_ext ha (h.2.2.2 v (List.mem_of_getElem? h1))]; exact h.2.2.1 i v h1 h2, fun v hv => q_vok_le hB (h.2.2.2 v hv)⟩
theorem q_map_ext {ad ad' : Nat → Nat} {B : Nat} (ha : ∀ n, n ≤ B ∨ 999 ≤ n → ad' n = ad n) {st : List qV} (h : ∀ v ∈ st, q_vok B v) : st.map (q_cv ad') = st.map (q_cv ad) := List.map_congr_left fun v hv => q_cv_ext ha (h v hv)
/-! cells -/
theorem q_lay_in {n : Nat} (h0 : kd n ≠ 0) (h6 : kd n ≠ 6) (h7 : kd n ≠ 7) : 1 ≤ n ∧ n ≤ q_NX := by
  unfold kd q_lay at h0 h6 h7
  cases a : Nat.ble n 0 with
  | true => rw [a] at h0; exact absurd rfl h0
  | false =>
    have a' : ¬ n ≤ 0 := fun q => by rw [Nat.ble_eq_true_of_le q] at a; cases a
    rw [a] at h0 h6 h7
    cases b : Nat.ble n 283 with
    | true => exact ⟨by omega, Nat.le_of_ble_eq_true b⟩
    | false =>
      rw [b] at h0 h6 h7
      cases c : Nat.ble n 998 with
      | true => rw [c] at h0; exact absurd rfl h0
      | false =>
        rw [c] at h0 h6 h7
        cases d : Nat.ble n 999 with
        | true => rw [d] at h6; exact absurd rfl h6
        | false =>
          rw [d] at h0 h6 h7
          cases e : Nat.ble n 1011 with
          | true => rw [e] at h7; exact absurd rfl h7
          | false => rw [e] at h0; exact absurd rfl h0
theorem q_lay_all : (List.range (283 + 1)).all (fun n => decide ((q_lay n).2 ≤ 30000 ∧ kd n ≠ 6 ∧ kd n ≠ 7 ∧ kd n < 22)) = true := by decide +kernel
theorem q_lay_le (n : Nat) : (q_lay n).2 ≤ 30000 := by
  by_cases h : n < 283 + 1
  · have := List.all_eq_true.mp q_lay_all n (List.mem_range.mpr h)
    exact (of_decide_eq_true this).1
  · unfold q_lay
    have a : Nat.ble n 0 = false := by rw [← Bool.not_eq_true]; exact fun q => absurd (Nat.le_of_ble_eq_true q) (by omega)
    have b : Nat.ble n 283 = false := by rw [← Bool.not_eq_true]; exact fun q => absurd (Nat.le_of_ble_eq_true q) (by omega)
    rw [a, b]
    simp only [cond_false]
    cases Nat.ble n 998 <;> cases Nat.ble n 999 <;> cases Nat.ble n 1011 <;> exact Nat.zero_le _
theorem q_lay_kd {n : Nat} (h : n ≤ q_NX) : kd n ≠ 6 ∧ kd n ≠ 7 ∧ kd n < 22 := by
  have := List.all_eq_true.mp q_lay_all n (List.mem_range.mpr (Nat.lt_succ_of_le h))
  exact (of_decide_eq_true this).2
theorem q_kd_in {ph : Bool} {M : qM} (hp : ph = false → M.1 = q_NX) (hM : M.1 ≤ q_NX) {n k : Nat} (h : q_kd ph M n = k) (h0 : k ≠ 0) (h6 : k ≠ 6) (h7 : k ≠ 7) : kd n = k ∧ 1 ≤ n ∧ n ≤ M.1 := by
  unfold q_kd at h
  cases ph with
  | false =>
    simp only at h
    subst h
    obtain ⟨h1, h2⟩ := q_lay_in h0 h6 h7
    exact ⟨rfl, h1, by rw [hp rfl]; exact h2⟩
  | true =>
    simp only at h
    split at h
    · rename_i hn
      subst h
      exact ⟨rfl, (q_lay_in h0 h6 h7).1, hn⟩
    · exact absurd h.symm h0
theorem q_ws_at {cA : Nat → ClassId} {ad : Nat → Nat} {M : qM} {n : Nat} (h1 : 1 ≤ n) (h2 : n ≤ M.1) : (q_ws cA ad M)[n - 1]? = some (ad n, q_ce cA ad M n) := by
  unfold q_ws
  rw [List.getElem?_map, List.getElem?_range (by omega)]
  simp only [Option.map_some]
  rw [Nat.sub_add_cancel h1]
theorem q_ws_len {cA : Nat → ClassId} {ad : Nat → Nat} {M : qM} : (q_ws cA ad M).length = M.1 := by
  unfold q_ws
  rw [List.length_map, List.length_range]
theorem q_ws_set {cA : Nat → ClassId} {ad : Nat → Nat} {M M' : qM} (hM : M'.1 = M.1) {a : Nat} (h1 : 1 ≤ a) (h2 : a ≤ M.1) (ho : ∀ n, n ≠ a → q_ce cA ad M' n = q_ce cA ad M n) : (q_ws cA ad M).set (a - 1) (ad a, q_ce cA ad M' a) = q_ws cA ad M' := by
  apply List.ext_getElem?
  intro i
  rw [List.getElem?_set]
  by_cases hi : i < M.1
  · have e' : (q_ws cA ad M')[i]? = some (ad (i + 1), q_ce cA ad M' (i + 1)) := by
      have := q_ws_at (cA := cA) (ad := ad) (M := M') (n := i + 1) (by omega) (by omega)
      simpa using this
    have e : (q_ws cA ad M)[i]? = some (ad (i + 1), q_ce cA ad M (i + 1)) := by
      have := q_ws_at (cA := cA) (ad := ad) (M := M) (n := i + 1) (by omega) (by omega)
      simpa using this
    split
    · rename_i q
      rw [if_pos (by rw [q_ws_len]; omega), e', show i + 1 = a by omega]
    · rename_i q
      rw [e, e', ho (i + 1) (by omega)]
  · have e' : (q_ws cA ad M')[i]? = none := List.getElem?_eq_none (by rw [q_ws_len]; omega)
    have e : (q_ws cA ad M)[i]? = none := List.getElem?_eq_none (by rw [q_ws_len]; omega)
    split
    · omega
    · rw [e, e']

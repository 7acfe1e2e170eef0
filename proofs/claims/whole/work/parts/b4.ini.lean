/-! THE START: the memory as it stands is the one that the equations speak of; nothing is told, nothing undone -/
def z_refsM (M : qM) : Bool := (List.range 284).all (fun n => if kd n = 4 ∨ kd n = 5 then (List.range (q_lay n).2).all (fun j => decide (mR M n j = q_R 248 7 n j)) else if 10 ≤ kd n then (List.range (q_N (kd n - 10))).all (fun j => decide (q_tc (q_ty (kd n - 10) j) = 2 → mR M n j = q_R 248 7 n j)) else true)
def z_zl : List (Nat × Nat) := [(1, 10), (1, 11), (3, 1), (248, 7), (248, 8), (248, 9), (248, 10), (248, 11), (249, 1), (251, 1), (251, 2), (253, 1), (253, 2), (255, 1), (255, 2), (257, 1), (257, 2), (24, 1), (26, 1), (26, 2), (28, 1), (28, 2), (30, 1), (30, 2), (32, 1), (32, 2), (34, 2), (34, 3), (34, 4), (265, 2), (265, 9), (265, 11), (265, 14), (265, 22), (265, 23), (268, 0), (268, 1), (268, 2), (268, 3), (268, 4)]
def z_chk : Bool := decide (cM.1 = 283) && (z_refsM cM && (z_zl.all (fun q => decide (mI cM q.1 q.2 = 0)) && ((List.range 245).all (fun i => decide (mI cM 270 i = 0)) && (List.range 245).all (fun i => decide (mI cM 272 i = 0)))))
set_option maxRecDepth 1000000 in
theorem z_chk_t : z_chk = true := by decide +kernel
theorem z_n : cM.1 = 283 := of_decide_eq_true (Bool.and_eq_true_iff.mp z_chk_t).1
theorem z_refs_t : z_refsM cM = true := (Bool.and_eq_true_iff.mp (Bool.and_eq_true_iff.mp z_chk_t).2).1
theorem z_zl_t : z_zl.all (fun q => decide (mI cM q.1 q.2 = 0)) = true := (Bool.and_eq_true_iff.mp (Bool.and_eq_true_iff.mp (Bool.and_eq_true_iff.mp z_chk_t).2).2).1
theorem z_270_t : (List.range 245).all (fun i => decide (mI cM 270 i = 0)) = true := (Bool.and_eq_true_iff.mp (Bool.and_eq_true_iff.mp (Bool.and_eq_true_iff.mp (Bool.and_eq_true_iff.mp z_chk_t).2).2).2).1
theorem z_272_t : (List.range 245).all (fun i => decide (mI cM 272 i = 0)) = true := (Bool.and_eq_true_iff.mp (Bool.and_eq_true_iff.mp (Bool.and_eq_true_iff.mp (Bool.and_eq_true_iff.mp z_chk_t).2).2).2).2
theorem z_cle {c : Bool} {x y : Nat} (hx : x ≤ 283) (hy : y ≤ 283) : cond c x y ≤ 283 := by
  cases c
  · exact hy
  · exact hx
set_option maxRecDepth 100000 in
theorem z_Rle (a k : Nat) : q_R 248 7 a k ≤ 283 := by
  unfold q_R
  repeat' (refine z_cle ?_ ?_)
  all_goals decide
def z_I (S : Nat → Nat → Int) : Nat → Nat → Int := (ov S cM).2.1
def z_J : Nat → Nat → Int := cM.2.2.1
theorem z_I_lo {S : Nat → Nat → Int} {a k : Nat} (h : a < 998) : z_I S a k = mI cM a k := if_neg (by omega)
theorem z_I_hi {S : Nat → Nat → Int} {a k : Nat} (h : 998 ≤ a) : z_I S a k = S a k := if_pos h
theorem z_arr {cA : ClassId} {N : Nat} {f g : Nat → Value} (h : ∀ j, j < N → f j = g j) : arrV cA N f = arrV cA N g := by
  unfold arrV
  have e : (fun j : Fin N => f j.val) = fun j : Fin N => g j.val := by
    funext j
    exact h j.val j.isLt
  rw [e]
theorem q_ws_mem {cA : Nat → ClassId} {ad : Nat → Nat} {M : qM} {k : Nat} {q : Nat × va_E} (h : (q_ws cA ad M)[k]? = some q) : k < M.1 ∧ q = (ad (k + 1), q_ce cA ad M (k + 1)) := by
  have hk : k < M.1 := by
    have := (List.getElem?_eq_some_iff.mp h).1
    rwa [q_ws_len] at this
  have h2 := q_ws_at (cA := cA) (ad := ad) (M := M) (n := k + 1) (by omega) (by omega)
  rw [Nat.add_sub_cancel] at h2
  exact ⟨hk, Option.some.inj (h.symm.trans h2)⟩
/-- the world of one memory is that of another that says the same of each cell -/
theorem q_Wd_to {D : va_G} {cA : Nat → ClassId} {ad : Nat → Nat} {L : Nat} {xs : Nat → Int32} {A : Nat → Prop} {M M' : qM} {U : State} {H : Heap} (h : q_Wd D cA ad L xs A true M U H) (h1 : M'.1 = M.1) (h2 : M.1 = q_NX) (hI : M'.2.1 = M.2.1) (hJ : M'.2.2.1 = M.2.2.1) (hR : ∀ a k, mR M' a k ≤ M'.1) (hc : ∀ n, 1 ≤ n → n ≤ M.1 → va_at D q_cl (ad n, q_ce cA ad M n) H → va_at D q_cl (ad n, q_ce cA ad M' n) H) : q_Wd D cA ad L xs A false M' U H := by
  obtain ⟨g1, g2, g3, ⟨r1, r2, r3⟩, g5, g6, g7⟩ := h
  refine ⟨fun k q hk => ?_, ⟨fun i j p q hi hj e => ?_, fun k q hk => ?_⟩, fun n a1 a2 => g3 n a1 (by rw [← h1]; exact a2), ⟨fun a k => ?_, fun a k => ?_, hR⟩, ?_, by rw [h1]; exact g6, fun _ => h1.trans h2⟩
  · obtain ⟨k1, k2⟩ := q_ws_mem hk
    rw [k2]
    refine hc (k + 1) (by omega) (by omega) ?_
    refine g1 k _ ?_
    have := q_ws_at (cA := cA) (ad := ad) (M := M) (n := k + 1) (by omega) (by omega)
    rwa [Nat.add_sub_cancel] at this
  · obtain ⟨i1, i2⟩ := q_ws_mem hi
    obtain ⟨j1, j2⟩ := q_ws_mem hj
    have a := q_ws_at (cA := cA) (ad := ad) (M := M) (n := i + 1) (by omega) (by omega)
    have b := q_ws_at (cA := cA) (ad := ad) (M := M) (n := j + 1) (by omega) (by omega)
    rw [Nat.add_sub_cancel] at a b
    refine g2.1 i j _ _ a b ?_
    rw [i2, j2] at e
    exact e
  · obtain ⟨k1, k2⟩ := q_ws_mem hk
    have a := q_ws_at (cA := cA) (ad := ad) (M := M) (n := k + 1) (by omega) (by omega)
    rw [Nat.add_sub_cancel] at a
    rw [k2]
    have z := g2.2 k (ad (k + 1), q_ce cA ad M (k + 1)) a
    exact z
  · show q_i32 (M'.2.1 a k)
    rw [hI]; exact r1 a k
  · show q_i64 (M'.2.2.1 a k)
    rw [hJ]; exact r2 a k
  · show M'.2.1 998 0 = (L : Int) ∧ ∀ j, j < L → M'.2.1 999 j = (xs j).toInt
    rw [hI]; exact g5
theorem z_toM {M : qM} (hM : M.1 = 283) (hrf : z_refsM M = true) {D : va_G} {cA : Nat → ClassId} {ad : Nat → Nat} {L : Nat} {xs : Nat → Int32} {A : Nat → Prop} {U : State} {H : Heap} {S : Nat → Nat → Int} (h : q_Wd D cA ad L xs A true (ov S M) U H) : q_Wd D cA ad L xs A false (qk 248 7 (ov S M).2.1 M.2.2.1) U H := by
  have hn : (ov S M).1 = 283 := hM
  refine q_Wd_to h (M' := qk 248 7 (ov S M).2.1 M.2.2.1) (by rw [hn]; rfl) (by rw [hn]; rfl) rfl rfl (fun a k => z_Rle a k) (fun n a1 a2 hv => ?_)
  have a2 : n ≤ 283 := by rw [hn] at a2; exact a2
  have hr := List.all_eq_true.mp hrf n (List.mem_range.mpr (by omega))
  have er : ∀ j, mR (ov S M) n j = mR M n j := fun _ => rfl
  have er2 : ∀ j, mR (qk 248 7 (ov S M).2.1 M.2.2.1) n j = q_R 248 7 n j := fun _ => rfl
  by_cases k45 : kd n = 4 ∨ kd n = 5
  · simp only [k45, if_true] at hr
    have e := fun j hj => of_decide_eq_true (List.all_eq_true.mp hr j (List.mem_range.mpr hj))
    have c1 : ∀ N : qM, q_ce cA ad N n = .inl (cA (kd n), (q_lay n).2, .inr (.inr (.inr (.inr (fun j => q_ro ad (mR N n j)))))) := fun N => by
      unfold q_ce
      rw [if_neg (by omega), if_neg (by omega), if_pos k45]
    rw [c1] at hv ⊢
    have hv : H[ad n]? = some (arrV (cA (kd n)) (q_lay n).2 (fun j => va_rf (q_ro ad (mR (ov S M) n j)))) := hv
    show H[ad n]? = some (arrV (cA (kd n)) (q_lay n).2 (fun j => va_rf (q_ro ad (mR (qk 248 7 (ov S M).2.1 M.2.2.1) n j))))
    rw [hv]
    refine congrArg some (z_arr (fun j hj => ?_))
    rw [er, er2, e j hj]
  · simp only [k45, if_false] at hr
    by_cases k10 : 10 ≤ kd n
    · simp only [k10, if_true] at hr
      have e := fun j hj => of_decide_eq_true (List.all_eq_true.mp hr j (List.mem_range.mpr hj))
      have c1 : ∀ N : qM, q_ce cA ad N n = .inr (kd n - 10, q_fs ad N n (kd n - 10)) := fun N => by
        unfold q_ce
        rw [if_neg (by omega), if_neg (by omega), if_neg k45]
      rw [c1] at hv ⊢
      have ef : q_fs ad (qk 248 7 (ov S M).2.1 M.2.2.1) n (kd n - 10) = q_fs ad (ov S M) n (kd n - 10) := by
        unfold q_fs
        refine List.map_congr_left (fun j hj => ?_)
        have hj := List.mem_range.mp hj
        unfold q_fv
        by_cases q1 : q_tc (q_ty (kd n - 10) j) = 1
        · rw [if_pos q1, if_pos q1]; rfl
        · rw [if_neg q1, if_neg q1]
          by_cases q2 : q_tc (q_ty (kd n - 10) j) = 2
          · rw [if_pos q2, if_pos q2, er, er2, e j hj q2]
          · rw [if_neg q2, if_neg q2]; rfl
      rw [ef]; exact hv
    · have c1 : q_ce cA ad (qk 248 7 (ov S M).2.1 M.2.2.1) n = q_ce cA ad (ov S M) n := by
        unfold q_ce
        by_cases q1 : kd n = 1 ∨ kd n = 2
        · rw [if_pos q1, if_pos q1]; rfl
        · rw [if_neg q1, if_neg q1]
          by_cases q3 : kd n = 3
          · rw [if_pos q3, if_pos q3]; rfl
          · rw [if_neg q3, if_neg q3, if_neg k45, if_neg k45]
            have : kd n - 10 = 0 := by omega
            have hl := q_lay_in (n := n)
            exfalso
            have k0 : kd n = 0 ∨ kd n = 6 ∨ kd n = 7 ∨ kd n = 8 ∨ kd n = 9 := by omega
            have hb := List.all_eq_true.mp (show (List.range 284).all (fun n => decide (n = 0 ∨ (kd n ≠ 0 ∧ kd n ≠ 6 ∧ kd n ≠ 7 ∧ kd n ≠ 8 ∧ kd n ≠ 9))) = true by decide +kernel) n (List.mem_range.mpr (by omega))
            have hb := of_decide_eq_true hb
            omega
      rw [c1]; exact hv
theorem z_to {D : va_G} {cA : Nat → ClassId} {ad : Nat → Nat} {L : Nat} {xs : Nat → Int32} {A : Nat → Prop} {U : State} {H : Heap} {S : Nat → Nat → Int} (h : q_Wd D cA ad L xs A true (ov S cM) U H) : q_Wd D cA ad L xs A false (qk 248 7 (z_I S) z_J) U H := z_toM z_n z_refs_t h
/-- the first state: no store -/
def z_S : St := ([], (0, 0, 0), T0, S0, [], [])
theorem z_SOk : SOk z_S := by
  have h0 : HOk (([], 0) : Hp) := ⟨List.Pairwise.nil, fun a ha => (by cases ha), Nat.zero_le _⟩
  exact ⟨Or.inr ⟨rfl, rfl, rfl, rfl⟩, ⟨fun _ => h0, fun _ _ => rfl, Nat.zero_le _⟩, fun s hs => (by cases hs), fun s hs => (by cases hs), Nat.zero_le _, Nat.zero_le _, Nat.zero_le _, fun b hb => (by cases hb)⟩
section
variable {S : Nat → Nat → Int}
theorem z_0 {a k : Nat} (h : (a, k) ∈ z_zl) : z_I S a k = 0 := by
  have h1 := of_decide_eq_true (List.all_eq_true.mp z_zl_t (a, k) h)
  by_cases q : a < 998
  · rw [z_I_lo q]; exact h1
  · exfalso
    have := of_decide_eq_true (List.all_eq_true.mp (show z_zl.all (fun q => decide (q.1 < 998)) = true by decide) (a, k) h)
    exact q this
theorem z_HAt {h : Nat} (H : HId h) (h1 : (h, 1) ∈ z_zl) (h2 : (h, 2) ∈ z_zl) : HAt (z_I S) h [] 0 := ⟨H, z_0 h1, z_0 h2, Nat.zero_le _, fun i hi => (by cases hi)⟩
theorem z_C : CInv z_S 248 7 (z_I S) := by
  have c249 : CAt (z_I S) 249 (tB T0, 0) := ⟨CId_249, z_0 (by decide), fun c hc => by
    have H := (CId_249.2.2.2.2.2.2 c hc).1
    rcases (by omega : c = 0 ∨ c = 1 ∨ c = 2 ∨ c = 3) with z | z | z | z <;> subst z <;> exact z_HAt H (by decide) (by decide)⟩
  have c24 : CAt (z_I S) 24 S0 := ⟨CId_24, z_0 (by decide), fun c hc => by
    have H := (CId_24.2.2.2.2.2.2 c hc).1
    rcases (by omega : c = 0 ∨ c = 1 ∨ c = 2 ∨ c = 3) with z | z | z | z <;> subst z <;> exact z_HAt H (by decide) (by decide)⟩
  exact ⟨z_SOk, Or.inr ⟨rfl, rfl⟩, z_0 (by decide), z_0 (by decide), fun z => absurd z (by decide), z_0 (by decide), fun i hi => (by cases hi), ⟨TId_248, c249, z_0 (by decide), z_0 (by decide), z_0 (by decide), z_0 (by decide), z_0 (by decide), fun i hi => (by cases hi), fun i hi => (by cases hi), fun i hi => (by cases hi)⟩, c24, ⟨0, by omega, z_0 (by decide), z_0 (by decide), z_0 (by decide), Nat.zero_le _, Nat.zero_le _, fun i hi => (by cases hi), fun i hi => (by cases hi)⟩, fun z => absurd z (by decide)⟩
theorem z_Sn {a : Nat} (h : ∀ i, i < 245 → z_I S a i = 0) : SnA (z_I S) a 0 S0 := by
  refine ⟨fun c hc => ⟨fun i hi => ?_, ?_⟩, ?_⟩
  · rw [h _ (by omega)]; rfl
  · rw [h _ (by omega)]; rfl
  · rw [h _ (by omega)]; rfl
theorem z_Mi : MInv z_S (z_I S) := by
  have b270 : ∀ i, i < 245 → z_I S 270 i = 0 := fun i hi => by
    rw [z_I_lo (by omega)]
    exact of_decide_eq_true (List.all_eq_true.mp z_270_t i (List.mem_range.mpr hi))
  have b272 : ∀ i, i < 245 → z_I S 272 i = 0 := fun i hi => by
    rw [z_I_lo (by omega)]
    exact of_decide_eq_true (List.all_eq_true.mp z_272_t i (List.mem_range.mpr hi))
  exact ⟨⟨z_SOk, z_0 (by decide), ⟨z_0 (by decide), z_0 (by decide), z_0 (by decide), z_0 (by decide), z_0 (by decide), fun c hc => (by cases hc), fun i hi => (by cases hi), fun i hi => (by cases hi)⟩, z_Sn b270, z_Sn b272⟩, z_0 (by decide), z_0 (by decide), fun z => absurd z (by decide), z_0 (by decide), fun i hi => (by cases hi), z_0 (by decide), fun i hi => (by cases hi), z_0 (by decide), fun i hi => (by cases hi)⟩
end

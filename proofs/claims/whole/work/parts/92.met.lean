/-! EVERY METHOD'S CONTRACT, out of a run of the abstract machine -/
theorem q_plain_all : (List.range 304).all (fun y => plainName (q_mn y).cls) = true := by decide +kernel
theorem q_code_y {y n : Nat} {t : qE} (h : q_code y n = some t) : y < 304 ∧ n < q_bd y := by
  unfold q_code at h
  cases hb : Nat.ble y (304 - 1) with
  | false =>
    have hb' : Nat.ble y 303 = false := hb
    rw [hb'] at h; cases h
  | true =>
    have hb' : Nat.ble y 303 = true := hb
    rw [hb'] at h
    have h1 := Nat.le_of_ble_eq_true hb'
    cases hc : Nat.ble (n + 1) (q_bd y) with
    | false => rw [hc] at h; cases h
    | true => exact ⟨by omega, Nat.le_of_ble_eq_true hc⟩
theorem q_plain {y n : Nat} {t : qE} (h : q_code y n = some t) : plainName (q_mn y).cls = true := List.all_eq_true.mp q_plain_all y (List.mem_range.mpr (q_code_y h).1)
theorem q_run_code {ph : Bool} {n : Nat} {f : qF} {M : qM} {r : qV × qM} (h : q_run ph n f M = some r) : ∃ t, q_code f.1 f.2.1 = some t := by
  cases n with
  | zero => cases h
  | succ n =>
    unfold q_run q_stp at h
    cases hc : q_code f.1 f.2.1 with
    | none => rw [hc] at h; cases h
    | some t => exact ⟨t, rfl⟩
theorem q_pad_get : ∀ (N : Nat) (l : List qV) (i : Nat) (v : qV), (q_pad N l)[i]? = some v → v ≠ vu → l[i]? = some v
  | 0, _, _, _, h, _ => by simp [q_pad] at h
  | N + 1, [], i, v, h, hv => by
    cases i with
    | zero => simp [q_pad] at h; exact absurd h.symm hv
    | succ i =>
      have := q_pad_get N [] i v (by simpa [q_pad] using h) hv
      simp at this
  | N + 1, w :: l, i, v, h, hv => by
    cases i with
    | zero => simpa [q_pad] using h
    | succ i => simpa using q_pad_get N l i v (by simpa [q_pad] using h) hv
theorem q_pad_len : ∀ (N : Nat) (l : List qV), (q_pad N l).length = N
  | 0, _ => rfl
  | N + 1, [] => by simp [q_pad, q_pad_len N]
  | N + 1, w :: l => by simp [q_pad, q_pad_len N]
theorem q_pad_ok {B : Nat} : ∀ (N : Nat) (l : List qV), (∀ v ∈ l, q_vok B v) → ∀ v ∈ q_pad N l, q_vok B v
  | 0, _, _, v, h => by simp [q_pad] at h
  | N + 1, [], hl, v, h => by
    rcases List.mem_cons.mp (show v ∈ vu :: q_pad N [] from h) with q | q
    · rw [q]; trivial
    · exact q_pad_ok N [] (fun _ z => by cases z) v q
  | N + 1, w :: l, hl, v, h => by
    rcases List.mem_cons.mp (show v ∈ w :: q_pad N l from h) with q | q
    · rw [q]; exact hl w List.mem_cons_self
    · exact q_pad_ok N l (fun u z => hl u (List.mem_cons_of_mem _ z)) v q
theorem q_args_ok {B : Nat} : ∀ (as : List qV), (∀ v ∈ as, q_vok B v) → ∀ v ∈ q_args as, q_vok B v
  | [], _, v, h => by cases h
  | w :: as, hl, v, h => by
    have ih := q_args_ok as (fun u z => hl u (List.mem_cons_of_mem _ z))
    have hw := hl w List.mem_cons_self
    rcases w with z | z | n | u
    · rcases List.mem_cons.mp (show v ∈ vi z :: q_args as from h) with q | q
      · rw [q]; exact hw
      · exact ih v q
    · rcases List.mem_cons.mp (show v ∈ vl z :: vu :: q_args as from h) with q | q
      · rw [q]; exact hw
      · rcases List.mem_cons.mp q with q | q
        · rw [q]; trivial
        · exact ih v q
    · rcases List.mem_cons.mp (show v ∈ vr n :: q_args as from h) with q | q
      · rw [q]; exact hw
      · exact ih v q
    · rcases List.mem_cons.mp (show v ∈ Sum.inr (Sum.inr (Sum.inr u)) :: q_args as from h) with q | q
      · rw [q]; trivial
      · exact ih v q
theorem q_args_get (ad : Nat → Nat) : ∀ (as : List qV) (k i : Nat) (v : qV), (q_args as)[i]? = some v → v ≠ vu → (k + i, q_cv ad v) ∈ lv_args k (as.map (q_cv ad))
  | [], _, _, _, h, _ => by simp [q_args] at h
  | w :: as, k, i, v, h, hv => by
    have ih := q_args_get ad as
    have hc := q_cat_cv ad w
    rw [List.map_cons]
    unfold lv_args
    rcases w with z | z | n | u
    · rw [if_neg (by rw [hc]; show ¬ (1 = 2); omega)]
      cases i with
      | zero => have e : vi z = v := by simpa [q_args] using h
                subst e; exact List.mem_cons_self
      | succ i => exact List.mem_cons_of_mem _ (by have := ih (k + 1) i v (by simpa [q_args] using h) hv; rw [show k + (i + 1) = k + 1 + i by omega]; exact this)
    · rw [if_pos (by rw [hc]; rfl)]
      cases i with
      | zero => have e : vl z = v := by simpa [q_args] using h
                subst e; exact List.mem_cons_self
      | succ i =>
        cases i with
        | zero => have e : vu = v := by simpa [q_args] using h
                  exact absurd e.symm hv
        | succ i => exact List.mem_cons_of_mem _ (by have := ih (k + 2) i v (by simpa [q_args] using h) hv; rw [show k + (i + 1 + 1) = k + 2 + i by omega]; exact this)
    · rw [if_neg (by rw [hc]; show ¬ (1 = 2); omega)]
      cases i with
      | zero => have e : vr n = v := by simpa [q_args] using h
                subst e; exact List.mem_cons_self
      | succ i => exact List.mem_cons_of_mem _ (by have := ih (k + 1) i v (by simpa [q_args] using h) hv; rw [show k + (i + 1) = k + 1 + i by omega]; exact this)
    · rw [if_neg (by rw [hc]; show ¬ (1 = 2); omega)]
      cases i with
      | zero => have e : Sum.inr (Sum.inr (Sum.inr u)) = v := by simpa [q_args] using h
                subst e; exact absurd rfl hv
      | succ i => exact List.mem_cons_of_mem _ (by have := ih (k + 1) i v (by simpa [q_args] using h) hv; rw [show k + (i + 1) = k + 1 + i by omega]; exact this)
theorem q_args_len (ad : Nat → Nat) : ∀ (as : List qV), (lg_sl (as.map (q_cv ad))).length = (q_args as).length
  | [] => rfl
  | w :: as => by
    have ih := q_args_len ad as
    have hc := q_cat_cv ad w
    have e : lg_sl ((w :: as).map (q_cv ad)) = (if (q_cv ad w).category = 2 then [.val (q_cv ad w), .second] else [.val (q_cv ad w)]) ++ lg_sl (as.map (q_cv ad)) := by
      unfold lg_sl
      rw [List.map_cons, List.flatMap_cons]
    rw [e, List.length_append, ih]
    rcases w with z | z | n | u
    · rw [if_neg (by rw [hc]; show ¬ (1 = 2); omega)]; simp [q_args]; omega
    · rw [if_pos (by rw [hc]; rfl)]; simp [q_args]; omega
    · rw [if_neg (by rw [hc]; show ¬ (1 = 2); omega)]; simp [q_args]; omega
    · rw [if_neg (by rw [hc]; show ¬ (1 = 2); omega)]; simp [q_args]; omega
theorem q_entry {ad : Nat → Nat} {B N : Nat} {as : List qV} (h : (q_args as).length ≤ N) (hv : ∀ v ∈ as, q_vok B v) : q_LL ad B N ((lg_sl (as.map (q_cv ad)) ++ List.replicate (N - (lg_sl (as.map (q_cv ad))).length) Slot.unset).toArray) (q_pad N (q_args as)) := by
  have hl := lv_entry (as.map (q_cv ad)) (n := N) (by rw [q_args_len]; exact h)
  refine ⟨q_pad_len _ _, ⟨hl.1, hl.2.1, fun _ q => by cases q⟩, fun i v h1 h2 => ?_, q_pad_ok _ _ (q_args_ok _ hv)⟩
  have := hl.2.2 _ (q_args_get ad as 0 i v (q_pad_get _ _ _ _ h1 h2) h2)
  simpa using this
set_option maxHeartbeats 4000000 in
/-- EVERY METHOD but the thrower, its asker and the law: what a run of it answers is its contract -/
theorem q_met {l : Launch} (hJD : q_HJ l) (hOK : q_OK) {ph : Bool} : ∀ (n : Nat) (y : Nat) (as : List qV) (M : qM) (v : qV) (M1 : qM), q_run ph n (q_ent y as) M = some (v, M1) → y ≠ q_XLED → y ≠ q_LAW → y ≠ q_LED → q_Met l ph y as M v M1 := by
  intro n
  induction n using Nat.strongRecOn with
  | ind n ih =>
    intro y as M v M1 hrun hx hlaw hled
    refine ⟨q_run_nx _ _ _ _ hrun, fun harg D cA ad adV L xs sz => ?_⟩
    have hle : M.1 ≤ M1.1 := q_run_nx _ _ _ _ hrun
    have hcum := q_cum_le hle
    obtain ⟨t, ht⟩ := q_run_code hrun
    refine Met.ofW (cc := q_by y) (maxL := q_mxl y) (ret := q_rt y) (q_plain ht) rfl ?_
    intro p e s m args below meth c s₁ B hml hv
    obtain ⟨rfl, hsz, hSt, hWd, hvok⟩ := hv
    subst hsz
    have hts := atoms_spec (ws := q_wsm y) B.pre
    have hF : q_Fx p (headSpec (q_wsm y) ({ frames := q_rf y, cells := M1.1 - M.1, slots := q_cum M1.1 - q_cum M.1, locals := q_rl y } : Room)).room s m (as.map (q_cv ad)).toArray meth c D cA ad adV L xs (va_A (q_ws cA ad M) s.heap.size) y :=
      ⟨B.exec, B.bytes, hml, findClass_of_methodNamed B.named, fun w hw => hts w (List.mem_cons_of_mem _ hw), Nat.le_refl _, Nat.le_refl _, fun h => ((name_of_methodNamed B.named B.method).1).trans h, hSt, fun q hq => Or.inr hq⟩
    have hbody := q_body (l := l) (e := e) (below := below) (n0 := M.1) (v := v) (M1 := M1) hJD hOK hF B.returns B.notSynchronized hx hlaw (Nat.le_refl _) (Nat.le_refl _) n (fun k hk y' as' M' v' M1' h h1 h2 h3 => ih k hk y' as' M' v' M1' h h1 h2 h3) (q_ent y as) M rfl (Nat.le_refl _) hrun
    rw [lg_entry_eq]
    have hWd2 : q_Wd D cA ad L xs (va_A (q_ws cA ad M) s.heap.size) ph M s s.heap := q_Wd_A hWd (fun k q hk _ => Or.inl ⟨k, q.2, hk⟩)
    have hW := hbody ad s.heap [] _ (fun _ _ => rfl) (q_entry harg hvok) (fun v hv => by cases hv) hWd2 va_S.rf (Nat.le_refl _)
    simp only [Nat.sub_self, Nat.zero_add] at hW
    exact hW

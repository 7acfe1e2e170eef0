/-! THE START: what the tables and the narrowing say of the machine -/
def z_fl : List Cond := flatC (Jvm.Cond.and given_1 narrow_1)
def z_pp : List (List Nat) := [[51, 52, 53, 54, 55, 56, 57, 58, 59], [60, 61, 62, 63, 64, 65, 66, 67], [69, 70, 71, 72, 73, 74, 75, 76, 77, 78], [81, 82, 83, 84, 85, 86, 87, 88, 89, 90], [94, 95, 96, 97, 98, 99, 100, 101, 102, 103], [108, 109, 110, 111, 112, 113, 114, 115], [121, 122, 123, 124, 125, 126, 127, 128, 129, 130, 131], [138, 139, 140, 141, 142, 143, 144, 145, 146, 147], [155, 156, 157, 158, 159, 160, 161, 162, 163], [172, 173, 174, 175, 176, 177, 178, 179, 180], [190, 191, 192, 193, 194, 195, 196, 197, 198], [209, 210, 211, 212, 213, 214, 215, 216, 217]]
def z_pn : List (List Nat) := [[0, 68, 79, 91, 104, 116, 132, 148, 164, 181, 199, 218], [0, 0, 80, 92, 105, 117, 133, 149, 165, 182, 200, 219], [0, 0, 0, 93, 106, 118, 134, 150, 166, 183, 201, 220], [0, 0, 0, 0, 107, 119, 135, 151, 167, 184, 202, 221], [0, 0, 0, 0, 0, 120, 136, 152, 168, 185, 203, 222], [0, 0, 0, 0, 0, 0, 137, 153, 169, 186, 204, 223], [0, 0, 0, 0, 0, 0, 0, 154, 170, 187, 205, 224], [0, 0, 0, 0, 0, 0, 0, 0, 171, 188, 206, 225], [0, 0, 0, 0, 0, 0, 0, 0, 0, 189, 207, 226], [0, 0, 0, 0, 0, 0, 0, 0, 0, 0, 208, 227], [0, 0, 0, 0, 0, 0, 0, 0, 0, 0, 0, 228], [0, 0, 0, 0, 0, 0, 0, 0, 0, 0, 0, 0]]
def z_pe : List Nat := [238, 259, 283, 308, 334, 359, 388, 417, 446, 476, 507, 539]
def z_ps : List Nat := [500, 558, 575, 576, 589, 590, 607, 608, 609, 610, 639, 644, 1430, 1445, 1470, 1471, 1488, 1489, 1494, 1495, 1496, 1497, 1513, 1514]
def z_ip : List Nat := [165, 324, 172, 297, 123, 384, 394, 129, 159, 354, 115, 1257]
def z_in : List Nat := [2, 6, 3, 5, 7, 1, 2, 6, 12, 6, 13, 42]
def z_sx (i : Nat) : String × Nat × String × Nat := q_strs.getD i ("", 0, "", 0)
def z_tm (i : Nat) : Term := .string (z_sx i).1 (z_sx i).2.1
def z_vl (i : Nat) : Term := .field (z_tm i) "java/lang/String" "value" "[B"
def z_ws (i : Nat) : List Cond := [.exactly (z_tm i) "java/lang/String", .eq (.field (z_tm i) "java/lang/String" "coder" "B") (.int 0), .arrayOf (z_vl i) .byte, .eq (.length (z_vl i)) (.int (Int32.ofNat (q_tl.getD i 0)))] ++ (List.range (q_tl.getD i 0)).map (fun j => .eq (.elem (z_vl i) (.int (Int32.ofNat j))) (.int ((q_tb.getD i []).getD j 0)))
set_option maxRecDepth 1000000 in
theorem z_ws_t : (List.range 12).all (fun i => decide ((z_pp.getD i []).map (fun k => z_fl[k]?) = (z_ws i).map some)) = true := by decide +kernel
set_option maxRecDepth 1000000 in
theorem z_ne_t : (List.range 12).all (fun i => (List.range 12).all (fun j => decide (j ≤ i) || decide (z_fl[(z_pn.getD i []).getD j 0]? = some (.not (.eq (z_tm i) (z_tm j)))))) = true := by decide +kernel
set_option maxRecDepth 1000000 in
theorem z_eq_t : (List.range 12).all (fun i => decide (z_fl[z_pe.getD i 0]? = some (.eq (z_tm i) (z_tm (12 + i))))) = true := by decide +kernel
set_option maxRecDepth 1000000 in
theorem z_st_t : (List.range 24).all (fun i => decide (q_wat (z_ps.getD i 0) = some (.stringRef (z_sx i).1 (z_sx i).2.1 (z_sx i).2.2.1)) && decide ((z_sx i).2.2.2 = i % 12)) = true := by decide +kernel
set_option maxRecDepth 1000000 in
theorem z_in_t : (List.range 12).all (fun i => decide (q_wat (z_ip.getD i 0) = some (.instantiable (q_C i) (z_in.getD i 0)))) = true := by decide +kernel
set_option maxRecDepth 1000000 in
theorem z_nst_t : q_nst.all (fun w => lw_tbl.any (fun v => decide (v = w)) && w.onTables) = true := by decide +kernel
set_option maxRecDepth 1000000 in
theorem z_bad_t : x_bad.all (fun w => lw_tbl.any (fun v => decide (v = w)) && w.onTables) = true := by decide +kernel
theorem z_tl_t : (List.range 12).all (fun i => decide (q_tl.getD i 0 < 2 ^ 31)) = true := by decide +kernel
set_option maxRecDepth 1000000 in
theorem z_s4 : z_fl[4]? = some (.eq (.static "java/lang/String" "COMPACT_STRINGS" "Z") (.int 1)) ∧ z_fl[5]? = some (.isRef (.static "jdk/internal/util/Preconditions" "SIOOBE_FORMATTER" "Ljava/util/function/BiFunction;")) ∧ z_fl[9]? = some (.isRef (.static Bundle.tN "UNASSIGNED_STACK" Bundle.steD)) ∧ z_fl[10]? = some (.isRef (.static Bundle.tN "SUPPRESSED_SENTINEL" Bundle.listD)) := by decide +kernel
set_option maxRecDepth 1000000 in
theorem z_t4 : q_wat 514 = some (.laysStatic "java/lang/String" "COMPACT_STRINGS" "Z") ∧ q_wat 530 = some (.laysStatic "jdk/internal/util/Preconditions" "SIOOBE_FORMATTER" "Ljava/util/function/BiFunction;") ∧ q_wat 1222 = some (.laysStatic Bundle.tN "UNASSIGNED_STACK" Bundle.steD) ∧ q_wat 1224 = some (.laysStatic Bundle.tN "SUPPRESSED_SENTINEL" Bundle.listD) ∧ q_wat 104 = some (.initialized "java/lang/String") ∧ q_wat 106 = some (.initialized "jdk/internal/util/Preconditions") ∧ q_wat 110 = some (.initialized Bundle.tN) ∧ q_wat 171 = some (.arrayOver (.object RX3)) ∧ q_wat 303 = some (.arrayOver (.object RX0)) := by decide +kernel
theorem z_cl_lt {c : Nat} {q : vw_C} (h : q_cl[c]? = some q) : c < 12 := by
  obtain ⟨h1, -⟩ := List.getElem?_eq_some_iff.mp h
  exact h1
theorem z_St {s : State} {b L : Nat} {xs : Nat → Int32} (d : ClassId) (hts : ∀ w ∈ lw_tbl, w.before #[Value.ref b] s = true) (hX : va_X b L xs s s.heap) (hbl : b < s.heap.size) (hL : L ≤ 3072) (hg : (Jvm.Cond.and given_1 narrow_1).before #[Value.ref b] s = true) : ∃ (D : va_G) (cA : Nat → ClassId) (sp adV : Nat → Nat), sp 999 = b ∧ q_St D cA sp adV L xs (fun q => s.heap.size ≤ q) s s.heap ∧ q_Ux (fun q => s.heap.size ≤ q) s s.heap := by
  have hA : ∀ a : Nat, a < s.heap.size → ¬ (fun q => s.heap.size ≤ q) a := fun a h z => absurd z (Nat.not_le.mpr h)
  have hfl := flat_of_before _ hg
  have fl : ∀ {k : Nat} {w : Cond}, z_fl[k]? = some w → w.before #[Value.ref b] s = true := fun {k w} h => hfl w (List.mem_of_getElem? h)
  have tb : ∀ {k : Nat} {w : Cond}, q_wat k = some w → w.before #[Value.ref b] s = true := fun {k w} h => hts w (q_wat_in h)
  have hc : ∀ i : Nat, ∃ q : ClassId × (Nat → Nat), i < 12 → u_Kn s (q_C i) (q_T i) (q_N i) q.1 q.2 := by
    intro i
    by_cases hi : i < 12
    · obtain ⟨cC, iS, h⟩ := u_known (ws := lw_tbl) hts (fun w hw => (List.mem_filter.mp (q_lays hi w hw)).1) (tb (of_decide_eq_true (List.all_eq_true.mp z_in_t i (List.mem_range.mpr hi))))
      exact ⟨(cC, iS), fun _ => h⟩
    · exact ⟨(d, fun _ => 0), fun h => absurd h hi⟩
  obtain ⟨D0, hD0⟩ := Classical.axiomOfChoice hc
  have hw : ∀ i : Nat, i < 12 → ∀ w ∈ z_ws i, w.before #[Value.ref b] s = true := by
    intro i hi w hw
    have h1 := of_decide_eq_true (List.all_eq_true.mp z_ws_t i (List.mem_range.mpr hi))
    have h2 : some w ∈ (z_ws i).map some := List.mem_map.mpr ⟨w, hw, rfl⟩
    rw [← h1] at h2
    obtain ⟨k, -, h3⟩ := List.mem_map.mp h2
    exact fl h3
  obtain ⟨adK, adV, hS, hev⟩ := vk_Sof (args := #[Value.ref b]) (s := s) (N := 12) (tm := z_tm) (len := q_tl) (byt := q_tb) (A := fun q => s.heap.size ≤ q) (fun i hi => of_decide_eq_true (List.all_eq_true.mp z_tl_t i (List.mem_range.mpr hi)))
    (fun i hi => hw i hi _ List.mem_cons_self) (fun i hi => hw i hi _ (List.mem_cons_of_mem _ List.mem_cons_self)) (fun i hi => hw i hi _ (List.mem_cons_of_mem _ (List.mem_cons_of_mem _ List.mem_cons_self))) (fun i hi => hw i hi _ (List.mem_cons_of_mem _ (List.mem_cons_of_mem _ (List.mem_cons_of_mem _ List.mem_cons_self))))
    (fun i hi j hj => hw i hi _ (List.mem_append_right _ (List.mem_map.mpr ⟨j, List.mem_range.mpr hj, rfl⟩)))
    (fun i j hi hj hij => by
      rcases Nat.lt_or_gt_of_ne hij with q | q
      · have h1 := List.all_eq_true.mp (List.all_eq_true.mp z_ne_t i (List.mem_range.mpr hi)) j (List.mem_range.mpr hj)
        rcases (Bool.or_eq_true _ _).mp h1 with h1 | h1
        · exact absurd (of_decide_eq_true h1) (by omega)
        · exact Or.inl (fl (of_decide_eq_true h1))
      · have h1 := List.all_eq_true.mp (List.all_eq_true.mp z_ne_t j (List.mem_range.mpr hj)) i (List.mem_range.mpr hi)
        rcases (Bool.or_eq_true _ _).mp h1 with h1 | h1
        · exact absurd (of_decide_eq_true h1) (by omega)
        · exact Or.inr (fl (of_decide_eq_true h1))) hA
  obtain ⟨s1, s2, s3, s4⟩ := z_s4
  obtain ⟨t1, t2, t3, t4, t5, t6, t7, t8, t9⟩ := z_t4
  have esp : ∀ k : Nat, (if 1000 + k = 999 then b else adK (1000 + k - 1000)) = adK k := fun k => by
    rw [if_neg (by omega), Nat.add_sub_cancel_left]
  refine ⟨(fun i => (D0 i).1, fun i => (D0 i).2), fun k => (s.vm.findClass ("[" ++ (q_at k).toString)).getD d, fun n => if n = 999 then b else adK (n - 1000), adV, if_pos rfl, ⟨⟨fun c q hq => ?_, fun k q hq => by cases hq⟩, fun k c h => ?_, fun w hw => ?_, va_AO.of (tb t8), va_AO.of (tb t9), fun t ht => ?_, ?_, ?_, ?_, ?_, by omega, va_Zof (tb t1) (tb t5) (va_eqi (fl s1)) hA, va_Zqof (tb t2) (tb t6) (fl s2) hA⟩, ⟨vx_Zqof (tb t3) (tb t7) (fl s3) hA, vx_Zqof (tb t4) (tb t7) (fl s4) hA, fun w hw => ?_⟩⟩
  · have hi := z_cl_lt hq
    rw [q_cl_at hi] at hq
    cases hq
    exact hD0 c hi
  · show c = (s.vm.findClass ("[" ++ (q_at k).toString)).getD d
    rw [h]; rfl
  · obtain ⟨h1, h2⟩ := Bool.and_eq_true_iff.mp (List.all_eq_true.mp z_nst_t w hw)
    obtain ⟨v, hv, e⟩ := List.any_eq_true.mp h1
    have e : v = w := of_decide_eq_true e
    exact va_Nw.of h2 (hts w (e ▸ hv))
  · obtain ⟨i, hi, e⟩ := List.getElem_of_mem ht
    have hi : i < 24 := hi
    have e : t = z_sx i := by
      show t = q_strs.getD i ("", 0, "", 0)
      rw [List.getD_eq_getElem?_getD, List.getElem?_eq_getElem hi, ← e]; rfl
    obtain ⟨h1, h2⟩ := Bool.and_eq_true_iff.mp (List.all_eq_true.mp z_st_t i (List.mem_range.mpr hi))
    have h1 := tb (of_decide_eq_true h1)
    have h2 := of_decide_eq_true h2
    show vk_R t.1 t.2.1 t.2.2.1 (if 1000 + t.2.2.2 = 999 then b else adK (1000 + t.2.2.2 - 1000)) s
    rw [esp, e, h2]
    refine vk_R.of (A := #[Value.ref b]) h1 ?_
    show (z_tm i).eval #[Value.ref b] s none [] s = some (.ref (adK (i % 12)))
    by_cases q : i < 12
    · rw [Nat.mod_eq_of_lt q]; exact hev i q
    · have h3 := of_decide_eq_true (List.all_eq_true.mp z_eq_t (i - 12) (List.mem_range.mpr (by omega)))
      have h4 := va_eqR (fl h3) (hev (i - 12) (by omega))
      rw [show 12 + (i - 12) = i by omega] at h4
      rw [show i % 12 = i - 12 by omega]
      exact h4
  · have e : (fun k => if 1000 + k = 999 then b else adK (1000 + k - 1000)) = adK := funext esp
    show vk_S 12 q_tl q_tb (fun k => if 1000 + k = 999 then b else adK (1000 + k - 1000)) adV _ s s.heap
    rw [e]; exact hS
  · exact hX
  · exact hbl
  · exact hA b hbl
  · obtain ⟨h1, h2⟩ := Bool.and_eq_true_iff.mp (List.all_eq_true.mp z_bad_t w hw)
    obtain ⟨v, hv, e⟩ := List.any_eq_true.mp h1
    have e : v = w := of_decide_eq_true e
    exact va_Nw.of h2 (hts w (e ▸ hv))

theorem dJ0_length_8abf5_0 : decode cJ0_length_8abf5 0 = .ok (.aload_n 0, 1) := by decide +kernel
theorem dJ0_length_8abf5_1 : decode cJ0_length_8abf5 1 = .ok (.getfield 9, 3) := by decide +kernel
theorem dJ0_length_8abf5_4 : decode cJ0_length_8abf5 4 = .ok (.arraylength, 1) := by decide +kernel
theorem dJ0_length_8abf5_5 : decode cJ0_length_8abf5 5 = .ok (.aload_n 0, 1) := by decide +kernel
theorem dJ0_length_8abf5_6 : decode cJ0_length_8abf5 6 = .ok (.invokevirtual 335, 3) := by decide +kernel
theorem dJ0_length_8abf5_9 : decode cJ0_length_8abf5 9 = .ok (.ishr, 1) := by decide +kernel
theorem dJ0_length_8abf5_10 : decode cJ0_length_8abf5 10 = .ok (.ireturn, 1) := by decide +kernel
theorem dJ0_charAt_5068e_0 : decode cJ0_charAt_5068e 0 = .ok (.aload_n 0, 1) := by decide +kernel
theorem dJ0_charAt_5068e_1 : decode cJ0_charAt_5068e 1 = .ok (.invokevirtual 492, 3) := by decide +kernel
theorem dJ0_charAt_5068e_4 : decode cJ0_charAt_5068e 4 = .ok (.ifCond .eq 12, 3) := by decide +kernel
theorem dJ0_charAt_5068e_7 : decode cJ0_charAt_5068e 7 = .ok (.aload_n 0, 1) := by decide +kernel
theorem dJ0_charAt_5068e_8 : decode cJ0_charAt_5068e 8 = .ok (.getfield 9, 3) := by decide +kernel
theorem dJ0_charAt_5068e_11 : decode cJ0_charAt_5068e 11 = .ok (.iload_n 1, 1) := by decide +kernel
theorem dJ0_charAt_5068e_12 : decode cJ0_charAt_5068e 12 = .ok (.invokestatic 495, 3) := by decide +kernel
theorem dJ0_charAt_5068e_15 : decode cJ0_charAt_5068e 15 = .ok (.ireturn, 1) := by decide +kernel
theorem dJ0_charAt_5068e_16 : decode cJ0_charAt_5068e 16 = .ok (.aload_n 0, 1) := by decide +kernel
theorem dJ0_charAt_5068e_17 : decode cJ0_charAt_5068e 17 = .ok (.getfield 9, 3) := by decide +kernel
theorem dJ0_charAt_5068e_20 : decode cJ0_charAt_5068e 20 = .ok (.iload_n 1, 1) := by decide +kernel
theorem dJ0_charAt_5068e_21 : decode cJ0_charAt_5068e 21 = .ok (.invokestatic 498, 3) := by decide +kernel
theorem dJ0_charAt_5068e_24 : decode cJ0_charAt_5068e 24 = .ok (.ireturn, 1) := by decide +kernel
theorem dJ0_coder_7d493_0 : decode cJ0_coder_7d493 0 = .ok (.getstatic 38, 3) := by decide +kernel
theorem dJ0_coder_7d493_3 : decode cJ0_coder_7d493 3 = .ok (.ifCond .eq 10, 3) := by decide +kernel
theorem dJ0_coder_7d493_6 : decode cJ0_coder_7d493 6 = .ok (.aload_n 0, 1) := by decide +kernel
theorem dJ0_coder_7d493_7 : decode cJ0_coder_7d493 7 = .ok (.getfield 15, 3) := by decide +kernel
theorem dJ0_coder_7d493_10 : decode cJ0_coder_7d493 10 = .ok (.goto 4, 3) := by decide +kernel
theorem dJ0_coder_7d493_13 : decode cJ0_coder_7d493 13 = .ok (.iconst 1, 1) := by decide +kernel
theorem dJ0_coder_7d493_14 : decode cJ0_coder_7d493 14 = .ok (.ireturn, 1) := by decide +kernel
theorem dJ0_isLatin1_aae02_0 : decode cJ0_isLatin1_aae02 0 = .ok (.getstatic 38, 3) := by decide +kernel
theorem dJ0_isLatin1_aae02_3 : decode cJ0_isLatin1_aae02 3 = .ok (.ifCond .eq 14, 3) := by decide +kernel
theorem dJ0_isLatin1_aae02_6 : decode cJ0_isLatin1_aae02 6 = .ok (.aload_n 0, 1) := by decide +kernel
theorem dJ0_isLatin1_aae02_7 : decode cJ0_isLatin1_aae02 7 = .ok (.getfield 15, 3) := by decide +kernel
theorem dJ0_isLatin1_aae02_10 : decode cJ0_isLatin1_aae02 10 = .ok (.ifCond .ne 7, 3) := by decide +kernel
theorem dJ0_isLatin1_aae02_13 : decode cJ0_isLatin1_aae02 13 = .ok (.iconst 1, 1) := by decide +kernel
theorem dJ0_isLatin1_aae02_14 : decode cJ0_isLatin1_aae02 14 = .ok (.goto 4, 3) := by decide +kernel
theorem dJ0_isLatin1_aae02_17 : decode cJ0_isLatin1_aae02 17 = .ok (.iconst 0, 1) := by decide +kernel
theorem dJ0_isLatin1_aae02_18 : decode cJ0_isLatin1_aae02 18 = .ok (.ireturn, 1) := by decide +kernel
theorem dJ0_checkIndex_df160_0 : decode cJ0_checkIndex_df160 0 = .ok (.iload_n 0, 1) := by decide +kernel
theorem dJ0_checkIndex_df160_1 : decode cJ0_checkIndex_df160 1 = .ok (.iload_n 1, 1) := by decide +kernel
theorem dJ0_checkIndex_df160_2 : decode cJ0_checkIndex_df160 2 = .ok (.getstatic 1053, 3) := by decide +kernel
theorem dJ0_checkIndex_df160_5 : decode cJ0_checkIndex_df160 5 = .ok (.invokestatic 1059, 3) := by decide +kernel
theorem dJ0_checkIndex_df160_8 : decode cJ0_checkIndex_df160 8 = .ok (.pop, 1) := by decide +kernel
theorem dJ0_checkIndex_df160_9 : decode cJ0_checkIndex_df160 9 = .ok (.return_, 1) := by decide +kernel
theorem dJ1_charAt_3b067_0 : decode cJ1_charAt_3b067 0 = .ok (.iload_n 1, 1) := by decide +kernel
theorem dJ1_charAt_3b067_1 : decode cJ1_charAt_3b067 1 = .ok (.aload_n 0, 1) := by decide +kernel
theorem dJ1_charAt_3b067_2 : decode cJ1_charAt_3b067 2 = .ok (.arraylength, 1) := by decide +kernel
theorem dJ1_charAt_3b067_3 : decode cJ1_charAt_3b067 3 = .ok (.invokestatic 9, 3) := by decide +kernel
theorem dJ1_charAt_3b067_6 : decode cJ1_charAt_3b067 6 = .ok (.aload_n 0, 1) := by decide +kernel
theorem dJ1_charAt_3b067_7 : decode cJ1_charAt_3b067 7 = .ok (.iload_n 1, 1) := by decide +kernel
theorem dJ1_charAt_3b067_8 : decode cJ1_charAt_3b067 8 = .ok (.baload, 1) := by decide +kernel
theorem dJ1_charAt_3b067_9 : decode cJ1_charAt_3b067 9 = .ok (.sipush 255, 3) := by decide +kernel
theorem dJ1_charAt_3b067_12 : decode cJ1_charAt_3b067 12 = .ok (.iand, 1) := by decide +kernel
theorem dJ1_charAt_3b067_13 : decode cJ1_charAt_3b067 13 = .ok (.i2c, 1) := by decide +kernel
theorem dJ1_charAt_3b067_14 : decode cJ1_charAt_3b067 14 = .ok (.ireturn, 1) := by decide +kernel
theorem dJ3_checkIndex_8e157_0 : decode cJ3_checkIndex_8e157 0 = .ok (.iload_n 0, 1) := by decide +kernel
theorem dJ3_checkIndex_8e157_1 : decode cJ3_checkIndex_8e157 1 = .ok (.ifCond .lt 8, 3) := by decide +kernel
theorem dJ3_checkIndex_8e157_4 : decode cJ3_checkIndex_8e157 4 = .ok (.iload_n 0, 1) := by decide +kernel
theorem dJ3_checkIndex_8e157_5 : decode cJ3_checkIndex_8e157 5 = .ok (.iload_n 1, 1) := by decide +kernel
theorem dJ3_checkIndex_8e157_6 : decode cJ3_checkIndex_8e157 6 = .ok (.if_icmp .lt 10, 3) := by decide +kernel
theorem dJ3_checkIndex_8e157_9 : decode cJ3_checkIndex_8e157 9 = .ok (.aload_n 2, 1) := by decide +kernel
theorem dJ3_checkIndex_8e157_10 : decode cJ3_checkIndex_8e157 10 = .ok (.iload_n 0, 1) := by decide +kernel
theorem dJ3_checkIndex_8e157_11 : decode cJ3_checkIndex_8e157 11 = .ok (.iload_n 1, 1) := by decide +kernel
theorem dJ3_checkIndex_8e157_12 : decode cJ3_checkIndex_8e157 12 = .ok (.invokestatic 95, 3) := by decide +kernel
theorem dJ3_checkIndex_8e157_15 : decode cJ3_checkIndex_8e157 15 = .ok (.athrow, 1) := by decide +kernel
theorem dJ3_checkIndex_8e157_16 : decode cJ3_checkIndex_8e157 16 = .ok (.iload_n 0, 1) := by decide +kernel
theorem dJ3_checkIndex_8e157_17 : decode cJ3_checkIndex_8e157 17 = .ok (.ireturn, 1) := by decide +kernel
section QJDK
variable {l : Launch}
set_option maxRecDepth 100000 in
set_option maxHeartbeats 4000000 in
theorem j_coder (adK adV : Nat → Nat) (k sz : Nat) (A : Nat → Prop) (hk : k < 12) (hA0 : ∀ q, sz ≤ q → A q)  : Met l yJ0_coder_7d493 (Cond.code yJ0_coder_7d493 cJ0_coder_7d493 1 (some .byte) :: q_words) ({ frames := 0, cells := 0, slots := 0, locals := 0 }) (q_PJ adK adV A sz [.ref (adK k)]) (vp_Si (fun r => r = 0)) 0 0 (fun _ => False) := by
  refine Met.ofW (cc := cJ0_coder_7d493) (maxL := 1) (ret := (some .byte)) (by decide +kernel) rfl ?_
  intro p e s m args below meth c s₁ B hml hv
  obtain ⟨rfl, hsz, hT, hZ, hZq⟩ := hv
  have hx := B.exec
  have hb := B.bytes
  have hr := B.returns
  have hlocks := B.notSynchronized
  have hts0 := atoms_spec B.pre
  have hts : ∀ w ∈ q_words, w.before _ s = true := fun w hw => hts0 w (List.mem_cons_of_mem _ hw)
  have hown := findClass_of_methodNamed B.named
  have hS : va_S A s.heap s.heap [] := va_S.rf
  have hl := lv_entry ([.ref (adK k)]) (n := 1) (Nat.le_of_ble_eq_true rfl)
  rw [lg_entry_eq]
  generalize (lg_sl ([.ref (adK k)]) ++ List.replicate (1 - (lg_sl ([.ref (adK k)])).length) Slot.unset).toArray = ls at hl ⊢
  have hl : lv_has ls 1 [(0, .ref (adK k))] := hl
  refine va_gets (v := .int 1) hx hb hZ hS hown (hts (.fieldLink RJ0 38 "java/lang/String" "COMPACT_STRINGS" "Z") (q_w_in (p := 513) (by decide +kernel))) (fun _ h => h) dJ0_coder_7d493_0 ?_
  refine lv_if_eq (x := 1) (tgt := 13) hx hb dJ0_coder_7d493_3 (by decide) (fun q => absurd q (by decide)) (fun _ => ?_)
  refine lv_aload_n hx hb dJ0_coder_7d493_6 rfl (lv_at hl 0 rfl) ?_
  refine vk_getf (v := .int 0) hx hb (hT.1 k hk).2.1 hS hown (hts (.fieldLink RJ0 15 "java/lang/String" "code\x72" "B") (q_w_in (p := 1914) (by decide +kernel))) (fun _ h => h) dJ0_coder_7d493_7 ?_
  refine lv_goto (tgt := 14) hx hb dJ0_coder_7d493_10 (by decide) ?_
  exact W.zret (v := 0) (ty := .byte) hx hb hr rfl (fun t ht hW => ⟨0, rfl, rfl, ht⟩) (fun _ h => by cases h) dJ0_coder_7d493_14
set_option maxRecDepth 100000 in
set_option maxHeartbeats 4000000 in
theorem j_isLatin1 (adK adV : Nat → Nat) (k sz : Nat) (A : Nat → Prop) (hk : k < 12) (hA0 : ∀ q, sz ≤ q → A q)  : Met l yJ0_isLatin1_aae02 (Cond.code yJ0_isLatin1_aae02 cJ0_isLatin1_aae02 1 (some .boolean) :: q_words) ({ frames := 0, cells := 0, slots := 0, locals := 0 }) (q_PJ adK adV A sz [.ref (adK k)]) (vp_Si (fun r => r = 1)) 0 0 (fun _ => False) := by
  refine Met.ofW (cc := cJ0_isLatin1_aae02) (maxL := 1) (ret := (some .boolean)) (by decide +kernel) rfl ?_
  intro p e s m args below meth c s₁ B hml hv
  obtain ⟨rfl, hsz, hT, hZ, hZq⟩ := hv
  have hx := B.exec
  have hb := B.bytes
  have hr := B.returns
  have hlocks := B.notSynchronized
  have hts0 := atoms_spec B.pre
  have hts : ∀ w ∈ q_words, w.before _ s = true := fun w hw => hts0 w (List.mem_cons_of_mem _ hw)
  have hown := findClass_of_methodNamed B.named
  have hS : va_S A s.heap s.heap [] := va_S.rf
  have hl := lv_entry ([.ref (adK k)]) (n := 1) (Nat.le_of_ble_eq_true rfl)
  rw [lg_entry_eq]
  generalize (lg_sl ([.ref (adK k)]) ++ List.replicate (1 - (lg_sl ([.ref (adK k)])).length) Slot.unset).toArray = ls at hl ⊢
  have hl : lv_has ls 1 [(0, .ref (adK k))] := hl
  refine va_gets (v := .int 1) hx hb hZ hS hown (hts (.fieldLink RJ0 38 "java/lang/String" "COMPACT_STRINGS" "Z") (q_w_in (p := 513) (by decide +kernel))) (fun _ h => h) dJ0_isLatin1_aae02_0 ?_
  refine lv_if_eq (x := 1) (tgt := 17) hx hb dJ0_isLatin1_aae02_3 (by decide) (fun q => absurd q (by decide)) (fun _ => ?_)
  refine lv_aload_n hx hb dJ0_isLatin1_aae02_6 rfl (lv_at hl 0 rfl) ?_
  refine vk_getf (v := .int 0) hx hb (hT.1 k hk).2.1 hS hown (hts (.fieldLink RJ0 15 "java/lang/String" "code\x72" "B") (q_w_in (p := 1914) (by decide +kernel))) (fun _ h => h) dJ0_isLatin1_aae02_7 ?_
  refine lv_if_ne (x := 0) (tgt := 17) hx hb dJ0_isLatin1_aae02_10 (by decide) (fun q => absurd rfl q) (fun _ => ?_)
  refine lv_iconst (v := 1) hx hb dJ0_isLatin1_aae02_13 (by decide) ?_
  refine lv_goto (tgt := 18) hx hb dJ0_isLatin1_aae02_14 (by decide) ?_
  exact W.zret (v := 1) (ty := .boolean) hx hb hr rfl (fun t ht hW => ⟨1, rfl, rfl, ht⟩) (fun _ h => by cases h) dJ0_isLatin1_aae02_18
theorem q_tl_at {k : Nat} (h : k < 12) : q_tl.getD k 0 = (q_str (1000 + k)).length := by
  unfold q_tl
  rw [List.getD_eq_getElem?_getD, List.getElem?_map, List.getElem?_range h]
  rfl
theorem q_tb_at {k j : Nat} (h : k < 12) (hj : j < (q_str (1000 + k)).length) : (q_tb.getD k []).getD j 0 = Int32.ofNat ((q_str (1000 + k)).getD j 0) := by
  have e : q_tb.getD k [] = (q_str (1000 + k)).map (fun c => Int32.ofNat c) := by
    unfold q_tb
    rw [List.getD_eq_getElem?_getD, List.getElem?_map, List.getElem?_range h]
    rfl
  rw [e]
  rw [List.getD_eq_getElem?_getD, List.getElem?_map, List.getD_eq_getElem?_getD, List.getElem?_eq_getElem hj]
  rfl
theorem q_PJ_pre {adK adV : Nat → Nat} {A : Nat → Prop} {s : State} {as : List Value} (hT : vk_S 12 q_tl q_tb adK adV A s s.heap) (hZ : va_Z "java/lang/String" "COMPACT_STRINGS" "Z" (.int 1) A s s.heap) (hZq : va_Zq "jdk/internal/util/Preconditions" "SIOOBE_FORMATTER" "Ljava/util/function/BiFunction;" A s s.heap) : ∀ U : State, U.heap = s.heap → s.WarmedH U.vm → q_PJ adK adV A s.heap.size as as.toArray U := fun U hU hW => ⟨rfl, by rw [hU], by rw [hU]; exact vk_S.moved hW.alike hT, by rw [hU]; exact va_Z.moved hW.alike hZ, by rw [hU]; exact va_Zq.moved hW.alike hZq⟩
set_option maxRecDepth 100000 in
set_option maxHeartbeats 4000000 in
theorem j_length (adK adV : Nat → Nat) (k sz : Nat) (A : Nat → Prop) (hk : k < 12) (hA0 : ∀ q, sz ≤ q → A q)  : Met l yJ0_length_8abf5 (Cond.code yJ0_length_8abf5 cJ0_length_8abf5 1 (some .int) :: q_words) ({ frames := 1, cells := 0, slots := 0, locals := 20 }) (q_PJ adK adV A sz [.ref (adK k)]) (vp_Si (fun r => r = Int32.ofInt (q_slen (1000 + k)))) 0 0 (fun _ => False) := by
  refine Met.ofW (cc := cJ0_length_8abf5) (maxL := 1) (ret := (some .int)) (by decide +kernel) rfl ?_
  intro p e s m args below meth c s₁ B hml hv
  obtain ⟨rfl, hsz, hT, hZ, hZq⟩ := hv
  have hx := B.exec
  have hb := B.bytes
  have hr := B.returns
  have hlocks := B.notSynchronized
  have hts0 := atoms_spec B.pre
  have hts : ∀ w ∈ q_words, w.before _ s = true := fun w hw => hts0 w (List.mem_cons_of_mem _ hw)
  have hown := findClass_of_methodNamed B.named
  have hS : va_S A s.heap s.heap [] := va_S.rf
  have hl := lv_entry ([.ref (adK k)]) (n := 1) (Nat.le_of_ble_eq_true rfl)
  rw [lg_entry_eq]
  generalize (lg_sl ([.ref (adK k)]) ++ List.replicate (1 - (lg_sl ([.ref (adK k)])).length) Slot.unset).toArray = ls at hl ⊢
  have hl : lv_has ls 1 [(0, .ref (adK k))] := hl
  refine lv_aload_n hx hb dJ0_length_8abf5_0 rfl (lv_at hl 0 rfl) ?_
  refine vk_getf (v := .ref (adV k)) hx hb (hT.1 k hk).2.2.1 hS hown (hts (.fieldLink RJ0 9 "java/lang/String" "value" "[B") (q_w_in (p := 1913) (by decide +kernel))) (fun _ h => h) dJ0_length_8abf5_1 ?_
  refine va_tlen (v := Int32.ofInt (q_slen (1000 + k))) hx hb (hT.1 k hk).2.2.2 hS (by rw [q_tl_at hk]; rfl) dJ0_length_8abf5_4 ?_
  refine lv_aload_n hx hb dJ0_length_8abf5_5 rfl (lv_at hl 0 rfl) ?_
  have cw : CallW (headSpec (Cond.code yJ0_length_8abf5 cJ0_length_8abf5 1 (some .int) :: q_words) ({ frames := 1, cells := 0, slots := 0, locals := 20 } : Room)).room s _ RJ0 RJ0 335 yJ0_coder_7d493 cJ0_coder_7d493 1 (some .byte) (Cond.code yJ0_coder_7d493 cJ0_coder_7d493 1 (some .byte) :: q_words) ({ frames := 0, cells := 0, slots := 0, locals := 0 }) 0 0 0 := ⟨callB_of 0 hts (q_goodIn2 (q_w_in (p := 512) (by decide +kernel))) rfl rfl rfl (hts (.initialized RJ0) (q_w_in (p := 104) (by decide +kernel))) (hts (.methodLink RJ0 335 yJ0_coder_7d493) (q_w_in (p := 509) (by decide +kernel))) ⟨by decide, by decide, by decide +kernel⟩ ⟨Nat.le_of_ble_eq_true rfl, Nat.le_of_ble_eq_true rfl⟩, hts (.instanceMethod yJ0_coder_7d493) (q_w_in (p := 510) (by decide +kernel)), hts (.selects RJ0 yJ0_coder_7d493 yJ0_coder_7d493) (q_w_in (p := 511) (by decide +kernel))⟩
  subst hsz
  refine q_read_end (r0 := 0) hS (va_runV (As := []) (rest := [.int (Int32.ofInt (q_slen (1000 + k)))]) ⟨hx, hb, hml, hown, hts⟩ (j_coder adK adV k s.heap.size A hk hA0) cw ⟨q_PJ_blind, vk_recv hT hk hS, q_PJ_pre hT hZ hZq⟩ rfl rfl hl.1 rfl (lv_room (Nat.le_of_ble_eq_true rfl)) dJ0_length_8abf5_6 ⟨Nat.le_of_ble_eq_true rfl, Nat.le_of_ble_eq_true rfl⟩) (fun locs1 hS1 hl9 => ?_)
  refine lv_ishr hx hb dJ0_length_8abf5_9 ?_
  have e9 : Int32.ofInt (q_slen (1000 + k)) >>> ((0 : Int32) &&& 31) = Int32.ofInt (q_slen (1000 + k)) := by
    have := q_str_all
    rcases (show k = 0 ∨ k = 1 ∨ k = 2 ∨ k = 3 ∨ k = 4 ∨ k = 5 ∨ k = 6 ∨ k = 7 ∨ k = 8 ∨ k = 9 ∨ k = 10 ∨ k = 11 by omega) with rfl | rfl | rfl | rfl | rfl | rfl | rfl | rfl | rfl | rfl | rfl | rfl <;> decide +kernel
  rw [e9]
  exact W.iret (v := Int32.ofInt (q_slen (1000 + k))) hx hb hr (fun t ht hW => ⟨_, rfl, rfl, ht⟩) (fun q hq => by cases hl9 q hq) dJ0_length_8abf5_10
def q_P0 (as : List Value) (A : Nat → Prop) (sz : Nat) : Array Value → State → Prop := va_Pc as (fun U => U.heap.size = sz ∧ va_Zq "jdk/internal/util/Preconditions" "SIOOBE_FORMATTER" "Ljava/util/function/BiFunction;" A U U.heap)
theorem q_P0_blind {as : List Value} {A : Nat → Prop} {sz : Nat} : FrameBlind (q_P0 as A sz) := by
  intro a U g mk h
  obtain ⟨h1, h2, h3⟩ := h
  exact ⟨h1, h2, va_Zq.moved (u := U) (U := U.calling g mk a) (Vm.Alike.refl U.vm) h3⟩
theorem q_P0_pre {as : List Value} {A : Nat → Prop} {s : State} (hZq : va_Zq "jdk/internal/util/Preconditions" "SIOOBE_FORMATTER" "Ljava/util/function/BiFunction;" A s s.heap) : ∀ U : State, U.heap = s.heap → s.WarmedH U.vm → q_P0 as A s.heap.size as.toArray U := fun U hU hW => ⟨rfl, by rw [hU], by rw [hU]; exact va_Zq.moved hW.alike hZq⟩
set_option maxRecDepth 100000 in
set_option maxHeartbeats 4000000 in
theorem j_pciN (i n : Int32) (t sz : Nat) (A : Nat → Prop) (hi : ¬ i < 0) (hin : i < n) : Met l yJ3_checkIndex_8e157 (Cond.code yJ3_checkIndex_8e157 cJ3_checkIndex_8e157 3 (some .int) :: q_words) ({ frames := 0, cells := 0, slots := 0, locals := 0 }) (q_P0 [.int i, .int n, .null] A sz) (vp_Si (fun r => r = i)) 0 0 (fun _ => False) := by
  refine Met.ofW (cc := cJ3_checkIndex_8e157) (maxL := 3) (ret := (some .int)) (by decide +kernel) rfl ?_
  intro p e s m args below meth c s₁ B hml hv
  obtain ⟨rfl, hsz, hZq⟩ := hv
  have hx := B.exec
  have hb := B.bytes
  have hr := B.returns
  have hlocks := B.notSynchronized
  have hts0 := atoms_spec B.pre
  have hts : ∀ w ∈ q_words, w.before _ s = true := fun w hw => hts0 w (List.mem_cons_of_mem _ hw)
  have hown := findClass_of_methodNamed B.named
  have hS : va_S A s.heap s.heap [] := va_S.rf
  have hl := lv_entry ([.int i, .int n, .null]) (n := 3) (Nat.le_of_ble_eq_true rfl)
  rw [lg_entry_eq]
  generalize (lg_sl ([.int i, .int n, .null]) ++ List.replicate (3 - (lg_sl ([.int i, .int n, .null])).length) Slot.unset).toArray = ls at hl ⊢
  have hl : lv_has ls 3 [(0, .int i), (1, .int n), (2, .null)] := hl
  refine lv_iload_n hx hb dJ3_checkIndex_8e157_0 rfl (lv_at hl 0 rfl) ?_
  refine lv_if_lt (tgt := 9) hx hb dJ3_checkIndex_8e157_1 (by decide) (fun q => absurd q hi) (fun _ => ?_)
  refine lv_iload_n hx hb dJ3_checkIndex_8e157_4 rfl (lv_at hl 0 rfl) ?_
  refine lv_iload_n hx hb dJ3_checkIndex_8e157_5 rfl (lv_at hl 1 rfl) ?_
  refine lv_icmp_lt (tgt := 16) hx hb dJ3_checkIndex_8e157_6 (by decide) (fun _ => ?_) (fun q => absurd hin q)
  refine lv_iload_n hx hb dJ3_checkIndex_8e157_16 rfl (lv_at hl 0 rfl) ?_
  exact W.iret (v := i) hx hb hr (fun t ht hW => ⟨i, rfl, rfl, ht⟩) (fun _ h => by cases h) dJ3_checkIndex_8e157_17
set_option maxRecDepth 100000 in
set_option maxHeartbeats 4000000 in
theorem j_pciR (i n : Int32) (t sz : Nat) (A : Nat → Prop) (hi : ¬ i < 0) (hin : i < n) : Met l yJ3_checkIndex_8e157 (Cond.code yJ3_checkIndex_8e157 cJ3_checkIndex_8e157 3 (some .int) :: q_words) ({ frames := 0, cells := 0, slots := 0, locals := 0 }) (q_P0 [.int i, .int n, .ref t] A sz) (vp_Si (fun r => r = i)) 0 0 (fun _ => False) := by
  refine Met.ofW (cc := cJ3_checkIndex_8e157) (maxL := 3) (ret := (some .int)) (by decide +kernel) rfl ?_
  intro p e s m args below meth c s₁ B hml hv
  obtain ⟨rfl, hsz, hZq⟩ := hv
  have hx := B.exec
  have hb := B.bytes
  have hr := B.returns
  have hlocks := B.notSynchronized
  have hts0 := atoms_spec B.pre
  have hts : ∀ w ∈ q_words, w.before _ s = true := fun w hw => hts0 w (List.mem_cons_of_mem _ hw)
  have hown := findClass_of_methodNamed B.named
  have hS : va_S A s.heap s.heap [] := va_S.rf
  have hl := lv_entry ([.int i, .int n, .ref t]) (n := 3) (Nat.le_of_ble_eq_true rfl)
  rw [lg_entry_eq]
  generalize (lg_sl ([.int i, .int n, .ref t]) ++ List.replicate (3 - (lg_sl ([.int i, .int n, .ref t])).length) Slot.unset).toArray = ls at hl ⊢
  have hl : lv_has ls 3 [(0, .int i), (1, .int n), (2, .ref t)] := hl
  refine lv_iload_n hx hb dJ3_checkIndex_8e157_0 rfl (lv_at hl 0 rfl) ?_
  refine lv_if_lt (tgt := 9) hx hb dJ3_checkIndex_8e157_1 (by decide) (fun q => absurd q hi) (fun _ => ?_)
  refine lv_iload_n hx hb dJ3_checkIndex_8e157_4 rfl (lv_at hl 0 rfl) ?_
  refine lv_iload_n hx hb dJ3_checkIndex_8e157_5 rfl (lv_at hl 1 rfl) ?_
  refine lv_icmp_lt (tgt := 16) hx hb dJ3_checkIndex_8e157_6 (by decide) (fun _ => ?_) (fun q => absurd hin q)
  refine lv_iload_n hx hb dJ3_checkIndex_8e157_16 rfl (lv_at hl 0 rfl) ?_
  exact W.iret (v := i) hx hb hr (fun t ht hW => ⟨i, rfl, rfl, ht⟩) (fun _ h => by cases h) dJ3_checkIndex_8e157_17
set_option maxRecDepth 100000 in
set_option maxHeartbeats 4000000 in
theorem j_ci (i n : Int32) (sz : Nat) (A : Nat → Prop) (hi : ¬ i < 0) (hin : i < n) : Met l yJ0_checkIndex_df160 (Cond.code yJ0_checkIndex_df160 cJ0_checkIndex_df160 2 none :: q_words) ({ frames := 1, cells := 0, slots := 0, locals := 22 }) (q_P0 [.int i, .int n] A sz) (fun (_ : Array Value) (st : State) (o : Outcome) (t : State) => o = .returned none ∧ t.heap = st.heap) 0 0 (fun _ => False) := by
  refine Met.ofW (cc := cJ0_checkIndex_df160) (maxL := 2) (ret := none) (by decide +kernel) rfl ?_
  intro p e s m args below meth c s₁ B hml hv
  obtain ⟨rfl, hsz, hZq⟩ := hv
  have hx := B.exec
  have hb := B.bytes
  have hr := B.returns
  have hlocks := B.notSynchronized
  have hts0 := atoms_spec B.pre
  have hts : ∀ w ∈ q_words, w.before _ s = true := fun w hw => hts0 w (List.mem_cons_of_mem _ hw)
  have hown := findClass_of_methodNamed B.named
  have hS : va_S A s.heap s.heap [] := va_S.rf
  have hl := lv_entry ([.int i, .int n]) (n := 2) (Nat.le_of_ble_eq_true rfl)
  rw [lg_entry_eq]
  generalize (lg_sl ([.int i, .int n]) ++ List.replicate (2 - (lg_sl ([.int i, .int n])).length) Slot.unset).toArray = ls at hl ⊢
  have hl : lv_has ls 2 [(0, .int i), (1, .int n)] := hl
  refine lv_iload_n hx hb dJ0_checkIndex_df160_0 rfl (lv_at hl 0 rfl) ?_
  refine lv_iload_n hx hb dJ0_checkIndex_df160_1 rfl (lv_at hl 1 rfl) ?_
  rcases id hZq with hz | ⟨t, hz⟩
  · skip
    refine va_gets (v := .null) hx hb hz hS hown (hts (.fieldLink RJ0 1053 "jdk/internal/util/Preconditions" "SIOOBE_FORMATTER" "Ljava/util/function/BiFunction;") (q_w_in (p := 529) (by decide +kernel))) (fun _ h => h) dJ0_checkIndex_df160_2 ?_
    refine q_read_end (r0 := i) hS (va_runS (As := [.int i, .int n, .null]) (rest := []) ⟨hx, hb, hml, hown, hts⟩ (j_pciN i n 0 s.heap.size A hi hin) ⟨callB_of 3 hts (q_goodIn2 (q_w_in (p := 533) (by decide +kernel))) rfl rfl rfl (hts (.initialized RJ3) (q_w_in (p := 106) (by decide +kernel))) (hts (.methodLink RJ0 1059 yJ3_checkIndex_8e157) (q_w_in (p := 531) (by decide +kernel))) ⟨by decide, by decide, by decide +kernel⟩ ⟨Nat.le_of_ble_eq_true rfl, Nat.le_of_ble_eq_true rfl⟩, hts (.static yJ3_checkIndex_8e157) (q_w_in (p := 532) (by decide +kernel))⟩ ⟨q_P0_blind, q_P0_pre hZq⟩ rfl rfl hl.1 rfl (lv_room (Nat.le_of_ble_eq_true rfl)) dJ0_checkIndex_df160_5 ⟨Nat.le_of_ble_eq_true rfl, Nat.le_of_ble_eq_true rfl⟩) (fun locs1 hS1 hl9 => ?_)
    refine lv_pop hx hb dJ0_checkIndex_df160_8 rfl ?_
    exact W.vret hx hb hr (fun t ht hW => ⟨rfl, ht⟩) (fun q hq => by cases hl9 q hq) dJ0_checkIndex_df160_9
  · skip
    refine va_gets (v := .ref t) hx hb hz hS hown (hts (.fieldLink RJ0 1053 "jdk/internal/util/Preconditions" "SIOOBE_FORMATTER" "Ljava/util/function/BiFunction;") (q_w_in (p := 529) (by decide +kernel))) (fun _ h => h) dJ0_checkIndex_df160_2 ?_
    refine q_read_end (r0 := i) hS (va_runS (As := [.int i, .int n, .ref t]) (rest := []) ⟨hx, hb, hml, hown, hts⟩ (j_pciR i n t s.heap.size A hi hin) ⟨callB_of 3 hts (q_goodIn2 (q_w_in (p := 533) (by decide +kernel))) rfl rfl rfl (hts (.initialized RJ3) (q_w_in (p := 106) (by decide +kernel))) (hts (.methodLink RJ0 1059 yJ3_checkIndex_8e157) (q_w_in (p := 531) (by decide +kernel))) ⟨by decide, by decide, by decide +kernel⟩ ⟨Nat.le_of_ble_eq_true rfl, Nat.le_of_ble_eq_true rfl⟩, hts (.static yJ3_checkIndex_8e157) (q_w_in (p := 532) (by decide +kernel))⟩ ⟨q_P0_blind, q_P0_pre hZq⟩ rfl rfl hl.1 rfl (lv_room (Nat.le_of_ble_eq_true rfl)) dJ0_checkIndex_df160_5 ⟨Nat.le_of_ble_eq_true rfl, Nat.le_of_ble_eq_true rfl⟩) (fun locs1 hS1 hl9 => ?_)
    refine lv_pop hx hb dJ0_checkIndex_df160_8 rfl ?_
    exact W.vret hx hb hr (fun t ht hW => ⟨rfl, ht⟩) (fun q hq => by cases hl9 q hq) dJ0_checkIndex_df160_9
theorem q_b255 : (List.range 256).all (fun n => decide (Int32.ofNat n &&& 255 = Int32.ofNat n ∧ ((Int32.ofNat n).toUInt32 % 65536).toInt32 = Int32.ofNat n)) = true := by decide +kernel
theorem q_sat_b {k : Nat} (h : k < 12) (i : Nat) : (q_str (1000 + k)).getD i 0 < 256 := by
  have h1 := List.all_eq_true.mp q_str_all k (List.mem_range.mpr h)
  rw [Bool.and_eq_true] at h1
  rw [List.getD_eq_getElem?_getD]
  cases hl : (q_str (1000 + k))[i]? with
  | none => exact by decide
  | some z => exact of_decide_eq_true (List.all_eq_true.mp h1.2 z (List.mem_of_getElem? hl))
set_option maxRecDepth 100000 in
set_option maxHeartbeats 4000000 in
theorem j_slc (adK adV : Nat → Nat) (k sz : Nat) (A : Nat → Prop) (hk : k < 12) (hA0 : ∀ q, sz ≤ q → A q) (i : Int) (hi0 : 0 ≤ i) (hi1 : i < q_slen (1000 + k)) : Met l yJ1_charAt_3b067 (Cond.code yJ1_charAt_3b067 cJ1_charAt_3b067 2 (some .char) :: q_words) ({ frames := 2, cells := 0, slots := 0, locals := 43 }) (q_PJ adK adV A sz [.ref (adV k), .int (Int32.ofInt i)]) (vp_Si (fun r => r = Int32.ofInt (q_sat (1000 + k) i.toNat))) 0 0 (fun _ => False) := by
  refine Met.ofW (cc := cJ1_charAt_3b067) (maxL := 2) (ret := (some .char)) (by decide +kernel) rfl ?_
  intro p e s m args below meth c s₁ B hml hv
  obtain ⟨rfl, hsz, hT, hZ, hZq⟩ := hv
  have hx := B.exec
  have hb := B.bytes
  have hr := B.returns
  have hlocks := B.notSynchronized
  have hts0 := atoms_spec B.pre
  have hts : ∀ w ∈ q_words, w.before _ s = true := fun w hw => hts0 w (List.mem_cons_of_mem _ hw)
  have hown := findClass_of_methodNamed B.named
  have hS : va_S A s.heap s.heap [] := va_S.rf
  have hl := lv_entry ([.ref (adV k), .int (Int32.ofInt i)]) (n := 2) (Nat.le_of_ble_eq_true rfl)
  rw [lg_entry_eq]
  generalize (lg_sl ([.ref (adV k), .int (Int32.ofInt i)]) ++ List.replicate (2 - (lg_sl ([.ref (adV k), .int (Int32.ofInt i)])).length) Slot.unset).toArray = ls at hl ⊢
  have hl : lv_has ls 2 [(0, .ref (adV k)), (1, .int (Int32.ofInt i))] := hl
  subst hsz
  have hi32 : q_i32 i := by
    have := q_slen_ok (B := 0) hk
    exact ⟨by omega, by have := this.2; omega⟩
  have hl32 : q_i32 (q_slen (1000 + k)) := q_slen_ok (B := 0) hk
  have hlen : q_slen (1000 + k) = ((q_str (1000 + k)).length : Int) := rfl
  have hneg : ¬ Int32.ofInt i < 0 := fun q => by have := (q_lt hi32 q_i0).mp q; omega
  have hlt : Int32.ofInt i < Int32.ofInt (q_slen (1000 + k)) := (q_lt hi32 hl32).mpr hi1
  refine lv_iload_n hx hb dJ1_charAt_3b067_0 rfl (lv_at hl 1 rfl) ?_
  refine lv_aload_n hx hb dJ1_charAt_3b067_1 rfl (lv_at hl 0 rfl) ?_
  refine va_tlen (v := Int32.ofInt (q_slen (1000 + k))) hx hb (hT.1 k hk).2.2.2 hS (by rw [q_tl_at hk]; rfl) dJ1_charAt_3b067_2 ?_
  refine q_read_endV (a := #[]) hS (va_runS (As := [.int (Int32.ofInt i), .int (Int32.ofInt (q_slen (1000 + k)))]) (rest := []) ⟨hx, hb, hml, hown, hts⟩ (j_ci (Int32.ofInt i) (Int32.ofInt (q_slen (1000 + k))) s.heap.size A hneg hlt) ⟨callB_of 2 hts (q_goodIn2 (q_w_in (p := 528) (by decide +kernel))) rfl rfl rfl (hts (.initialized RJ0) (q_w_in (p := 104) (by decide +kernel))) (hts (.methodLink RJ1 9 yJ0_checkIndex_df160) (q_w_in (p := 526) (by decide +kernel))) ⟨by decide, by decide, by decide +kernel⟩ ⟨Nat.le_of_ble_eq_true rfl, Nat.le_of_ble_eq_true rfl⟩, hts (.static yJ0_checkIndex_df160) (q_w_in (p := 527) (by decide +kernel))⟩ ⟨q_P0_blind, q_P0_pre hZq⟩ rfl rfl hl.1 rfl (lv_room (Nat.le_of_ble_eq_true rfl)) dJ1_charAt_3b067_3 ⟨Nat.le_of_ble_eq_true rfl, Nat.le_of_ble_eq_true rfl⟩) (fun locs1 hS1 hl9 => ?_)
  refine lv_aload_n hx hb dJ1_charAt_3b067_6 rfl (lv_at hl 0 rfl) ?_
  refine lv_iload_n hx hb dJ1_charAt_3b067_7 rfl (lv_at hl 1 rfl) ?_
  have hc := of_decide_eq_true (List.all_eq_true.mp q_b255 _ (List.mem_range.mpr (q_sat_b hk i.toNat)))
  refine va_tb (v := .int (Int32.ofNat ((q_str (1000 + k)).getD i.toNat 0))) hx hb (hT.1 k hk).2.2.2 hS1 (by rw [q_tl_at hk]; exact q_vin hi32 hi0 hi1) (by rw [q_clN hi32, q_tb_at hk (by omega)]) dJ1_charAt_3b067_8 ?_
  refine lv_sipush (v := 255) hx hb dJ1_charAt_3b067_9 (by decide) ?_
  refine lv_iand hx hb dJ1_charAt_3b067_12 ?_
  rw [hc.1]
  refine lv_i2c (v := Int32.ofInt (q_sat (1000 + k) i.toNat)) hx hb dJ1_charAt_3b067_13 (by rw [hc.2]; rfl) ?_
  exact W.zret (ty := .char) hx hb hr (by
    have e : Int32.ofInt (q_sat (1000 + k) i.toNat) = Int32.ofNat ((q_str (1000 + k)).getD i.toNat 0) := rfl
    rw [e]
    show Value.int (((Int32.ofNat ((q_str (1000 + k)).getD i.toNat 0)).toUInt32 % 65536).toInt32) = _
    rw [hc.2]) (fun t ht hW => ⟨_, rfl, rfl, ht⟩) (fun q hq => by cases hl9 q hq) dJ1_charAt_3b067_14
set_option maxRecDepth 100000 in
set_option maxHeartbeats 4000000 in
theorem j_charAt (adK adV : Nat → Nat) (k sz : Nat) (A : Nat → Prop) (hk : k < 12) (hA0 : ∀ q, sz ≤ q → A q) (i : Int) (hi0 : 0 ≤ i) (hi1 : i < q_slen (1000 + k)) : Met l yJ0_charAt_5068e (Cond.code yJ0_charAt_5068e cJ0_charAt_5068e 2 (some .char) :: q_words) ({ frames := 3, cells := 0, slots := 0, locals := 64 }) (q_PJ adK adV A sz [.ref (adK k), .int (Int32.ofInt i)]) (vp_Si (fun r => r = Int32.ofInt (q_sat (1000 + k) i.toNat))) 0 0 (fun _ => False) := by
  refine Met.ofW (cc := cJ0_charAt_5068e) (maxL := 2) (ret := (some .char)) (by decide +kernel) rfl ?_
  intro p e s m args below meth c s₁ B hml hv
  obtain ⟨rfl, hsz, hT, hZ, hZq⟩ := hv
  have hx := B.exec
  have hb := B.bytes
  have hr := B.returns
  have hlocks := B.notSynchronized
  have hts0 := atoms_spec B.pre
  have hts : ∀ w ∈ q_words, w.before _ s = true := fun w hw => hts0 w (List.mem_cons_of_mem _ hw)
  have hown := findClass_of_methodNamed B.named
  have hS : va_S A s.heap s.heap [] := va_S.rf
  have hl := lv_entry ([.ref (adK k), .int (Int32.ofInt i)]) (n := 2) (Nat.le_of_ble_eq_true rfl)
  rw [lg_entry_eq]
  generalize (lg_sl ([.ref (adK k), .int (Int32.ofInt i)]) ++ List.replicate (2 - (lg_sl ([.ref (adK k), .int (Int32.ofInt i)])).length) Slot.unset).toArray = ls at hl ⊢
  have hl : lv_has ls 2 [(0, .ref (adK k)), (1, .int (Int32.ofInt i))] := hl
  subst hsz
  refine lv_aload_n hx hb dJ0_charAt_5068e_0 rfl (lv_at hl 0 rfl) ?_
  have cw : CallW (headSpec (Cond.code yJ0_charAt_5068e cJ0_charAt_5068e 2 (some .char) :: q_words) ({ frames := 3, cells := 0, slots := 0, locals := 64 } : Room)).room s _ RJ0 RJ0 492 yJ0_isLatin1_aae02 cJ0_isLatin1_aae02 1 (some .boolean) (Cond.code yJ0_isLatin1_aae02 cJ0_isLatin1_aae02 1 (some .boolean) :: q_words) ({ frames := 0, cells := 0, slots := 0, locals := 0 }) 0 0 0 := ⟨callB_of 0 hts (q_goodIn2 (q_w_in (p := 522) (by decide +kernel))) rfl rfl rfl (hts (.initialized RJ0) (q_w_in (p := 104) (by decide +kernel))) (hts (.methodLink RJ0 492 yJ0_isLatin1_aae02) (q_w_in (p := 519) (by decide +kernel))) ⟨by decide, by decide, by decide +kernel⟩ ⟨Nat.le_of_ble_eq_true rfl, Nat.le_of_ble_eq_true rfl⟩, hts (.instanceMethod yJ0_isLatin1_aae02) (q_w_in (p := 520) (by decide +kernel)), hts (.selects RJ0 yJ0_isLatin1_aae02 yJ0_isLatin1_aae02) (q_w_in (p := 521) (by decide +kernel))⟩
  refine q_read_end (r0 := 1) hS (va_runV (As := []) (rest := []) ⟨hx, hb, hml, hown, hts⟩ (j_isLatin1 adK adV k s.heap.size A hk hA0) cw ⟨q_PJ_blind, vk_recv hT hk hS, q_PJ_pre hT hZ hZq⟩ rfl rfl hl.1 rfl (lv_room (Nat.le_of_ble_eq_true rfl)) dJ0_charAt_5068e_1 ⟨Nat.le_of_ble_eq_true rfl, Nat.le_of_ble_eq_true rfl⟩) (fun locs1 hS1 hl9 => ?_)
  refine lv_if_eq (x := 1) (tgt := 16) hx hb dJ0_charAt_5068e_4 (by decide) (fun q => absurd q (by decide)) (fun _ => ?_)
  refine lv_aload_n hx hb dJ0_charAt_5068e_7 rfl (lv_at hl 0 rfl) ?_
  refine vk_getf (v := .ref (adV k)) hx hb (hT.1 k hk).2.2.1 hS1 hown (hts (.fieldLink RJ0 9 "java/lang/String" "value" "[B") (q_w_in (p := 1913) (by decide +kernel))) (fun _ h => h) dJ0_charAt_5068e_8 ?_
  refine lv_iload_n hx hb dJ0_charAt_5068e_11 rfl (lv_at hl 1 rfl) ?_
  refine q_read_end (r0 := Int32.ofInt (q_sat (1000 + k) i.toNat)) hS1 (va_runS (As := [.ref (adV k), .int (Int32.ofInt i)]) (rest := []) ⟨hx, hb, hml, hown, hts⟩ (j_slc adK adV k s.heap.size A hk hA0 i hi0 hi1) ⟨callB_of 2 hts (q_goodIn2 (q_w_in (p := 525) (by decide +kernel))) rfl rfl rfl (hts (.initialized RJ1) (q_w_in (p := 105) (by decide +kernel))) (hts (.methodLink RJ0 495 yJ1_charAt_3b067) (q_w_in (p := 523) (by decide +kernel))) ⟨by decide, by decide, by decide +kernel⟩ ⟨Nat.le_of_ble_eq_true rfl, Nat.le_of_ble_eq_true rfl⟩, hts (.static yJ1_charAt_3b067) (q_w_in (p := 524) (by decide +kernel))⟩ ⟨q_PJ_blind, q_PJ_pre hT hZ hZq⟩ rfl rfl hl.1 rfl (lv_room (Nat.le_of_ble_eq_true rfl)) dJ0_charAt_5068e_12 ⟨Nat.le_of_ble_eq_true rfl, Nat.le_of_ble_eq_true rfl⟩) (fun locs2 hS2 hl8 => ?_)
  have hc := of_decide_eq_true (List.all_eq_true.mp q_b255 _ (List.mem_range.mpr (q_sat_b hk i.toNat)))
  exact W.zret (ty := .char) hx hb hr (by
    have e : Int32.ofInt (q_sat (1000 + k) i.toNat) = Int32.ofNat ((q_str (1000 + k)).getD i.toNat 0) := rfl
    rw [e]
    show Value.int (((Int32.ofNat ((q_str (1000 + k)).getD i.toNat 0)).toUInt32 % 65536).toInt32) = _
    rw [hc.2]) (fun t ht hW => ⟨_, rfl, rfl, ht⟩) (fun q hq => by cases hl9 q (hl8 q hq)) dJ0_charAt_5068e_15
/-- the JDK's length and charAt, of the texts -/
theorem q_hj : q_HJ l := ⟨fun adK adV k sz A hk hA0 => j_length adK adV k sz A hk hA0, fun adK adV k sz A i hk hA0 h0 h1 => j_charAt adK adV k sz A hk hA0 i h0 h1⟩
end QJDK

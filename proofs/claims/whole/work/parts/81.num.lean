/-! NUMBERS: the machine's and the abstract one's -/
theorem q_ti {z : Int} (h : q_i32 z) : (Int32.ofInt z).toInt = z := Int32.toInt_ofInt_of_le h.1 h.2
theorem q_tl64 {z : Int} (h : q_i64 z) : (Int64.ofInt z).toInt = z := Int64.toInt_ofInt_of_le h.1 h.2
theorem q_i32_of (x : Int32) : q_i32 x.toInt := ⟨x.le_toInt, x.toInt_lt⟩
theorem q_i64_of (x : Int64) : q_i64 x.toInt := ⟨x.le_toInt, x.toInt_lt⟩
theorem q_wr_of (z : Int) : (Int32.ofInt z).toInt = wr z := Int32.toInt_ofInt
theorem q_wl_of (z : Int) : (Int64.ofInt z).toInt = wl z := Int64.toInt_ofInt
theorem q_wr_ok (z : Int) : q_i32 (wr z) := by rw [← q_wr_of]; exact q_i32_of _
theorem q_wl_ok (z : Int) : q_i64 (wl z) := by rw [← q_wl_of]; exact q_i64_of _
theorem q_wr_id (z : Int) : Int32.ofInt (wr z) = Int32.ofInt z := by rw [← q_wr_of, Int32.ofInt_toInt]
theorem q_wl_id (z : Int) : Int64.ofInt (wl z) = Int64.ofInt z := by rw [← q_wl_of, Int64.ofInt_toInt]
theorem q_add (a b : Int) : Int32.ofInt a + Int32.ofInt b = Int32.ofInt (wr (a + b)) := by rw [q_wr_id, Int32.ofInt_add]
theorem q_sub (a b : Int) : Int32.ofInt a - Int32.ofInt b = Int32.ofInt (wr (a - b)) := by rw [q_wr_id, Int32.ofInt_sub]
theorem q_mul (a b : Int) : Int32.ofInt a * Int32.ofInt b = Int32.ofInt (wr (a * b)) := by rw [q_wr_id, Int32.ofInt_mul]
theorem q_neg (a : Int) : -Int32.ofInt a = Int32.ofInt (wr (-a)) := by rw [q_wr_id, Int32.ofInt_neg]
theorem q_div {a b : Int} (ha : q_i32 a) (hb : q_i32 b) : Int32.ofInt a / Int32.ofInt b = Int32.ofInt (wr (Int.tdiv a b)) := by
  apply Int32.toInt_inj.mp
  rw [q_wr_id, Int32.toInt_div, q_ti ha, q_ti hb, Int32.toInt_ofInt]
theorem q_rem {a b : Int} (ha : q_i32 a) (hb : q_i32 b) : Int32.ofInt a - Int32.ofInt a / Int32.ofInt b * Int32.ofInt b = Int32.ofInt (Int.tmod a b) := by
  apply Int32.toInt_inj.mp
  rw [rem_toInt, q_ti ha, q_ti hb]
  have h := rem_toInt (Int32.ofInt a) (Int32.ofInt b)
  rw [q_ti ha, q_ti hb] at h
  have h2 := q_i32_of (Int32.ofInt a - Int32.ofInt a / Int32.ofInt b * Int32.ofInt b)
  rw [h] at h2
  rw [q_ti h2]
theorem q_rem_ok {a b : Int} (ha : q_i32 a) (hb : q_i32 b) : q_i32 (Int.tmod a b) := by
  have h := rem_toInt (Int32.ofInt a) (Int32.ofInt b)
  rw [q_ti ha, q_ti hb] at h
  rw [← h]
  exact q_i32_of _
theorem q_ladd (a b : Int) : Int64.ofInt a + Int64.ofInt b = Int64.ofInt (wl (a + b)) := by rw [q_wl_id, Int64.ofInt_add]
theorem q_lmul (a b : Int) : Int64.ofInt a * Int64.ofInt b = Int64.ofInt (wl (a * b)) := by rw [q_wl_id, Int64.ofInt_mul]
theorem q_ldiv {a b : Int} (ha : q_i64 a) (hb : q_i64 b) : Int64.ofInt a / Int64.ofInt b = Int64.ofInt (wl (Int.tdiv a b)) := by
  apply Int64.toInt_inj.mp
  rw [q_wl_id, Int64.toInt_div, q_tl64 ha, q_tl64 hb, Int64.toInt_ofInt]
theorem q_lrem_t (x y : Int64) : (x - x / y * y).toInt = x.toInt.tmod y.toInt := by
  have e : x - x / y * y = x % y := by
    apply Int64.toInt_inj.mp
    have h1 := Int64.le_toInt (x % y)
    have h2 := Int64.toInt_lt (x % y)
    rw [Int64.toInt_sub, Int64.toInt_mul, Int64.toInt_div, Int.bmod_mul_bmod, Int.sub_bmod_bmod, Int.mul_comm (x.toInt.tdiv y.toInt), ← Int.tmod_def, ← Int64.toInt_mod]
    exact Int.bmod_eq_of_le_mul_two (by omega) (by omega)
  rw [e, Int64.toInt_mod]
theorem q_lrem {a b : Int} (ha : q_i64 a) (hb : q_i64 b) : Int64.ofInt a - Int64.ofInt a / Int64.ofInt b * Int64.ofInt b = Int64.ofInt (Int.tmod a b) := by
  have h := q_lrem_t (Int64.ofInt a) (Int64.ofInt b)
  rw [q_tl64 ha, q_tl64 hb] at h
  have h2 := q_i64_of (Int64.ofInt a - Int64.ofInt a / Int64.ofInt b * Int64.ofInt b)
  apply Int64.toInt_inj.mp
  rw [h] at h2 ⊢
  rw [q_tl64 h2]
theorem q_lrem_ok {a b : Int} (ha : q_i64 a) (hb : q_i64 b) : q_i64 (Int.tmod a b) := by
  have h := q_lrem_t (Int64.ofInt a) (Int64.ofInt b)
  rw [q_tl64 ha, q_tl64 hb] at h
  rw [← h]
  exact q_i64_of _
theorem q_lt {a b : Int} (ha : q_i32 a) (hb : q_i32 b) : Int32.ofInt a < Int32.ofInt b ↔ a < b := by rw [Int32.lt_iff_toInt_lt, q_ti ha, q_ti hb]
theorem q_le {a b : Int} (ha : q_i32 a) (hb : q_i32 b) : Int32.ofInt a ≤ Int32.ofInt b ↔ a ≤ b := by rw [Int32.le_iff_toInt_le, q_ti ha, q_ti hb]
theorem q_eq {a b : Int} (ha : q_i32 a) (hb : q_i32 b) : Int32.ofInt a = Int32.ofInt b ↔ a = b := by rw [← Int32.toInt_inj, q_ti ha, q_ti hb]
theorem q_z : (0 : Int32) = Int32.ofInt 0 := rfl
theorem q_i0 : q_i32 0 := ⟨by decide, by decide⟩
theorem q_llt {a b : Int} (ha : q_i64 a) (hb : q_i64 b) : Int64.ofInt a < Int64.ofInt b ↔ a < b := by rw [Int64.lt_iff_toInt_lt, q_tl64 ha, q_tl64 hb]
theorem q_leq {a b : Int} (ha : q_i64 a) (hb : q_i64 b) : Int64.ofInt a = Int64.ofInt b ↔ a = b := by rw [← Int64.toInt_inj, q_tl64 ha, q_tl64 hb]
theorem q_lz : (0 : Int64) = Int64.ofInt 0 := rfl
theorem q_l0 : q_i64 0 := ⟨by decide, by decide⟩
theorem q_clN {i : Int} (h : q_i32 i) : (Int32.ofInt i).toNatClampNeg = i.toNat := Int32.toNatClampNeg_ofInt_of_le h.1 h.2
theorem q_vin {i : Int} {n : Nat} (h : q_i32 i) (h0 : 0 ≤ i) (h1 : i < (n : Int)) : vp_in (Int32.ofInt i) n := vp_in_iff.mpr (by rw [q_ti h]; exact ⟨h0, h1⟩)
theorem q_shl_ok (a b : Int) : q_i32 (q_shl a b) := q_i32_of _
theorem q_shr_ok (a b : Int) : q_i32 (q_shr a b) := q_i32_of _
theorem q_and_ok (a b : Int) : q_i32 (q_and a b) := q_i32_of _
theorem q_or_ok (a b : Int) : q_i32 (q_or a b) := q_i32_of _
theorem q_xor_ok (a b : Int) : q_i32 (q_xor a b) := q_i32_of _
theorem q_byte (a : Int) (ha : q_i32 a) : (Int32.ofInt a).toInt8.toInt32 = Int32.ofInt (Int.bmod a 256) := by
  apply Int32.toInt_inj.mp
  have h : ((Int32.ofInt a).toInt8.toInt32).toInt = Int.bmod a 256 := by
    rw [Int8.toInt_toInt32, Int32.toInt_toInt8, q_ti ha]
  have h2 := q_i32_of ((Int32.ofInt a).toInt8.toInt32)
  rw [h] at h2
  rw [h, q_ti h2]
theorem q_byte_ok (a : Int) (ha : q_i32 a) : q_i32 (Int.bmod a 256) := by
  have h : ((Int32.ofInt a).toInt8.toInt32).toInt = Int.bmod a 256 := by
    rw [Int8.toInt_toInt32, Int32.toInt_toInt8, q_ti ha]
  rw [← h]
  exact q_i32_of _
theorem q_i2l {a : Int} (ha : q_i32 a) : (Int32.ofInt a).toInt64 = Int64.ofInt a := by
  apply Int64.toInt_inj.mp
  rw [Int32.toInt_toInt64, q_ti ha, q_tl64]
  exact ⟨by have := ha.1; omega, by have := ha.2; omega⟩
theorem q_i2l_ok {a : Int} (ha : q_i32 a) : q_i64 a := ⟨by have := ha.1; omega, by have := ha.2; omega⟩
theorem q_bip {n : Int} (h1 : -128 ≤ n) (h2 : n < 128) : (Int8.ofInt n).toInt32 = Int32.ofInt n := by
  apply Int32.toInt_inj.mp
  rw [Int8.toInt_toInt32, Int8.toInt_ofInt_of_le h1 h2, q_ti]
  exact ⟨by omega, by omega⟩
theorem q_sip {n : Int} (h1 : -32768 ≤ n) (h2 : n < 32768) : (Int16.ofInt n).toInt32 = Int32.ofInt n := by
  apply Int32.toInt_inj.mp
  rw [Int16.toInt_toInt32, Int16.toInt_ofInt_of_le h1 h2, q_ti]
  exact ⟨by omega, by omega⟩
/-! what a shape of the row says, taken for a claim -/
theorem q_vi_of {v : qV} {k : Int → Prop} (h : qvi v False k) : ∃ z, v = vi z ∧ k z := by
  rcases v with z | z | n | u
  · exact ⟨z, rfl, h⟩
  all_goals exact h.elim
theorem q_vl_of {v : qV} {k : Int → Prop} (h : qvl v False k) : ∃ z, v = vl z ∧ k z := by
  rcases v with z | z | n | u
  · exact h.elim
  · exact ⟨z, rfl, h⟩
  all_goals exact h.elim
theorem q_vr_of {v : qV} {k : Nat → Prop} (h : qvr v False k) : ∃ n, v = vr n ∧ k n := by
  rcases v with z | z | n | u
  · exact h.elim
  · exact h.elim
  · exact ⟨n, rfl, h⟩
  · exact h.elim
theorem q_i1_of {st : List qV} {k : Int → List qV → Prop} (h : qi1 st False k) : ∃ a r, st = vi a :: r ∧ k a r := by
  rcases st with _ | ⟨a | v, r⟩
  · exact h.elim
  · exact ⟨a, r, rfl, h⟩
  · exact h.elim
theorem q_i2_of {st : List qV} {k : Int → Int → List qV → Prop} (h : qi2 st False k) : ∃ a b r, st = vi b :: vi a :: r ∧ k a b r := by
  rcases st with _ | ⟨b | v, _ | ⟨a | w, r⟩⟩
  · exact h.elim
  · exact h.elim
  · exact ⟨a, b, r, rfl, h⟩
  all_goals exact h.elim
theorem q_l1_of {st : List qV} {k : Int → List qV → Prop} (h : ql1 st False k) : ∃ a r, st = vl a :: r ∧ k a r := by
  rcases st with _ | ⟨a | a | v, r⟩
  · exact h.elim
  · exact h.elim
  · exact ⟨a, r, rfl, h⟩
  · exact h.elim
theorem q_l2_of {st : List qV} {k : Int → Int → List qV → Prop} (h : ql2 st False k) : ∃ a b r, st = vl b :: vl a :: r ∧ k a b r := by
  rcases st with _ | ⟨b | b | v, _ | ⟨a | a | w, r⟩⟩ <;> first | exact h.elim | exact ⟨_, _, _, rfl, h⟩
theorem q_r1_of {st : List qV} {k : Nat → List qV → Prop} (h : qr1 st False k) : ∃ a r, st = vr a :: r ∧ k a r := by
  rcases st with _ | ⟨a | a | a | v, r⟩ <;> first | exact h.elim | exact ⟨_, _, rfl, h⟩
theorem q_ri_of {st : List qV} {k : Nat → Int → List qV → Prop} (h : qri st False k) : ∃ a i r, st = vi i :: vr a :: r ∧ k a i r := by
  rcases st with _ | ⟨b | v, _ | ⟨a | a | a | w, r⟩⟩ <;> first | exact h.elim | exact ⟨_, _, _, rfl, h⟩
theorem q_rv_of {st : List qV} {k : Nat → Int → qV → List qV → Prop} (h : qrv st False k) : ∃ a i v r, st = v :: vi i :: vr a :: r ∧ k a i v r := by
  rcases st with _ | ⟨v, _ | ⟨b | w, _ | ⟨a | a | a | w, r⟩⟩⟩ <;> first | exact h.elim | exact ⟨_, _, _, _, rfl, h⟩
theorem q_rp_of {st : List qV} {k : Nat → qV → List qV → Prop} (h : qrp st False k) : ∃ a v r, st = v :: vr a :: r ∧ k a v r := by
  rcases st with _ | ⟨v, _ | ⟨a | a | a | w, r⟩⟩ <;> first | exact h.elim | exact ⟨_, _, _, rfl, h⟩
theorem q_1_of {st : List qV} {k : qV → List qV → Prop} (h : q_1 st False k) : ∃ v r, st = v :: r ∧ k v r := by
  rcases st with _ | ⟨v, r⟩
  · exact h.elim
  · exact ⟨v, r, rfl, h⟩
theorem q_nil_of {st : List qV} {k : Prop} (h : q_nil st False k) : st = [] ∧ k := by
  rcases st with _ | ⟨v, r⟩
  · exact ⟨rfl, h⟩
  · exact h.elim
theorem q_hd_of {as : List qV} {k : Nat → Prop} (h : qhd as False k) : ∃ a r, as = vr a :: r ∧ k a := by
  rcases as with _ | ⟨a | a | a | u, r⟩ <;> first | exact h.elim | exact ⟨_, _, rfl, h⟩
theorem q_m_of {t k : Nat} {a b : Prop} (h : q_m t k a b) : (t = k ∧ a) ∨ (t ≠ k ∧ b) := by
  unfold q_m at h
  cases e : Nat.beq t k with
  | true => rw [e] at h; exact Or.inl ⟨Nat.eq_of_beq_eq_true e, h⟩
  | false => rw [e] at h; exact Or.inr ⟨Nat.ne_of_beq_eq_false e, h⟩
theorem q_m_t {t k : Nat} {a : Prop} (h : q_m t k a False) : t = k ∧ a := (q_m_of h).elim id (fun h => h.2.elim)
theorem q_if_of {c : Prop} [Decidable c] {a b : Prop} (h : if c then a else b) : (c ∧ a) ∨ (¬ c ∧ b) := by
  by_cases hc : c
  · rw [if_pos hc] at h; exact Or.inl ⟨hc, h⟩
  · rw [if_neg hc] at h; exact Or.inr ⟨hc, h⟩
theorem q_if_t {c : Prop} [Decidable c] {a : Prop} (h : if c then a else False) : c ∧ a := (q_if_of h).elim id (fun h => h.2.elim)
theorem q_pop_of {k : List qV → List qV → Prop} : ∀ (n : Nat) (acc st : List qV), qpop n acc st False k → ∃ ps r, st = ps ++ r ∧ ps.length = n ∧ k (ps.reverse ++ acc) r
  | 0, acc, st, h => ⟨[], st, rfl, rfl, h⟩
  | _ + 1, _, [], h => h.elim
  | n + 1, acc, v :: st, h => by
    obtain ⟨ps, r, h1, h2, h3⟩ := q_pop_of n (v :: acc) st h
    exact ⟨v :: ps, r, by rw [h1]; rfl, by rw [List.length_cons, h2], by rw [List.reverse_cons, List.append_assoc]; exact h3⟩

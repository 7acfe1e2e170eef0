/-! THE ABSTRACT MACHINE: the claim's own methods over a memory of numbered cells (Int-valued); q_E is what a method answers -/
abbrev qV : Type := Sum Int (Sum Int (Sum Nat Unit))
abbrev vi (z : Int) : qV := Sum.inl z
abbrev vl (z : Int) : qV := Sum.inr (Sum.inl z)
abbrev vr (n : Nat) : qV := Sum.inr (Sum.inr (Sum.inl n))
abbrev vu : qV := Sum.inr (Sum.inr (Sum.inr ()))
abbrev qM : Type := Nat × (Nat → Nat → Int) × (Nat → Nat → Int) × (Nat → Nat → Nat)
abbrev qF : Type := Nat × Nat × List qV × List qV
def mI (M : qM) (a k : Nat) : Int := M.2.1 a k
def mJ (M : qM) (a k : Nat) : Int := M.2.2.1 a k
def mR (M : qM) (a k : Nat) : Nat := M.2.2.2 a k
def sI (M : qM) (a k : Nat) (v : Int) : qM := (M.1, fun b j => if b = a ∧ j = k then v else M.2.1 b j, M.2.2.1, M.2.2.2)
def sJ (M : qM) (a k : Nat) (v : Int) : qM := (M.1, M.2.1, fun b j => if b = a ∧ j = k then v else M.2.2.1 b j, M.2.2.2)
def sR (M : qM) (a k : Nat) (v : Nat) : qM := (M.1, M.2.1, M.2.2.1, fun b j => if b = a ∧ j = k then v else M.2.2.2 b j)
def cpI (M : qM) (a sp b dp n : Nat) : qM := (M.1, fun d j => if d = b ∧ dp ≤ j ∧ j < dp + n then M.2.1 a (sp + (j - dp)) else M.2.1 d j, M.2.2.1, M.2.2.2)
def qnew (M : qM) : qM := (M.1 + 1, fun a k => if a = M.1 + 1 then 0 else M.2.1 a k, fun a k => if a = M.1 + 1 then 0 else M.2.2.1 a k, fun a k => if a = M.1 + 1 then 0 else M.2.2.2 a k)
def wr (z : Int) : Int := Int.bmod z 4294967296
def wl (z : Int) : Int := Int.bmod z 18446744073709551616
def q_shl (a b : Int) : Int := (Int32.ofInt a <<< (Int32.ofInt b &&& 31)).toInt
def q_shr (a b : Int) : Int := (Int32.ofInt a >>> (Int32.ofInt b &&& 31)).toInt
def q_and (a b : Int) : Int := (Int32.ofInt a &&& Int32.ofInt b).toInt
def q_or (a b : Int) : Int := (Int32.ofInt a ||| Int32.ofInt b).toInt
def q_xor (a b : Int) : Int := (Int32.ofInt a ^^^ Int32.ofInt b).toInt
def kd (n : Nat) : Nat := (q_lay n).1
def ln (n : Nat) : Int := ((q_lay n).2 : Int)
def q_kd (ph : Bool) (M : qM) (n : Nat) : Nat := match ph with
  | false => kd n
  | true => if n ≤ M.1 then kd n else 0
def qi1 {α : Type} (st : List qV) (bad : α) (k : Int → List qV → α) : α := match st with
  | Sum.inl a :: r => k a r
  | _ => bad
def qi2 {α : Type} (st : List qV) (bad : α) (k : Int → Int → List qV → α) : α := match st with
  | Sum.inl b :: Sum.inl a :: r => k a b r
  | _ => bad
def ql1 {α : Type} (st : List qV) (bad : α) (k : Int → List qV → α) : α := match st with
  | Sum.inr (Sum.inl a) :: r => k a r
  | _ => bad
def ql2 {α : Type} (st : List qV) (bad : α) (k : Int → Int → List qV → α) : α := match st with
  | Sum.inr (Sum.inl b) :: Sum.inr (Sum.inl a) :: r => k a b r
  | _ => bad
def qr1 {α : Type} (st : List qV) (bad : α) (k : Nat → List qV → α) : α := match st with
  | Sum.inr (Sum.inr (Sum.inl a)) :: r => k a r
  | _ => bad
def qri {α : Type} (st : List qV) (bad : α) (k : Nat → Int → List qV → α) : α := match st with
  | Sum.inl i :: Sum.inr (Sum.inr (Sum.inl a)) :: r => k a i r
  | _ => bad
def qrv {α : Type} (st : List qV) (bad : α) (k : Nat → Int → qV → List qV → α) : α := match st with
  | v :: Sum.inl i :: Sum.inr (Sum.inr (Sum.inl a)) :: r => k a i v r
  | _ => bad
def qrp {α : Type} (st : List qV) (bad : α) (k : Nat → qV → List qV → α) : α := match st with
  | v :: Sum.inr (Sum.inr (Sum.inl a)) :: r => k a v r
  | _ => bad
def qvi {α : Type} (v : qV) (bad : α) (k : Int → α) : α := match v with
  | Sum.inl a => k a
  | _ => bad
def qvl {α : Type} (v : qV) (bad : α) (k : Int → α) : α := match v with
  | Sum.inr (Sum.inl a) => k a
  | _ => bad
def qvr {α : Type} (v : qV) (bad : α) (k : Nat → α) : α := match v with
  | Sum.inr (Sum.inr (Sum.inl a)) => k a
  | _ => bad
def qcat1 (v : qV) : Nat := match v with
  | Sum.inr (Sum.inl _) => 2
  | _ => 1
def qcat : List qV → Nat
  | [] => 0
  | v :: r => qcat1 v + qcat r
def qpop {α : Type} : Nat → List qV → List qV → α → (List qV → List qV → α) → α
  | 0, acc, st, _, k => k acc st
  | _ + 1, _, [], bad, _ => bad
  | n + 1, acc, v :: st, bad, k => qpop n (v :: acc) st bad k
def qhd {α : Type} (as : List qV) (bad : α) (k : Nat → α) : α := match as with
  | Sum.inr (Sum.inr (Sum.inl a)) :: _ => k a
  | _ => bad
def q_m {α : Type} (t k : Nat) (a b : α) : α := match Nat.beq t k with
  | true => a
  | false => b
def q_1 {α : Type} (st : List qV) (bad : α) (k : qV → List qV → α) : α := match st with
  | [] => bad
  | v :: r => k v r
def q_nil {α : Type} (st : List qV) (bad k : α) : α := match st with
  | [] => k
  | _ :: _ => bad
/-- a place of the row of what is kept nearby is filled: a long ahead of it, that reached into it, is gone -/
def q_kp (L : List qV) (i : Nat) : List qV := match i with
  | 0 => L
  | j + 1 => match L.getD j vu with
    | Sum.inr (Sum.inl _) => L.set j vu
    | _ => L
def q_set (L : List qV) (i : Nat) (v : qV) : List qV := (q_kp L i).set i v
def q_setl (L : List qV) (i : Nat) (v : qV) : List qV := ((q_kp L i).set i v).set (i + 1) vu
def q_kl : List Nat → List qV → List qV
  | [], L => L
  | i :: r, L => q_kl r (L.set i vu)
def q_pad : Nat → List qV → List qV
  | 0, _ => []
  | n + 1, [] => vu :: q_pad n []
  | n + 1, v :: r => v :: q_pad n r
def q_args : List qV → List qV
  | [] => []
  | Sum.inr (Sum.inl z) :: r => vl z :: vu :: q_args r
  | v :: r => v :: q_args r
def q_sw {α : Type} (a : Int) : Int → List Nat → (Nat → α) → Nat → α
  | _, [], k, d => k d
  | lo, o :: os, k, d => if a = lo then k o else q_sw a (lo + 1) os k d
def q_get {α : Type} (nx : qV → α) (M : qM) (a k ty : Nat) : α := match ty with
  | 0 => nx (vi (mI M a k))
  | 1 => nx (vl (mJ M a k))
  | 2 => nx (vr (mR M a k))
  | _ => nx (vi (mI M a k))
def q_put {α : Type} (nx : qM → α) (bad : α) (M : qM) (a k ty : Nat) (v : qV) : α := match ty with
  | 0 => qvi v bad fun z => nx (sI M a k z)
  | 1 => qvl v bad fun z => nx (sJ M a k z)
  | 2 => qvr v bad fun n => if n ≤ 998 then nx (sR M a k n) else bad
  | _ => qvi v bad fun z => if z = 0 ∨ z = 1 then nx (sI M a k z) else bad
def q_new {α : Type} (ph : Bool) (nx : Nat → qM → α) (bad : α) (M : qM) (kind len : Nat) : α := match ph with
  | false => bad
  | true => if q_lay (M.1 + 1) = (kind, len) then nx (M.1 + 1) (qnew M) else bad
def q_inv {α : Type} (ph : Bool) (call : Nat → List qV → Nat → List qV → α) (bad : α) (st : List qV) (M : qM) (x : List Nat) (virt : Bool) : α :=
  qpop (qx x 2) [] st bad fun as r => q_m (qcat r - 8 + ((q_args as).length - q_mxl (qx x 1))) 0 (match virt with
    | true => qhd as bad fun a => if q_kd ph M a = qx x 4 then call (qx x 1) as (qx x 3) r else bad
    | false => call (qx x 1) as (qx x 3) r) bad
def q_ex {α : Type} (ph : Bool) (call : Nat → List qV → Nat → List qV → α) (nx : List qV → List qV → qM → α) (jp : Nat → List qV → α) (ret : qV → qM → α) (bad : α) (L st : List qV) (M : qM) (x : List Nat) (ins : Instr) : α := match ins with
  | .aload i => qvr (L.getD i vu) bad fun n => nx L (vr n :: st) M
  | .aload_n i => qvr (L.getD i.val vu) bad fun n => nx L (vr n :: st) M
  | .iload i => qvi (L.getD i vu) bad fun z => nx L (vi z :: st) M
  | .iload_n i => qvi (L.getD i.val vu) bad fun z => nx L (vi z :: st) M
  | .lload i => qvl (L.getD i vu) bad fun z => nx L (vl z :: st) M
  | .lload_n i => qvl (L.getD i.val vu) bad fun z => nx L (vl z :: st) M
  | .astore i => qr1 st bad fun n r => nx (q_set L i (vr n)) r M
  | .astore_n i => qr1 st bad fun n r => nx (q_set L i.val (vr n)) r M
  | .istore i => qi1 st bad fun z r => nx (q_set L i (vi z)) r M
  | .istore_n i => qi1 st bad fun z r => nx (q_set L i.val (vi z)) r M
  | .lstore i => ql1 st bad fun z r => nx (q_setl L i (vl z)) r M
  | .lstore_n i => ql1 st bad fun z r => nx (q_setl L i.val (vl z)) r M
  | .iconst c => nx L (vi c :: st) M
  | .bipush c => nx L (vi c :: st) M
  | .sipush c => nx L (vi c :: st) M
  | .lconst c => nx L (vl (c.val : Int) :: st) M
  | .ldc _ => q_m (qx x 0) 0 (nx L (vi (qx x 1 : Int) :: st) M) (nx L (vr (1000 + qx x 1) :: st) M)
  | .ldc_w _ => q_m (qx x 0) 0 (nx L (vi (qx x 1 : Int) :: st) M) (nx L (vr (1000 + qx x 1) :: st) M)
  | .ldc2_w _ => nx L (vl (-1) :: st) M
  | .iadd => qi2 st bad fun a b r => nx L (vi (wr (a + b)) :: r) M
  | .isub => qi2 st bad fun a b r => nx L (vi (wr (a - b)) :: r) M
  | .imul => qi2 st bad fun a b r => nx L (vi (wr (a * b)) :: r) M
  | .idiv => qi2 st bad fun a b r => if b = 0 then bad else nx L (vi (wr (Int.tdiv a b)) :: r) M
  | .irem => qi2 st bad fun a b r => if b = 0 then bad else nx L (vi (Int.tmod a b) :: r) M
  | .ineg => qi1 st bad fun a r => nx L (vi (wr (-a)) :: r) M
  | .ishl => qi2 st bad fun a b r => nx L (vi (q_shl a b) :: r) M
  | .ishr => qi2 st bad fun a b r => nx L (vi (q_shr a b) :: r) M
  | .iand => qi2 st bad fun a b r => nx L (vi (q_and a b) :: r) M
  | .ior => qi2 st bad fun a b r => nx L (vi (q_or a b) :: r) M
  | .ixor => qi2 st bad fun a b r => nx L (vi (q_xor a b) :: r) M
  | .ladd => ql2 st bad fun a b r => nx L (vl (wl (a + b)) :: r) M
  | .lmul => ql2 st bad fun a b r => nx L (vl (wl (a * b)) :: r) M
  | .ldiv => ql2 st bad fun a b r => if b = 0 then bad else nx L (vl (wl (Int.tdiv a b)) :: r) M
  | .lrem => ql2 st bad fun a b r => if b = 0 then bad else nx L (vl (Int.tmod a b) :: r) M
  | .i2l => qi1 st bad fun a r => nx L (vl a :: r) M
  | .i2b => qi1 st bad fun a r => nx L (vi (Int.bmod a 256) :: r) M
  | .lcmp => ql2 st bad fun a b r => if a < b then nx L (vi (-1) :: r) M else if a = b then nx L (vi 0 :: r) M else nx L (vi 1 :: r) M
  | .iinc i c => qvi (L.getD i vu) bad fun z => nx (L.set i (vi (wr (z + c)))) st M
  | .goto _ => jp (qx x 0) st
  | .ifCond c _ => qi1 st bad fun a r => (match c with
    | .eq => if a = 0 then jp (qx x 0) r else nx L r M
    | .ne => if a = 0 then nx L r M else jp (qx x 0) r
    | .lt => if a < 0 then jp (qx x 0) r else nx L r M
    | .ge => if a < 0 then nx L r M else jp (qx x 0) r
    | .gt => if 0 < a then jp (qx x 0) r else nx L r M
    | .le => if 0 < a then nx L r M else jp (qx x 0) r)
  | .if_icmp c _ => qi2 st bad fun a b r => (match c with
    | .eq => if a = b then jp (qx x 0) r else nx L r M
    | .ne => if a = b then nx L r M else jp (qx x 0) r
    | .lt => if a < b then jp (qx x 0) r else nx L r M
    | .ge => if a < b then nx L r M else jp (qx x 0) r
    | .gt => if b < a then jp (qx x 0) r else nx L r M
    | .le => if b < a then nx L r M else jp (qx x 0) r)
  | .tableswitch _ lo _ _ => qi1 st bad fun a r => q_sw a lo x.tail (fun t => jp t r) (qx x 0)
  | .getfield _ => qr1 st bad fun a r => if q_kd ph M a = 10 + qx x 0 then q_get (fun v => nx L (v :: r) M) M a (qx x 1) (qx x 2) else bad
  | .putfield _ => qrp st bad fun a v r => if q_kd ph M a = 10 + qx x 0 then q_put (fun M' => nx L r M') bad M a (qx x 1) (qx x 2) v else bad
  | .iaload => qri st bad fun a i r => q_m (qx x 0) 0 (if q_kd ph M a = 1 then (if 0 ≤ i ∧ i < ln a then nx L (vi (mI M a i.toNat) :: r) M else bad) else bad) (if a = 999 then (if 0 ≤ i ∧ i < mI M 998 0 then nx L (vi (mI M 999 i.toNat) :: r) M else bad) else bad)
  | .baload => qri st bad fun a i r => if q_kd ph M a = 2 then (if 0 ≤ i ∧ i < ln a then nx L (vi (mI M a i.toNat) :: r) M else bad) else bad
  | .aaload => qri st bad fun a i r => if q_kd ph M a = qx x 0 then (if 0 ≤ i ∧ i < ln a then nx L (vr (mR M a i.toNat) :: r) M else bad) else bad
  | .laload => qri st bad fun a i r => if q_kd ph M a = 3 then (if 0 ≤ i ∧ i < ln a then nx L (vl (mJ M a i.toNat) :: r) M else bad) else bad
  | .iastore => qrv st bad fun a i v r => qvi v bad fun z => if q_kd ph M a = 1 then (if 0 ≤ i ∧ i < ln a then nx L r (sI M a i.toNat z) else bad) else bad
  | .bastore => qrv st bad fun a i v r => qvi v bad fun z => if q_kd ph M a = 2 then (if 0 ≤ i ∧ i < ln a then nx L r (sI M a i.toNat (Int.bmod z 256)) else bad) else bad
  | .lastore => qrv st bad fun a i v r => qvl v bad fun z => if q_kd ph M a = 3 then (if 0 ≤ i ∧ i < ln a then nx L r (sJ M a i.toNat z) else bad) else bad
  | .aastore => qrv st bad fun a i v r => qvr v bad fun n => if q_kd ph M a = qx x 0 then (if q_kd ph M n = qx x 1 then (if 0 ≤ i ∧ i < ln a then nx L r (sR M a i.toNat n) else bad) else bad) else bad
  | .arraylength => qr1 st bad fun a r => q_m (qx x 0) 0 (if a = 999 then nx L (vi (mI M 998 0) :: r) M else bad) (if q_kd ph M a = qx x 0 then nx L (vi (ln a) :: r) M else bad)
  | .new _ => q_m (qx x 0) 0 (q_nil st bad (ret vu M)) (q_new ph (fun n M' => nx L (vr n :: st) M') bad M (qx x 0) 0)
  | .newarray _ => qi1 st bad fun a r => if a < 0 then bad else q_new ph (fun n M' => nx L (vr n :: r) M') bad M (qx x 0) a.toNat
  | .anewarray _ => qi1 st bad fun a r => if a < 0 then bad else q_new ph (fun n M' => nx L (vr n :: r) M') bad M (qx x 0) a.toNat
  | .dup => q_1 st bad fun v r => q_m (qcat1 v) 1 (nx L (v :: v :: r) M) bad
  | .dup2 => q_1 st bad fun v r => q_1 r bad fun w r => q_m (qcat1 v) 1 (q_m (qcat1 w) 1 (nx L (v :: w :: v :: w :: r) M) bad) bad
  | .pop => q_1 st bad fun v r => q_m (qcat1 v) 1 (nx L r M) bad
  | .invokevirtual _ => q_m (qx x 0) 0 (q_inv ph call bad st M x true) (q_m (qx x 0) 1 (qr1 st bad fun s r => q_m (qcat r - 8) 0 (if kd s = 7 then nx L (vi (q_slen s) :: r) M else bad) bad) (qri st bad fun s i r => q_m (qcat r - 8) 0 (if kd s = 7 then (if 0 ≤ i ∧ i < q_slen s then nx L (vi (q_sat s i.toNat) :: r) M else bad) else bad) bad))
  | .invokespecial _ => q_m (qx x 0) 0 (q_inv ph call bad st M x true) (qr1 st bad fun a r => q_nil r bad (if 1 ≤ a then nx L [] M else bad))
  | .invokestatic _ => q_m (qx x 0) 0 (q_inv ph call bad st M x false) (q_m (qx x 0) 3 (qi2 st bad fun a b r => q_m (qcat r - 8) 0 (if a < b then nx L (vi b :: r) M else nx L (vi a :: r) M) bad) (q_m (qx x 0) 4 (qi2 st bad fun a b r => q_m (qcat r - 8) 0 (if a < b then nx L (vi a :: r) M else nx L (vi b :: r) M) bad) (qi2 st bad fun dp n r => qr1 r bad fun b r => qi1 r bad fun sp r => qr1 r bad fun a r => q_nil r bad (if q_kd ph M a = 1 then (if q_kd ph M b = 1 then (if 0 ≤ sp ∧ 0 ≤ dp ∧ 0 ≤ n ∧ sp + n ≤ ln a ∧ dp + n ≤ ln b then nx L [] (cpI M a sp.toNat b dp.toNat n.toNat) else bad) else bad) else bad))))
  | .ireturn => qi1 st bad fun a r => q_nil r bad (q_m (qx x 0) 0 (ret (vi a) M) (if a = 0 ∨ a = 1 then ret (vi a) M else bad))
  | .lreturn => ql1 st bad fun a r => q_nil r bad (ret (vl a) M)
  | .areturn => qr1 st bad fun a r => q_nil r bad (ret (vr a) M)
  | .return_ => q_nil st bad (ret vu M)
  | _ => bad
def q_stp {α : Type} (ph : Bool) (call : Nat → List qV → Nat → qF → α) (go : qF → qM → α) (ret : qV → qM → α) (bad : α) (f : qF) (M : qM) : α := match q_code f.1 f.2.1 with
  | none => bad
  | some (ins, len, kf, kj, x) => q_ex ph (fun y as rt r => call y as rt (f.1, f.2.1 + len, q_kl kf f.2.2.1, r)) (fun L st M' => go (f.1, f.2.1 + len, q_kl kf L, st) M') (fun t st => go (f.1, t, q_kl kj f.2.2.1, st) M) ret bad f.2.2.1 f.2.2.2 M x ins
def q_bv (o : Option (qV × qM)) (k : qM → Option (qV × qM)) : Option (qV × qM) := match o with
  | some (_, M) => k M
  | none => none
def q_bi (o : Option (qV × qM)) (k : Int → qM → Option (qV × qM)) : Option (qV × qM) := match o with
  | some (Sum.inl z, M) => k z M
  | _ => none
def q_bl (o : Option (qV × qM)) (k : Int → qM → Option (qV × qM)) : Option (qV × qM) := match o with
  | some (Sum.inr (Sum.inl z), M) => k z M
  | _ => none
def q_br (o : Option (qV × qM)) (k : Nat → qM → Option (qV × qM)) : Option (qV × qM) := match o with
  | some (Sum.inr (Sum.inr (Sum.inl n)), M) => k n M
  | _ => none
def q_psh (v : qV) (f : qF) : qF := (f.1, f.2.1, f.2.2.1, v :: f.2.2.2)
def q_bnd (rt : Nat) (o : Option (qV × qM)) (k : qF → qM → Option (qV × qM)) (f : qF) : Option (qV × qM) := match rt with
  | 0 => q_bv o fun M => k f M
  | 1 => q_bi o fun z M => k (q_psh (vi z) f) M
  | 2 => q_bl o fun z M => k (q_psh (vl z) f) M
  | _ => q_br o fun n M => k (q_psh (vr n) f) M
def q_ent (y : Nat) (as : List qV) : qF := (y, 0, q_pad (q_mxl y) (q_args as), [])
/-- the law's own way to ask 'led': 0 and the answer laid down, or 1 where it throws -/
def q_ledr (o : Option (qV × qM)) (as : List qV) : Option (qV × qM) := match as with
  | [_, _, Sum.inr (Sum.inr (Sum.inl a))] => (match o with
    | some (Sum.inl z, M) => some (vi 0, sJ M a 0 z)
    | some (_, M) => some (vi 1, M)
    | none => none)
  | _ => none
def q_cal (rn : qF → qM → Option (qV × qM)) (y : Nat) (as : List qV) (M : qM) : Option (qV × qM) := match Nat.beq y q_LED with
  | true => q_ledr (rn (q_ent q_XLED (as.take 2)) M) as
  | false => rn (q_ent y as) M
def q_run (ph : Bool) : Nat → qF → qM → Option (qV × qM)
  | 0, _, _ => none
  | n + 1, f, M => q_stp ph (fun y as rt fr => q_bnd rt (q_cal (q_run ph n) y as M) (q_run ph n) fr) (q_run ph n) (fun v M => some (v, M)) none f M
/-! shapes: a step goes on, jumps, ends, asks another method, or is none; whatever is made of these -/
abbrev qT : Type 1 := ∀ α : Type, (Nat → List qV → Nat → List qV → α) → (List qV → List qV → qM → α) → (Nat → List qV → α) → (qV → qM → α) → α → α
def qSh (F : qT) : Prop :=
  (∃ L st M, ∀ α call nx jp ret bad, F α call nx jp ret bad = nx L st M) ∨ (∃ t st, ∀ α call nx jp ret bad, F α call nx jp ret bad = jp t st) ∨ (∃ v M, ∀ α call nx jp ret bad, F α call nx jp ret bad = ret v M) ∨ (∀ α call nx jp ret bad, F α call nx jp ret bad = bad) ∨ (∃ y as rt r, ∀ α call nx jp ret bad, F α call nx jp ret bad = call y as rt r)
theorem qSh_nx {L st : List qV} {M : qM} : qSh (fun _ _ nx _ _ _ => nx L st M) := Or.inl ⟨L, st, M, fun _ _ _ _ _ _ => rfl⟩
theorem qSh_jp {t : Nat} {st : List qV} : qSh (fun _ _ _ jp _ _ => jp t st) := Or.inr (Or.inl ⟨t, st, fun _ _ _ _ _ _ => rfl⟩)
theorem qSh_ret {v : qV} {M : qM} : qSh (fun _ _ _ _ ret _ => ret v M) := Or.inr (Or.inr (Or.inl ⟨v, M, fun _ _ _ _ _ _ => rfl⟩))
theorem qSh_bad : qSh (fun _ _ _ _ _ bad => bad) := Or.inr (Or.inr (Or.inr (Or.inl fun _ _ _ _ _ _ => rfl)))
theorem qSh_call {y rt : Nat} {as r : List qV} : qSh (fun _ call _ _ _ _ => call y as rt r) := Or.inr (Or.inr (Or.inr (Or.inr ⟨y, as, rt, r, fun _ _ _ _ _ _ => rfl⟩)))
theorem qSh_eq {F G : qT} (h : ∀ α call nx jp ret bad, F α call nx jp ret bad = G α call nx jp ret bad) (hG : qSh G) : qSh F := by
  have e : F = G := by
    funext α call nx jp ret bad
    exact h α call nx jp ret bad
  rw [e]; exact hG
theorem qSh_ite {c : Prop} [Decidable c] {F G : qT} (hF : c → qSh F) (hG : ¬ c → qSh G) : qSh (fun α call nx jp ret bad => if c then F α call nx jp ret bad else G α call nx jp ret bad) := by
  by_cases h : c
  · exact qSh_eq (fun _ _ _ _ _ _ => if_pos h) (hF h)
  · exact qSh_eq (fun _ _ _ _ _ _ => if_neg h) (hG h)
theorem qSh_qi1 {st : List qV} {K : Int → List qV → qT} (h : ∀ a r, qSh (K a r)) : qSh (fun α call nx jp ret bad => qi1 st bad (fun a r => K a r α call nx jp ret bad)) := by
  rcases st with _ | ⟨a | v, r⟩ <;> first | exact qSh_bad | exact h _ _
theorem qSh_qi2 {st : List qV} {K : Int → Int → List qV → qT} (h : ∀ a b r, qSh (K a b r)) : qSh (fun α call nx jp ret bad => qi2 st bad (fun a b r => K a b r α call nx jp ret bad)) := by
  rcases st with _ | ⟨b | v, _ | ⟨a | w, r⟩⟩ <;> first | exact qSh_bad | exact h _ _ _
theorem qSh_ql1 {st : List qV} {K : Int → List qV → qT} (h : ∀ a r, qSh (K a r)) : qSh (fun α call nx jp ret bad => ql1 st bad (fun a r => K a r α call nx jp ret bad)) := by
  rcases st with _ | ⟨a | a | v, r⟩ <;> first | exact qSh_bad | exact h _ _
theorem qSh_ql2 {st : List qV} {K : Int → Int → List qV → qT} (h : ∀ a b r, qSh (K a b r)) : qSh (fun α call nx jp ret bad => ql2 st bad (fun a b r => K a b r α call nx jp ret bad)) := by
  rcases st with _ | ⟨b | b | v, _ | ⟨a | a | w, r⟩⟩ <;> first | exact qSh_bad | exact h _ _ _
theorem qSh_qr1 {st : List qV} {K : Nat → List qV → qT} (h : ∀ a r, qSh (K a r)) : qSh (fun α call nx jp ret bad => qr1 st bad (fun a r => K a r α call nx jp ret bad)) := by
  rcases st with _ | ⟨a | a | a | v, r⟩ <;> first | exact qSh_bad | exact h _ _
theorem qSh_qri {st : List qV} {K : Nat → Int → List qV → qT} (h : ∀ a i r, qSh (K a i r)) : qSh (fun α call nx jp ret bad => qri st bad (fun a i r => K a i r α call nx jp ret bad)) := by
  rcases st with _ | ⟨b | v, _ | ⟨a | a | a | w, r⟩⟩ <;> first | exact qSh_bad | exact h _ _ _
theorem qSh_qrv {st : List qV} {K : Nat → Int → qV → List qV → qT} (h : ∀ a i v r, qSh (K a i v r)) : qSh (fun α call nx jp ret bad => qrv st bad (fun a i v r => K a i v r α call nx jp ret bad)) := by
  rcases st with _ | ⟨v, _ | ⟨b | w, _ | ⟨a | a | a | w, r⟩⟩⟩ <;> first | exact qSh_bad | exact h _ _ _ _
theorem qSh_qrp {st : List qV} {K : Nat → qV → List qV → qT} (h : ∀ a v r, qSh (K a v r)) : qSh (fun α call nx jp ret bad => qrp st bad (fun a v r => K a v r α call nx jp ret bad)) := by
  rcases st with _ | ⟨v, _ | ⟨a | a | a | w, r⟩⟩ <;> first | exact qSh_bad | exact h _ _ _
theorem qSh_q_1 {st : List qV} {K : qV → List qV → qT} (h : ∀ v r, qSh (K v r)) : qSh (fun α call nx jp ret bad => q_1 st bad (fun v r => K v r α call nx jp ret bad)) := by
  rcases st with _ | ⟨v, r⟩ <;> first | exact qSh_bad | exact h _ _
theorem qSh_qvi {v : qV} {K : Int → qT} (h : ∀ a, qSh (K a)) : qSh (fun α call nx jp ret bad => qvi v bad (fun a => K a α call nx jp ret bad)) := by
  rcases v with a | a | a | u <;> first | exact qSh_bad | exact h _
theorem qSh_qvl {v : qV} {K : Int → qT} (h : ∀ a, qSh (K a)) : qSh (fun α call nx jp ret bad => qvl v bad (fun a => K a α call nx jp ret bad)) := by
  rcases v with a | a | a | u <;> first | exact qSh_bad | exact h _
theorem qSh_qvr {v : qV} {K : Nat → qT} (h : ∀ a, qSh (K a)) : qSh (fun α call nx jp ret bad => qvr v bad (fun a => K a α call nx jp ret bad)) := by
  rcases v with a | a | a | u <;> first | exact qSh_bad | exact h _
theorem qSh_qhd {as : List qV} {K : Nat → qT} (h : ∀ a, qSh (K a)) : qSh (fun α call nx jp ret bad => qhd as bad (fun a => K a α call nx jp ret bad)) := by
  rcases as with _ | ⟨a | a | a | u, r⟩ <;> first | exact qSh_bad | exact h _
theorem qSh_nil {st : List qV} {F : qT} (h : qSh F) : qSh (fun α call nx jp ret bad => q_nil st bad (F α call nx jp ret bad)) := by
  rcases st with _ | ⟨v, r⟩ <;> first | exact qSh_bad | exact h
theorem qSh_m {t k : Nat} {F G : qT} (hF : qSh F) (hG : qSh G) : qSh (fun α call nx jp ret bad => q_m t k (F α call nx jp ret bad) (G α call nx jp ret bad)) := by
  cases h : Nat.beq t k
  · exact qSh_eq (fun _ _ _ _ _ _ => by unfold q_m; rw [h]) hG
  · exact qSh_eq (fun _ _ _ _ _ _ => by unfold q_m; rw [h]) hF
theorem qSh_qpop {K : List qV → List qV → qT} (h : ∀ as r, qSh (K as r)) : ∀ (n : Nat) (acc st : List qV), qSh (fun α call nx jp ret bad => qpop n acc st bad (fun as r => K as r α call nx jp ret bad))
  | 0, acc, st => h acc st
  | _ + 1, _, [] => qSh_bad
  | n + 1, acc, v :: st => qSh_qpop h n (v :: acc) st
theorem qSh_sw {a : Int} {K : Nat → qT} (h : ∀ t, qSh (K t)) (d : Nat) : ∀ (os : List Nat) (lo : Int), qSh (fun α call nx jp ret bad => q_sw a lo os (fun t => K t α call nx jp ret bad) d)
  | [], _ => h d
  | o :: os, lo => qSh_ite (c := a = lo) (F := K o) (G := fun α call nx jp ret bad => q_sw a (lo + 1) os (fun t => K t α call nx jp ret bad) d) (fun _ => h o) (fun _ => qSh_sw h d os (lo + 1))
theorem qSh_get {M : qM} {a k ty : Nat} {K : qV → qT} (h : ∀ v, qSh (K v)) : qSh (fun α call nx jp ret bad => q_get (fun v => K v α call nx jp ret bad) M a k ty) := by
  rcases ty with _ | _ | _ | ty <;> exact h _
theorem qSh_put {M : qM} {a k ty : Nat} {v : qV} {K : qM → qT} (h : ∀ M', qSh (K M')) : qSh (fun α call nx jp ret bad => q_put (fun M' => K M' α call nx jp ret bad) bad M a k ty v) := by
  rcases ty with _ | _ | _ | ty
  · exact qSh_qvi fun _ => h _
  · exact qSh_qvl fun _ => h _
  · exact qSh_qvr fun n => qSh_ite (c := n ≤ 998) (fun _ => h _) (fun _ => qSh_bad)
  · exact qSh_qvi fun z => qSh_ite (c := z = 0 ∨ z = 1) (fun _ => h _) (fun _ => qSh_bad)
theorem qSh_new {ph : Bool} {M : qM} {kind len : Nat} {K : Nat → qM → qT} (h : ∀ n M', qSh (K n M')) : qSh (fun α call nx jp ret bad => q_new ph (fun n M' => K n M' α call nx jp ret bad) bad M kind len) := by
  cases ph
  · exact qSh_bad
  · exact qSh_ite (c := q_lay (M.1 + 1) = (kind, len)) (fun _ => h _ _) (fun _ => qSh_bad)
theorem qSh_inv {ph virt : Bool} {st : List qV} {M : qM} {x : List Nat} : qSh (fun _ call _ _ _ bad => q_inv ph call bad st M x virt) := by
  cases virt
  · exact qSh_qpop (K := fun as r _ call _ _ _ bad => q_m (qcat r - 8 + ((q_args as).length - q_mxl (qx x 1))) 0 (call (qx x 1) as (qx x 3) r) bad) (fun as r => qSh_m qSh_call qSh_bad) _ _ _
  · exact qSh_qpop (K := fun as r _ call _ _ _ bad => q_m (qcat r - 8 + ((q_args as).length - q_mxl (qx x 1))) 0 (qhd as bad fun a => if q_kd ph M a = qx x 4 then call (qx x 1) as (qx x 3) r else bad) bad) (fun as r => qSh_m (qSh_qhd fun a => qSh_ite (c := q_kd ph M a = qx x 4) (fun _ => qSh_call) (fun _ => qSh_bad)) qSh_bad) _ _ _
theorem q_ex_sh (ph : Bool) (L st : List qV) (M : qM) (x : List Nat) (ins : Instr) : qSh (fun _ call nx jp ret bad => q_ex ph call nx jp ret bad L st M x ins) := by
  cases ins with
  | aload i => exact qSh_qvr fun _ => qSh_nx
  | aload_n i => exact qSh_qvr fun _ => qSh_nx
  | iload i => exact qSh_qvi fun _ => qSh_nx
  | iload_n i => exact qSh_qvi fun _ => qSh_nx
  | lload i => exact qSh_qvl fun _ => qSh_nx
  | lload_n i => exact qSh_qvl fun _ => qSh_nx
  | astore i => exact qSh_qr1 fun _ _ => qSh_nx
  | astore_n i => exact qSh_qr1 fun _ _ => qSh_nx
  | istore i => exact qSh_qi1 fun _ _ => qSh_nx
  | istore_n i => exact qSh_qi1 fun _ _ => qSh_nx
  | lstore i => exact qSh_ql1 fun _ _ => qSh_nx
  | lstore_n i => exact qSh_ql1 fun _ _ => qSh_nx
  | iconst c => exact qSh_nx
  | bipush c => exact qSh_nx
  | sipush c => exact qSh_nx
  | lconst c => exact qSh_nx
  | ldc i => exact qSh_m qSh_nx qSh_nx
  | ldc_w i => exact qSh_m qSh_nx qSh_nx
  | ldc2_w i => exact qSh_nx
  | iadd => exact qSh_qi2 fun _ _ _ => qSh_nx
  | isub => exact qSh_qi2 fun _ _ _ => qSh_nx
  | imul => exact qSh_qi2 fun _ _ _ => qSh_nx
  | idiv => exact qSh_qi2 fun _ b _ => qSh_ite (c := b = 0) (fun _ => qSh_bad) (fun _ => qSh_nx)
  | irem => exact qSh_qi2 fun _ b _ => qSh_ite (c := b = 0) (fun _ => qSh_bad) (fun _ => qSh_nx)
  | ineg => exact qSh_qi1 fun _ _ => qSh_nx
  | ishl => exact qSh_qi2 fun _ _ _ => qSh_nx
  | ishr => exact qSh_qi2 fun _ _ _ => qSh_nx
  | iand => exact qSh_qi2 fun _ _ _ => qSh_nx
  | ior => exact qSh_qi2 fun _ _ _ => qSh_nx
  | ixor => exact qSh_qi2 fun _ _ _ => qSh_nx
  | ladd => exact qSh_ql2 fun _ _ _ => qSh_nx
  | lmul => exact qSh_ql2 fun _ _ _ => qSh_nx
  | ldiv => exact qSh_ql2 fun _ b _ => qSh_ite (c := b = 0) (fun _ => qSh_bad) (fun _ => qSh_nx)
  | lrem => exact qSh_ql2 fun _ b _ => qSh_ite (c := b = 0) (fun _ => qSh_bad) (fun _ => qSh_nx)
  | i2l => exact qSh_qi1 fun _ _ => qSh_nx
  | i2b => exact qSh_qi1 fun _ _ => qSh_nx
  | lcmp => exact qSh_ql2 fun a b _ => qSh_ite (c := a < b) (fun _ => qSh_nx) (fun _ => qSh_ite (c := a = b) (fun _ => qSh_nx) (fun _ => qSh_nx))
  | iinc i c => exact qSh_qvi fun _ => qSh_nx
  | goto o => exact qSh_jp
  | ifCond c o =>
    cases c
    · exact qSh_qi1 fun a _ => qSh_ite (c := a = 0) (fun _ => qSh_jp) (fun _ => qSh_nx)
    · exact qSh_qi1 fun a _ => qSh_ite (c := a = 0) (fun _ => qSh_nx) (fun _ => qSh_jp)
    · exact qSh_qi1 fun a _ => qSh_ite (c := a < 0) (fun _ => qSh_jp) (fun _ => qSh_nx)
    · exact qSh_qi1 fun a _ => qSh_ite (c := a < 0) (fun _ => qSh_nx) (fun _ => qSh_jp)
    · exact qSh_qi1 fun a _ => qSh_ite (c := 0 < a) (fun _ => qSh_jp) (fun _ => qSh_nx)
    · exact qSh_qi1 fun a _ => qSh_ite (c := 0 < a) (fun _ => qSh_nx) (fun _ => qSh_jp)
  | if_icmp c o =>
    cases c
    · exact qSh_qi2 fun a b _ => qSh_ite (c := a = b) (fun _ => qSh_jp) (fun _ => qSh_nx)
    · exact qSh_qi2 fun a b _ => qSh_ite (c := a = b) (fun _ => qSh_nx) (fun _ => qSh_jp)
    · exact qSh_qi2 fun a b _ => qSh_ite (c := a < b) (fun _ => qSh_jp) (fun _ => qSh_nx)
    · exact qSh_qi2 fun a b _ => qSh_ite (c := a < b) (fun _ => qSh_nx) (fun _ => qSh_jp)
    · exact qSh_qi2 fun a b _ => qSh_ite (c := b < a) (fun _ => qSh_jp) (fun _ => qSh_nx)
    · exact qSh_qi2 fun a b _ => qSh_ite (c := b < a) (fun _ => qSh_nx) (fun _ => qSh_jp)
  | tableswitch d lo hi os => exact qSh_qi1 fun _ _ => qSh_sw (fun _ => qSh_jp) _ _ _
  | getfield i => exact qSh_qr1 fun a _ => qSh_ite (c := q_kd ph M a = 10 + qx x 0) (fun _ => qSh_get fun _ => qSh_nx) (fun _ => qSh_bad)
  | putfield i => exact qSh_qrp fun a _ _ => qSh_ite (c := q_kd ph M a = 10 + qx x 0) (fun _ => qSh_put fun _ => qSh_nx) (fun _ => qSh_bad)
  | iaload => exact qSh_qri fun a i _ => qSh_m (qSh_ite (c := q_kd ph M a = 1) (fun _ => qSh_ite (c := 0 ≤ i ∧ i < ln a) (fun _ => qSh_nx) (fun _ => qSh_bad)) (fun _ => qSh_bad)) (qSh_ite (c := a = 999) (fun _ => qSh_ite (c := 0 ≤ i ∧ i < mI M 998 0) (fun _ => qSh_nx) (fun _ => qSh_bad)) (fun _ => qSh_bad))
  | baload => exact qSh_qri fun a i _ => qSh_ite (c := q_kd ph M a = 2) (fun _ => qSh_ite (c := 0 ≤ i ∧ i < ln a) (fun _ => qSh_nx) (fun _ => qSh_bad)) (fun _ => qSh_bad)
  | aaload => exact qSh_qri fun a i _ => qSh_ite (c := q_kd ph M a = qx x 0) (fun _ => qSh_ite (c := 0 ≤ i ∧ i < ln a) (fun _ => qSh_nx) (fun _ => qSh_bad)) (fun _ => qSh_bad)
  | laload => exact qSh_qri fun a i _ => qSh_ite (c := q_kd ph M a = 3) (fun _ => qSh_ite (c := 0 ≤ i ∧ i < ln a) (fun _ => qSh_nx) (fun _ => qSh_bad)) (fun _ => qSh_bad)
  | iastore => exact qSh_qrv fun a i _ _ => qSh_qvi fun _ => qSh_ite (c := q_kd ph M a = 1) (fun _ => qSh_ite (c := 0 ≤ i ∧ i < ln a) (fun _ => qSh_nx) (fun _ => qSh_bad)) (fun _ => qSh_bad)
  | bastore => exact qSh_qrv fun a i _ _ => qSh_qvi fun _ => qSh_ite (c := q_kd ph M a = 2) (fun _ => qSh_ite (c := 0 ≤ i ∧ i < ln a) (fun _ => qSh_nx) (fun _ => qSh_bad)) (fun _ => qSh_bad)
  | lastore => exact qSh_qrv fun a i _ _ => qSh_qvl fun _ => qSh_ite (c := q_kd ph M a = 3) (fun _ => qSh_ite (c := 0 ≤ i ∧ i < ln a) (fun _ => qSh_nx) (fun _ => qSh_bad)) (fun _ => qSh_bad)
  | aastore => exact qSh_qrv fun a i _ _ => qSh_qvr fun n => qSh_ite (c := q_kd ph M a = qx x 0) (fun _ => qSh_ite (c := q_kd ph M n = qx x 1) (fun _ => qSh_ite (c := 0 ≤ i ∧ i < ln a) (fun _ => qSh_nx) (fun _ => qSh_bad)) (fun _ => qSh_bad)) (fun _ => qSh_bad)
  | arraylength => exact qSh_qr1 fun a _ => qSh_m (qSh_ite (c := a = 999) (fun _ => qSh_nx) (fun _ => qSh_bad)) (qSh_ite (c := q_kd ph M a = qx x 0) (fun _ => qSh_nx) (fun _ => qSh_bad))
  | new i => exact qSh_m (qSh_nil qSh_ret) (qSh_new fun _ _ => qSh_nx)
  | newarray i => exact qSh_qi1 fun a _ => qSh_ite (c := a < 0) (fun _ => qSh_bad) (fun _ => qSh_new fun _ _ => qSh_nx)
  | anewarray i => exact qSh_qi1 fun a _ => qSh_ite (c := a < 0) (fun _ => qSh_bad) (fun _ => qSh_new fun _ _ => qSh_nx)
  | dup => exact qSh_q_1 fun _ _ => qSh_m qSh_nx qSh_bad
  | dup2 => exact qSh_q_1 fun _ _ => qSh_q_1 fun _ _ => qSh_m (qSh_m qSh_nx qSh_bad) qSh_bad
  | pop => exact qSh_q_1 fun _ _ => qSh_m qSh_nx qSh_bad
  | invokevirtual i => exact qSh_m qSh_inv (qSh_m (qSh_qr1 fun s _ => qSh_m (qSh_ite (c := kd s = 7) (fun _ => qSh_nx) (fun _ => qSh_bad)) qSh_bad) (qSh_qri fun s i _ => qSh_m (qSh_ite (c := kd s = 7) (fun _ => qSh_ite (c := 0 ≤ i ∧ i < q_slen s) (fun _ => qSh_nx) (fun _ => qSh_bad)) (fun _ => qSh_bad)) qSh_bad))
  | invokespecial i => exact qSh_m qSh_inv (qSh_qr1 fun a _ => qSh_nil (qSh_ite (c := 1 ≤ a) (fun _ => qSh_nx) (fun _ => qSh_bad)))
  | invokestatic i => exact qSh_m qSh_inv (qSh_m (qSh_qi2 fun a b _ => qSh_m (qSh_ite (c := a < b) (fun _ => qSh_nx) (fun _ => qSh_nx)) qSh_bad) (qSh_m (qSh_qi2 fun a b _ => qSh_m (qSh_ite (c := a < b) (fun _ => qSh_nx) (fun _ => qSh_nx)) qSh_bad) (qSh_qi2 fun dp n _ => qSh_qr1 fun b _ => qSh_qi1 fun sp _ => qSh_qr1 fun a _ => qSh_nil (qSh_ite (c := q_kd ph M a = 1) (fun _ => qSh_ite (c := q_kd ph M b = 1) (fun _ => qSh_ite (c := 0 ≤ sp ∧ 0 ≤ dp ∧ 0 ≤ n ∧ sp + n ≤ ln a ∧ dp + n ≤ ln b) (fun _ => qSh_nx) (fun _ => qSh_bad)) (fun _ => qSh_bad)) (fun _ => qSh_bad)))))
  | ireturn => exact qSh_qi1 fun a _ => qSh_nil (qSh_m qSh_ret (qSh_ite (c := a = 0 ∨ a = 1) (fun _ => qSh_ret) (fun _ => qSh_bad)))
  | lreturn => exact qSh_ql1 fun _ _ => qSh_nil qSh_ret
  | areturn => exact qSh_qr1 fun _ _ => qSh_nil qSh_ret
  | return_ => exact qSh_nil qSh_ret
  | _ => exact qSh_bad
abbrev qU : Type 1 := ∀ α : Type, (Nat → List qV → Nat → qF → α) → (qF → qM → α) → (qV → qM → α) → α → α
def qSs (F : qU) : Prop :=
  (∃ f M, ∀ α call go ret bad, F α call go ret bad = go f M) ∨ (∃ v M, ∀ α call go ret bad, F α call go ret bad = ret v M) ∨ (∀ α call go ret bad, F α call go ret bad = bad) ∨ (∃ y as rt f, ∀ α call go ret bad, F α call go ret bad = call y as rt f)
theorem q_stp_sh (ph : Bool) (f : qF) (M : qM) : qSs (fun _ call go ret bad => q_stp ph call go ret bad f M) := by
  cases hc : q_code f.1 f.2.1 with
  | none => exact Or.inr (Or.inr (Or.inl fun α call go ret bad => by unfold q_stp; rw [hc]))
  | some t =>
    obtain ⟨ins, len, kf, kj, x⟩ := t
    have e : ∀ (α : Type) (call : Nat → List qV → Nat → qF → α) (go : qF → qM → α) (ret : qV → qM → α) (bad : α), q_stp ph call go ret bad f M = q_ex ph (fun y as rt r => call y as rt (f.1, f.2.1 + len, q_kl kf f.2.2.1, r)) (fun L st M' => go (f.1, f.2.1 + len, q_kl kf L, st) M') (fun t st => go (f.1, t, q_kl kj f.2.2.1, st) M) ret bad f.2.2.1 f.2.2.2 M x ins := by
      intro α call go ret bad
      unfold q_stp
      rw [hc]
    rcases q_ex_sh ph f.2.2.1 f.2.2.2 M x ins with ⟨L, st, M', h⟩ | ⟨t, st, h⟩ | ⟨v, M', h⟩ | h | ⟨y, as, rt, r, h⟩
    · exact Or.inl ⟨_, _, fun α call go ret bad => (e α call go ret bad).trans (h _ _ _ _ _ _)⟩
    · exact Or.inl ⟨_, _, fun α call go ret bad => (e α call go ret bad).trans (h _ _ _ _ _ _)⟩
    · exact Or.inr (Or.inl ⟨_, _, fun α call go ret bad => (e α call go ret bad).trans (h _ _ _ _ _ _)⟩)
    · exact Or.inr (Or.inr (Or.inl fun α call go ret bad => (e α call go ret bad).trans (h _ _ _ _ _ _)))
    · exact Or.inr (Or.inr (Or.inr ⟨_, _, _, _, fun α call go ret bad => (e α call go ret bad).trans (h _ _ _ _ _ _)⟩))
/-! what runs answer once, they answer with more steps; q_E -/
theorem q_bnd_mono {o o' : Option (qV × qM)} {k k' : qF → qM → Option (qV × qM)} (ho : ∀ v, o = some v → o' = some v) (hk : ∀ f M r, k f M = some r → k' f M = some r) {rt : Nat} {f : qF} {r : qV × qM} (h : q_bnd rt o k f = some r) : q_bnd rt o' k' f = some r := by
  cases o with
  | none => rcases rt with _ | _ | _ | rt <;> cases h
  | some v =>
    rw [ho v rfl]
    obtain ⟨v, M⟩ := v
    rcases rt with _ | _ | _ | rt
    · exact hk _ _ _ h
    · rcases v with a | a | a | u
      · exact hk _ _ _ h
      all_goals cases h
    · rcases v with a | a | a | u
      · cases h
      · exact hk _ _ _ h
      all_goals cases h
    · rcases v with a | a | a | u
      · cases h
      · cases h
      · exact hk _ _ _ h
      · cases h
theorem q_ledr_mono {o o' : Option (qV × qM)} (ho : ∀ v, o = some v → o' = some v) {as : List qV} {r : qV × qM} (h : q_ledr o as = some r) : q_ledr o' as = some r := by
  cases o with
  | none =>
    exfalso
    unfold q_ledr at h
    split at h
    · cases h
    · cases h
  | some v => rw [ho v rfl]; exact h
theorem q_cal_mono {rn rn' : qF → qM → Option (qV × qM)} (hr : ∀ f M r, rn f M = some r → rn' f M = some r) {y : Nat} {as : List qV} {M : qM} {r : qV × qM} (h : q_cal rn y as M = some r) : q_cal rn' y as M = some r := by
  unfold q_cal at h ⊢
  cases hb : Nat.beq y q_LED with
  | true => rw [hb] at h; exact q_ledr_mono (fun v hv => hr _ _ _ hv) h
  | false => rw [hb] at h; exact hr _ _ _ h
theorem q_stp_mono {ph : Bool} {c1 c2 : Nat → List qV → Nat → qF → Option (qV × qM)} {g1 g2 : qF → qM → Option (qV × qM)} (hc : ∀ y as rt f r, c1 y as rt f = some r → c2 y as rt f = some r) (hg : ∀ f M r, g1 f M = some r → g2 f M = some r) {f : qF} {M : qM} {r : qV × qM} (h : q_stp ph c1 g1 (fun v M => some (v, M)) none f M = some r) : q_stp ph c2 g2 (fun v M => some (v, M)) none f M = some r := by
  rcases q_stp_sh ph f M with ⟨f', M', e⟩ | ⟨v, M', e⟩ | e | ⟨y, as, rt, f', e⟩
  all_goals (have e1 := e _ c1 g1 (fun v M => some (v, M)) none; have e2 := e _ c2 g2 (fun v M => some (v, M)) none; simp only at e1 e2; rw [e1] at h; rw [e2])
  · exact hg _ _ _ h
  · exact h
  · exact h
  · exact hc _ _ _ _ _ h
theorem q_run_succ {ph : Bool} : ∀ (n : Nat) (f : qF) (M : qM) (r : qV × qM), q_run ph n f M = some r → q_run ph (n + 1) f M = some r
  | 0, _, _, _, h => by cases h
  | n + 1, _, _, _, h => q_stp_mono (fun _ _ _ _ _ h => q_bnd_mono (fun _ h => q_cal_mono (q_run_succ n) h) (q_run_succ n) h) (q_run_succ n) h
theorem q_run_le {ph : Bool} {n k : Nat} (hk : n ≤ k) {f : qF} {M : qM} {r : qV × qM} (h : q_run ph n f M = some r) : q_run ph k f M = some r := by
  induction hk with
  | refl => exact h
  | step _ ih => exact q_run_succ _ _ _ _ ih
noncomputable def q_E (f : qF) (M : qM) : Option (qV × qM) := @dite _ (∃ r, ∃ n, q_run false n f M = some r) (Classical.propDecidable _) (fun h => some (Classical.choose h)) (fun _ => none)
theorem q_E_iff {f : qF} {M : qM} {r : qV × qM} : q_E f M = some r ↔ ∃ n, q_run false n f M = some r := by
  unfold q_E
  by_cases h : ∃ r, ∃ n, q_run false n f M = some r
  · rw [dif_pos h]
    obtain ⟨k, hk⟩ := Classical.choose_spec h
    constructor
    · intro e
      rw [← Option.some.inj e]
      exact ⟨k, hk⟩
    · rintro ⟨n, hn⟩
      have h1 := q_run_le (Nat.le_max_left n k) hn
      have h2 := q_run_le (Nat.le_max_right n k) hk
      rw [← h2, h1]
  · rw [dif_neg h]
    exact ⟨fun e => (by cases e), fun ⟨n, hn⟩ => absurd ⟨r, n, hn⟩ h⟩
theorem q_E_run {f : qF} {M : qM} {r : qV × qM} {n : Nat} (h : q_run false n f M = some r) : q_E f M = some r := q_E_iff.mpr ⟨n, h⟩
theorem q_cal_of {y : Nat} {as : List qV} {M : qM} {r : qV × qM} (h : q_cal q_E y as M = some r) : ∃ n, q_cal (q_run false n) y as M = some r := by
  unfold q_cal at h ⊢
  cases hb : Nat.beq y q_LED with
  | true =>
    rw [hb] at h
    simp only at h ⊢
    cases he : q_E (q_ent q_XLED (as.take 2)) M with
    | none =>
      rw [he] at h
      exfalso
      unfold q_ledr at h
      split at h <;> cases h
    | some v =>
      obtain ⟨n, hn⟩ := q_E_iff.mp he
      exact ⟨n, by rw [hn, ← he]; exact h⟩
  | false =>
    rw [hb] at h
    exact q_E_iff.mp h
theorem q_bnd_of {rt : Nat} {y : Nat} {as : List qV} {M : qM} {f : qF} {r : qV × qM} (h : q_bnd rt (q_cal q_E y as M) q_E f = some r) : ∃ n, q_bnd rt (q_cal (q_run false n) y as M) (q_run false n) f = some r := by
  cases ho : q_cal q_E y as M with
  | none => rw [ho] at h; rcases rt with _ | _ | _ | rt <;> cases h
  | some v =>
    rw [ho] at h
    obtain ⟨n, hn⟩ := q_cal_of ho
    have key : ∀ (g : qF) (M' : qM), q_E g M' = some r → ∃ k, n ≤ k ∧ q_run false k g M' = some r := fun g M' hg => by
      obtain ⟨k, hk⟩ := q_E_iff.mp hg
      exact ⟨max n k, Nat.le_max_left _ _, q_run_le (Nat.le_max_right _ _) hk⟩
    have up : ∀ k, n ≤ k → q_cal (q_run false k) y as M = some v := fun k hk => q_cal_mono (fun _ _ _ h => q_run_le hk h) hn
    obtain ⟨v, M'⟩ := v
    rcases rt with _ | _ | _ | rt
    · obtain ⟨k, h1, h2⟩ := key _ _ h
      exact ⟨k, by rw [up k h1]; exact h2⟩
    · rcases v with a | a | a | u
      · obtain ⟨k, h1, h2⟩ := key _ _ h
        exact ⟨k, by rw [up k h1]; exact h2⟩
      all_goals cases h
    · rcases v with a | a | a | u
      · cases h
      · obtain ⟨k, h1, h2⟩ := key _ _ h
        exact ⟨k, by rw [up k h1]; exact h2⟩
      all_goals cases h
    · rcases v with a | a | a | u
      · cases h
      · cases h
      · obtain ⟨k, h1, h2⟩ := key _ _ h
        exact ⟨k, by rw [up k h1]; exact h2⟩
      · cases h
/-- q_E goes step by step -/
theorem q_E_eq (f : qF) (M : qM) : q_E f M = q_stp false (fun y as rt fr => q_bnd rt (q_cal q_E y as M) q_E fr) q_E (fun v M => some (v, M)) none f M := by
  have key : ∀ r, q_E f M = some r ↔ q_stp false (fun y as rt fr => q_bnd rt (q_cal q_E y as M) q_E fr) q_E (fun v M => some (v, M)) none f M = some r := by
    intro r
    constructor
    · intro h
      obtain ⟨n, hn⟩ := q_E_iff.mp h
      cases n with
      | zero => cases hn
      | succ n => exact q_stp_mono (fun _ _ _ _ _ h => q_bnd_mono (fun _ h => q_cal_mono (fun _ _ _ h => q_E_run h) h) (fun _ _ _ h => q_E_run h) h) (fun _ _ _ h => q_E_run h) hn
    · intro h
      have fin : ∀ n, q_stp false (fun y as rt fr => q_bnd rt (q_cal (q_run false n) y as M) (q_run false n) fr) (q_run false n) (fun v M => some (v, M)) none f M = some r → q_E f M = some r := fun n hn => q_E_run (n := n + 1) hn
      rcases q_stp_sh false f M with ⟨f', M', e⟩ | ⟨v, M', e⟩ | e | ⟨y, as, rt, f', e⟩
      all_goals (simp only at e; rw [e] at h)
      · obtain ⟨n, hn⟩ := q_E_iff.mp h
        exact fin n (by rw [e]; exact hn)
      · exact fin 0 (by rw [e]; exact h)
      · cases h
      · obtain ⟨n, hn⟩ := q_bnd_of h
        exact fin n (by rw [e]; exact hn)
  cases h : q_E f M with
  | none =>
    cases h2 : q_stp false (fun y as rt fr => q_bnd rt (q_cal q_E y as M) q_E fr) q_E (fun v M => some (v, M)) none f M with
    | none => rfl
    | some r => rw [(key r).mpr h2] at h; cases h
  | some r => rw [(key r).mp h]
def qmem : Nat → List Nat → Bool
  | _, [] => false
  | n, m :: l => match Nat.beq n m with
    | true => true
    | false => qmem n l
noncomputable def q_st (C : List Nat) (k : qF → qM → Option (qV × qM)) (f : qF) (M : qM) : Option (qV × qM) := match qmem f.2.1 C with
  | true => q_E f M
  | false => k f M
noncomputable def q_it : Nat → List Nat → qF → qM → Option (qV × qM)
  | 0, _, f, M => q_E f M
  | n + 1, C, f, M => q_stp false (fun y as rt fr => q_bnd rt (q_cal q_E y as M) (q_st C (q_it n C)) fr) (q_st C (q_it n C)) (fun v M => some (v, M)) none f M
theorem q_it_eq : ∀ (n : Nat) (C : List Nat) (f : qF) (M : qM), q_E f M = q_it n C f M
  | 0, _, _, _ => rfl
  | n + 1, C, f, M => by
    have e : q_st C (q_it n C) = q_E := by
      funext g M'
      unfold q_st
      rw [← q_it_eq n C g M']
      split <;> rfl
    unfold q_it
    rw [e]
    exact q_E_eq f M

/-! ===== the abstract machine: memory over abstract locations, one method's frame, calls by a relation ===== -/
/-- ((locations, cells made, slots made, frozen), shapes (kind, length), ints, longs, references) -/
abbrev sa_Mem : Type := (Nat × Nat × Nat × Bool) × (Nat → Nat × Nat) × (Nat → Nat → Int32) × (Nat → Nat → Int64) × (Nat → Nat → Option Nat)
abbrev sa_Out : Type := (Option Value ⊕ Nat) × sa_Mem
abbrev sa_mN (m : sa_Mem) : Nat := m.1.1
abbrev sa_mC (m : sa_Mem) : Nat := m.1.2.1
abbrev sa_mS (m : sa_Mem) : Nat := m.1.2.2.1
abbrev sa_mF (m : sa_Mem) : Bool := m.1.2.2.2
abbrev sa_sh (m : sa_Mem) : Nat → Nat × Nat := m.2.1
abbrev sa_mI (m : sa_Mem) : Nat → Nat → Int32 := m.2.2.1
abbrev sa_mJ (m : sa_Mem) : Nat → Nat → Int64 := m.2.2.2.1
abbrev sa_mR (m : sa_Mem) : Nat → Nat → Option Nat := m.2.2.2.2
def sa_setI (m : sa_Mem) (k : Nat) (f : Nat → Int32) : sa_Mem := (m.1, m.2.1, va_up m.2.2.1 k f, m.2.2.2.1, m.2.2.2.2)
def sa_setJ (m : sa_Mem) (k : Nat) (f : Nat → Int64) : sa_Mem := (m.1, m.2.1, m.2.2.1, va_up m.2.2.2.1 k f, m.2.2.2.2)
def sa_setR (m : sa_Mem) (k : Nat) (f : Nat → Option Nat) : sa_Mem := (m.1, m.2.1, m.2.2.1, m.2.2.2.1, va_up m.2.2.2.2 k f)
/-- a new cell of a kind (below 100: an object of that class; 100 byte, 101 int, 102 long, 103 boolean arrays) -/
def sa_alloc (m : sa_Mem) (kind len slots : Nat) : sa_Mem := ((sa_mN m + 1, sa_mC m + 1, sa_mS m + slots, sa_mF m), va_up m.2.1 (sa_mN m) (kind, len), va_up m.2.2.1 (sa_mN m) (fun _ => 0), va_up m.2.2.2.1 (sa_mN m) (fun _ => 0), va_up m.2.2.2.2 (sa_mN m) (fun _ => none))
/-- an exception has been made: no abstract location, nothing else is made behind it -/
def sa_thrown (m : sa_Mem) : sa_Mem := ((sa_mN m, sa_mC m + 1, sa_mS m + 6, true), m.2)
def sa_ty (ci j : Nat) : FieldType := (sa_tys.getD ci (fun _ => .int)) j
def sa_so (t : FieldType) : Nat := match t with
  | .long => 1
  | .object _ => 2
  | .array _ => 2
  | .float => 3
  | .double => 3
  | _ => 0
def sa_gf (m : sa_Mem) (k ci j : Nat) : Value := match sa_so (sa_ty ci j) with
  | 0 => .int (sa_mI m k j)
  | 1 => .long (sa_mJ m k j)
  | _ => va_rf (sa_mR m k j)
def sa_pf (m : sa_Mem) (k ci j : Nat) (v : Value) (m' : sa_Mem) : Prop := match v with
  | .int x => sa_so (sa_ty ci j) = 0 ∧ (narrow (sa_ty ci j) (.int x) = .int x ∧ fits (sa_ty ci j) (.int x) = true) ∧ m' = sa_setI m k (upd (sa_mI m k) j x)
  | .long x => sa_ty ci j = .long ∧ m' = sa_setJ m k (vp_updL (sa_mJ m k) j x)
  | .ref a => sa_so (sa_ty ci j) = 2 ∧ a ≠ 100005 ∧ m' = sa_setR m k (va_up (sa_mR m k) j (some a))
  | _ => False
/-- locals: a value a place; .retAddr 0 where nothing is known -/
abbrev sa_no : Value := .retAddr 0
def sa_kill (lo : List Value) (i : Nat) : List Value := match i with
  | 0 => lo
  | j + 1 => match lo[j]? with
    | some v => if v.category = 2 then lo.set j sa_no else lo
    | none => lo
def sa_st1 (lo : List Value) (i : Nat) (v : Value) : List Value := (sa_kill lo i).set i v
def sa_st2 (lo : List Value) (i : Nat) (v : Value) : List Value := ((sa_kill lo i).set i v).set (i + 1) sa_no
def sa_ldI (lo st : List Value) (k : Nat) : Option (List Value × List Value) := match lo[k]? with
  | some (.int x) => some (lo, .int x :: st)
  | _ => none
def sa_ldL (lo st : List Value) (k : Nat) : Option (List Value × List Value) := match lo[k]? with
  | some (.long x) => some (lo, .long x :: st)
  | _ => none
def sa_ldA (lo st : List Value) (k : Nat) : Option (List Value × List Value) := match lo[k]? with
  | some (.ref x) => if x = 100005 then none else some (lo, .ref x :: st)
  | _ => none
def sa_stI (lo st : List Value) (k : Nat) : Option (List Value × List Value) := match st with
  | .int x :: r => if k < lo.length then some (sa_st1 lo k (.int x), r) else none
  | _ => none
def sa_stL (lo st : List Value) (k : Nat) : Option (List Value × List Value) := match st with
  | .long x :: r => if k + 1 < lo.length then some (sa_st2 lo k (.long x), r) else none
  | _ => none
def sa_stA (lo st : List Value) (k : Nat) : Option (List Value × List Value) := match st with
  | .ref x :: r => if x = 100005 then none else if k < lo.length then some (sa_st1 lo k (.ref x), r) else none
  | _ => none
def sa_bi (lo st : List Value) (g : Int32 → Int32 → Int32) : Option (List Value × List Value) := match st with
  | .int y :: .int x :: r => some (lo, .int (g x y) :: r)
  | _ => none
def sa_bl (lo st : List Value) (g : Int64 → Int64 → Int64) : Option (List Value × List Value) := match st with
  | .long y :: .long x :: r => some (lo, .long (g x y) :: r)
  | _ => none
def sa_isn (v : Value) : Bool := match v with
  | .retAddr _ => true
  | _ => false
/-- instructions that touch locals and stack alone -/
def sa_pu (i : Instr) (lo st : List Value) : Option (List Value × List Value) := match i with
  | .iconst n => some (lo, .int (Int32.ofInt n) :: st)
  | .bipush n => some (lo, .int (Int8.ofInt n).toInt32 :: st)
  | .sipush n => some (lo, .int (Int16.ofInt n).toInt32 :: st)
  | .lconst n => some (lo, .long (Int64.ofNat (n : Nat)) :: st)
  | .iload_n k => sa_ldI lo st k
  | .iload k => sa_ldI lo st k
  | .lload_n k => sa_ldL lo st k
  | .lload k => sa_ldL lo st k
  | .aload_n k => sa_ldA lo st k
  | .aload k => sa_ldA lo st k
  | .istore_n k => sa_stI lo st k
  | .istore k => sa_stI lo st k
  | .lstore_n k => sa_stL lo st k
  | .lstore k => sa_stL lo st k
  | .astore_n k => sa_stA lo st k
  | .astore k => sa_stA lo st k
  | .iinc k n => match lo[k]? with
    | some (.int x) => some (sa_st1 lo k (.int (x + Int32.ofInt n)), st)
    | _ => none
  | .iadd => sa_bi lo st (fun x y => x + y)
  | .isub => sa_bi lo st (fun x y => x - y)
  | .imul => sa_bi lo st (fun x y => x * y)
  | .iand => sa_bi lo st (fun x y => x &&& y)
  | .ior => sa_bi lo st (fun x y => x ||| y)
  | .ixor => sa_bi lo st (fun x y => x ^^^ y)
  | .ishl => sa_bi lo st (fun x y => x <<< (y &&& 31))
  | .ishr => sa_bi lo st (fun x y => x >>> (y &&& 31))
  | .iushr => sa_bi lo st (fun x y => (x.toUInt32 >>> (y.toUInt32 &&& Int32.toUInt32 31)).toInt32)
  | .ladd => sa_bl lo st (fun x y => x + y)
  | .lsub => sa_bl lo st (fun x y => x - y)
  | .land => sa_bl lo st (fun x y => x &&& y)
  | .lor => sa_bl lo st (fun x y => x ||| y)
  | .lxor => sa_bl lo st (fun x y => x ^^^ y)
  | .lshl => match st with
    | .int y :: .long x :: r => some (lo, .long (x <<< (y.toInt64 &&& 63)) :: r)
    | _ => none
  | .lshr => match st with
    | .int y :: .long x :: r => some (lo, .long (x >>> (y.toInt64 &&& 63)) :: r)
    | _ => none
  | .lcmp => match st with
    | .long y :: .long x :: r => some (lo, .int (lg_cmp x y) :: r)
    | _ => none
  | .i2l => match st with
    | .int x :: r => some (lo, .long x.toInt64 :: r)
    | _ => none
  | .l2i => match st with
    | .long x :: r => some (lo, .int x.toInt32 :: r)
    | _ => none
  | .i2b => match st with
    | .int x :: r => some (lo, .int x.toInt8.toInt32 :: r)
    | _ => none
  | .i2c => match st with
    | .int x :: r => some (lo, .int (x.toUInt32 % 65536).toInt32 :: r)
    | _ => none
  | .dup => match st with
    | v :: r => if v.category = 1 then some (lo, v :: v :: r) else none
    | _ => none
  | .pop => match st with
    | v :: r => if v.category = 1 then some (lo, r) else none
    | _ => none
  | .dup_x1 => match st with
    | v :: w :: r => if v.category = 1 ∧ w.category = 1 then some (lo, v :: w :: v :: r) else none
    | _ => none
  | .dup2 => match st with
    | v :: w :: r => if v.category = 1 ∧ w.category = 1 then some (lo, v :: w :: v :: w :: r) else none
    | _ => none
  | _ => none
/-- the constants' texts -/
def sa_txt : List (List Int32) := sa_pStr.map (fun q => q.2.2.toList.map (fun c => Int32.ofNat c.toNat))
def sa_lim : List (List Int32) := [[60, 63, 9, 99, 9], [63, 63, 63, 63, 20, 20], [60, 999], [1023]]
/-- an array outside: the script (its length, its ints), the limits, the texts' bytes -/
def sa_xa (X : Nat × (Nat → Int32)) (k : Nat) : Option (Nat × Nat × (Nat → Int32)) :=
  if k = 100000 then some (101, X.1, X.2)
  else if 100001 ≤ k ∧ k < 100005 then some (101, (sa_lim.getD (k - 100001) []).length, fun j => (sa_lim.getD (k - 100001) []).getD j 0)
  else if 100200 ≤ k ∧ k < 100200 + sa_txt.length then some (100, (sa_txt.getD (k - 100200) []).length, fun j => (sa_txt.getD (k - 100200) []).getD j 0)
  else none
def sa_arr (X : Nat × (Nat → Int32)) (m : sa_Mem) (k : Nat) : Option (Nat × Nat × (Nat → Int32)) :=
  if k < sa_mN m then (if 100 ≤ (sa_sh m k).1 then some ((sa_sh m k).1, (sa_sh m k).2, sa_mI m k) else none) else sa_xa X k
def sa_at (k : Nat) (ty : ArrayType) : Option Nat := match ty with
  | .byte => some 100
  | .int => some 101
  | .long => some 102
  | .boolean => some 103
  | _ => none
def sa_nF (ci : Nat) : Nat := ((vwCl[ci]?).map (fun q => q.2.2)).getD 0
def sa_fin (ci j : Nat) : Bool := ((vwCl[ci]?).map (fun q => (q.2.1 j).2.2.2)).getD true
/-- instructions that touch the memory -/
def sa_he (X : Nat × (Nat → Int32)) (own : Nat) (ini : Prop) (i : Instr) (st : List Value) (m : sa_Mem) (K : List Value → sa_Mem → Prop) : Prop := match i with
  | .getfield idx => ∃ (k : Nat) (r : List Value), st = .ref k :: r ∧ ((∃ ci j b, sa_pF.lookup (own, idx) = some (ci, j, b) ∧ k < sa_mN m ∧ (sa_sh m k).1 = ci ∧ K (sa_gf m k ci j :: r) m) ∨
      (∃ t, sa_pX.lookup (own, idx) = some t ∧ 100100 ≤ k ∧ k < 100100 + sa_txt.length ∧ K ((if t = 0 then .ref (k + 100) else .int 0) :: r) m))
  | .putfield idx => ∃ (v : Value) (k : Nat) (r : List Value) (ci j : Nat) (m' : sa_Mem), st = v :: .ref k :: r ∧ sa_pF.lookup (own, idx) = some (ci, j, false) ∧ k < sa_mN m ∧ (sa_sh m k).1 = ci ∧ (sa_fin ci j = true → ini ∧ ci = own) ∧ sa_pf m k ci j v m' ∧ K r m'
  | .iaload => ∃ (i : Int32) (k : Nat) (r : List Value) (n : Nat) (f : Nat → Int32), st = .int i :: .ref k :: r ∧ sa_arr X m k = some (101, n, f) ∧ vp_in i n ∧ K (.int (f i.toNatClampNeg) :: r) m
  | .baload => ∃ (i : Int32) (k : Nat) (r : List Value) (n : Nat) (f : Nat → Int32), st = .int i :: .ref k :: r ∧ (sa_arr X m k = some (100, n, f) ∨ (k < sa_mN m ∧ sa_arr X m k = some (103, n, f))) ∧ vp_in i n ∧ K (.int (f i.toNatClampNeg) :: r) m
  | .laload => ∃ (i : Int32) (k : Nat) (r : List Value), st = .int i :: .ref k :: r ∧ k < sa_mN m ∧ (sa_sh m k).1 = 102 ∧ vp_in i (sa_sh m k).2 ∧ K (.long (sa_mJ m k i.toNatClampNeg) :: r) m
  | .iastore => ∃ (x i : Int32) (k : Nat) (r : List Value), st = .int x :: .int i :: .ref k :: r ∧ k < sa_mN m ∧ (sa_sh m k).1 = 101 ∧ vp_in i (sa_sh m k).2 ∧ K r (sa_setI m k (upd (sa_mI m k) i.toNatClampNeg x))
  | .bastore => ∃ (x i : Int32) (k : Nat) (r : List Value), st = .int x :: .int i :: .ref k :: r ∧ k < sa_mN m ∧ vp_in i (sa_sh m k).2 ∧ (((sa_sh m k).1 = 100 ∧ K r (sa_setI m k (upd (sa_mI m k) i.toNatClampNeg (vp_nar .byte x)))) ∨ ((sa_sh m k).1 = 103 ∧ K r (sa_setI m k (upd (sa_mI m k) i.toNatClampNeg (vp_nar .boolean x)))))
  | .lastore => ∃ (x : Int64) (i : Int32) (k : Nat) (r : List Value), st = .long x :: .int i :: .ref k :: r ∧ k < sa_mN m ∧ (sa_sh m k).1 = 102 ∧ vp_in i (sa_sh m k).2 ∧ K r (sa_setJ m k (vp_updL (sa_mJ m k) i.toNatClampNeg x))
  | .arraylength => ∃ (k : Nat) (r : List Value) (q n : Nat) (f : Nat → Int32), st = .ref k :: r ∧ sa_arr X m k = some (q, n, f) ∧ q < 104 ∧ K (.int (Int32.ofNat n) :: r) m
  | .new idx => ∃ ci, sa_pN.lookup (own, idx) = some ci ∧ sa_mF m = false ∧ sa_mN m < 100000 ∧ K (.ref (sa_mN m) :: st) (sa_alloc m ci 0 (sa_nF ci))
  | .newarray ty => ∃ n r q, st = .int n :: r ∧ sa_at 0 ty = some q ∧ ¬ n < 0 ∧ n.toNatClampNeg ≤ 65536 ∧ sa_mF m = false ∧ sa_mN m < 100000 ∧ K (.ref (sa_mN m) :: r) (sa_alloc m q n.toNatClampNeg n.toNatClampNeg)
  | .getstatic idx => ∃ v, sa_pS.lookup (own, idx) = some v ∧ K (v :: st) m
  | .ldc idx => (∃ v, sa_pK.lookup (own, idx) = some v ∧ K (.int v :: st) m) ∨ (∃ t tx, sa_pStr.lookup (own, idx) = some (t, tx) ∧ K (.ref (100100 + t) :: st) m)
  | .ldc_w idx => ∃ v, sa_pK.lookup (own, idx) = some v ∧ K (.int v :: st) m
  | .ldc2_w idx => ∃ v, sa_pKL.lookup (own, idx) = some v ∧ K (.long v :: st) m
  | .idiv => ∃ x y r, st = .int y :: .int x :: r ∧ ¬ y = 0 ∧ K (.int (x / y) :: r) m
  | .irem => ∃ x y r, st = .int y :: .int x :: r ∧ ¬ y = 0 ∧ K (.int (x - x / y * y) :: r) m
  | _ => False
def sa_cmp (c : ClassFile.Cond) (x y : Int32) : Prop := match c with
  | .eq => x = y
  | .ne => ¬ x = y
  | .lt => x < y
  | .ge => y ≤ x
  | .gt => y < x
  | .le => x ≤ y
/-- jumps -/
def sa_ct (i : Instr) (pc : Nat) (st : List Value) (K : Nat → List Value → Prop) : Prop := match i with
  | .goto off => ∃ t : Nat, (pc : Int) + off = (t : Int) ∧ K t st
  | .ifCond c off => ∃ (x : Int32) (r : List Value) (t : Nat), st = .int x :: r ∧ (pc : Int) + off = (t : Int) ∧ (sa_cmp c x 0 → K t r) ∧ (¬ sa_cmp c x 0 → K (pc + 3) r)
  | .if_icmp c off => ∃ (x y : Int32) (r : List Value) (t : Nat), st = .int y :: .int x :: r ∧ (pc : Int) + off = (t : Int) ∧ (sa_cmp c x y → K t r) ∧ (¬ sa_cmp c x y → K (pc + 3) r)
  | .tableswitch d lo hi offs => ∃ (x : Int32) (r : List Value), st = .int x :: r ∧ ((x.toInt < lo ∨ hi < x.toInt) → ∃ t : Nat, (pc : Int) + d = (t : Int) ∧ K t r) ∧ (¬ x.toInt < lo → ¬ hi < x.toInt → ∃ (off : Int) (t : Nat), offs[(x.toInt - lo).toNat]? = some off ∧ (pc : Int) + off = (t : Int) ∧ K t r)
  | _ => False
/-- ends -/
def sa_rt (e : sa_Me) (i : Instr) (st : List Value) (m : sa_Mem) (o : sa_Out) : Prop := match i with
  | .ireturn => ∃ v ty, st = [.int v] ∧ e.2.2.2.2.1 = some ty ∧ sa_so ty = 0 ∧ narrow ty (.int v) = .int v ∧ o = (.inl (some (.int v)), m)
  | .lreturn => ∃ v, st = [.long v] ∧ e.2.2.2.2.1 = some .long ∧ o = (.inl (some (.long v)), m)
  | .return_ => st = [] ∧ e.2.2.2.2.1 = none ∧ o = (.inl none, m)
  | _ => False
def sa_lk (e : sa_Me) (pc : Nat) : Option (Instr × Nat) := e.2.2.2.2.2.2.lookup pc
/-- 'throw new E()' -/
def sa_th (e : sa_Me) (pc : Nat) (i : Instr) (st : List Value) (m : sa_Mem) (o : sa_Out) : Prop := match i with
  | .new idx => ∃ q ic, st = [] ∧ sa_pE.lookup (e.1, idx) = some (q, ic) ∧ ic ≠ 0 ∧ e.2.2.2.2.2.1 = none ∧ sa_lk e (pc + 3) = some (.dup, 1) ∧ sa_lk e (pc + 4) = some (.invokespecial ic, 3) ∧ sa_lk e (pc + 7) = some (.athrow, 1) ∧ o = (.inr q, sa_thrown m)
  | _ => False
/-- the handler of exception q at pc: the row's place -/
def sa_hd (own pc q : Nat) : List (Nat × Nat × Nat × Nat) → Option Nat
  | [] => none
  | h :: r => if h.1 ≤ pc ∧ pc < h.2.1 ∧ (sa_pE.lookup (own, h.2.2.2)).map (fun z => z.1) = some q then some h.2.2.1 else sa_hd own pc q r
/-- behind a call -/
def sa_af (e : sa_Me) (pc : Nat) (lo r : List Value) (o' : sa_Out) (o : sa_Out) (K : Nat → List Value → List Value → sa_Mem → Prop) : Prop := match o'.1 with
  | .inl (some v) => K (pc + 3) lo (v :: r) o'.2
  | .inl none => K (pc + 3) lo r o'.2
  | .inr q => match e.2.2.2.2.2.1 with
    | none => o = (.inr q, o'.2)
    | some hh => ∃ hp k len, sa_hd e.1 pc q hh = some hp ∧ k < lo.length ∧ (∀ x ∈ lo, x.category = 1) ∧ (sa_lk e hp = some (.astore k, len) ∧ len = 2 ∨ (∃ j : Fin 4, (j : Nat) = k ∧ sa_lk e hp = some (.astore_n j, len) ∧ len = 1)) ∧ K (hp + len) (lo.set k sa_no) [] o'.2
/-- calls -/
def sa_iv (C : Nat → List Value → sa_Mem → sa_Out → Prop) (e : sa_Me) (pc : Nat) (i : Instr) (lo st : List Value) (m : sa_Mem) (o : sa_Out) (K : Nat → List Value → List Value → sa_Mem → Prop) : Prop := match i with
  | .invokevirtual idx => ∃ (mi n : Nat) (As : List Value) (b : Nat) (r : List Value) (o' : sa_Out), sa_pI.lookup (e.1, idx) = some (0, mi, n) ∧ st = As.reverse ++ .ref b :: r ∧ As.length = n ∧ (r.map (fun v => v.category)).sum ≤ 8 ∧
      ((b < sa_mN m ∧ (sa_M[mi]?).map (fun z => z.1) = some (sa_sh m b).1) ∨ (100100 ≤ b ∧ b < 100100 + sa_txt.length ∧ (sa_M[mi]?).map (fun z => z.1) = some 16)) ∧ C mi (.ref b :: As) m o' ∧ sa_af e pc lo r o' o K
  | .invokestatic idx => (∃ kk mi n As r o', sa_pI.lookup (e.1, idx) = some (kk, mi, n) ∧ (kk = 1 ∨ kk = 4 ∨ kk = 5) ∧ st = As.reverse ++ r ∧ As.length = n ∧ (r.map (fun v => v.category)).sum ≤ 8 ∧ C mi As m o' ∧ sa_af e pc lo r o' o K) ∨
      (∃ x y r, sa_pI.lookup (e.1, idx) = some (8, 0, 2) ∧ st = .int y :: .int x :: r ∧ (r.map (fun v => v.category)).sum ≤ 8 ∧ K (pc + 3) lo (.int (if x < y then y else x) :: r) m) ∨
      (∃ x y r, sa_pI.lookup (e.1, idx) = some (9, 0, 2) ∧ st = .int y :: .int x :: r ∧ (r.map (fun v => v.category)).sum ≤ 8 ∧ K (pc + 3) lo (.int (if y < x then y else x) :: r) m) ∨
      (∃ (a b : Nat) (sp dp n : Int32) (r : List Value), sa_pI.lookup (e.1, idx) = some (7, 0, 5) ∧ st = .int n :: .int dp :: .ref b :: .int sp :: .ref a :: r ∧ (r.map (fun v => v.category)).sum ≤ 8 ∧ a < sa_mN m ∧ b < sa_mN m ∧ (sa_sh m a).1 = 101 ∧ (sa_sh m b).1 = 101 ∧ ¬ sp < 0 ∧ ¬ dp < 0 ∧ ¬ n < 0 ∧ sp.toNatClampNeg + n.toNatClampNeg ≤ (sa_sh m a).2 ∧ dp.toNatClampNeg + n.toNatClampNeg ≤ (sa_sh m b).2 ∧
        K (pc + 3) lo r (sa_setI m b (va_cpy (sa_mI m a) (sa_mI m b) sp.toNatClampNeg dp.toNatClampNeg n.toNatClampNeg)))
  | .invokespecial idx => (∃ (kk mi n : Nat) (As : List Value) (b : Nat) (r : List Value) (o' : sa_Out), sa_pI.lookup (e.1, idx) = some (kk, mi, n) ∧ (kk = 2 ∨ kk = 3) ∧ st = As.reverse ++ .ref b :: r ∧ As.length = n ∧ b < 100000 ∧ (r.map (fun v => v.category)).sum ≤ 8 ∧ C mi (.ref b :: As) m o' ∧ sa_af e pc lo r o' o K) ∨
      (∃ (b : Nat) (r : List Value), sa_pI.lookup (e.1, idx) = some (6, 0, 0) ∧ st = .ref b :: r ∧ b < 100000 ∧ (r.map (fun v => v.category)).sum ≤ 8 ∧ K (pc + 3) lo r m)
  | _ => False
/-- from a frame of method mi to its end, in at most so many steps -/
def sa_run (X : Nat × (Nat → Int32)) (C : Nat → List Value → sa_Mem → sa_Out → Prop) (mi : Nat) : Nat → Nat → List Value → List Value → sa_Mem → sa_Out → Prop
  | 0, _, _, _, _, _ => False
  | f + 1, pc, lo, st, m, o => ∃ e i len, sa_Ma[mi]? = some e ∧ sa_lk e pc = some (i, len) ∧
      ((∃ lo' st', sa_pu i lo st = some (lo', st') ∧ sa_run X C mi f (pc + len) lo' st' m o) ∨
        sa_he X e.1 (e.2.1.name = "<init>") i st m (fun st' m' => sa_run X C mi f (pc + len) lo st' m' o) ∨
        sa_ct i pc st (fun pc' st' => sa_run X C mi f pc' lo st' m o) ∨
        sa_rt e i st m o ∨ sa_th e pc i st m o ∨
        sa_iv C e pc i lo st m o (fun pc' lo' st' m' => sa_run X C mi f pc' lo' st' m' o))
def sa_gv (v : Value) : Bool := match v with
  | .int _ => true
  | .long _ => true
  | .ref _ => true
  | .null => true
  | _ => false
def sa_lo : List Value → List Value
  | [] => []
  | .long x :: r => .long x :: sa_no :: sa_lo r
  | v :: r => v :: sa_lo r
def sa_en (args : List Value) (n : Nat) : List Value := sa_lo args ++ List.replicate (n - (sa_lo args).length) sa_no
/-- a method's call, at most d deep -/
def sa_Ex (X : Nat × (Nat → Int32)) : Nat → Nat → List Value → sa_Mem → sa_Out → Prop
  | 0, _, _, _, _ => False
  | d + 1, mi, args, m, o => ∃ f e, sa_M[mi]? = some e ∧ (sa_lo args).length ≤ e.2.2.2.1 ∧ (∀ v ∈ args, sa_gv v = true) ∧ sa_run X (sa_Ex X d) mi f 0 (sa_en args e.2.2.2.1) [] m o
/-- the pure judgement: from this frame the method comes to an end with Q -/
def sa_W (X : Nat × (Nat → Int32)) (C : Nat → List Value → sa_Mem → sa_Out → Prop) (mi pc : Nat) (lo st : List Value) (m : sa_Mem) (Q : sa_Out → Prop) : Prop := ∃ f o, sa_run X C mi f pc lo st m o ∧ Q o

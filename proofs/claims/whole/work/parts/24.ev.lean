/-! ===== the reckoner: ints as Int, a memory of functions; where it answers, the machine does so ===== -/
abbrev rq : Type := Int ⊕ (Int64 ⊕ Nat)
abbrev rM : Type := sa_Ct × (Nat → Nat → Int) × (Nat → Nat → Int64)
abbrev rO : Type := (Option rq ⊕ Nat) × rM
abbrev iv (x : Int) : rq := .inl x
abbrev jv (x : Int64) : rq := .inr (.inl x)
abbrev rv (k : Nat) : rq := .inr (.inr k)
theorem wr_ex : ∃ f : Int → Int, f = fun (x : Int) => (Int32.ofInt x).toInt := ⟨_, rfl⟩
noncomputable def wr : Int → Int := wr_ex.choose
theorem wr_df (x : Int) : wr x = (Int32.ofInt x).toInt := by
  unfold wr
  rw [wr_ex.choose_spec]
theorem iand_ex : ∃ f : Int → Int → Int, f = fun (x : Int) (y : Int) => (Int32.ofInt x &&& Int32.ofInt y).toInt := ⟨_, rfl⟩
noncomputable def iand : Int → Int → Int := iand_ex.choose
theorem iand_df (x y : Int) : iand x y = (Int32.ofInt x &&& Int32.ofInt y).toInt := by
  unfold iand
  rw [iand_ex.choose_spec]
theorem ior_ex : ∃ f : Int → Int → Int, f = fun (x : Int) (y : Int) => (Int32.ofInt x ||| Int32.ofInt y).toInt := ⟨_, rfl⟩
noncomputable def ior : Int → Int → Int := ior_ex.choose
theorem ior_df (x y : Int) : ior x y = (Int32.ofInt x ||| Int32.ofInt y).toInt := by
  unfold ior
  rw [ior_ex.choose_spec]
theorem ixor_ex : ∃ f : Int → Int → Int, f = fun (x : Int) (y : Int) => (Int32.ofInt x ^^^ Int32.ofInt y).toInt := ⟨_, rfl⟩
noncomputable def ixor : Int → Int → Int := ixor_ex.choose
theorem ixor_df (x y : Int) : ixor x y = (Int32.ofInt x ^^^ Int32.ofInt y).toInt := by
  unfold ixor
  rw [ixor_ex.choose_spec]
theorem ishl_ex : ∃ f : Int → Int → Int, f = fun (x : Int) (y : Int) => (Int32.ofInt x <<< (Int32.ofInt y &&& 31)).toInt := ⟨_, rfl⟩
noncomputable def ishl : Int → Int → Int := ishl_ex.choose
theorem ishl_df (x y : Int) : ishl x y = (Int32.ofInt x <<< (Int32.ofInt y &&& 31)).toInt := by
  unfold ishl
  rw [ishl_ex.choose_spec]
theorem ishr_ex : ∃ f : Int → Int → Int, f = fun (x : Int) (y : Int) => (Int32.ofInt x >>> (Int32.ofInt y &&& 31)).toInt := ⟨_, rfl⟩
noncomputable def ishr : Int → Int → Int := ishr_ex.choose
theorem ishr_df (x y : Int) : ishr x y = (Int32.ofInt x >>> (Int32.ofInt y &&& 31)).toInt := by
  unfold ishr
  rw [ishr_ex.choose_spec]
theorem iush_ex : ∃ f : Int → Int → Int, f = fun (x : Int) (y : Int) => (((Int32.ofInt x).toUInt32 >>> ((Int32.ofInt y).toUInt32 &&& Int32.toUInt32 31)).toInt32).toInt := ⟨_, rfl⟩
noncomputable def iush : Int → Int → Int := iush_ex.choose
theorem iush_df (x y : Int) : iush x y = (((Int32.ofInt x).toUInt32 >>> ((Int32.ofInt y).toUInt32 &&& Int32.toUInt32 31)).toInt32).toInt := by
  unfold iush
  rw [iush_ex.choose_spec]
theorem idv_ex : ∃ f : Int → Int → Int, f = fun (x : Int) (y : Int) => (Int32.ofInt x / Int32.ofInt y).toInt := ⟨_, rfl⟩
noncomputable def idv : Int → Int → Int := idv_ex.choose
theorem idv_df (x y : Int) : idv x y = (Int32.ofInt x / Int32.ofInt y).toInt := by
  unfold idv
  rw [idv_ex.choose_spec]
theorem irm_ex : ∃ f : Int → Int → Int, f = fun (x : Int) (y : Int) => (Int32.ofInt x - Int32.ofInt x / Int32.ofInt y * Int32.ofInt y).toInt := ⟨_, rfl⟩
noncomputable def irm : Int → Int → Int := irm_ex.choose
theorem irm_df (x y : Int) : irm x y = (Int32.ofInt x - Int32.ofInt x / Int32.ofInt y * Int32.ofInt y).toInt := by
  unfold irm
  rw [irm_ex.choose_spec]
theorem bnar_ex : ∃ f : Int → Int, f = fun (x : Int) => ((Int32.ofInt x).toInt8.toInt32).toInt := ⟨_, rfl⟩
noncomputable def bnar : Int → Int := bnar_ex.choose
theorem bnar_df (x : Int) : bnar x = ((Int32.ofInt x).toInt8.toInt32).toInt := by
  unfold bnar
  rw [bnar_ex.choose_spec]
theorem cnar_ex : ∃ f : Int → Int, f = fun (x : Int) => (((Int32.ofInt x).toUInt32 % 65536).toInt32).toInt := ⟨_, rfl⟩
noncomputable def cnar : Int → Int := cnar_ex.choose
theorem cnar_df (x : Int) : cnar x = (((Int32.ofInt x).toUInt32 % 65536).toInt32).toInt := by
  unfold cnar
  rw [cnar_ex.choose_spec]
theorem jshl_ex : ∃ f : Int64 → Int → Int64, f = fun (x : Int64) (y : Int) => x <<< ((Int32.ofInt y).toInt64 &&& 63) := ⟨_, rfl⟩
noncomputable def jshl : Int64 → Int → Int64 := jshl_ex.choose
theorem jshl_df (x : Int64) (y : Int) : jshl x y = x <<< ((Int32.ofInt y).toInt64 &&& 63) := by
  unfold jshl
  rw [jshl_ex.choose_spec]
theorem jshr_ex : ∃ f : Int64 → Int → Int64, f = fun (x : Int64) (y : Int) => x >>> ((Int32.ofInt y).toInt64 &&& 63) := ⟨_, rfl⟩
noncomputable def jshr : Int64 → Int → Int64 := jshr_ex.choose
theorem jshr_df (x : Int64) (y : Int) : jshr x y = x >>> ((Int32.ofInt y).toInt64 &&& 63) := by
  unfold jshr
  rw [jshr_ex.choose_spec]
theorem jcmp_ex : ∃ f : Int64 → Int64 → Int, f = fun (x : Int64) (y : Int64) => (lg_cmp x y).toInt := ⟨_, rfl⟩
noncomputable def jcmp : Int64 → Int64 → Int := jcmp_ex.choose
theorem jcmp_df (x y : Int64) : jcmp x y = (lg_cmp x y).toInt := by
  unfold jcmp
  rw [jcmp_ex.choose_spec]
theorem i2j_ex : ∃ f : Int → Int64, f = fun (x : Int) => (Int32.ofInt x).toInt64 := ⟨_, rfl⟩
noncomputable def i2j : Int → Int64 := i2j_ex.choose
theorem i2j_df (x : Int) : i2j x = (Int32.ofInt x).toInt64 := by
  unfold i2j
  rw [i2j_ex.choose_spec]
theorem j2i_ex : ∃ f : Int64 → Int, f = fun (x : Int64) => x.toInt32.toInt := ⟨_, rfl⟩
noncomputable def j2i : Int64 → Int := j2i_ex.choose
theorem j2i_df (x : Int64) : j2i x = x.toInt32.toInt := by
  unfold j2i
  rw [j2i_ex.choose_spec]
noncomputable def znar (x : Int) : Int := if x = 0 then 0 else if x = 1 then 1 else wr (x % 2)
def puI (M : rM) (k j : Nat) (x : Int) : rM := (M.1, va_up M.2.1 k (va_up (M.2.1 k) j x), M.2.2)
def puJ (M : rM) (k j : Nat) (x : Int64) : rM := (M.1, M.2.1, va_up M.2.2 k (va_up (M.2.2 k) j x))
def puA (M : rM) (k : Nat) (f : Nat → Int) : rM := (M.1, va_up M.2.1 k f, M.2.2)
def thr (M : rM) : rM := (sa_tc M.1, M.2)
def gd (p : Prop) [Decidable p] (t : Option rO) : Option rO := if p then t else none
def oI (x : Int) (M : rM) : Option rO := some (.inl (some (.inl x)), M)
def oJ (x : Int64) (M : rM) : Option rO := some (.inl (some (.inr (.inl x))), M)
def oV (M : rM) : Option rO := some (.inl none, M)
def oX (q : Nat) (M : rM) : Option rO := some (.inr q, M)
def cI (o : Option rO) (k : Int → rM → Option rO) : Option rO := match o with
  | some (.inl (some (.inl x)), M) => k x M
  | some (.inr q, M) => oX q M
  | _ => none
def cJ (o : Option rO) (k : Int64 → rM → Option rO) : Option rO := match o with
  | some (.inl (some (.inr (.inl x))), M) => k x M
  | some (.inr q, M) => oX q M
  | _ => none
def cV (o : Option rO) (k : rM → Option rO) : Option rO := match o with
  | some (.inl none, M) => k M
  | some (.inr q, M) => oX q M
  | _ => none
def cIh (o : Option rO) (k : Int → rM → Option rO) (h : Nat → rM → Option rO) : Option rO := match o with
  | some (.inl (some (.inl x)), M) => k x M
  | some (.inr q, M) => h q M
  | _ => none
def r_ty1 (t : FieldType) : Bool := match t with
  | .int => true
  | _ => false
def r_ty2 (t : FieldType) : Bool := match t with
  | .boolean => true
  | _ => false
def r_ty3 (t : FieldType) : Bool := match t with
  | .long => true
  | _ => false
def r_kill (lo : List (Option rq)) (i : Nat) : List (Option rq) := match i with
  | 0 => lo
  | j + 1 => match lo[j]? with
    | some (some (.inr (.inl _))) => lo.set j none
    | _ => lo
def r_kv (v : Option rq) : Option rq := match v with
  | some (.inr (.inl _)) => none
  | v => v
def r_st1 : List (Option rq) → Nat → rq → List (Option rq)
  | [], _, _ => []
  | _ :: r, 0, w => some w :: r
  | v :: r, 1, w => r_kv v :: r.set 0 (some w)
  | v :: r, i + 2, w => v :: r_st1 r (i + 1) w
def r_st2 (lo : List (Option rq)) (i : Nat) (v : rq) : List (Option rq) := (r_st1 lo i v).set (i + 1) none
theorem r_st1_eq : ∀ (lo : List (Option rq)) (i : Nat) (v : rq), r_st1 lo i v = (r_kill lo i).set i (some v)
  | [], 0, _ => rfl
  | [], _ + 1, _ => rfl
  | _ :: _, 0, _ => rfl
  | a :: r, 1, w => by
    rcases a with _ | (x | (x | x)) <;> cases r <;> rfl
  | a :: r, i + 2, w => by
    have ih := r_st1_eq r (i + 1) w
    show a :: r_st1 r (i + 1) w = _
    rw [ih]
    unfold r_kill
    dsimp only
    show _ = List.set (match r[i]? with
      | some (some (.inr (.inl _))) => a :: r.set i none
      | _ => a :: r) (i + 2) (some w)
    split <;> rfl
def r_ldI (lo : List (Option rq)) (st : List rq) (k : Nat) : Option (List (Option rq) × List rq) := match lo[k]? with
  | some (some (.inl x)) => some (lo, .inl x :: st)
  | _ => none
def r_ldL (lo : List (Option rq)) (st : List rq) (k : Nat) : Option (List (Option rq) × List rq) := match lo[k]? with
  | some (some (.inr (.inl x))) => some (lo, .inr (.inl x) :: st)
  | _ => none
def r_ldA (lo : List (Option rq)) (st : List rq) (k : Nat) : Option (List (Option rq) × List rq) := match lo[k]? with
  | some (some (.inr (.inr x))) => if x = 100005 then none else some (lo, .inr (.inr x) :: st)
  | _ => none
def r_stI (lo : List (Option rq)) (st : List rq) (k : Nat) : Option (List (Option rq) × List rq) := match st with
  | .inl x :: r => if k < lo.length then some (r_st1 lo k (.inl x), r) else none
  | _ => none
def r_stL (lo : List (Option rq)) (st : List rq) (k : Nat) : Option (List (Option rq) × List rq) := match st with
  | .inr (.inl x) :: r => if k + 1 < lo.length then some (r_st2 lo k (.inr (.inl x)), r) else none
  | _ => none
def r_stA (lo : List (Option rq)) (st : List rq) (k : Nat) : Option (List (Option rq) × List rq) := match st with
  | .inr (.inr x) :: r => if x = 100005 then none else if k < lo.length then some (r_st1 lo k (.inr (.inr x)), r) else none
  | _ => none
def r_bi (lo : List (Option rq)) (st : List rq) (g : Int → Int → Int) : Option (List (Option rq) × List rq) := match st with
  | .inl y :: .inl x :: r => some (lo, .inl (g x y) :: r)
  | _ => none
def r_bl (lo : List (Option rq)) (st : List rq) (g : Int64 → Int64 → Int64) : Option (List (Option rq) × List rq) := match st with
  | .inr (.inl y) :: .inr (.inl x) :: r => some (lo, .inr (.inl (g x y)) :: r)
  | _ => none
def r_ui (lo : List (Option rq)) (st : List rq) (g : Int → Int) : Option (List (Option rq) × List rq) := match st with
  | .inl x :: r => some (lo, .inl (g x) :: r)
  | _ => none
def r_c1 (v : rq) : Bool := match v with
  | .inr (.inl _) => false
  | _ => true
def r_cs (r : List rq) : Nat := match r with
  | [] => 0
  | .inr (.inl _) :: r => 2 + r_cs r
  | _ :: r => 1 + r_cs r
/-- instructions that touch locals and stack alone -/
noncomputable def rpu (i : Instr) (lo : List (Option rq)) (st : List rq) : Option (List (Option rq) × List rq) := match i with
  | .iconst n => if -128 ≤ n ∧ n ≤ 127 then some (lo, .inl n :: st) else none
  | .bipush n => if -128 ≤ n ∧ n ≤ 127 then some (lo, .inl n :: st) else none
  | .sipush n => if -32768 ≤ n ∧ n ≤ 32767 then some (lo, .inl n :: st) else none
  | .lconst n => some (lo, .inr (.inl (Int64.ofNat (n : Nat))) :: st)
  | .iload_n k => r_ldI lo st k
  | .iload k => r_ldI lo st k
  | .lload_n k => r_ldL lo st k
  | .lload k => r_ldL lo st k
  | .aload_n k => r_ldA lo st k
  | .aload k => r_ldA lo st k
  | .istore_n k => r_stI lo st k
  | .istore k => r_stI lo st k
  | .lstore_n k => r_stL lo st k
  | .lstore k => r_stL lo st k
  | .astore_n k => r_stA lo st k
  | .astore k => r_stA lo st k
  | .iinc k n => match lo[k]? with
    | some (some (.inl x)) => some (r_st1 lo k (.inl (wr (x + n))), st)
    | _ => none
  | .iadd => r_bi lo st (fun x y => wr (x + y))
  | .isub => r_bi lo st (fun x y => wr (x - y))
  | .imul => r_bi lo st (fun x y => wr (x * y))
  | .iand => r_bi lo st iand
  | .ior => r_bi lo st ior
  | .ixor => r_bi lo st ixor
  | .ishl => r_bi lo st ishl
  | .ishr => r_bi lo st ishr
  | .iushr => r_bi lo st iush
  | .ladd => r_bl lo st (fun x y => x + y)
  | .lsub => r_bl lo st (fun x y => x - y)
  | .land => r_bl lo st (fun x y => x &&& y)
  | .lor => r_bl lo st (fun x y => x ||| y)
  | .lxor => r_bl lo st (fun x y => x ^^^ y)
  | .lshl => match st with
    | .inl y :: .inr (.inl x) :: r => some (lo, .inr (.inl (jshl x y)) :: r)
    | _ => none
  | .lshr => match st with
    | .inl y :: .inr (.inl x) :: r => some (lo, .inr (.inl (jshr x y)) :: r)
    | _ => none
  | .lcmp => match st with
    | .inr (.inl y) :: .inr (.inl x) :: r => some (lo, .inl (jcmp x y) :: r)
    | _ => none
  | .i2l => match st with
    | .inl x :: r => some (lo, .inr (.inl (i2j x)) :: r)
    | _ => none
  | .l2i => match st with
    | .inr (.inl x) :: r => some (lo, .inl (j2i x) :: r)
    | _ => none
  | .i2b => r_ui lo st bnar
  | .i2c => r_ui lo st cnar
  | .dup => match st with
    | v :: r => if r_c1 v then some (lo, v :: v :: r) else none
    | _ => none
  | .pop => match st with
    | v :: r => if r_c1 v then some (lo, r) else none
    | _ => none
  | .dup_x1 => match st with
    | v :: w :: r => if r_c1 v && r_c1 w then some (lo, v :: w :: v :: r) else none
    | _ => none
  | .dup2 => match st with
    | v :: w :: r => if r_c1 v && r_c1 w then some (lo, v :: w :: v :: w :: r) else none
    | _ => none
  | _ => none
def rarr (X : Nat × (Nat → Int32)) (M : rM) (k : Nat) : Option (Nat × Nat × (Nat → Int)) :=
  if k < 112 then (if 100 ≤ (sa_SH k).1 then some ((sa_SH k).1, (sa_SH k).2, M.2.1 k) else none) else match sa_xa X k with
    | some (q, n, f) => some (q, n, fun j => (f j).toInt)
    | none => none
def r_br (c : ClassFile.Cond) (x y : Int) (a b : Option rO) : Option rO := match c with
  | .eq => if x = y then a else b
  | .ne => if x = y then b else a
  | .lt => if x < y then a else b
  | .ge => if x < y then b else a
  | .gt => if y < x then a else b
  | .le => if y < x then b else a
def r_sw (x : Int) (d : Option rO) (f : Int → Option rO) : List Int → Int → Option rO
  | [], _ => d
  | o :: r, i => if x = i then f o else r_sw x d f r (i + 1)
abbrev rK : Type := Nat → List (Option rq) → List rq → rM → Option rO
def r_get (X : Nat × (Nat → Int32)) (e : sa_Me) (idx pc : Nat) (lo : List (Option rq)) (st : List rq) (M : rM) (nx : rK) : Option rO := match st with
  | .inr (.inr k) :: r => match sa_pF.lookup (e.1, idx) with
    | some (ci, j, _) => if k < 112 && (sa_SH k).1 == ci then (match sa_so (sa_ty ci j) with
        | 0 => nx pc lo (.inl (M.2.1 k j) :: r) M
        | 1 => nx pc lo (.inr (.inl (M.2.2 k j)) :: r) M
        | _ => match sa_RR k j with
          | some a => nx pc lo (.inr (.inr a) :: r) M
          | none => none) else none
    | none => match sa_pX.lookup (e.1, idx) with
      | some t => if 100100 ≤ k && k < 100100 + sa_txt.length then nx pc lo ((if t = 0 then .inr (.inr (k + 100)) else .inl 0) :: r) M else none
      | none => none
  | _ => none
def r_put (e : sa_Me) (idx pc : Nat) (lo : List (Option rq)) (st : List rq) (M : rM) (nx : rK) : Option rO := match st with
  | .inl x :: .inr (.inr k) :: r => match sa_pF.lookup (e.1, idx) with
    | some (ci, j, false) => if k < 112 && (sa_SH k).1 == ci && !(sa_fin ci j) then (if r_ty1 (sa_ty ci j) then nx pc lo r (puI M k j x) else if r_ty2 (sa_ty ci j) then gd (x = 0 ∨ x = 1) (nx pc lo r (puI M k j x)) else none) else none
    | _ => none
  | .inr (.inl x) :: .inr (.inr k) :: r => match sa_pF.lookup (e.1, idx) with
    | some (ci, j, false) => if k < 112 && (sa_SH k).1 == ci && !(sa_fin ci j) && r_ty3 (sa_ty ci j) then nx pc lo r (puJ M k j x) else none
    | _ => none
  | _ => none
def r_hd (e : sa_Me) (pc : Nat) (lo : List (Option rq)) (nx : rK) (q : Nat) (M : rM) : List (Nat × Nat × Nat × Nat) → Option rO
  | [] => none
  | h :: r => if h.1 ≤ pc && pc < h.2.1 then (match sa_pE.lookup (e.1, h.2.2.2) with
      | some z => if z.1 = q then (match sa_lk e h.2.2.1 with
          | some (.astore k, 2) => if k < lo.length && lo.all (fun v => match v with | some w => r_c1 w | none => true) then nx (h.2.2.1 + 2) (lo.set k none) [] M else none
          | some (.astore_n k, 1) => if k.val < lo.length && lo.all (fun v => match v with | some w => r_c1 w | none => true) then nx (h.2.2.1 + 1) (lo.set k.val none) [] M else none
          | _ => none) else r_hd e pc lo nx q M r
      | none => r_hd e pc lo nx q M r) else r_hd e pc lo nx q M r
/-- behind a call -/
def r_af (e : sa_Me) (pc : Nat) (lo : List (Option rq)) (r : List rq) (ret : Option FieldType) (o : Option rO) (nx : rK) : Option rO := match e.2.2.2.2.2.1 with
  | none => match ret with
    | none => cV o (fun M => nx (pc + 3) lo r M)
    | some t => if r_ty3 t then cJ o (fun x M => nx (pc + 3) lo (.inr (.inl x) :: r) M) else cI o (fun x M => nx (pc + 3) lo (.inl x :: r) M)
  | some hh => match ret with
    | none => none
    | some _ => cIh o (fun x M => nx (pc + 3) lo (.inl x :: r) M) (fun q M => r_hd e pc lo nx q M hh)
def r_inv (C : Nat → List rq → rM → Option rO) (e : sa_Me) (idx pc : Nat) (lo : List (Option rq)) (st : List rq) (M : rM) (nx : rK) : Option rO := match sa_pI.lookup (e.1, idx) with
  | some (0, mi, n) => match st.drop n, sa_M[mi]? with
    | .inr (.inr b) :: r, some e2 => if r_cs r ≤ 8 ∧ ((b < 112 ∧ e2.1 = (sa_SH b).1) ∨ (100100 ≤ b ∧ b < 100100 + sa_txt.length ∧ e2.1 = 16)) then r_af e pc lo r e2.2.2.2.2.1 (C mi (.inr (.inr b) :: (st.take n).reverse) M) nx else none
    | _, _ => none
  | _ => none
def r_ins (C : Nat → List rq → rM → Option rO) (e : sa_Me) (idx pc : Nat) (lo : List (Option rq)) (st : List rq) (M : rM) (nx : rK) : Option rO := match sa_pI.lookup (e.1, idx) with
  | some (kk, mi, n) => if kk = 8 ∧ mi = 0 ∧ n = 2 then (match st with
      | .inl y :: .inl x :: r => if r_cs r ≤ 8 then nx (pc + 3) lo (.inl (max x y) :: r) M else none
      | _ => none)
    else if kk = 9 ∧ mi = 0 ∧ n = 2 then (match st with
      | .inl y :: .inl x :: r => if r_cs r ≤ 8 then nx (pc + 3) lo (.inl (min x y) :: r) M else none
      | _ => none)
    else if kk = 7 ∧ mi = 0 ∧ n = 5 then (match st with
      | .inl n :: .inl dp :: .inr (.inr b) :: .inl sp :: .inr (.inr a) :: r => if r_cs r ≤ 8 ∧ a < 112 ∧ b < 112 ∧ (sa_SH a).1 = 101 ∧ (sa_SH b).1 = 101 then gd (0 ≤ sp ∧ 0 ≤ dp ∧ 0 ≤ n ∧ sp + n ≤ ((sa_SH a).2 : Int) ∧ dp + n ≤ ((sa_SH b).2 : Int)) (nx (pc + 3) lo r (puA M b (va_cpy (M.2.1 a) (M.2.1 b) sp.toNat dp.toNat n.toNat))) else none
      | _ => none)
    else if kk = 1 ∨ kk = 4 ∨ kk = 5 then (match sa_M[mi]? with
      | some e2 => if r_cs (st.drop n) ≤ 8 ∧ n ≤ st.length then r_af e pc lo (st.drop n) e2.2.2.2.2.1 (C mi (st.take n).reverse M) nx else none
      | none => none)
    else none
  | none => none
noncomputable def r_ret (t : FieldType) (v : Int) (M : rM) : Option rO := match t with
  | .int => oI v M
  | .boolean => gd (v = 0 ∨ v = 1) (oI v M)
  | .byte => gd (bnar v = v) (oI v M)
  | .char => gd (0 ≤ v ∧ v < 65536) (oI v M)
  | _ => none
/-- one instruction that isn't rpu's -/
noncomputable def rst (X : Nat × (Nat → Int32)) (C : Nat → List rq → rM → Option rO) (e : sa_Me) (pc : Nat) (i : Instr) (len : Nat) (lo : List (Option rq)) (st : List rq) (M : rM) (nx : rK) : Option rO := match i with
  | .getfield idx => r_get X e idx (pc + len) lo st M nx
  | .putfield idx => r_put e idx (pc + len) lo st M nx
  | .iaload => match st with
    | .inl i :: .inr (.inr k) :: r => match rarr X M k with
      | some (q, n, f) => if q = 101 then gd (0 ≤ i ∧ i < (n : Int)) (nx (pc + len) lo (.inl (f i.toNat) :: r) M) else none
      | _ => none
    | _ => none
  | .baload => match st with
    | .inl i :: .inr (.inr k) :: r => match rarr X M k with
      | some (q, n, f) => if q = 100 ∨ (q = 103 ∧ k < 112) then gd (0 ≤ i ∧ i < (n : Int)) (nx (pc + len) lo (.inl (f i.toNat) :: r) M) else none
      | _ => none
    | _ => none
  | .laload => match st with
    | .inl i :: .inr (.inr k) :: r => if k < 112 ∧ (sa_SH k).1 = 102 then gd (0 ≤ i ∧ i < ((sa_SH k).2 : Int)) (nx (pc + len) lo (.inr (.inl (M.2.2 k i.toNat)) :: r) M) else none
    | _ => none
  | .iastore => match st with
    | .inl x :: .inl i :: .inr (.inr k) :: r => if k < 112 ∧ (sa_SH k).1 = 101 then gd (0 ≤ i ∧ i < ((sa_SH k).2 : Int)) (nx (pc + len) lo r (puI M k i.toNat x)) else none
    | _ => none
  | .bastore => match st with
    | .inl x :: .inl i :: .inr (.inr k) :: r => if k < 112 ∧ (sa_SH k).1 = 100 then gd (0 ≤ i ∧ i < ((sa_SH k).2 : Int)) (nx (pc + len) lo r (puI M k i.toNat (bnar x)))
      else if k < 112 ∧ (sa_SH k).1 = 103 then gd (0 ≤ i ∧ i < ((sa_SH k).2 : Int)) (nx (pc + len) lo r (puI M k i.toNat (znar x))) else none
    | _ => none
  | .lastore => match st with
    | .inr (.inl x) :: .inl i :: .inr (.inr k) :: r => if k < 112 ∧ (sa_SH k).1 = 102 then gd (0 ≤ i ∧ i < ((sa_SH k).2 : Int)) (nx (pc + len) lo r (puJ M k i.toNat x)) else none
    | _ => none
  | .arraylength => match st with
    | .inr (.inr k) :: r => match rarr X M k with
      | some (q, n, _) => if q < 104 ∧ n < 65537 then nx (pc + len) lo (.inl (n : Int) :: r) M else none
      | none => none
    | _ => none
  | .getstatic idx => match sa_pS.lookup (e.1, idx) with
    | some (.ref a) => nx (pc + len) lo (.inr (.inr a) :: st) M
    | some (.int x) => nx (pc + len) lo (.inl x.toInt :: st) M
    | _ => none
  | .ldc idx => match sa_pK.lookup (e.1, idx) with
    | some v => nx (pc + len) lo (.inl v.toInt :: st) M
    | none => match sa_pStr.lookup (e.1, idx) with
      | some q => nx (pc + len) lo (.inr (.inr (100100 + q.1)) :: st) M
      | none => none
  | .ldc_w idx => match sa_pK.lookup (e.1, idx) with
    | some v => nx (pc + len) lo (.inl v.toInt :: st) M
    | none => none
  | .ldc2_w idx => match sa_pKL.lookup (e.1, idx) with
    | some v => nx (pc + len) lo (.inr (.inl v) :: st) M
    | none => none
  | .idiv => match st with
    | .inl y :: .inl x :: r => if y = 0 then none else nx (pc + len) lo (.inl (idv x y) :: r) M
    | _ => none
  | .irem => match st with
    | .inl y :: .inl x :: r => if y = 0 then none else nx (pc + len) lo (.inl (irm x y) :: r) M
    | _ => none
  | .goto off => if 0 ≤ (pc : Int) + off then nx ((pc : Int) + off).toNat lo st M else none
  | .ifCond c off => match st with
    | .inl x :: r => if 0 ≤ (pc : Int) + off then r_br c x 0 (nx ((pc : Int) + off).toNat lo r M) (nx (pc + 3) lo r M) else none
    | _ => none
  | .if_icmp c off => match st with
    | .inl y :: .inl x :: r => if 0 ≤ (pc : Int) + off then r_br c x y (nx ((pc : Int) + off).toNat lo r M) (nx (pc + 3) lo r M) else none
    | _ => none
  | .tableswitch d l h offs => match st with
    | .inl x :: r => if h + 1 - l = (offs.toList.length : Int) ∧ 0 ≤ (pc : Int) + d then r_sw x (nx ((pc : Int) + d).toNat lo r M) (fun o => if 0 ≤ (pc : Int) + o then nx ((pc : Int) + o).toNat lo r M else none) offs.toList l else none
    | _ => none
  | .ireturn => match st with
    | [.inl v] => match e.2.2.2.2.1 with
      | some t => r_ret t v M
      | none => none
    | _ => none
  | .lreturn => match st with
    | [.inr (.inl v)] => match e.2.2.2.2.1 with
      | some t => if r_ty3 t then oJ v M else none
      | none => none
    | _ => none
  | .return_ => match st with
    | [] => match e.2.2.2.2.1 with
      | none => oV M
      | some _ => none
    | _ => none
  | .new idx => match st with
    | [] => match sa_pE.lookup (e.1, idx) with
      | some (q, ic) => match e.2.2.2.2.2.1, sa_lk e (pc + 3), sa_lk e (pc + 4), sa_lk e (pc + 7) with
        | none, some (.dup, 1), some (.invokespecial ic', 3), some (.athrow, 1) => if ic' = ic ∧ ic ≠ 0 then oX q (thr M) else none
        | _, _, _, _ => none
      | none => none
    | _ => none
  | .invokevirtual idx => r_inv C e idx pc lo st M nx
  | .invokestatic idx => r_ins C e idx pc lo st M nx
  | _ => none
def r_dk : List (Option rq) → List Bool → List (Option rq)
  | v :: r, b :: m => (match b with
    | true => (match v with
      | some (.inr (.inl x)) => some (.inr (.inl x))
      | _ => none)
    | false => v) :: r_dk r m
  | lo, _ => lo
/-- from one stop to the next ones -/
noncomputable def rtr (X : Nat × (Nat → Int32)) (C : Nat → List rq → rM → Option rO) (e : sa_Me) (sp : List (Nat × List Bool)) (K : rK) : Nat → rK
  | 0, _, _, _, _ => none
  | f + 1, pc, lo, st, M => match sa_lk e pc with
    | none => none
    | some (i, len) => match rpu i lo st with
      | some q => (match sp.lookup (pc + len) with
        | some dead => K (pc + len) (r_dk q.1 dead) q.2 M
        | none => rtr X C e sp K f (pc + len) q.1 q.2 M)
      | none => rst X C e pc i len lo st M (fun pc' lo' st' M' => match sp.lookup pc' with
        | some dead => K pc' (r_dk lo' dead) st' M'
        | none => rtr X C e sp K f pc' lo' st' M')
def r_lo : List rq → List (Option rq)
  | [] => []
  | .inr (.inl x) :: r => some (.inr (.inl x)) :: none :: r_lo r
  | v :: r => some v :: r_lo r
def r_en (args : List rq) (n : Nat) : List (Option rq) := r_lo args ++ List.replicate (n - (r_lo args).length) none
noncomputable def rKg (X : Nat × (Nat → Int32)) (C : Nat → List rq → rM → Option rO) (sp : Nat → List (Nat × List Bool)) (mi : Nat) : Nat → rK
  | 0, _, _, _, _ => none
  | n + 1, pc, lo, st, M => match sa_Ma[mi]? with
    | some e => rtr X C e (sp mi) (rKg X C sp mi n) 1000 pc lo st M
    | none => none
theorem FU_ex : ∃ n : Nat, 1000000000000000000 ≤ n := ⟨_, Nat.le_refl _⟩
noncomputable def FU : Nat := FU_ex.choose
theorem FU_big : 1000000000000000000 ≤ FU := FU_ex.choose_spec
theorem FU_ge : 1000000 ≤ FU := Nat.le_trans (by omega) FU_big
noncomputable def rFn (X : Nat × (Nat → Int32)) (sp : Nat → List (Nat × List Bool)) : Nat → Nat → List rq → rM → Option rO
  | 0, _, _, _ => none
  | d + 1, mi, args, M => match sa_M[mi]? with
    | some e => if (r_lo args).length ≤ e.2.2.2.1 then rtr X (rFn X sp d) e (sp mi) (rKg X (rFn X sp d) sp mi FU) 1000 0 (r_en args e.2.2.2.1) [] M else none
    | none => none

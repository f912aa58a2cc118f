/-! ===== the law, by pieces of its code ===== -/
def lw (seg : List (Nat × Instr × Nat)) : sa_Me := (13, x, code, 7, ret, none, seg)
def Lq (a b : Option rO) : Prop := ∀ o, a = some o → b = some o
theorem Lq_rf {a : Option rO} : Lq a a := fun _ h => h
theorem Lq_no {b : Option rO} : Lq none b := fun _ h => by cases h
theorem Lq_gd {p : Prop} [Decidable p] {a b : Option rO} (h : Lq a b) : Lq (gd p a) (gd p b) := by
  intro o
  unfold gd
  split
  · exact h o
  · exact fun z => z
theorem Lq_ite {p : Prop} [Decidable p] {a b c e : Option rO} (h : Lq a b) (g : Lq c e) : Lq (if p then a else c) (if p then b else e) := by
  intro o
  split
  · exact h o
  · exact g o
theorem Lq_cI {r : Option rO} {k k' : Int → rM → Option rO} (h : ∀ x M, Lq (k x M) (k' x M)) : Lq (cI r k) (cI r k') := by
  intro o
  unfold cI
  split
  · exact h _ _ o
  · exact fun z => z
  · exact fun z => z
theorem Lq_cJ {r : Option rO} {k k' : Int64 → rM → Option rO} (h : ∀ x M, Lq (k x M) (k' x M)) : Lq (cJ r k) (cJ r k') := by
  intro o
  unfold cJ
  split
  · exact h _ _ o
  · exact fun z => z
  · exact fun z => z
theorem Lq_cV {r : Option rO} {k k' : rM → Option rO} (h : ∀ M, Lq (k M) (k' M)) : Lq (cV r k) (cV r k') := by
  intro o
  unfold cV
  split
  · exact h _ o
  · exact fun z => z
  · exact fun z => z
section C90
variable {X : Nat × (Nat → Int32)} {C : Nat → List rq → rM → Option rO} {seg : List (Nat × Instr × Nat)} {nx nx' : rK} {lo : List (Option rq)} {st : List rq} {M : rM} {pc len idx : Nat}
theorem Lq_sw {x : Int} {a b : Option rO} {f g : Int → Option rO} (h : Lq a b) (hf : ∀ o, Lq (f o) (g o)) : ∀ (l : List Int) (i : Int), Lq (r_sw x a f l i) (r_sw x b g l i)
  | [], _ => h
  | o :: l, i => by
    unfold r_sw
    exact Lq_ite (hf o) (Lq_sw h hf l (i + 1))
theorem Lq_br {c : ClassFile.Cond} {x y : Int} {a b e f : Option rO} (h : Lq a b) (g : Lq e f) : Lq (r_br c x y a e) (r_br c x y b f) := by
  cases c <;> unfold r_br
  · exact Lq_ite h g
  · exact Lq_ite g h
  · exact Lq_ite h g
  · exact Lq_ite g h
  · exact Lq_ite h g
  · exact Lq_ite g h
theorem Lq_af {r : List rq} {ret : Option FieldType} {o : Option rO} (hn : ∀ pc lo st M, Lq (nx pc lo st M) (nx' pc lo st M)) : Lq (r_af (lw seg) pc lo r ret o nx) (r_af sa_law pc lo r ret o nx') := by
  show Lq (match ret with
    | none => cV o (fun M => nx (pc + 3) lo r M)
    | some t => if r_ty3 t then cJ o (fun x M => nx (pc + 3) lo (.inr (.inl x) :: r) M) else cI o (fun x M => nx (pc + 3) lo (.inl x :: r) M)) (match ret with
    | none => cV o (fun M => nx' (pc + 3) lo r M)
    | some t => if r_ty3 t then cJ o (fun x M => nx' (pc + 3) lo (.inr (.inl x) :: r) M) else cI o (fun x M => nx' (pc + 3) lo (.inl x :: r) M))
  cases ret with
  | none => exact Lq_cV (fun M => hn _ _ _ _)
  | some t => exact Lq_ite (Lq_cJ (fun x M => hn _ _ _ _)) (Lq_cI (fun x M => hn _ _ _ _))
theorem Lq_inv (hn : ∀ pc lo st M, Lq (nx pc lo st M) (nx' pc lo st M)) : Lq (r_inv C (lw seg) idx pc lo st M nx) (r_inv C sa_law idx pc lo st M nx') := by
  unfold r_inv
  show Lq (match sa_pI.lookup (13, idx) with
    | some (0, mi, n) => _
    | _ => none) (match sa_pI.lookup (13, idx) with
    | some (0, mi, n) => _
    | _ => none)
  split
  · split
    · exact Lq_ite (Lq_af hn) Lq_no
    · exact Lq_no
  · exact Lq_no
theorem Lq_ins (hn : ∀ pc lo st M, Lq (nx pc lo st M) (nx' pc lo st M)) : Lq (r_ins C (lw seg) idx pc lo st M nx) (r_ins C sa_law idx pc lo st M nx') := by
  unfold r_ins
  show Lq (match sa_pI.lookup (13, idx) with
    | some (kk, mi, n) => _
    | none => none) (match sa_pI.lookup (13, idx) with
    | some (kk, mi, n) => _
    | none => none)
  split
  · refine Lq_ite ?_ (Lq_ite ?_ (Lq_ite ?_ (Lq_ite ?_ Lq_no)))
    · split
      · exact Lq_ite (hn _ _ _ _) Lq_no
      · exact Lq_no
    · split
      · exact Lq_ite (hn _ _ _ _) Lq_no
      · exact Lq_no
    · split
      · exact Lq_ite (Lq_gd (hn _ _ _ _)) Lq_no
      · exact Lq_no
    · split
      · exact Lq_ite (Lq_af hn) Lq_no
      · exact Lq_no
  · exact Lq_no
theorem Lq_get (hn : ∀ pc lo st M, Lq (nx pc lo st M) (nx' pc lo st M)) : Lq (r_get X (lw seg) idx pc lo st M nx) (r_get X sa_law idx pc lo st M nx') := by
  unfold r_get
  split
  · rw [show (lw seg).1 = 13 from rfl, show sa_law.1 = 13 from rfl]
    split
    · refine Lq_ite ?_ Lq_no
      split
      · exact hn _ _ _ _
      · exact hn _ _ _ _
      · split
        · exact hn _ _ _ _
        · exact Lq_no
    · split
      · exact Lq_ite (hn _ _ _ _) Lq_no
      · exact Lq_no
  · exact Lq_no
theorem Lq_put (hn : ∀ pc lo st M, Lq (nx pc lo st M) (nx' pc lo st M)) : Lq (r_put (lw seg) idx pc lo st M nx) (r_put sa_law idx pc lo st M nx') := by
  unfold r_put
  split
  · rw [show (lw seg).1 = 13 from rfl, show sa_law.1 = 13 from rfl]
    split
    · exact Lq_ite (Lq_ite (hn _ _ _ _) (Lq_ite (Lq_gd (hn _ _ _ _)) Lq_no)) Lq_no
    · exact Lq_no
  · rw [show (lw seg).1 = 13 from rfl, show sa_law.1 = 13 from rfl]
    split
    · exact Lq_ite (hn _ _ _ _) Lq_no
    · exact Lq_no
  · exact Lq_no
theorem Lq_rst (i : Instr) (hi : ∀ idx, i ≠ .new idx) (hn : ∀ pc lo st M, Lq (nx pc lo st M) (nx' pc lo st M)) : Lq (rst X C (lw seg) pc i len lo st M nx) (rst X C sa_law pc i len lo st M nx') := by
  unfold rst
  split
  · exact Lq_get hn
  · exact Lq_put hn
  · split
    · split
      · exact Lq_ite (Lq_gd (hn _ _ _ _)) Lq_no
      · exact Lq_no
    · exact Lq_no
  · split
    · split
      · exact Lq_ite (Lq_gd (hn _ _ _ _)) Lq_no
      · exact Lq_no
    · exact Lq_no
  · split
    · exact Lq_ite (Lq_gd (hn _ _ _ _)) Lq_no
    · exact Lq_no
  · split
    · exact Lq_ite (Lq_gd (hn _ _ _ _)) Lq_no
    · exact Lq_no
  · split
    · exact Lq_ite (Lq_gd (hn _ _ _ _)) (Lq_ite (Lq_gd (hn _ _ _ _)) Lq_no)
    · exact Lq_no
  · split
    · exact Lq_ite (Lq_gd (hn _ _ _ _)) Lq_no
    · exact Lq_no
  · split
    · split
      · exact Lq_ite (hn _ _ _ _) Lq_no
      · exact Lq_no
    · exact Lq_no
  · rw [show (lw seg).1 = 13 from rfl, show sa_law.1 = 13 from rfl]
    split
    · exact hn _ _ _ _
    · exact hn _ _ _ _
    · exact Lq_no
  · rw [show (lw seg).1 = 13 from rfl, show sa_law.1 = 13 from rfl]
    split
    · exact hn _ _ _ _
    · split
      · exact hn _ _ _ _
      · exact Lq_no
  · rw [show (lw seg).1 = 13 from rfl, show sa_law.1 = 13 from rfl]
    split
    · exact hn _ _ _ _
    · exact Lq_no
  · rw [show (lw seg).1 = 13 from rfl, show sa_law.1 = 13 from rfl]
    split
    · exact hn _ _ _ _
    · exact Lq_no
  · split
    · exact Lq_ite Lq_no (hn _ _ _ _)
    · exact Lq_no
  · split
    · exact Lq_ite Lq_no (hn _ _ _ _)
    · exact Lq_no
  · exact Lq_ite (hn _ _ _ _) Lq_no
  · split
    · exact Lq_ite (Lq_br (hn _ _ _ _) (hn _ _ _ _)) Lq_no
    · exact Lq_no
  · split
    · exact Lq_ite (Lq_br (hn _ _ _ _) (hn _ _ _ _)) Lq_no
    · exact Lq_no
  · split
    · exact Lq_ite (Lq_sw (hn _ _ _ _) (fun o => Lq_ite (hn _ _ _ _) Lq_no) _ _) Lq_no
    · exact Lq_no
  · exact Lq_rf
  · exact Lq_rf
  · exact Lq_rf
  · exact absurd rfl (hi _)
  · exact Lq_inv hn
  · exact Lq_ins hn
  · exact Lq_no
end C90

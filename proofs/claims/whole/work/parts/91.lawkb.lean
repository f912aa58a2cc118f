/-! the law's code: sorted, so that a piece of it will do -/
def incK : Nat → List (Nat × Instr × Nat) → Bool
  | _, [] => true
  | k, q :: r => decide (k ≤ q.1) && incK (q.1 + 1) r
theorem incK_mem : ∀ {l : List (Nat × Instr × Nat)} {k : Nat} {q : Nat × Instr × Nat}, incK k l = true → q ∈ l → k ≤ q.1 ∧ l.lookup q.1 = some q.2
  | [], _, _, _, h => by cases h
  | p :: l, k, q, h, hm => by
    unfold incK at h
    rw [Bool.and_eq_true, decide_eq_true_eq] at h
    rcases List.mem_cons.1 hm with rfl | hm
    · refine ⟨h.1, ?_⟩
      obtain ⟨a, b⟩ := q
      show List.lookup a ((a, b) :: l) = _
      rw [List.lookup_cons_self]
    · obtain ⟨h1, h2⟩ := incK_mem h.2 hm
      refine ⟨by omega, ?_⟩
      obtain ⟨a, b⟩ := p
      have : (q.1 == a) = false := by
        rw [beq_eq_false_iff_ne]
        dsimp only at h1
        omega
      unfold List.lookup
      rw [this]
      exact h2
theorem inc_362 : incK 0 sa_k362 = true := by decide +kernel
def noNew (i : Instr) : Bool := match i with
  | .new _ => false
  | _ => true
theorem noNew_ok {i : Instr} (h : noNew i = true) (idx : Nat) : i ≠ .new idx := by
  rintro rfl
  cases h
section C91
variable {X : Nat × (Nat → Int32)} {C : Nat → List rq → rM → Option rO} {seg : List (Nat × Instr × Nat)} {sp : List (Nat × List Bool)} {K : rK}
theorem Lq_rtr (hm : ∀ q ∈ seg, q ∈ sa_k362) (hn : seg.all (fun q => noNew q.2.1) = true) : ∀ f pc lo st M, Lq (rtr X C (lw seg) sp K f pc lo st M) (rtr X C sa_law sp K f pc lo st M)
  | 0, _, _, _, _ => Lq_no
  | f + 1, pc, lo, st, M => by
    have ih := Lq_rtr hm hn f
    unfold rtr
    have e1 : sa_lk (lw seg) pc = seg.lookup pc := rfl
    have e2 : sa_lk sa_law pc = sa_k362.lookup pc := rfl
    rw [e1, e2]
    cases h : seg.lookup pc with
    | none => exact Lq_no
    | some v =>
      have hv := sa_lkn h
      have h2 := (incK_mem inc_362 (hm _ hv)).2
      have h3 := noNew_ok (List.all_eq_true.1 hn _ hv)
      dsimp only at h2 h3
      rw [h2]
      obtain ⟨i, len⟩ := v
      dsimp only at h3 ⊢
      cases rpu i lo st with
      | some q =>
        dsimp only
        cases sp.lookup (pc + len) with
        | some dead => exact Lq_rf
        | none => exact ih _ _ _ _
      | none =>
        dsimp only
        refine Lq_rst i h3 (fun pc' lo' st' M' => ?_)
        cases sp.lookup pc' with
        | some dead => exact Lq_rf
        | none => exact ih _ _ _ _
theorem kb_seg {d n pc : Nat} {lo : List (Option rq)} {st : List rq} {M : rM} {o : rO} (hm : ∀ q ∈ seg, q ∈ sa_k362) (hn : seg.all (fun q => noNew q.2.1) = true) (h : rtr X (rFn X sp0 d) (lw seg) (sp0 362) (kb X d 362 n) 1000 pc lo st M = some o) : kb X d 362 (n + 1) pc lo st M = some o := by
  have h1 := Lq_rtr hm hn _ _ _ _ _ o h
  show (match sa_Ma[362]? with
    | some e => rtr X (rFn X sp0 d) e (sp0 362) (rKg X (rFn X sp0 d) sp0 362 n) 1000 pc lo st M
    | none => none) = some o
  rw [sa_lawi]
  exact h1
end C91

/-! ===== a local that is not known may be any value; overrides of the memory; loops ===== -/
def sa_le (lo lo' : List Value) : Prop := lo.length = lo'.length ∧ ∀ k : Nat, lo[k]? = lo'[k]? ∨ (lo[k]? = some sa_no ∧ ∃ v, lo'[k]? = some v ∧ v.category = 1)
theorem sa_le_rfl (lo : List Value) : sa_le lo lo := ⟨rfl, fun _ => Or.inl rfl⟩
theorem sa_le_get {lo lo' : List Value} (h : sa_le lo lo') {k : Nat} {v : Value} (hv : lo[k]? = some v) (hn : v ≠ sa_no) : lo'[k]? = some v := by
  rcases h.2 k with h1 | ⟨h1, _⟩
  · rw [← h1]; exact hv
  · rw [hv] at h1
    exact absurd (Option.some.inj h1) hn
theorem sa_le_set {lo lo' : List Value} (h : sa_le lo lo') (k : Nat) (v : Value) : sa_le (lo.set k v) (lo'.set k v) := by
  refine ⟨by rw [List.length_set, List.length_set]; exact h.1, fun j => ?_⟩
  by_cases hj : k = j
  · subst hj
    left
    by_cases hk : k < lo.length
    · rw [List.getElem?_set_self hk, List.getElem?_set_self (by rw [← h.1]; exact hk)]
    · rw [List.getElem?_eq_none (by rw [List.length_set]; omega), List.getElem?_eq_none (by rw [List.length_set, ← h.1]; omega)]
  · rw [List.getElem?_set_ne hj, List.getElem?_set_ne hj]
    exact h.2 j
theorem sa_le_kill {lo lo' : List Value} (h : sa_le lo lo') (i : Nat) : sa_le (sa_kill lo i) (sa_kill lo' i) := by
  cases i with
  | zero => exact h
  | succ j =>
    rcases h.2 j with h1 | ⟨h1, v, h2, h3⟩
    · dsimp only [sa_kill]
      rw [← h1]
      cases hj : lo[j]? with
      | none => exact h
      | some w =>
        by_cases hw : w.category = 2
        · simp only [hw, if_true]
          exact sa_le_set h j sa_no
        · simp only [hw, if_false]
          exact h
    · dsimp only [sa_kill]
      rw [h1, h2]
      have a1 : ¬ (sa_no).category = 2 := by decide
      have a2 : ¬ v.category = 2 := by omega
      simp only [a1, a2, if_false]
      exact h
theorem sa_le_st1 {lo lo' : List Value} (h : sa_le lo lo') (i : Nat) (v : Value) : sa_le (sa_st1 lo i v) (sa_st1 lo' i v) := sa_le_set (sa_le_kill h i) i v
theorem sa_le_st2 {lo lo' : List Value} (h : sa_le lo lo') (i : Nat) (v : Value) : sa_le (sa_st2 lo i v) (sa_st2 lo' i v) := sa_le_set (sa_le_set (sa_le_kill h i) i v) (i + 1) sa_no
section SAM
variable {lo lo' st : List Value} {q : List Value × List Value}
theorem sa_mo_ldI (h : sa_le lo lo') (k : Nat) (hq : sa_ldI lo st k = some q) : ∃ l, sa_ldI lo' st k = some (l, q.2) ∧ sa_le q.1 l := by
  unfold sa_ldI at hq ⊢
  split at hq
  · rename_i x hx
    cases hq
    rw [sa_le_get h hx (fun z => by cases z)]
    exact ⟨lo', rfl, h⟩
  · cases hq
theorem sa_mo_ldL (h : sa_le lo lo') (k : Nat) (hq : sa_ldL lo st k = some q) : ∃ l, sa_ldL lo' st k = some (l, q.2) ∧ sa_le q.1 l := by
  unfold sa_ldL at hq ⊢
  split at hq
  · rename_i x hx
    cases hq
    rw [sa_le_get h hx (fun z => by cases z)]
    exact ⟨lo', rfl, h⟩
  · cases hq
theorem sa_mo_ldA (h : sa_le lo lo') (k : Nat) (hq : sa_ldA lo st k = some q) : ∃ l, sa_ldA lo' st k = some (l, q.2) ∧ sa_le q.1 l := by
  unfold sa_ldA at hq ⊢
  split at hq
  · rename_i x hx
    rw [sa_le_get h hx (fun z => by cases z)]
    by_cases h5 : x = 100005
    · rw [if_pos h5] at hq; cases hq
    · rw [if_neg h5] at hq; cases hq
      simp only [if_neg h5]
      exact ⟨lo', rfl, h⟩
  · cases hq
theorem sa_mo_stI (h : sa_le lo lo') (k : Nat) (hq : sa_stI lo st k = some q) : ∃ l, sa_stI lo' st k = some (l, q.2) ∧ sa_le q.1 l := by
  unfold sa_stI at hq ⊢
  split at hq
  · rename_i x r
    by_cases h5 : k < lo.length
    · rw [if_pos h5] at hq; cases hq
      simp only [if_pos (show k < lo'.length by rw [← h.1]; exact h5)]
      exact ⟨_, rfl, sa_le_st1 h k _⟩
    · rw [if_neg h5] at hq; cases hq
  · cases hq
theorem sa_mo_stL (h : sa_le lo lo') (k : Nat) (hq : sa_stL lo st k = some q) : ∃ l, sa_stL lo' st k = some (l, q.2) ∧ sa_le q.1 l := by
  unfold sa_stL at hq ⊢
  split at hq
  · rename_i x r
    by_cases h5 : k + 1 < lo.length
    · rw [if_pos h5] at hq; cases hq
      simp only [if_pos (show k + 1 < lo'.length by rw [← h.1]; exact h5)]
      exact ⟨_, rfl, sa_le_st2 h k _⟩
    · rw [if_neg h5] at hq; cases hq
  · cases hq
theorem sa_mo_stA (h : sa_le lo lo') (k : Nat) (hq : sa_stA lo st k = some q) : ∃ l, sa_stA lo' st k = some (l, q.2) ∧ sa_le q.1 l := by
  unfold sa_stA at hq ⊢
  split at hq
  · rename_i x r
    by_cases h6 : x = 100005
    · rw [if_pos h6] at hq; cases hq
    rw [if_neg h6] at hq
    by_cases h5 : k < lo.length
    · rw [if_pos h5] at hq; cases hq
      simp only [if_neg h6, if_pos (show k < lo'.length by rw [← h.1]; exact h5)]
      exact ⟨_, rfl, sa_le_st1 h k _⟩
    · rw [if_neg h5] at hq; cases hq
  · cases hq
theorem sa_mo_bi (h : sa_le lo lo') (g : Int32 → Int32 → Int32) (hq : sa_bi lo st g = some q) : ∃ l, sa_bi lo' st g = some (l, q.2) ∧ sa_le q.1 l := by
  unfold sa_bi at hq ⊢
  split at hq
  · cases hq; exact ⟨lo', rfl, h⟩
  · cases hq
theorem sa_mo_bl (h : sa_le lo lo') (g : Int64 → Int64 → Int64) (hq : sa_bl lo st g = some q) : ∃ l, sa_bl lo' st g = some (l, q.2) ∧ sa_le q.1 l := by
  unfold sa_bl at hq ⊢
  split at hq
  · cases hq; exact ⟨lo', rfl, h⟩
  · cases hq
set_option maxHeartbeats 4000000 in
theorem sa_mo_pu (h : sa_le lo lo') (i : Instr) (hq : sa_pu i lo st = some q) : ∃ l, sa_pu i lo' st = some (l, q.2) ∧ sa_le q.1 l := by
  unfold sa_pu at hq ⊢
  cases i <;> try (first | exact sa_mo_ldI h _ hq | exact sa_mo_ldL h _ hq | exact sa_mo_ldA h _ hq | exact sa_mo_stI h _ hq | exact sa_mo_stL h _ hq | exact sa_mo_stA h _ hq | exact sa_mo_bi h _ hq | exact sa_mo_bl h _ hq)
  all_goals try dsimp only at hq ⊢
  all_goals try (cases hq; done)
  all_goals try (cases hq; exact ⟨lo', rfl, h⟩)
  all_goals try (split at hq <;> first | (cases hq; done) | (cases hq; exact ⟨lo', rfl, h⟩) | (split at hq <;> first | (cases hq; done) | (rename_i hc; cases hq; simp only [if_pos hc]; exact ⟨lo', rfl, h⟩)))
  all_goals (split at hq <;> first | (cases hq; done) | (rename_i hx; cases hq; rw [sa_le_get h hx (fun z => by cases z)]; exact ⟨_, rfl, sa_le_st1 h _ _⟩))
end SAM
theorem sa_mo_he {X : Nat × (Nat → Int32)} {own : Nat} {ini : Prop} {i : Instr} {st : List Value} {m : sa_Mem} {K K' : List Value → sa_Mem → Prop} (h : sa_he X own ini i st m K) (hK : ∀ st' m', K st' m' → K' st' m') : sa_he X own ini i st m K' := by
  unfold sa_he at h ⊢
  cases i <;> try exact h
  all_goals dsimp only at h ⊢
  all_goals first
    | (exact h.elim (fun ⟨v, h1, h2⟩ => Or.inl ⟨v, h1, hK _ _ h2⟩) (fun ⟨t, tx, h1, h2⟩ => Or.inr ⟨t, tx, h1, hK _ _ h2⟩))
    | (obtain ⟨v, h1, h2⟩ := h; exact ⟨v, h1, hK _ _ h2⟩)
    | (obtain ⟨v, h1, h2⟩ := h; exact ⟨v, h1, hK _ _ h2⟩)
    | (obtain ⟨a, b, r, n, f, h1, h2, h3, h4⟩ := h; exact ⟨a, b, r, n, f, h1, h2, h3, hK _ _ h4⟩)
    | (obtain ⟨a, b, r, h1, h2, h3, h4, h5⟩ := h; exact ⟨a, b, r, h1, h2, h3, h4, hK _ _ h5⟩)
    | (obtain ⟨a, b, r, n, f, h1, h2, h3, h4⟩ := h; exact ⟨a, b, r, n, f, h1, h2, h3, hK _ _ h4⟩)
    | (obtain ⟨x, a, b, r, h1, h2, h3, h4, h5⟩ := h; exact ⟨x, a, b, r, h1, h2, h3, h4, hK _ _ h5⟩)
    | (obtain ⟨x, a, b, r, h1, h2, h3, h4, h5⟩ := h; exact ⟨x, a, b, r, h1, h2, h3, h4, hK _ _ h5⟩)
    | (obtain ⟨x, a, b, r, h1, h2, h3, h4⟩ := h; exact ⟨x, a, b, r, h1, h2, h3, h4.elim (fun z => Or.inl ⟨z.1, hK _ _ z.2⟩) (fun z => Or.inr ⟨z.1, hK _ _ z.2⟩)⟩)
    | (obtain ⟨x, y, r, h1, h2, h3⟩ := h; exact ⟨x, y, r, h1, h2, hK _ _ h3⟩)
    | (obtain ⟨x, y, r, h1, h2, h3⟩ := h; exact ⟨x, y, r, h1, h2, hK _ _ h3⟩)
    | (obtain ⟨v, h1, h2⟩ := h; exact ⟨v, h1, hK _ _ h2⟩)
    | (obtain ⟨k, r, h1, h2⟩ := h
       exact ⟨k, r, h1, h2.elim (fun ⟨ci, j, b, a1, a2, a3, a4⟩ => Or.inl ⟨ci, j, b, a1, a2, a3, hK _ _ a4⟩) (fun ⟨t, a1, a2, a3, a4⟩ => Or.inr ⟨t, a1, a2, a3, hK _ _ a4⟩)⟩)
    | (obtain ⟨v, k, r, ci, j, m1, h1, h2, h3, h4, h5, h6, h7⟩ := h; exact ⟨v, k, r, ci, j, m1, h1, h2, h3, h4, h5, h6, hK _ _ h7⟩)
    | (obtain ⟨ci, h1, h2, h3, h4⟩ := h; exact ⟨ci, h1, h2, h3, hK _ _ h4⟩)
    | (obtain ⟨n, r, q, h1, h2, h3, h4, h5, h6, h7⟩ := h; exact ⟨n, r, q, h1, h2, h3, h4, h5, h6, hK _ _ h7⟩)
    | (obtain ⟨k, r, q, n, f, h1, h2, h3, h4⟩ := h; exact ⟨k, r, q, n, f, h1, h2, h3, hK _ _ h4⟩)
theorem sa_mo_ct {i : Instr} {pc : Nat} {st : List Value} {K K' : Nat → List Value → Prop} (h : sa_ct i pc st K) (hK : ∀ pc' st', K pc' st' → K' pc' st') : sa_ct i pc st K' := by
  unfold sa_ct at h ⊢
  cases i <;> try exact h
  all_goals dsimp only at h ⊢
  all_goals first
    | (obtain ⟨x, r, t, h1, h2, h3, h4⟩ := h; exact ⟨x, r, t, h1, h2, fun z => hK _ _ (h3 z), fun z => hK _ _ (h4 z)⟩)
    | (obtain ⟨x, y, r, t, h1, h2, h3, h4⟩ := h; exact ⟨x, y, r, t, h1, h2, fun z => hK _ _ (h3 z), fun z => hK _ _ (h4 z)⟩)
    | (obtain ⟨t, h1, h2⟩ := h; exact ⟨t, h1, hK _ _ h2⟩)
    | (obtain ⟨x, r, h1, h2, h3⟩ := h
       refine ⟨x, r, h1, fun z => ?_, fun z1 z2 => ?_⟩
       · obtain ⟨t, a, b⟩ := h2 z; exact ⟨t, a, hK _ _ b⟩
       · obtain ⟨o, t, a, b, c⟩ := h3 z1 z2; exact ⟨o, t, a, b, hK _ _ c⟩)
theorem sa_mo_af {e : sa_Me} {pc : Nat} {lo lo' r : List Value} {o' o : sa_Out} {K K' : Nat → List Value → List Value → sa_Mem → Prop} (hl : sa_le lo lo') (h : sa_af e pc lo r o' o K) (hK : ∀ pc' l l' st' m', sa_le l l' → K pc' l st' m' → K' pc' l' st' m') : sa_af e pc lo' r o' o K' := by
  unfold sa_af at h ⊢
  split at h
  · exact hK _ _ _ _ _ hl h
  · exact hK _ _ _ _ _ hl h
  · split at h
    · exact h
    · obtain ⟨hp, k, len, h1, h2, h3, h4, h5⟩ := h
      refine ⟨hp, k, len, h1, by rw [← hl.1]; exact h2, ?_, h4, hK _ _ _ _ _ (sa_le_set hl k sa_no) h5⟩
      intro x hx
      obtain ⟨j, hj⟩ := List.mem_iff_getElem?.1 hx
      rcases hl.2 j with a | ⟨a, v, b, c⟩
      · exact h3 x (List.mem_of_getElem? (by rw [a]; exact hj))
      · rw [b] at hj
        cases hj
        exact c
theorem sa_mo_iv {C : Nat → List Value → sa_Mem → sa_Out → Prop} {e : sa_Me} {pc : Nat} {i : Instr} {lo lo' st : List Value} {m : sa_Mem} {o : sa_Out} {K K' : Nat → List Value → List Value → sa_Mem → Prop} (hl : sa_le lo lo') (h : sa_iv C e pc i lo st m o K) (hK : ∀ pc' l l' st' m', sa_le l l' → K pc' l st' m' → K' pc' l' st' m') : sa_iv C e pc i lo' st m o K' := by
  unfold sa_iv at h ⊢
  cases i <;> try exact h
  all_goals dsimp only at h ⊢
  all_goals first
    | (obtain ⟨a, n, As, b, r, o1, h1, h2, h3, h4, h5, h6, h7⟩ := h
       exact ⟨a, n, As, b, r, o1, h1, h2, h3, h4, h5, h6, sa_mo_af hl h7 hK⟩)
    | (rcases h with ⟨kk, a, n, As, b, r, o1, h1, h2, h3, h4, h5, h6, h7⟩ | ⟨b, r, h1, h2, h3, h4, h5⟩
       · exact Or.inl ⟨kk, a, n, As, b, r, o1, h1, h2, h3, h4, h5, h6, h7.1, sa_mo_af hl h7.2 hK⟩
       · exact Or.inr ⟨b, r, h1, h2, h3, h4, hK _ _ _ _ _ hl h5⟩)
    | (rcases h with ⟨kk, a, n, As, r, o1, h1, h2, h3, h4, h5, h6, h7⟩ | ⟨x, y, r, h1, h2, h3, h4⟩ | ⟨x, y, r, h1, h2, h3, h4⟩ | ⟨a, b, sp, dp, n, r, h1, h2, h3, h4, h5, h6, h7, h8, h9, h10, h11, h12, h13⟩
       · exact Or.inl ⟨kk, a, n, As, r, o1, h1, h2, h3, h4, h5, h6, sa_mo_af hl h7 hK⟩
       · exact Or.inr (Or.inl ⟨x, y, r, h1, h2, h3, hK _ _ _ _ _ hl h4⟩)
       · exact Or.inr (Or.inr (Or.inl ⟨x, y, r, h1, h2, h3, hK _ _ _ _ _ hl h4⟩))
       · exact Or.inr (Or.inr (Or.inr ⟨a, b, sp, dp, n, r, h1, h2, h3, h4, h5, h6, h7, h8, h9, h10, h11, h12, hK _ _ _ _ _ hl h13⟩)))
theorem sa_mono {X : Nat × (Nat → Int32)} {C : Nat → List Value → sa_Mem → sa_Out → Prop} {mi : Nat} {o : sa_Out} : ∀ (f : Nat) {pc : Nat} {lo lo' st : List Value} {m : sa_Mem}, sa_le lo lo' → sa_run X C mi f pc lo st m o → sa_run X C mi f pc lo' st m o
  | 0, _, _, _, _, _, _, h => h
  | f + 1, pc, lo, lo', st, m, hl, h => by
    obtain ⟨e, i, len, he, hi, h⟩ := h
    refine ⟨e, i, len, he, hi, ?_⟩
    rcases h with ⟨l1, s1, h1, h2⟩ | h | h | h | h | h
    · obtain ⟨l2, h3, h4⟩ := sa_mo_pu hl i h1
      exact Or.inl ⟨l2, s1, h3, sa_mono f h4 h2⟩
    · refine Or.inr (Or.inl ?_)
      exact sa_mo_he h (fun st' m' z => sa_mono f hl z)
    · refine Or.inr (Or.inr (Or.inl ?_))
      exact sa_mo_ct h (fun pc' st' z => sa_mono f hl z)
    · exact Or.inr (Or.inr (Or.inr (Or.inl h)))
    · exact Or.inr (Or.inr (Or.inr (Or.inr (Or.inl h))))
    · refine Or.inr (Or.inr (Or.inr (Or.inr (Or.inr ?_))))
      exact sa_mo_iv hl h (fun pc' l l' st' m' z1 z2 => sa_mono f z1 z2)

/-! overrides -/
def ov {α : Type} (I : Nat → Nat → α) (l : List (Nat × (Nat → α))) : Nat → Nat → α := fun k => match l.lookup k with
  | some A => A
  | none => I k
def ins {α : Type} : List (Nat × α) → Nat → α → List (Nat × α)
  | [], k, A => [(k, A)]
  | q :: l, k, A => if k = q.1 then (k, A) :: l else if k < q.1 then (k, A) :: q :: l else q :: ins l k A
def insl {α : Type} (l : List (Nat × α)) : List (Nat × α) → List (Nat × α)
  | [] => l
  | q :: r => insl (ins l q.1 q.2) r
theorem ins_lookup {α : Type} (k : Nat) (A : α) : ∀ (l : List (Nat × α)) (j : Nat), (ins l k A).lookup j = if j = k then some A else l.lookup j
  | [], j => by
    by_cases h : j = k
    · subst h; simp [ins, List.lookup]
    · simp [ins, List.lookup, h, beq_eq_false_iff_ne.2 h]
  | q :: l, j => by
    unfold ins
    by_cases h1 : k = q.1
    · rw [if_pos h1]
      by_cases h : j = k
      · subst h; simp [List.lookup]
      · have h' : ¬ j = q.1 := by rw [← h1]; exact h
        simp [List.lookup, h, beq_eq_false_iff_ne.2 h, beq_eq_false_iff_ne.2 h']
    · rw [if_neg h1]
      by_cases h2 : k < q.1
      · rw [if_pos h2]
        by_cases h : j = k
        · subst h; simp [List.lookup]
        · simp [List.lookup, h, beq_eq_false_iff_ne.2 h]
      · rw [if_neg h2]
        by_cases h : j = q.1
        · have h3 : ¬ j = k := fun z => h1 (z.symm.trans h)
          rw [if_neg h3]
          simp [List.lookup, h]
        · have e1 : (q :: ins l k A).lookup j = (ins l k A).lookup j := by simp [List.lookup, beq_eq_false_iff_ne.2 h]
          have e2 : (q :: l).lookup j = l.lookup j := by simp [List.lookup, beq_eq_false_iff_ne.2 h]
          rw [e1, e2]
          exact ins_lookup k A l j
theorem ov_ins {α : Type} (I : Nat → Nat → α) (l : List (Nat × (Nat → α))) (k : Nat) (A : Nat → α) : va_up (ov I l) k A = ov I (ins l k A) := by
  funext j
  unfold va_up ov
  simp only [ins_lookup]
  by_cases h : j = k
  · simp [h]
  · simp [h]
theorem ov_self {α : Type} (I : Nat → Nat → α) (l : List (Nat × (Nat → α))) (k : Nat) : ov I l = ov I (ins l k (ov I l k)) := by
  rw [← ov_ins]
  funext j
  unfold va_up
  by_cases h : j = k
  · simp [h]
  · simp [h]
theorem ov_cons {α : Type} (I : Nat → Nat → α) (k : Nat) (A : Nat → α) (r : List (Nat × (Nat → α))) : ov I ((k, A) :: r) = va_up (ov I r) k A := by
  funext j
  unfold va_up ov
  by_cases h : j = k
  · subst h; simp [List.lookup]
  · simp [List.lookup, h, beq_eq_false_iff_ne.2 h]
theorem ov_ov {α : Type} (I : Nat → Nat → α) (l : List (Nat × (Nat → α))) : ∀ r : List (Nat × (Nat → α)), ov (ov I l) r = ov I (r.foldr (fun q a => ins a q.1 q.2) l)
  | [] => rfl
  | q :: r => by
    rw [ov_cons, ov_ov I l r, ov_ins]
    rfl
def itn {σ : Type} (f : Nat → σ → σ) : Nat → σ → σ
  | 0, s => s
  | k + 1, s => f k (itn f k s)
theorem itn_succ {σ : Type} (f : Nat → σ → σ) (k : Nat) (s : σ) : itn f (k + 1) s = f k (itn f k s) := rfl
def sa_tc (c : sa_Ct) : sa_Ct := (c.1 + 1, c.2.1 + 6, true)
theorem sa_gl {a : List Value} (h : a.all sa_gv = true) : ∀ v ∈ a, sa_gv v = true := List.all_eq_true.1 h
section SAR
variable {X : Nat × (Nat → Int32)} {C : Nat → List Value → sa_Mem → sa_Out → Prop} {mi pc : Nat} {lo st : List Value} {m : sa_Mem} {Q : sa_Out → Prop} {e : sa_Me} {c : sa_Ct} {I : Nat → Nat → Int32} {J : Nat → Nat → Int64}
theorem aw_fg {lo' : List Value} (hl : lo'.length = lo.length) (h : ∀ k : Nat, lo'[k]? = lo[k]? ∨ (lo'[k]? = some sa_no ∧ ∃ v : Value, lo[k]? = some v ∧ v.category = 1)) (k : sa_W X C mi pc lo' st m Q) : sa_W X C mi pc lo st m Q := by
  obtain ⟨f, o, h1, h2⟩ := k
  exact ⟨f, o, sa_mono f ⟨hl, h⟩ h1, h2⟩
/-- a known local is forgotten -/
theorem aw_f1 (j : Nat) {v : Value} {lo' : List Value} (hv : lo[j]? = some v) (hc : v.category = 1) (hl : lo.set j sa_no = lo') (k : sa_W X C mi pc lo' st m Q) : sa_W X C mi pc lo st m Q := by
  subst hl
  refine aw_fg (List.length_set ..) (fun i => ?_) k
  by_cases h : j = i
  · subst h
    right
    refine ⟨?_, v, hv, hc⟩
    rw [List.getElem?_set_self (List.getElem?_eq_some_iff.1 hv).1]
  · left
    rw [List.getElem?_set_ne h]
/-- another way to write locals, stack, memory -/
theorem aw_st {st' : List Value} (h : st = st') (k : sa_W X C mi pc lo st' m Q) : sa_W X C mi pc lo st m Q := by
  subst h; exact k
theorem aw_lo {lo' : List Value} (h : lo = lo') (k : sa_W X C mi pc lo' st m Q) : sa_W X C mi pc lo st m Q := by
  subst h; exact k
theorem aw_mI {I' : Nat → Nat → Int32} (h : I = I') (k : sa_W X C mi pc lo st (sa_mk c I' J) Q) : sa_W X C mi pc lo st (sa_mk c I J) Q := by
  subst h; exact k
theorem aw_mJ {J' : Nat → Nat → Int64} (h : J = J') (k : sa_W X C mi pc lo st (sa_mk c I J') Q) : sa_W X C mi pc lo st (sa_mk c I J) Q := by
  subst h; exact k
theorem aw_eq {m' : sa_Mem} {lo' : List Value} (k : sa_W X C mi pc lo' st m' Q) (h1 : lo = lo') (h2 : m = m') : sa_W X C mi pc lo st m Q := by
  subst h1; subst h2; exact k
/-- a branch that is known -/
theorem aw_ifT (he : sa_Ma[mi]? = some e) {cd : ClassFile.Cond} {off : Int} {t : Nat} {x : Int32} {r : List Value} (hi : sa_lk e pc = some (.ifCond cd off, 3)) (ht : (pc : Int) + off = (t : Int)) (h : sa_cmp cd x 0) (k : sa_W X C mi t lo r m Q) : sa_W X C mi pc lo (.int x :: r) m Q := aw_if he hi ht rfl (fun _ => k) (fun z => absurd h z)
theorem aw_ifF (he : sa_Ma[mi]? = some e) {cd : ClassFile.Cond} {off : Int} {t n : Nat} {x : Int32} {r : List Value} (hi : sa_lk e pc = some (.ifCond cd off, 3)) (ht : (pc : Int) + off = (t : Int)) (hn : pc + 3 = n) (h : ¬ sa_cmp cd x 0) (k : sa_W X C mi n lo r m Q) : sa_W X C mi pc lo (.int x :: r) m Q := aw_if he hi ht hn (fun z => absurd z h) (fun _ => k)
theorem aw_icT (he : sa_Ma[mi]? = some e) {cd : ClassFile.Cond} {off : Int} {t : Nat} {x y : Int32} {r : List Value} (hi : sa_lk e pc = some (.if_icmp cd off, 3)) (ht : (pc : Int) + off = (t : Int)) (h : sa_cmp cd x y) (k : sa_W X C mi t lo r m Q) : sa_W X C mi pc lo (.int y :: .int x :: r) m Q := aw_ic he hi ht rfl (fun _ => k) (fun z => absurd h z)
theorem aw_icF (he : sa_Ma[mi]? = some e) {cd : ClassFile.Cond} {off : Int} {t n : Nat} {x y : Int32} {r : List Value} (hi : sa_lk e pc = some (.if_icmp cd off, 3)) (ht : (pc : Int) + off = (t : Int)) (hn : pc + 3 = n) (h : ¬ sa_cmp cd x y) (k : sa_W X C mi n lo r m Q) : sa_W X C mi pc lo (.int y :: .int x :: r) m Q := aw_ic he hi ht hn (fun z => absurd z h) (fun _ => k)
/-- a loop whose states are known -/
theorem aw_for (n : Nat) (S : Nat → List Value × sa_Mem) (step : ∀ i, i < n → sa_W X C mi pc (S (i + 1)).1 [] (S (i + 1)).2 Q → sa_W X C mi pc (S i).1 [] (S i).2 Q) (ex : sa_W X C mi pc (S n).1 [] (S n).2 Q) : sa_W X C mi pc (S 0).1 [] (S 0).2 Q := by
  have h : ∀ k, k ≤ n → sa_W X C mi pc (S (n - k)).1 [] (S (n - k)).2 Q := by
    intro k
    induction k with
    | zero => intro _; exact ex
    | succ k ih =>
      intro hk
      refine step (n - (k + 1)) (by omega) ?_
      have e1 : n - (k + 1) + 1 = n - k := by omega
      rw [e1]
      exact ih (by omega)
  have := h n (Nat.le_refl n)
  rwa [Nat.sub_self] at this
/-- .. with a word that holds at its heads -/
theorem aw_forP (n : Nat) (P : Nat → Prop) (S : Nat → List Value × sa_Mem) (p0 : P 0) (step : ∀ i, i < n → P i → (P (i + 1) → sa_W X C mi pc (S (i + 1)).1 [] (S (i + 1)).2 Q) → sa_W X C mi pc (S i).1 [] (S i).2 Q) (ex : P n → sa_W X C mi pc (S n).1 [] (S n).2 Q) : sa_W X C mi pc (S 0).1 [] (S 0).2 Q := by
  have h : ∀ k, k ≤ n → P (n - k) → sa_W X C mi pc (S (n - k)).1 [] (S (n - k)).2 Q := by
    intro k
    induction k with
    | zero => intro _; exact ex
    | succ k ih =>
      intro hk hp
      refine step (n - (k + 1)) (by omega) hp ?_
      have e1 : n - (k + 1) + 1 = n - k := by omega
      rw [e1]
      exact ih (by omega)
  have := h n (Nat.le_refl n)
  rw [Nat.sub_self] at this
  exact this p0
/-- fields of ints, booleans, longs -/
theorem aw_pi (he : sa_Ma[mi]? = some e) {idx k ci j pc' : Nat} {x : Int32} {r : List Value} {I' : Nat → Nat → Int32} (hi : sa_lk e pc = some (.putfield idx, 3)) (hF : sa_pF.lookup (e.1, idx) = some (ci, j, false)) (hk : k < 112) (hs : (sa_SH k).1 = ci) (hf : sa_fin ci j = false) (ht : sa_ty ci j = .int ∨ (sa_ty ci j = .boolean ∧ (x = 0 ∨ x = 1))) (hI : va_up I k (upd (I k) j x) = I') (hp : pc + 3 = pc') (kk : sa_W X C mi pc' lo r (sa_mk c I' J) Q) : sa_W X C mi pc lo (.int x :: .ref k :: r) (sa_mk c I J) Q := by
  subst hp; subst hI
  obtain ⟨f1, o, h1, h2⟩ := kk
  refine sa_W.he he hi ⟨f1, o, ⟨.int x, k, r, ci, j, _, rfl, hF, hk, hs, (fun z => by rw [hf] at z; cases z), ?_, h1⟩, h2⟩
  rcases ht with c4 | ⟨c4, c5⟩
  · refine ⟨by rw [c4]; rfl, ⟨by rw [c4]; rfl, by rw [c4]; rfl⟩, rfl⟩
  · refine ⟨by rw [c4]; rfl, ⟨?_, ?_⟩, rfl⟩
    · rw [c4]
      rcases c5 with rfl | rfl <;> rfl
    · rw [c4]
      rcases c5 with rfl | rfl <;> rfl
theorem aw_pl (he : sa_Ma[mi]? = some e) {idx k ci j pc' : Nat} {x : Int64} {r : List Value} {J' : Nat → Nat → Int64} (hi : sa_lk e pc = some (.putfield idx, 3)) (hF : sa_pF.lookup (e.1, idx) = some (ci, j, false)) (hk : k < 112) (hs : (sa_SH k).1 = ci) (hf : sa_fin ci j = false) (ht : sa_ty ci j = .long) (hI : va_up J k (vp_updL (J k) j x) = J') (hp : pc + 3 = pc') (kk : sa_W X C mi pc' lo r (sa_mk c I J') Q) : sa_W X C mi pc lo (.long x :: .ref k :: r) (sa_mk c I J) Q := by
  subst hp; subst hI
  obtain ⟨f1, o, h1, h2⟩ := kk
  exact sa_W.he he hi ⟨f1, o, ⟨.long x, k, r, ci, j, _, rfl, hF, hk, hs, (fun z => by rw [hf] at z; cases z), ⟨ht, rfl⟩, h1⟩, h2⟩
end SAR
theorem sa_nb {v : Int32} (h : v = 0 ∨ v = 1) : narrow .boolean (.int v) = .int v := by
  rcases h with rfl | rfl <;> rfl
section SAR2
variable {X : Nat × (Nat → Int32)} {C : Nat → List Value → sa_Mem → sa_Out → Prop} {mi pc : Nat} {lo st : List Value} {m : sa_Mem} {Q : sa_Out → Prop} {e : sa_Me}
theorem aw_cv1 (he : sa_Ma[mi]? = some e) {idx mi2 n b pc' : Nat} {As r : List Value} {v : Value} {m' : sa_Mem} (hi : sa_lk e pc = some (.invokevirtual idx, 3)) (hI : sa_pI.lookup (e.1, idx) = some (0, mi2, n)) (hst : st = As.reverse ++ .ref b :: r) (hn : As.length = n) (hs : (r.map (fun v => v.category)).sum ≤ 8) (hb : b < sa_mN m ∧ (sa_M[mi2]?).map (fun z => z.1) = some (sa_sh m b).1) (hc : C mi2 (.ref b :: As) m (.inl (some v), m')) (hp : pc + 3 = pc') (kk : sa_W X C mi pc' lo (v :: r) m' Q) : sa_W X C mi pc lo st m Q := aw_cv he hi hI hst hn hs hb hc hp kk
theorem aw_cv0 (he : sa_Ma[mi]? = some e) {idx mi2 n b pc' : Nat} {As r : List Value} {m' : sa_Mem} (hi : sa_lk e pc = some (.invokevirtual idx, 3)) (hI : sa_pI.lookup (e.1, idx) = some (0, mi2, n)) (hst : st = As.reverse ++ .ref b :: r) (hn : As.length = n) (hs : (r.map (fun v => v.category)).sum ≤ 8) (hb : b < sa_mN m ∧ (sa_M[mi2]?).map (fun z => z.1) = some (sa_sh m b).1) (hc : C mi2 (.ref b :: As) m (.inl none, m')) (hp : pc + 3 = pc') (kk : sa_W X C mi pc' lo r m' Q) : sa_W X C mi pc lo st m Q := aw_cv he hi hI hst hn hs hb hc hp kk
theorem aw_cs1 (he : sa_Ma[mi]? = some e) {idx kk2 mi2 n pc' : Nat} {As r : List Value} {v : Value} {m' : sa_Mem} (hi : sa_lk e pc = some (.invokestatic idx, 3)) (hI : sa_pI.lookup (e.1, idx) = some (kk2, mi2, n)) (hk : kk2 = 1 ∨ kk2 = 4 ∨ kk2 = 5) (hst : st = As.reverse ++ r) (hn : As.length = n) (hs : (r.map (fun v => v.category)).sum ≤ 8) (hc : C mi2 As m (.inl (some v), m')) (hp : pc + 3 = pc') (kk : sa_W X C mi pc' lo (v :: r) m' Q) : sa_W X C mi pc lo st m Q := aw_cs he hi hI hk hst hn hs hc hp kk
theorem aw_cs0 (he : sa_Ma[mi]? = some e) {idx kk2 mi2 n pc' : Nat} {As r : List Value} {m' : sa_Mem} (hi : sa_lk e pc = some (.invokestatic idx, 3)) (hI : sa_pI.lookup (e.1, idx) = some (kk2, mi2, n)) (hk : kk2 = 1 ∨ kk2 = 4 ∨ kk2 = 5) (hst : st = As.reverse ++ r) (hn : As.length = n) (hs : (r.map (fun v => v.category)).sum ≤ 8) (hc : C mi2 As m (.inl none, m')) (hp : pc + 3 = pc') (kk : sa_W X C mi pc' lo r m' Q) : sa_W X C mi pc lo st m Q := aw_cs he hi hI hk hst hn hs hc hp kk
end SAR2

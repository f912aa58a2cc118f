/-! ===== the search, purely: places in the order in which they are come to ===== -/
/-- beliefs, cord, the tricks that led there -/
abbrev QE : Type := Nat × Nat × List Nat
/-- places; the first row that ends; tricks that worked; beliefs that were come to -/
abbrev BS : Type := List QE × Option (List Nat) × Nat × List Nat
def Q00 : QE := (0, 0, [])
def qa (Q : List QE) (i : Nat) : QE := Q.getD i Q00
def pl (e : QE) : Nat := 61 * e.1 + e.2.1
def hasQ (Q : List QE) (b c : Nat) : Bool := Q.any (fun e => e.1 == b && e.2.1 == c)
def vis (Q : List QE) (b c : Nat) (r : List Nat) : List QE := if hasQ Q b c = true then Q else Q ++ [(b, c, r)]
def ext (Q Q' : List QE) : Prop := Q.length ≤ Q'.length ∧ ∀ k, k < Q.length → qa Q' k = qa Q k
theorem ext.rf {Q : List QE} : ext Q Q := ⟨Nat.le_refl _, fun _ _ => rfl⟩
theorem ext.tr {Q R T : List QE} (h : ext Q R) (g : ext R T) : ext Q T := ⟨Nat.le_trans h.1 g.1, fun k hk => (g.2 k (Nat.lt_of_lt_of_le hk h.1)).trans (h.2 k hk)⟩
theorem qa_app {Q : List QE} {e : QE} {k : Nat} (h : k < Q.length) : qa (Q ++ [e]) k = qa Q k := by
  unfold qa
  rw [List.getD_eq_getElem?_getD, List.getElem?_append_left h, List.getD_eq_getElem?_getD]
theorem qa_end {Q : List QE} {e : QE} : qa (Q ++ [e]) Q.length = e := by
  unfold qa
  rw [List.getD_eq_getElem?_getD, List.getElem?_append_right (Nat.le_refl _), Nat.sub_self]
  rfl
theorem qa_mem {Q : List QE} {e : QE} : e ∈ Q ↔ ∃ i, i < Q.length ∧ qa Q i = e := by
  constructor
  · intro h
    obtain ⟨i, hi, rfl⟩ := List.getElem_of_mem h
    exact ⟨i, hi, by unfold qa; rw [List.getD_eq_getElem?_getD, List.getElem?_eq_getElem hi]; rfl⟩
  · rintro ⟨i, hi, rfl⟩
    unfold qa
    rw [List.getD_eq_getElem?_getD, List.getElem?_eq_getElem hi]
    exact List.getElem_mem hi
theorem has_iff {Q : List QE} {b c : Nat} : hasQ Q b c = true ↔ ∃ i, i < Q.length ∧ (qa Q i).1 = b ∧ (qa Q i).2.1 = c := by
  unfold hasQ
  rw [List.any_eq_true]
  constructor
  · rintro ⟨e, he, h⟩
    obtain ⟨i, hi, rfl⟩ := qa_mem.1 he
    simp only [Bool.and_eq_true, beq_iff_eq] at h
    exact ⟨i, hi, h⟩
  · rintro ⟨i, hi, h1, h2⟩
    exact ⟨qa Q i, qa_mem.2 ⟨i, hi, rfl⟩, by simp [h1, h2]⟩
theorem vis_ext {Q : List QE} {b c : Nat} {r : List Nat} : ext Q (vis Q b c r) := by
  unfold vis
  split
  · exact ext.rf
  · refine ⟨by rw [List.length_append]; omega, fun k hk => qa_app hk⟩
/-- a function without two alike, into few -/
theorem pigeon : ∀ (m n : Nat) (f : Nat → Nat), (∀ i, i < n → f i < m) → (∀ i j, i < n → j < n → f i = f j → i = j) → n ≤ m
  | 0, n, f, h, _ => by
    cases n with
    | zero => exact Nat.le_refl _
    | succ n => exact absurd (h 0 (by omega)) (by omega)
  | m + 1, n, f, h, hi => by
    by_cases hx : ∃ i, i < n ∧ f i = m
    · obtain ⟨i, h1, h2⟩ := hx
      have := pigeon m (n - 1) (fun j => if j = i then f (n - 1) else f j) (fun j hj => by
        by_cases e : j = i
        · rw [if_pos e]
          have a1 := h (n - 1) (by omega)
          have a2 : f (n - 1) ≠ m := fun z => by
            have := hi (n - 1) i (by omega) h1 (by omega)
            omega
          omega
        · rw [if_neg e]
          have a1 := h j (by omega)
          have a2 : f j ≠ m := fun z => e (hi j i (by omega) h1 (by omega))
          omega) (fun j k hj hk e => by
        by_cases e1 : j = i
        · by_cases e2 : k = i
          · omega
          · rw [if_pos e1, if_neg e2] at e
            have := hi (n - 1) k (by omega) (by omega) e
            omega
        · by_cases e2 : k = i
          · rw [if_neg e1, if_pos e2] at e
            have := hi j (n - 1) (by omega) (by omega) e
            omega
          · rw [if_neg e1, if_neg e2] at e
            exact hi j k (by omega) (by omega) e)
      omega
    · have := pigeon m n f (fun i h1 => by
        have a1 := h i h1
        have a2 : f i ≠ m := fun z => hx ⟨i, h1, z⟩
        omega) hi
      omega
/-- places are places, no two alike, none longer come to than its number -/
def QI (Q : List QE) : Prop := (∀ i, i < Q.length → (qa Q i).1 ≤ 63 ∧ (qa Q i).2.1 ≤ 60 ∧ (qa Q i).2.2.length ≤ i) ∧ ∀ i j, i < Q.length → j < Q.length → pl (qa Q i) = pl (qa Q j) → i = j
theorem pl_inj {e f : QE} (h1 : e.2.1 ≤ 60) (h2 : f.2.1 ≤ 60) (h : pl e = pl f) : e.1 = f.1 ∧ e.2.1 = f.2.1 := by
  unfold pl at h
  omega
theorem QI.le {Q : List QE} (h : QI Q) : Q.length ≤ 3904 := pigeon 3904 Q.length (fun i => pl (qa Q i)) (fun i hi => by
  have := h.1 i hi
  unfold pl
  omega) (fun i j hi hj e => h.2 i j hi hj e)
theorem QI.vs {Q : List QE} (h : QI Q) {b c : Nat} {r : List Nat} (hb : b ≤ 63) (hc : c ≤ 60) (hr : r.length ≤ Q.length) : QI (vis Q b c r) := by
  unfold vis
  by_cases hx : hasQ Q b c = true
  · rw [if_pos hx]
    exact h
  · rw [if_neg hx]
    have hn : ∀ i, i < Q.length → pl (qa Q i) ≠ pl (b, c, r) := fun i hi e => by
      obtain ⟨e1, e2⟩ := pl_inj (h.1 i hi).2.1 hc e
      exact hx (has_iff.2 ⟨i, hi, e1, e2⟩)
    have hl : (Q ++ [(b, c, r)]).length = Q.length + 1 := by rw [List.length_append]; rfl
    refine ⟨fun i hi => ?_, fun i j hi hj e => ?_⟩
    · by_cases e : i = Q.length
      · subst e
        rw [qa_end]
        exact ⟨hb, hc, hr⟩
      · rw [qa_app (by omega)]
        exact h.1 i (by omega)
    · by_cases e1 : i = Q.length
      · by_cases e2 : j = Q.length
        · omega
        · exfalso
          subst e1
          rw [qa_end, qa_app (by omega)] at e
          exact hn j (by omega) e.symm
      · by_cases e2 : j = Q.length
        · exfalso
          subst e2
          rw [qa_end, qa_app (by omega)] at e
          exact hn i (by omega) e
        · rw [qa_app (by omega), qa_app (by omega)] at e
          exact h.2 i j (by omega) (by omega) e
theorem QI.lt {Q : List QE} (h : QI Q) {b c : Nat} (hb : b ≤ 63) (hc : c ≤ 60) (hx : hasQ Q b c = false) : Q.length < 3904 := by
  have := (h.vs (b := b) (c := c) (r := []) hb hc (Nat.zero_le _)).le
  unfold vis at this
  rw [if_neg (by rw [hx]; simp), List.length_append] at this
  have e : ([(b, c, ([] : List Nat))] : List QE).length = 1 := rfl
  omega
section B64
variable (S : SK) (cr wa h : Nat)
/-- one trick from a place -/
noncomputable def st1 (k t : Nat) (s : BS) : BS := if wk S t (qa s.1 k).1 = true then
    (if bd S cr wa (bb S t (qa s.1 k).1) (cb S t (qa s.1 k).2.1 h) h = true then s.1 else vis s.1 (bb S t (qa s.1 k).1) (cb S t (qa s.1 k).2.1 h) ((qa s.1 k).2.2 ++ [t]),
     if bd S cr wa (bb S t (qa s.1 k).1) (cb S t (qa s.1 k).2.1 h) h = true then some (s.2.1.getD ((qa s.1 k).2.2 ++ [t])) else s.2.1,
     s.2.2.1 ||| 2 ^ t, bb S t (qa s.1 k).1 :: s.2.2.2)
  else s
noncomputable def stT (k : Nat) : Nat → BS → BS
  | 0, s => s
  | t + 1, s => st1 S cr wa h k t (stT k t s)
noncomputable def stH (b0 c0 : Nat) : Nat → BS
  | 0 => ([(b0, c0, [])], none, 0, [b0])
  | k + 1 => if k < (stH b0 c0 k).1.length then stT S cr wa h k (nT S) (stH b0 c0 k) else stH b0 c0 k
end B64
section B64b
variable {S : SK} {cr wa h : Nat}
theorem st1_ext {k t : Nat} {s : BS} : ext s.1 (st1 S cr wa h k t s).1 := by
  unfold st1
  split
  · dsimp only
    split
    · exact ext.rf
    · exact vis_ext
  · exact ext.rf
theorem stT_ext {k : Nat} {s : BS} : ∀ t, ext s.1 (stT S cr wa h k t s).1
  | 0 => ext.rf
  | t + 1 => (stT_ext t).tr st1_ext
/-- what holds of all states: the places, the bits, the beliefs, the end found -/
def BI (s : BS) : Prop := QI s.1 ∧ s.2.2.1 < 256 ∧ (∀ b ∈ s.2.2.2, b ≤ 63) ∧ (∀ r, s.2.1 = some r → r ≠ [] ∧ r.length ≤ s.1.length ∧ ∀ t ∈ r, t < 8) ∧ ∀ i, i < s.1.length → ∀ t ∈ (qa s.1 i).2.2, t < 8
theorem st1_BI (hF : WF S) {k t : Nat} {s : BS} (hs : BI s) (hk : k < s.1.length) (ht : t < nT S) : BI (st1 S cr wa h k t s) := by
  obtain ⟨h1, h2, h3, h4, h5⟩ := hs
  have h8 := hF.2.1
  obtain ⟨q1, q2, q3⟩ := h1.1 k hk
  have hb := bb_le hF ht q1
  have hc := cb_le (S := S) (t := t) (h := h) q2
  have hrl : ((qa s.1 k).2.2 ++ [t]).length = (qa s.1 k).2.2.length + 1 := by rw [List.length_append]; rfl
  have hrt : ∀ x ∈ (qa s.1 k).2.2 ++ [t], x < 8 := by
    intro x hx
    rcases List.mem_append.1 hx with hx | hx
    · exact h5 k hk x hx
    · rw [List.mem_singleton.1 hx]
      omega
  have hn : (qa s.1 k).2.2 ++ [t] ≠ [] := by simp
  unfold st1
  by_cases hw : wk S t (qa s.1 k).1 = true
  · rw [if_pos hw]
    have hw2 : s.2.2.1 ||| 2 ^ t < 256 := Nat.or_lt_two_pow (n := 8) h2 (Nat.pow_lt_pow_right (by omega) (by omega))
    have hm : ∀ b ∈ bb S t (qa s.1 k).1 :: s.2.2.2, b ≤ 63 := by
      intro b hb'
      rcases List.mem_cons.1 hb' with rfl | hb'
      · exact hb
      · exact h3 b hb'
    by_cases hd : bd S cr wa (bb S t (qa s.1 k).1) (cb S t (qa s.1 k).2.1 h) h = true
    · rw [if_pos hd, if_pos hd]
      refine ⟨h1, hw2, hm, fun r hr => ?_, h5⟩
      dsimp only at hr ⊢
      injection hr with hr
      subst hr
      cases hg : s.2.1 with
      | none =>
        show (qa s.1 k).2.2 ++ [t] ≠ [] ∧ ((qa s.1 k).2.2 ++ [t]).length ≤ _ ∧ ∀ x ∈ (qa s.1 k).2.2 ++ [t], x < 8
        exact ⟨hn, by omega, hrt⟩
      | some r => exact h4 r hg
    · rw [if_neg hd, if_neg hd]
      have e := vis_ext (Q := s.1) (b := bb S t (qa s.1 k).1) (c := cb S t (qa s.1 k).2.1 h) (r := (qa s.1 k).2.2 ++ [t])
      refine ⟨h1.vs hb hc (by omega), hw2, hm, fun r hr => ?_, fun i hi => ?_⟩
      · obtain ⟨a1, a2, a3⟩ := h4 r hr
        exact ⟨a1, Nat.le_trans a2 e.1, a3⟩
      · dsimp only at hi ⊢
        by_cases hl : i < s.1.length
        · rw [e.2 i hl]
          exact h5 i hl
        · unfold vis at hi ⊢
          by_cases hx : hasQ s.1 (bb S t (qa s.1 k).1) (cb S t (qa s.1 k).2.1 h) = true
          · rw [if_pos hx] at hi
            omega
          · rw [if_neg hx] at hi ⊢
            have hl2 : (s.1 ++ [(bb S t (qa s.1 k).1, cb S t (qa s.1 k).2.1 h, (qa s.1 k).2.2 ++ [t])]).length = s.1.length + 1 := by rw [List.length_append]; rfl
            have : i = s.1.length := by omega
            subst this
            rw [qa_end]
            exact hrt
  · rw [if_neg hw]
    exact ⟨h1, h2, h3, h4, h5⟩
theorem stT_BI (hF : WF S) {k : Nat} {s : BS} (hs : BI s) (hk : k < s.1.length) : ∀ t, t ≤ nT S → BI (stT S cr wa h k t s)
  | 0, _ => hs
  | t + 1, ht => st1_BI hF (stT_BI hF hs hk t (by omega)) (Nat.lt_of_lt_of_le hk (stT_ext t).1) (by omega)
theorem stH_BI (hF : WF S) {b0 c0 : Nat} (hb : b0 ≤ 63) (hc : c0 ≤ 60) : ∀ k, BI (stH S cr wa h b0 c0 k)
  | 0 => by
    refine ⟨⟨fun i hi => ?_, fun i j hi hj _ => ?_⟩, (show (0 : Nat) < 256 by omega), fun b hb' => ?_, fun r hr => ?_, fun i hi t ht => ?_⟩
    · have : i = 0 := by have : i < 1 := hi; omega
      subst this
      exact ⟨hb, hc, Nat.le_refl _⟩
    · have : i < 1 := hi
      have : j < 1 := hj
      omega
    · have : b = b0 := List.mem_singleton.1 hb'
      omega
    · cases hr
    · have : i = 0 := by have : i < 1 := hi; omega
      subst this
      cases ht
  | k + 1 => by
    unfold stH
    split
    · rename_i hl
      exact stT_BI hF (stH_BI hF hb hc k) hl _ (Nat.le_refl _)
    · exact stH_BI hF hb hc k
theorem stH_stop {b0 c0 k : Nat} (hk : (stH S cr wa h b0 c0 k).1.length ≤ k) : ∀ j, stH S cr wa h b0 c0 (k + j) = stH S cr wa h b0 c0 k
  | 0 => rfl
  | j + 1 => by
    show (if k + j < (stH S cr wa h b0 c0 (k + j)).1.length then stT S cr wa h (k + j) (nT S) (stH S cr wa h b0 c0 (k + j)) else stH S cr wa h b0 c0 (k + j)) = _
    rw [stH_stop hk j, if_neg (by omega)]
theorem stF_ex (S : SK) (cr wa h b0 c0 : Nat) : ∃ s : BS, s = stH S cr wa h b0 c0 3904 := ⟨_, rfl⟩
/-- the whole search -/
noncomputable def stF (S : SK) (cr wa h b0 c0 : Nat) : BS := (stF_ex S cr wa h b0 c0).choose
theorem stF_df {b0 c0 : Nat} : stF S cr wa h b0 c0 = stH S cr wa h b0 c0 3904 := (stF_ex S cr wa h b0 c0).choose_spec
theorem stH_end {b0 c0 k : Nat} (hk : (stH S cr wa h b0 c0 k).1.length ≤ k) (h2 : k ≤ 3904) : stF S cr wa h b0 c0 = stH S cr wa h b0 c0 k := by
  rw [stF_df]
  have := stH_stop hk (3904 - k)
  rwa [show k + (3904 - k) = 3904 by omega] at this
theorem st1_goal {k t : Nat} {s : BS} {r : List Nat} (hg : s.2.1 = some r) : (st1 S cr wa h k t s).2.1 = some r := by
  unfold st1
  split
  · dsimp only
    split
    · rw [hg]
      rfl
    · exact hg
  · exact hg
theorem stT_goal {k : Nat} {s : BS} {r : List Nat} (hg : s.2.1 = some r) : ∀ t, (stT S cr wa h k t s).2.1 = some r
  | 0 => hg
  | t + 1 => st1_goal (stT_goal hg t)
theorem stT_goal2 {k : Nat} {s : BS} {r : List Nat} {t u : Nat} (htu : t ≤ u) (hg : (stT S cr wa h k t s).2.1 = some r) : (stT S cr wa h k u s).2.1 = some r := by
  obtain ⟨j, rfl⟩ : ∃ j, u = t + j := ⟨u - t, by omega⟩
  clear htu
  induction j with
  | zero => exact hg
  | succ j ih => exact st1_goal ih
theorem stH_goal {b0 c0 k : Nat} {r : List Nat} (hg : (stH S cr wa h b0 c0 k).2.1 = some r) : ∀ j, (stH S cr wa h b0 c0 (k + j)).2.1 = some r
  | 0 => hg
  | j + 1 => by
    show (if k + j < (stH S cr wa h b0 c0 (k + j)).1.length then stT S cr wa h (k + j) (nT S) (stH S cr wa h b0 c0 (k + j)) else stH S cr wa h b0 c0 (k + j)).2.1 = _
    split
    · exact stT_goal (stH_goal hg j) _
    · exact stH_goal hg j
theorem stH_goal2 {b0 c0 k : Nat} {r : List Nat} (hg : (stH S cr wa h b0 c0 k).2.1 = some r) (h2 : k ≤ 3904) : (stF S cr wa h b0 c0).2.1 = some r := by
  rw [stF_df]
  have := stH_goal hg (3904 - k)
  rwa [show k + (3904 - k) = 3904 by omega] at this
theorem stF_BI (hF : WF S) {b0 c0 : Nat} (hb : b0 ≤ 63) (hc : c0 ≤ 60) : BI (stF S cr wa h b0 c0) := by
  rw [stF_df]
  exact stH_BI hF hb hc 3904
end B64b

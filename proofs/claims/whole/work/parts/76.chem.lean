/-! ===== cheapest, on the model's side ===== -/
/-- places, prices, the best end, whether something changed -/
abbrev KS : Type := List QE × (Nat → Nat) × Option Nat × Bool
def u1 (f : Nat → Nat) (p v : Nat) : Nat → Nat := fun q => if q = p then v else f q
theorem u1_eq {f : Nat → Nat} {p v : Nat} : u1 f p v p = v := if_pos rfl
theorem u1_ne {f : Nat → Nat} {p v q : Nat} (h : q ≠ p) : u1 f p v q = f q := if_neg h
def sm (f : Nat → Nat) : Nat → Nat
  | 0 => 0
  | n + 1 => sm f n + f n
theorem sm_congr {f g : Nat → Nat} : ∀ n, (∀ i, i < n → f i = g i) → sm f n = sm g n
  | 0, _ => rfl
  | n + 1, h => by
    unfold sm
    rw [sm_congr n (fun i hi => h i (by omega)), h n (by omega)]
theorem sm_lt {f g : Nat → Nat} {k : Nat} : ∀ n, k < n → (∀ i, i < n → i ≠ k → f i = g i) → f k < g k → sm f n < sm g n
  | 0, hk, _, _ => by omega
  | n + 1, hk, h, hl => by
    unfold sm
    by_cases e : k = n
    · subst e
      rw [sm_congr k (fun i hi => h i (by omega) (by omega))]
      omega
    · have := sm_lt n (show k < n by omega) (fun i hi => h i (by omega)) hl
      rw [h n (by omega) (fun z => e z.symm)]
      omega
def phi (s : KS) : Nat := (3904 - s.1.length) * 100000 + sm (fun i => s.2.1 (pl (qa s.1 i))) s.1.length
section B76
variable {S : SK} {cr wa h b0 c0 : Nat}
noncomputable def cs1 (S : SK) (cr wa h k t : Nat) (s : KS) : KS := if wk S t (qa s.1 k).1 = true then
    (if bd S cr wa (bb S t (qa s.1 k).1) (cb S t (qa s.1 k).2.1 h) h = true then (s.1, s.2.1, bmin s.2.2.1 (s.2.1 (pl (qa s.1 k)) + tri S t 5), s.2.2.2)
    else (if hasQ s.1 (bb S t (qa s.1 k).1) (cb S t (qa s.1 k).2.1 h) = true ∧ s.2.1 (61 * bb S t (qa s.1 k).1 + cb S t (qa s.1 k).2.1 h) ≤ s.2.1 (pl (qa s.1 k)) + tri S t 5 then s
      else (vis s.1 (bb S t (qa s.1 k).1) (cb S t (qa s.1 k).2.1 h) ((qa s.1 k).2.2 ++ [t]), u1 s.2.1 (61 * bb S t (qa s.1 k).1 + cb S t (qa s.1 k).2.1 h) (s.2.1 (pl (qa s.1 k)) + tri S t 5), s.2.2.1, true)))
  else s
def MI (S : SK) (cr wa h b0 c0 : Nat) (s : KS) : Prop := QI s.1 ∧ (∀ i, i < s.1.length → (∃ r, wy S cr wa h b0 c0 r = some ((qa s.1 i).1, (qa s.1 i).2.1, s.2.1 (pl (qa s.1 i)))) ∧ s.2.1 (pl (qa s.1 i)) ≤ 20 * i) ∧ (∀ k, s.2.2.1 = some k → Pln S cr wa h b0 c0 k ∧ k ≤ 78080) ∧ 0 < s.1.length ∧ (qa s.1 0).1 = b0 ∧ (qa s.1 0).2.1 = c0
def Rx (S : SK) (cr wa h : Nat) (s : KS) (k t : Nat) : Prop := wk S t (qa s.1 k).1 = true → (bd S cr wa (bb S t (qa s.1 k).1) (cb S t (qa s.1 k).2.1 h) h = true → ∃ m, s.2.2.1 = some m ∧ m ≤ s.2.1 (pl (qa s.1 k)) + tri S t 5) ∧ (bd S cr wa (bb S t (qa s.1 k).1) (cb S t (qa s.1 k).2.1 h) h = false → ∃ i, i < s.1.length ∧ (qa s.1 i).1 = bb S t (qa s.1 k).1 ∧ (qa s.1 i).2.1 = cb S t (qa s.1 k).2.1 h ∧ s.2.1 (pl (qa s.1 i)) ≤ s.2.1 (pl (qa s.1 k)) + tri S t 5)
def RI (S : SK) (cr wa h : Nat) (s : KS) (k t : Nat) : Prop := s.2.2.2 = false → ∀ k' t', t' < nT S → k' < s.1.length → (k' < k ∨ (k' = k ∧ t' < t)) → Rx S cr wa h s k' t'
theorem cs1_ok (hF : WF S) {k t : Nat} {s : KS} (hI : MI S cr wa h b0 c0 s) (hk : k < s.1.length) (ht : t < nT S) (hR : RI S cr wa h s k t) : MI S cr wa h b0 c0 (cs1 S cr wa h k t s) ∧ ext s.1 (cs1 S cr wa h k t s).1 ∧ RI S cr wa h (cs1 S cr wa h k t s) k (t + 1) ∧ phi (cs1 S cr wa h k t s) ≤ phi s ∧ (s.2.2.2 = false → (cs1 S cr wa h k t s).2.2.2 = true → phi (cs1 S cr wa h k t s) < phi s) := by
  obtain ⟨Q, pr, o, fl⟩ := s
  obtain ⟨m1, m2, m3, m4, m5, m6⟩ := hI
  dsimp only at m1 m2 m3 m4 m5 m6 hk
  have hct := (hF.2.2.2.2.2.1 t ht).2.2.2.2.2
  have hle := m1.le
  obtain ⟨q1, q2, q3⟩ := m1.1 k hk
  obtain ⟨⟨r, hr⟩, hpk⟩ := m2 k hk
  unfold cs1
  dsimp only
  -- nothing new, and the edge is as it should be
  have idle : Rx S cr wa h (Q, pr, o, fl) k t → MI S cr wa h b0 c0 (Q, pr, o, fl) ∧ ext Q Q ∧ RI S cr wa h (Q, pr, o, fl) k (t + 1) ∧ phi (Q, pr, o, fl) ≤ phi (Q, pr, o, fl) ∧ (fl = false → fl = true → phi (Q, pr, o, fl) < phi (Q, pr, o, fl)) := fun hx => ⟨⟨m1, m2, m3, m4, m5, m6⟩, ext.rf, fun hf k' t' y1 y2 y3 => by
    by_cases e : k' = k ∧ t' = t
    · rw [e.1, e.2]
      exact hx
    · exact hR hf k' t' y1 y2 (by omega), Nat.le_refl _, fun a b => by rw [a] at b; cases b⟩
  by_cases hw : wk S t (qa Q k).1 = true
  · rw [if_pos hw]
    have hbb := bb_le hF ht q1
    have hcb := cb_le (S := S) (t := t) (h := h) q2
    by_cases hd : bd S cr wa (bb S t (qa Q k).1) (cb S t (qa Q k).2.1 h) h = true
    · rw [if_pos hd]
      obtain ⟨m, n1, n2, n3, n4⟩ := bmin_le (o := o) (k := pr (pl (qa Q k)) + tri S t 5)
      refine ⟨⟨m1, m2, fun q hq => ?_, m4, m5, m6⟩, ext.rf, fun hf k' t' y1 y2 y3 => ?_, Nat.le_refl _, fun a b => by dsimp only at a b; rw [a] at b; cases b⟩
      · dsimp only at hq
        rw [n1] at hq
        have hq := Option.some.inj hq
        rcases n4 with e | e
        · exact ⟨⟨r, t, _, _, _, hr, ht, hw, hd, by omega⟩, by omega⟩
        · rw [← hq]
          exact m3 m e
      · by_cases e : k' = k ∧ t' = t
        · rw [e.1, e.2]
          exact fun _ => ⟨fun _ => ⟨m, n1, n2⟩, fun q => by dsimp only at q; rw [hd] at q; cases q⟩
        · intro hw'
          obtain ⟨y4, y5⟩ := hR hf k' t' y1 y2 (by omega) hw'
          refine ⟨fun q => ?_, y5⟩
          obtain ⟨m', w1, w2⟩ := y4 q
          have := n3 m' w1
          exact ⟨m, n1, Nat.le_trans this w2⟩
    · rw [if_neg hd]
      have hd0 : bd S cr wa (bb S t (qa Q k).1) (cb S t (qa Q k).2.1 h) h = false := by simpa using hd
      by_cases hg : hasQ Q (bb S t (qa Q k).1) (cb S t (qa Q k).2.1 h) = true ∧ pr (61 * bb S t (qa Q k).1 + cb S t (qa Q k).2.1 h) ≤ pr (pl (qa Q k)) + tri S t 5
      · rw [if_pos hg]
        obtain ⟨i, i1, i2, i3⟩ := has_iff.1 hg.1
        refine idle (fun _ => ⟨fun q => (by dsimp only at q; rw [hd0] at q; cases q), fun _ => ⟨i, i1, i2, i3, ?_⟩⟩)
        have : pl (qa Q i) = 61 * bb S t (qa Q k).1 + cb S t (qa Q k).2.1 h := by
          unfold pl
          rw [i2, i3]
        dsimp only
        rw [this]
        exact hg.2
      · rw [if_neg hg]
        have hrow := (m1.1 k hk).2.2
        have hwy : wy S cr wa h b0 c0 (t :: r) = some (bb S t (qa Q k).1, cb S t (qa Q k).2.1 h, pr (pl (qa Q k)) + tri S t 5) := by
          unfold wy
          rw [hr]
          dsimp only
          rw [if_pos ⟨ht, hw, hd0⟩]
        have hx := vis_ext (Q := Q) (b := bb S t (qa Q k).1) (c := cb S t (qa Q k).2.1 h) (r := (qa Q k).2.2 ++ [t])
        have hq' : QI (vis Q (bb S t (qa Q k).1) (cb S t (qa Q k).2.1 h) ((qa Q k).2.2 ++ [t])) := m1.vs hbb hcb (by rw [List.length_append]; show (qa Q k).2.2.length + 1 ≤ _; omega)
        generalize hbe : bb S t (qa Q k).1 = b' at *
        generalize hce : cb S t (qa Q k).2.1 h = c' at *
        generalize hve : pr (pl (qa Q k)) + tri S t 5 = v at *
        by_cases hh : hasQ Q b' c' = true
        · -- a known place, cheaper
          have hlt : v < pr (61 * b' + c') := by
            have : ¬ pr (61 * b' + c') ≤ v := fun q => hg ⟨hh, q⟩
            omega
          obtain ⟨i0, i1, i2, i3⟩ := has_iff.1 hh
          have ep : pl (qa Q i0) = 61 * b' + c' := by
            unfold pl
            rw [i2, i3]
          have ev : vis Q b' c' ((qa Q k).2.2 ++ [t]) = Q := by
            unfold vis
            rw [if_pos hh]
          rw [ev]
          have hne : ∀ i, i < Q.length → i ≠ i0 → pl (qa Q i) ≠ 61 * b' + c' := fun i z1 z2 z3 => z2 (m1.2 i i0 z1 i1 (by rw [z3, ep]))
          refine ⟨⟨m1, fun i hi => ?_, m3, m4, m5, m6⟩, ext.rf, fun hf => (by cases hf), ?_, ?_⟩
          · dsimp only at hi ⊢
            by_cases e : i = i0
            · rw [e, ep, u1_eq, i2, i3]
              have := (m2 i0 i1).2
              rw [ep] at this
              exact ⟨⟨t :: r, hwy⟩, by omega⟩
            · rw [u1_ne (hne i hi e)]
              exact m2 i hi
          all_goals
            have key : phi (Q, u1 pr (61 * b' + c') v, o, true) < phi (Q, pr, o, fl) := by
              have := sm_lt (f := fun i => u1 pr (61 * b' + c') v (pl (qa Q i))) (g := fun i => pr (pl (qa Q i))) (k := i0) Q.length i1 (fun i hi hn => u1_ne (hne i hi hn)) (by rw [ep, u1_eq]; exact hlt)
              unfold phi
              dsimp only
              omega
          · exact Nat.le_of_lt key
          · exact fun _ _ => key
        · have hh0 : hasQ Q b' c' = false := by simpa using hh
          have hlt := m1.lt hbb hcb hh0
          have ev : vis Q b' c' ((qa Q k).2.2 ++ [t]) = Q ++ [(b', c', (qa Q k).2.2 ++ [t])] := by
            unfold vis
            rw [if_neg hh]
          rw [ev] at hx hq' ⊢
          have ll : (Q ++ [(b', c', (qa Q k).2.2 ++ [t])]).length = Q.length + 1 := by rw [List.length_append]; rfl
          have hne : ∀ i, i < Q.length → pl (qa Q i) ≠ 61 * b' + c' := fun i hi z => by
            obtain ⟨e1, e2⟩ := pl_inj (f := (b', c', [])) (m1.1 i hi).2.1 hcb z
            exact hh (has_iff.2 ⟨i, hi, e1, e2⟩)
          refine ⟨⟨hq', fun i hi => ?_, m3, by dsimp only; omega, by dsimp only; rw [qa_app m4]; exact m5, by dsimp only; rw [qa_app m4]; exact m6⟩, hx, fun hf => (by cases hf), ?_, ?_⟩
          · dsimp only at hi ⊢
            by_cases e : i = Q.length
            · rw [e, qa_end]
              dsimp only
              have : pl (b', c', (qa Q k).2.2 ++ [t]) = 61 * b' + c' := rfl
              rw [this, u1_eq]
              exact ⟨⟨t :: r, hwy⟩, by omega⟩
            · rw [qa_app (by omega), u1_ne (hne i (by omega))]
              exact m2 i (by omega)
          all_goals
            have key : phi (Q ++ [(b', c', (qa Q k).2.2 ++ [t])], u1 pr (61 * b' + c') v, o, true) < phi (Q, pr, o, fl) := by
              unfold phi
              dsimp only
              rw [ll]
              have e1 : sm (fun i => u1 pr (61 * b' + c') v (pl (qa (Q ++ [(b', c', (qa Q k).2.2 ++ [t])]) i))) (Q.length + 1) = sm (fun i => pr (pl (qa Q i))) Q.length + v := by
                show sm _ Q.length + u1 pr (61 * b' + c') v (pl (qa (Q ++ [(b', c', (qa Q k).2.2 ++ [t])]) Q.length)) = _
                rw [qa_end]
                have : pl (b', c', (qa Q k).2.2 ++ [t]) = 61 * b' + c' := rfl
                rw [this, u1_eq, sm_congr Q.length (fun i hi => by rw [qa_app hi, u1_ne (hne i hi)])]
              rw [e1]
              have e2 : 3904 - Q.length = (3904 - (Q.length + 1)) + 1 := by omega
              rw [e2, Nat.add_mul]
              omega
          · exact Nat.le_of_lt key
          · exact fun _ _ => key
  · rw [if_neg hw]
    exact idle (fun q => absurd q hw)
/-- nothing changed in a whole round: the answer is right -/
theorem MI_end (hF : WF S) {s : KS} (hI : MI S cr wa h b0 c0 s) (hf : s.2.2.2 = false) (hR : RI S cr wa h s s.1.length 0) (hp0 : s.2.1 (pl (qa s.1 0)) = 0) : CSp S cr wa h b0 c0 (bI s.2.2.1) := by
  obtain ⟨m1, m2, m3, m4, m5, m6⟩ := hI
  have hR := hR hf
  have reach : ∀ r b c q, wy S cr wa h b0 c0 r = some (b, c, q) → ∃ i, i < s.1.length ∧ (qa s.1 i).1 = b ∧ (qa s.1 i).2.1 = c ∧ s.2.1 (pl (qa s.1 i)) ≤ q := by
    intro r
    induction r with
    | nil =>
      intro b c q hr
      unfold wy at hr
      have hr := Option.some.inj hr
      injection hr with e1 e2
      injection e2 with e2 e3
      subst e1; subst e2; subst e3
      exact ⟨0, m4, m5, m6, by omega⟩
    | cons t r ih =>
      intro b c q hr
      unfold wy at hr
      cases hx : wy S cr wa h b0 c0 r with
      | none =>
        rw [hx] at hr
        cases hr
      | some y =>
        obtain ⟨b1, c1, k⟩ := y
        rw [hx] at hr
        dsimp only at hr
        split at hr
        · rename_i hy
          obtain ⟨i, g1, g2, g3, g4⟩ := ih b1 c1 k hx
          have hr := Option.some.inj hr
          injection hr with e1 e2
          injection e2 with e2 e3
          subst e1; subst e2; subst e3
          obtain ⟨-, d2⟩ := hR i t hy.1 g1 (Or.inl g1) (by rw [g2]; exact hy.2.1)
          rw [g2, g3] at d2
          obtain ⟨i', x1, x2, x3, x4⟩ := d2 hy.2.2
          exact ⟨i', x1, x2, x3, by omega⟩
        · cases hr
  have best : ∀ k, Pln S cr wa h b0 c0 k → ∃ m, s.2.2.1 = some m ∧ m ≤ k := by
    rintro k ⟨r, t, b, c, q, h1, h2, h3, h4, rfl⟩
    obtain ⟨i, g1, g2, g3, g4⟩ := reach r b c q h1
    obtain ⟨d1, -⟩ := hR i t h2 g1 (Or.inl g1) (by rw [g2]; exact h3)
    rw [g2, g3] at d1
    obtain ⟨m, x1, x2⟩ := d1 h4
    exact ⟨m, x1, by omega⟩
  cases ho : s.2.2.1 with
  | none =>
    refine Or.inl ⟨rfl, fun k hk => ?_⟩
    obtain ⟨m, x1, -⟩ := best k hk
    rw [ho] at x1
    cases x1
  | some m =>
    refine Or.inr ⟨m, rfl, (m3 m ho).1, fun k hk => ?_⟩
    obtain ⟨m', x1, x2⟩ := best k hk
    rw [ho] at x1
    have := Option.some.inj x1
    omega
end B76

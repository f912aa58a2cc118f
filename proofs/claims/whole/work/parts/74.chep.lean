/-! ===== cheapest, purely ===== -/
section B74
variable (S : SK) (cr wa h b0 c0 : Nat)
/-- tricks, the last one first: the place behind them, and what they cost; none binds -/
noncomputable def wy : List Nat → Option (Nat × Nat × Nat)
  | [] => some (b0, c0, 0)
  | t :: r => match wy r with
    | none => none
    | some (b, c, k) => if t < nT S ∧ wk S t b = true ∧ bd S cr wa (bb S t b) (cb S t c h) h = false then some (bb S t b, cb S t c h, k + tri S t 5) else none
/-- there is a plan at this cost -/
def Pln (k : Nat) : Prop := ∃ r t b c q, wy S cr wa h b0 c0 r = some (b, c, q) ∧ t < nT S ∧ wk S t b = true ∧ bd S cr wa (bb S t b) (cb S t c h) h = true ∧ k = q + tri S t 5
def CSp (v : Int) : Prop := (v = -1 ∧ ∀ k, ¬ Pln S cr wa h b0 c0 k) ∨ ∃ m : Nat, v = (m : Int) ∧ Pln S cr wa h b0 c0 m ∧ ∀ k, Pln S cr wa h b0 c0 k → m ≤ k
theorem CSp_u {v w : Int} (h1 : CSp S cr wa h b0 c0 v) (h2 : CSp S cr wa h b0 c0 w) : v = w := by
  rcases h1 with ⟨a1, a2⟩ | ⟨m, a1, a2, a3⟩
  · rcases h2 with ⟨c1, c2⟩ | ⟨n, c1, c2, c3⟩
    · rw [a1, c1]
    · exact absurd c2 (a2 n)
  · rcases h2 with ⟨c1, c2⟩ | ⟨n, c1, c2, c3⟩
    · exact absurd a2 (c2 m)
    · have := a3 n c2
      have := c3 m a2
      omega
noncomputable def cheS : Int := Classical.epsilon (fun v => CSp S cr wa h b0 c0 v)
theorem cheS_eq {v : Int} (h1 : CSp S cr wa h b0 c0 v) : v = cheS S cr wa h b0 c0 := CSp_u S cr wa h b0 c0 h1 (Classical.epsilon_spec ⟨v, h1⟩)
end B74
theorem cb_ge {S : SK} {t c h : Nat} (hc : c ≤ 60) : c ≤ cb S t c h := by
  unfold cb
  split <;> omega
/-- seen, waiting, costs: by beliefs and cord -/
abbrev DS : Type := (Nat → Nat → Bool) × (Nat → Nat → Bool) × (Nat → Nat → Nat)
def u2 {α : Type} (f : Nat → Nat → α) (b c : Nat) (x : α) : Nat → Nat → α := fun b' c' => if b' = b ∧ c' = c then x else f b' c'
theorem u2_eq {α : Type} {f : Nat → Nat → α} {b c : Nat} {x : α} : u2 f b c x b c = x := if_pos ⟨rfl, rfl⟩
theorem u2_ne {α : Type} {f : Nat → Nat → α} {b c b' c' : Nat} {x : α} (h : ¬ (b' = b ∧ c' = c)) : u2 f b c x b' c' = f b' c' := if_neg h
def imp (z : DS) (b c k : Nat) : DS := if z.1 b c = true ∧ z.2.2 b c ≤ k then z else (u2 z.1 b c true, u2 z.2.1 b c true, u2 z.2.2 b c k)
def bmin (o : Option Nat) (k : Nat) : Option Nat := match o with
  | none => some k
  | some m => if k < m then some k else some m
theorem bmin_le {o : Option Nat} {k : Nat} : ∃ m, bmin o k = some m ∧ m ≤ k ∧ (∀ q, o = some q → m ≤ q) ∧ (m = k ∨ o = some m) := by
  cases o with
  | none => exact ⟨k, rfl, Nat.le_refl _, fun q hq => (by cases hq), Or.inl rfl⟩
  | some q =>
    unfold bmin
    by_cases h : k < q
    · exact ⟨k, if_pos h, Nat.le_refl _, fun q' hq => by cases hq; omega, Or.inl rfl⟩
    · exact ⟨q, if_neg h, by omega, fun q' hq => by cases hq; exact Nat.le_refl _, Or.inr rfl⟩
theorem imp_ok (z : DS) (b c k : Nat) : (imp z b c k).1 b c = true ∧ (imp z b c k).2.2 b c ≤ k ∧ (∀ b' c', z.1 b' c' = true → (imp z b c k).1 b' c' = true ∧ (imp z b c k).2.2 b' c' ≤ z.2.2 b' c') ∧ (∀ b' c', ¬ (b' = b ∧ c' = c) → (imp z b c k).1 b' c' = z.1 b' c' ∧ (imp z b c k).2.1 b' c' = z.2.1 b' c' ∧ (imp z b c k).2.2 b' c' = z.2.2 b' c') ∧ (imp z b c k = z ∨ ((imp z b c k).2.1 b c = true ∧ (imp z b c k).2.2 b c = k ∧ ¬ (z.1 b c = true ∧ z.2.2 b c ≤ k))) := by
  unfold imp
  by_cases hx : z.1 b c = true ∧ z.2.2 b c ≤ k
  · rw [if_pos hx]
    exact ⟨hx.1, hx.2, fun b' c' hz => ⟨hz, Nat.le_refl _⟩, fun b' c' _ => ⟨rfl, rfl, rfl⟩, Or.inl rfl⟩
  · rw [if_neg hx]
    refine ⟨u2_eq, (by dsimp only; rw [u2_eq]; exact Nat.le_refl _), fun b' c' hz => ?_, fun b' c' hn => ⟨u2_ne hn, u2_ne hn, u2_ne hn⟩, Or.inr ⟨u2_eq, u2_eq, hx⟩⟩
    by_cases e : b' = b ∧ c' = c
    · obtain ⟨rfl, rfl⟩ := e
      refine ⟨u2_eq, ?_⟩
      dsimp only
      rw [u2_eq]
      have : ¬ z.2.2 b' c' ≤ k := fun q => hx ⟨hz, q⟩
      omega
    · dsimp only
      rw [u2_ne e, u2_ne e]
      exact ⟨hz, Nat.le_refl _⟩
section B74b
variable {S : SK} {cr wa h b0 c0 : Nat}
/-- what holds while it is reckoned: of the edges from those done, but not yet (xb, xc) by xt and on -/
def LI (S : SK) (cr wa h b0 c0 E xb xc xt : Nat) (z : DS) (o : Option Nat) : Prop :=
  (∀ b c, b ≤ 63 → c ≤ 60 → z.1 b c = true → (∃ r, wy S cr wa h b0 c0 r = some (b, c, z.2.2 b c)) ∧ z.2.2 b c ≤ 20 * E) ∧
  (∀ b c, b ≤ 63 → c ≤ 60 → z.2.1 b c = true → z.1 b c = true) ∧
  (∀ k, o = some k → Pln S cr wa h b0 c0 k ∧ k ≤ 20 * E) ∧
  (∀ b c, b ≤ 63 → c ≤ 60 → z.1 b c = true → z.2.1 b c = false → ∀ t, t < nT S → wk S t b = true → ¬ (b = xb ∧ c = xc ∧ xt ≤ t) → (bd S cr wa (bb S t b) (cb S t c h) h = true → ∃ k, o = some k ∧ k ≤ z.2.2 b c + tri S t 5) ∧ (bd S cr wa (bb S t b) (cb S t c h) h = false → z.1 (bb S t b) (cb S t c h) = true ∧ z.2.2 (bb S t b) (cb S t c h) ≤ z.2.2 b c + tri S t 5)) ∧
  z.1 b0 c0 = true ∧ z.2.2 b0 c0 = 0
/-- .. at one cord: nothing waits below; those done there cost p at most, those that wait p at least -/
def LZ (c p : Nat) (Z : List Nat) (z : DS) : Prop := (∀ b' c', b' ≤ 63 → c' < c → z.2.1 b' c' = false) ∧ (∀ x ∈ Z, z.1 x c = true ∧ z.2.1 x c = false ∧ z.2.2 x c ≤ p) ∧ ∀ b', b' ≤ 63 → z.2.1 b' c = true → p ≤ z.2.2 b' c
noncomputable def pf1 (S : SK) (cr wa h b c p t : Nat) (s : DS × Option Nat) : DS × Option Nat := if wk S t b = true then (if bd S cr wa (bb S t b) (cb S t c h) h = true then (s.1, bmin s.2 (p + tri S t 5)) else (imp s.1 (bb S t b) (cb S t c h) (p + tri S t 5), s.2)) else s
theorem pf1_ok (hF : WF S) {E b c p t : Nat} {Z : List Nat} {s : DS × Option Nat} (hb : b ≤ 63) (hc : c ≤ 60) (ht : t < nT S) (hl : LI S cr wa h b0 c0 E b c t s.1 s.2) (hz : LZ c p Z s.1) (h1 : s.1.1 b c = true) (h2 : s.1.2.1 b c = false) (h3 : s.1.2.2 b c = p) (hp : p + 20 ≤ 20 * E) :
    LI S cr wa h b0 c0 E b c (t + 1) (pf1 S cr wa h b c p t s).1 (pf1 S cr wa h b c p t s).2 ∧ LZ c p Z (pf1 S cr wa h b c p t s).1 ∧ (pf1 S cr wa h b c p t s).1.1 b c = true ∧ (pf1 S cr wa h b c p t s).1.2.1 b c = false ∧ (pf1 S cr wa h b c p t s).1.2.2 b c = p := by
  obtain ⟨z, o⟩ := s
  dsimp only at hl hz h1 h2 h3
  obtain ⟨lA, lB, lC, lD, lE, lE2⟩ := hl
  have hct := (hF.2.2.2.2.2.1 t ht).2.2.2.2.2
  obtain ⟨⟨r, hr⟩, -⟩ := lA b c hb hc h1
  rw [h3] at hr
  unfold pf1
  by_cases hw : wk S t b = true
  · rw [if_pos hw]
    by_cases hd : bd S cr wa (bb S t b) (cb S t c h) h = true
    · rw [if_pos hd]
      obtain ⟨m, m1, m2, m3, m4⟩ := bmin_le (o := o) (k := p + tri S t 5)
      refine ⟨⟨lA, lB, fun k hk => ?_, fun b' c' x1 x2 x3 x4 t' x5 x6 x7 => ?_, lE, lE2⟩, hz, h1, h2, h3⟩
      · rw [m1] at hk
        have hk := Option.some.inj hk
        rcases m4 with e | e
        · refine ⟨⟨r, t, b, c, p, hr, ht, hw, hd, by omega⟩, by omega⟩
        · obtain ⟨y1, y2⟩ := lC m e
          rw [← hk]
          exact ⟨y1, y2⟩
      · by_cases e : b' = b ∧ c' = c ∧ t' = t
        · obtain ⟨rfl, rfl, rfl⟩ := e
          exact ⟨fun _ => ⟨m, m1, by dsimp only; rw [h3]; exact m2⟩, fun q => by rw [hd] at q; cases q⟩
        · obtain ⟨y1, y2⟩ := lD b' c' x1 x2 x3 x4 t' x5 x6 (fun q => by
            obtain ⟨q1, q2, q3⟩ := q
            by_cases et : t' = t
            · exact e ⟨q1, q2, et⟩
            · exact x7 ⟨q1, q2, by omega⟩)
          refine ⟨fun q => ?_, y2⟩
          obtain ⟨k, k1, k2⟩ := y1 q
          have := m3 k k1
          exact ⟨m, m1, by dsimp only; omega⟩
    · rw [if_neg hd]
      have hd0 : bd S cr wa (bb S t b) (cb S t c h) h = false := by simpa using hd
      have hbb := bb_le hF ht hb
      have hcb := cb_le (S := S) (t := t) (h := h) hc
      have hcg := cb_ge (S := S) (t := t) (h := h) hc
      obtain ⟨i1, i2, i3, i4, i5⟩ := imp_ok z (bb S t b) (cb S t c h) (p + tri S t 5)
      have hwy : wy S cr wa h b0 c0 (t :: r) = some (bb S t b, cb S t c h, p + tri S t 5) := by
        unfold wy
        rw [hr]
        dsimp only
        rw [if_pos ⟨ht, hw, hd0⟩]
      -- those that stay as they were
      have same : ∀ b' c', z.1 b' c' = true → z.2.2 b' c' ≤ p + tri S t 5 → (imp z (bb S t b) (cb S t c h) (p + tri S t 5)).2.1 b' c' = z.2.1 b' c' ∧ (imp z (bb S t b) (cb S t c h) (p + tri S t 5)).2.2 b' c' = z.2.2 b' c' := by
        intro b' c' q1 q2
        by_cases e : b' = bb S t b ∧ c' = cb S t c h
        · rcases i5 with e5 | ⟨-, -, e5⟩
          · rw [e5]
            exact ⟨rfl, rfl⟩
          · rw [e.1, e.2] at q1 q2
            exact absurd ⟨q1, q2⟩ e5
        · exact (i4 b' c' e).2
      have keep : (imp z (bb S t b) (cb S t c h) (p + tri S t 5)).1 b c = true ∧ (imp z (bb S t b) (cb S t c h) (p + tri S t 5)).2.1 b c = false ∧ (imp z (bb S t b) (cb S t c h) (p + tri S t 5)).2.2 b c = p := by
        obtain ⟨q1, q2⟩ := same b c h1 (by omega)
        exact ⟨(i3 b c h1).1, q1.trans h2, q2.trans h3⟩
      refine ⟨⟨fun b' c' x1 x2 x3 => ?_, fun b' c' x1 x2 x3 => ?_, lC, fun b' c' x1 x2 x3 x4 t' x5 x6 x7 => ?_, (i3 b0 c0 lE).1, ?_⟩, ⟨fun b' c' x1 x2 => ?_, fun x hx => ?_, fun b' x1 x2 => ?_⟩, keep⟩
      · dsimp only at x3 ⊢
        by_cases e : b' = bb S t b ∧ c' = cb S t c h
        · obtain ⟨rfl, rfl⟩ := e
          rcases i5 with e5 | ⟨-, e5, -⟩
          · rw [e5] at x3 ⊢
            exact lA _ _ x1 x2 x3
          · rw [e5]
            exact ⟨⟨t :: r, hwy⟩, by omega⟩
        · obtain ⟨q1, q2, q3⟩ := i4 b' c' e
          rw [q1] at x3
          rw [q3]
          exact lA b' c' x1 x2 x3
      · dsimp only at x3 ⊢
        by_cases e : b' = bb S t b ∧ c' = cb S t c h
        · obtain ⟨rfl, rfl⟩ := e
          exact i1
        · obtain ⟨q1, q2, q3⟩ := i4 b' c' e
          rw [q2] at x3
          rw [q1]
          exact lB b' c' x1 x2 x3
      · dsimp only at x3 x4 ⊢
        -- one that is done is as it was
        have old : z.1 b' c' = true ∧ z.2.1 b' c' = false ∧ (imp z (bb S t b) (cb S t c h) (p + tri S t 5)).2.2 b' c' = z.2.2 b' c' := by
          by_cases e : b' = bb S t b ∧ c' = cb S t c h
          · rcases i5 with e5 | ⟨e5, -, -⟩
            · rw [e5] at x3 x4 ⊢
              exact ⟨x3, x4, rfl⟩
            · rw [e.1, e.2, e5] at x4
              cases x4
          · obtain ⟨q1, q2, q3⟩ := i4 b' c' e
            exact ⟨q1 ▸ x3, q2 ▸ x4, q3⟩
        rw [old.2.2]
        by_cases e : b' = b ∧ c' = c ∧ t' = t
        · obtain ⟨rfl, rfl, rfl⟩ := e
          refine ⟨fun q => (by rw [hd0] at q; cases q), fun _ => ⟨i1, ?_⟩⟩
          rw [h3]
          exact i2
        · obtain ⟨y1, y2⟩ := lD b' c' x1 x2 old.1 old.2.1 t' x5 x6 (fun q => by
            obtain ⟨q1, q2, q3⟩ := q
            by_cases et : t' = t
            · exact e ⟨q1, q2, et⟩
            · exact x7 ⟨q1, q2, by omega⟩)
          refine ⟨y1, fun q => ?_⟩
          obtain ⟨k1, k2⟩ := y2 q
          obtain ⟨n1, n2⟩ := i3 _ _ k1
          exact ⟨n1, Nat.le_trans n2 k2⟩
      · have := (i3 b0 c0 lE).2
        dsimp only
        omega
      · dsimp only
        rw [(i4 b' c' (fun e => by omega)).2.1]
        exact hz.1 b' c' x1 x2
      · dsimp only
        obtain ⟨y1, y2, y3⟩ := hz.2.1 x hx
        obtain ⟨q1, q2⟩ := same x c y1 (by omega)
        exact ⟨(i3 x c y1).1, q1.trans y2, by rw [q2]; exact y3⟩
      · dsimp only at x2 ⊢
        by_cases e : b' = bb S t b ∧ c = cb S t c h
        · rcases i5 with e5 | ⟨-, e5, -⟩
          · rw [e5] at x2 ⊢
            exact hz.2.2 b' x1 x2
          · have gen : ∀ x y, x = bb S t b → y = cb S t c h → (imp z (bb S t b) (cb S t c h) (p + tri S t 5)).2.2 x y = p + tri S t 5 := fun x y e1 e2 => by
              rw [e1, e2]
              exact e5
            have := gen b' c e.1 e.2
            omega
        · obtain ⟨q1, q2, q3⟩ := i4 b' c e
          rw [q2] at x2
          rw [q3]
          exact hz.2.2 b' x1 x2
  · rw [if_neg hw]
    refine ⟨⟨lA, lB, lC, fun b' c' x1 x2 x3 x4 t' x5 x6 x7 => lD b' c' x1 x2 x3 x4 t' x5 x6 (fun q => ?_), lE, lE2⟩, hz, h1, h2, h3⟩
    obtain ⟨q1, q2, q3⟩ := q
    by_cases et : t' = t
    · subst et
      rw [q1] at x6
      exact hw x6
    · exact x7 ⟨q1, q2, by omega⟩
/-- all is done: the answer is right -/
def bI (o : Option Nat) : Int := match o with
  | none => -1
  | some k => (k : Int)
theorem LI_end (hF : WF S) (hb0 : b0 ≤ 63) (hc0 : c0 ≤ 60) {E xb xc : Nat} {z : DS} {o : Option Nat} (hl : LI S cr wa h b0 c0 E xb xc (nT S) z o) (hn : ∀ b c, b ≤ 63 → c ≤ 60 → z.2.1 b c = false) : CSp S cr wa h b0 c0 (bI o) := by
  obtain ⟨lA, lB, lC, lD, lE, lE2⟩ := hl
  have reach : ∀ r b c q, wy S cr wa h b0 c0 r = some (b, c, q) → b ≤ 63 ∧ c ≤ 60 ∧ z.1 b c = true ∧ z.2.2 b c ≤ q := by
    intro r
    induction r with
    | nil =>
      intro b c q hr
      unfold wy at hr
      have hr := Option.some.inj hr
      injection hr with e1 e2
      injection e2 with e2 e3
      subst e1; subst e2; subst e3
      exact ⟨hb0, hc0, lE, by omega⟩
    | cons t r ih =>
      intro b c q hr
      unfold wy at hr
      cases hx : wy S cr wa h b0 c0 r with
      | none =>
        rw [hx] at hr
        cases hr
      | some y =>
        obtain ⟨b1, c1, k⟩ := y
        rw [hx] at hr
        dsimp only at hr
        split at hr
        · rename_i hy
          obtain ⟨g1, g2, g3, g4⟩ := ih b1 c1 k hx
          have hr := Option.some.inj hr
          injection hr with e1 e2
          injection e2 with e2 e3
          subst e1; subst e2; subst e3
          obtain ⟨-, d2⟩ := lD b1 c1 g1 g2 g3 (hn b1 c1 g1 g2) t hy.1 hy.2.1 (fun q => by omega)
          obtain ⟨d3, d4⟩ := d2 hy.2.2
          exact ⟨bb_le hF hy.1 g1, cb_le g2, d3, by omega⟩
        · cases hr
  have best : ∀ k, Pln S cr wa h b0 c0 k → ∃ m, o = some m ∧ m ≤ k := by
    rintro k ⟨r, t, b, c, q, h1, h2, h3, h4, rfl⟩
    obtain ⟨g1, g2, g3, g4⟩ := reach r b c q h1
    obtain ⟨d1, -⟩ := lD b c g1 g2 g3 (hn b c g1 g2) t h2 h3 (fun q => by omega)
    obtain ⟨m, m1, m2⟩ := d1 h4
    exact ⟨m, m1, by omega⟩
  cases ho : o with
  | none =>
    refine Or.inl ⟨rfl, fun k hk => ?_⟩
    obtain ⟨m, m1, -⟩ := best k hk
    rw [ho] at m1
    cases m1
  | some m =>
    refine Or.inr ⟨m, rfl, (lC m ho).1, fun k hk => ?_⟩
    obtain ⟨m', m1, m2⟩ := best k hk
    rw [ho] at m1
    have := Option.some.inj m1
    omega
end B74b

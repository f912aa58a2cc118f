/-! ===== the class reads a rule ===== -/
section C87
variable {X : Nat × (Nat → Int32)} {d : Nat} {M : rM} {b : Nat → Nat} {n : Nat} {k : Nat} {r : List Int}
def P9 (k j : Nat) : Bool := k == 26 || (k == 25 && j == 3) || (k == 29 && (j == 2 || j == 3)) || (k == 30 && decide (2 ≤ j))
def RU (r : List Int) (M : rM) : Prop := M.2.1 25 3 = (r.length : Int) ∧ ∀ i, i < r.length → M.2.1 26 i = r.getD i 0
/-- all is well so far -/
def CGd (b : Nat → Nat) (n k : Nat) (r : List Int) (M : rM) : Prop := CT b n k M ∧ RU r M ∧ M.2.1 29 2 = 0 ∧ M.2.1 29 3 = -1
/-- a fault was found -/
def CF (b : Nat → Nat) (n f k : Nat) (M : rM) : Prop := CT b n k M ∧ M.2.1 29 2 = (f : Int) ∧ M.2.1 29 3 = (tZ b n k : Int) ∧ f ≠ 0 ∧ ∃ z : Nat, M.2.1 25 3 = (z : Int) ∧ z ≤ 700
def Oc (b : Nat → Nat) (n : Nat) (y : PZ) (M : rM) : Prop := (∀ f k, y = .inl (f, k) → CF b n f k M) ∧ ∀ k r, y = .inr (k, r) → CGd b n k r M
theorem Oc_l {f : Nat} (h : CF b n f k M) : Oc b n (.inl (f, k)) M := ⟨fun f' k' z => by cases z; exact h, fun k' r' z => (by cases z)⟩
theorem Oc_r (h : CGd b n k r M) : Oc b n (.inr (k, r)) M := ⟨fun f' k' z => (by cases z), fun k' r' z => by cases z; exact h⟩
theorem CT_sf {Q : Nat → Nat → Bool} {M' : rM} (h : CT b n k M) (f : sf Q M M') (h1 : ∀ j, Q 1 j = false) (h2 : ∀ j, Q 30 j = false) : CT b n k M' := by
  obtain ⟨g0, g1, g2, g3, g4, g5⟩ := h
  refine ⟨g0.sf f h1, ?_, ?_, ?_, ?_, fun z => ⟨?_, ?_⟩⟩
  · rw [(f.2 30 1 (h2 1)).1]; exact g1
  · rw [(f.2 30 2 (h2 2)).1]; exact g2
  · rw [(f.2 30 3 (h2 3)).1]; exact g3
  · rw [(f.2 30 4 (h2 4)).1]; exact g4
  · rw [(f.2 30 5 (h2 5)).1]; exact (g5 z).1
  · rw [(f.2 30 6 (h2 6)).1]; exact (g5 z).2
def Pa (k j : Nat) : Bool := k == 26 || (k == 25 && j == 3)
def Pf (k j : Nat) : Bool := k == 29 && (j == 2 || j == 3)
theorem Pa_9 {k j : Nat} (h : P9 k j = false) : Pa k j = false := by
  unfold P9 at h
  unfold Pa
  simp only [Bool.or_eq_false_iff] at h ⊢
  exact h.1.1
theorem Pf_9 {k j : Nat} (h : P9 k j = false) : Pf k j = false := by
  unfold P9 at h
  unfold Pf
  simp only [Bool.or_eq_false_iff] at h
  exact h.1.2
theorem P30_9 {k j : Nat} (h : P9 k j = false) : P30 k j = false := by
  unfold P9 at h
  unfold P30
  simp only [Bool.or_eq_false_iff] at h
  exact h.2
theorem c_kd (h : CT b n k M) : fn X (d + 1) 125 [rv 30] M = oI (tkK (tks b n) k : Int) M := by
  rw [q_125_30, h.2.2.2.2.1]
theorem c_ref (h : CGd b n k r M) (hl : r.length ≤ 700) {f : Nat} (hf : f ≠ 0) : ∃ M', fn X (d + 2) 17 [rv 29, iv (f : Int)] M = oV M' ∧ CF b n f k M' ∧ sf P9 M M' := by
  obtain ⟨h1, h2, h3, h9⟩ := h
  have hs : sf Pf M (puI (puI M 29 2 (f : Int)) 29 3 (tZ b n k : Int)) := (sf.rf.pu rfl _).pu rfl _
  refine ⟨_, ?_, ⟨CT_sf h1 hs (fun _ => rfl) (fun _ => rfl), ?_, puI_eq _ _ _ _, hf, r.length, ?_, hl⟩, hs.mo (fun _ _ z => Pf_9 z)⟩
  · rw [q_17_29, h3, if_pos rfl, q_126_30, cI_I, puI_ne (by omega), h1.2.2.1]
  · rw [puI_nj (by omega)]
    exact puI_eq _ _ _ _
  · rw [puI_ne (by omega), puI_ne (by omega)]
    exact h2.1
theorem c_go (h : CGd b n k r M) : ∃ M', fn X (d + 8) 131 [rv 30] M = oV M' ∧ CGd b n (k + 1) r M' ∧ sf P9 M M' := by
  obtain ⟨h1, h2, h3, h9⟩ := h
  obtain ⟨M', e1, e2, e3⟩ := CT.step (X := X) (d := d) h1
  refine ⟨M', e1, ⟨e2, ⟨?_, fun i hi => ?_⟩, ?_, ?_⟩, e3.mo (fun _ _ z => P30_9 z)⟩
  · rw [(e3.2 25 3 rfl).1]; exact h2.1
  · rw [(e3.2 26 i rfl).1]; exact h2.2 i hi
  · rw [(e3.2 29 2 rfl).1]; exact h3
  · rw [(e3.2 29 3 rfl).1]; exact h9
theorem c_add (h : CGd b n k r M) (hl : r.length < 700) (a : Int) : ∃ M', fn X (d + 1) 45 [rv 25, iv a] M = oV M' ∧ CGd b n k (r ++ [a]) M' ∧ sf P9 M M' := by
  obtain ⟨h1, h2, h3, h9⟩ := h
  have hs : sf Pa M (puI (puI M 26 r.length a) 25 3 ((r.length + 1 : Nat) : Int)) := (sf.rf.pu rfl _).pu rfl _
  refine ⟨_, ?_, ⟨CT_sf h1 hs (fun _ => rfl) (fun _ => rfl), ⟨?_, fun i hi => ?_⟩, ?_, ?_⟩, hs.mo (fun _ _ z => Pa_9 z)⟩
  · rw [q_45_25, h2.1, if_pos (by omega), gdx (by omega) (by omega), Int.toNat_natCast, wr_succ (by omega)]
  · rw [puI_eq, List.length_append]
    rfl
  · rw [puI_ne (by omega)]
    rw [List.length_append, List.length_singleton] at hi
    by_cases e : i = r.length
    · subst e
      rw [puI_eq, List.getD_eq_getElem?_getD, List.getElem?_append_right (Nat.le_refl _), Nat.sub_self]
      rfl
    · rw [puI_nj e, h2.2 i (by omega), List.getD_eq_getElem?_getD, List.getD_eq_getElem?_getD, List.getElem?_append_left (by omega)]
  · rw [puI_ne (by omega), puI_ne (by omega)]
    exact h3
  · rw [puI_ne (by omega), puI_ne (by omega)]
    exact h9
theorem c_addF {f : Nat} (h : CF b n f k M) (a : Int) : ∃ M', fn X (d + 1) 45 [rv 25, iv a] M = oV M' ∧ CF b n f k M' ∧ sf P9 M M' := by
  obtain ⟨h1, h2, h3, h4, z, h5, h6⟩ := h
  rw [q_45_25, h5]
  by_cases hz : z < 700
  · have hs : sf Pa M (puI (puI M 26 z a) 25 3 ((z + 1 : Nat) : Int)) := (sf.rf.pu rfl _).pu rfl _
    rw [if_pos (by omega), gdx (by omega) (by omega), Int.toNat_natCast, wr_succ (by omega)]
    refine ⟨_, rfl, ⟨CT_sf h1 hs (fun _ => rfl) (fun _ => rfl), ?_, ?_, h4, z + 1, puI_eq _ _ _ _, by omega⟩, hs.mo (fun _ _ z => Pa_9 z)⟩
    · rw [puI_ne (by omega), puI_ne (by omega)]; exact h2
    · rw [puI_ne (by omega), puI_ne (by omega)]; exact h3
  · rw [if_neg (by omega)]
    exact ⟨M, rfl, ⟨h1, h2, h3, h4, z, h5, h6⟩, sf.rf⟩
/-- what a method owes -/
def Rd (b : Nat → Nat) (n : Nat) (S : rM → Option rO) (p : Nat → List Int → PZ) : Prop := ∀ (k : Nat) (r : List Int) (M : rM), CGd b n k r M → r.length ≤ k → k ≤ 700 → ∃ M', S M = oV M' ∧ Oc b n (p k r) M' ∧ sf P9 M M'
/-- a loop over signs of one strength -/
theorem ch_loopC {L B : Nat} {sub : Nat → List Int → PZ} {Pl : Nat → Nat → rM → Option rO} {Sb : rM → Option rO} (hT : Tok (tks b n)) (hp : Hp B sub) (hsub : Rd b n Sb sub)
    (hno : ∀ m i M k r, CGd b n k r M → i < 700 → opA L (tkK (tks b n) k) = none → Pl (m + 1) i M = oV M)
    (hyes : ∀ m i M k r a, CGd b n k r M → i < 700 → opA L (tkK (tks b n) k) = some a → Pl (m + 1) i M = cV (fn X (d + 8) 131 [rv 30] M) (fun M3 => cV (Sb M3) (fun M4 => cV (fn X (d + 8) 45 [rv 25, iv a] M4) (fun M5 => Pl m (i + 1) M5))))
    (hflt : ∀ m i M f k, CF b n f k M → Pl (m + 1) i M = oV M) (hend : ∀ m M, Pl (m + 1) 700 M = oV M) : ∀ (f i m k : Nat) (r : List Int) (M : rM), i + f = 700 → f + 1 < m → CGd b n k r M → r.length ≤ k → k ≤ 700 → ∃ M', Pl m i M = oV M' ∧ Oc b n (pLoop (tks b n) L sub f k r) M' ∧ sf P9 M M'
  | 0, i, m, k, r, M, hf, hm, hg, hr, hk => by
    obtain ⟨m', rfl⟩ : ∃ m', m = m' + 1 := ⟨m - 1, by omega⟩
    obtain rfl : i = 700 := by omega
    exact ⟨M, hend m' M, Oc_r hg, sf.rf⟩
  | f + 1, i, m, k, r, M, hf, hm, hg, hr, hk => by
    obtain ⟨m', rfl⟩ : ∃ m', m = m' + 1 := ⟨m - 1, by omega⟩
    have e : pLoop (tks b n) L sub (f + 1) k r = (match opA L (tkK (tks b n) k) with
      | none => .inr (k, r)
      | some a => match sub (k + 1) r with
        | .inl x => .inl x
        | .inr (k', r') => pLoop (tks b n) L sub f k' (r' ++ [a])) := rfl
    rw [e]
    cases ho : opA L (tkK (tks b n) k) with
    | none =>
      exact ⟨M, hno m' i M k r hg (by omega) ho, Oc_r hg, sf.rf⟩
    | some a =>
      have hL := opA_some ho
      have h0 : tkK (tks b n) k ≠ 0 := fun z => by
        rw [z] at ho hL
        have l0 : lev 0 = 0 := by decide
        have : L = 0 := by omega
        rw [this] at ho
        cases ho
      have h7 := hT k h0
      rw [hyes m' i M k r a hg (by omega) ho]
      obtain ⟨M1, a1, a2, a3⟩ := c_go (X := X) (d := d) hg
      rw [a1, cV_V]
      obtain ⟨M2, b1, b2, b3⟩ := hsub (k + 1) r M1 a2 (by omega) (by omega)
      rw [b1, cV_V]
      dsimp only
      cases hq : sub (k + 1) r with
      | inl x =>
        obtain ⟨x1, x2⟩ := x
        rw [hq] at b2
        obtain ⟨M3, c1, c2, c3⟩ := c_addF (X := X) (d := d + 7) (b2.1 x1 x2 rfl) a
        obtain ⟨m2, rfl⟩ : ∃ m2, m' = m2 + 1 := ⟨m' - 1, by omega⟩
        rw [c1, cV_V, hflt m2 (i + 1) M3 x1 x2 c2]
        exact ⟨M3, rfl, Oc_l c2, a3.tr (b3.tr c3)⟩
      | inr v =>
        obtain ⟨k2, r2⟩ := v
        rw [hq] at b2
        obtain ⟨⟨nw, z1, z2, z3, z4⟩, z5⟩ := hp _ _ _ _ hq
        have hl : r2.length + 1 ≤ k2 := by
          rw [z1, List.length_append]
          omega
        obtain ⟨M3, c1, c2, c3⟩ := c_add (X := X) (d := d + 7) (b2.2 k2 r2 rfl) (by omega) a
        rw [c1, cV_V]
        obtain ⟨M4, d1, d2, d3⟩ := ch_loopC hT hp hsub hno hyes hflt hend f (i + 1) m' k2 (r2 ++ [a]) M3 (by omega) (by omega) c2 (by rw [List.length_append, List.length_singleton]; omega) z5
        exact ⟨M4, d1, d2, a3.tr (b3.tr (c3.tr d3))⟩
end C87

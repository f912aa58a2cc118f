section C88d
variable {X : Nat × (Nat → Int32)} {d : Nat} {b : Nat → Nat} {n : Nat} {M M' : rM} {W O : List Int} {te : List Bool} {k : Nat}
theorem knw_lo {q : Nat} (h1 : 111 ≤ q) (h2 : q ≤ 116) : knw q = (q : Int) - 111 := by
  obtain rfl | rfl | rfl | rfl | rfl | rfl : q = 111 ∨ q = 112 ∨ q = 113 ∨ q = 114 ∨ q = 115 ∨ q = 116 := by omega
  all_goals decide
theorem knw_hi {q : Nat} (h : ¬ (111 ≤ q ∧ q ≤ 116)) : knw q < 0 ∨ 5 < knw q := by
  by_cases h1 : 101 ≤ q ∧ q ≤ 116
  · obtain rfl | rfl | rfl | rfl | rfl | rfl | rfl | rfl | rfl | rfl : q = 101 ∨ q = 102 ∨ q = 103 ∨ q = 104 ∨ q = 105 ∨ q = 106 ∨ q = 107 ∨ q = 108 ∨ q = 109 ∨ q = 110 := by omega
    all_goals decide
  · left
    unfold knw
    rw [if_neg h1]
    decide
theorem knw_w (q : Nat) : (knw q = 15 ↔ q = 110) ∧ (knw q = 13 ↔ q = 109) ∧ (knw q = 14 ↔ q = 108) := by
  by_cases h1 : 101 ≤ q ∧ q ≤ 116
  · obtain rfl | rfl | rfl | rfl | rfl | rfl | rfl | rfl | rfl | rfl | rfl | rfl | rfl | rfl | rfl | rfl : q = 101 ∨ q = 102 ∨ q = 103 ∨ q = 104 ∨ q = 105 ∨ q = 106 ∨ q = 107 ∨ q = 108 ∨ q = 109 ∨ q = 110 ∨ q = 111 ∨ q = 112 ∨ q = 113 ∨ q = 114 ∨ q = 115 ∨ q = 116 := by omega
    all_goals decide
  · unfold knw
    rw [if_neg h1]
    omega
theorem TD_in (h : TD te M) (v : Bool) (hl : te.length < 6) : TD (v :: te) (puI (puI M 59 42 ((te.length + 1 : Nat) : Int)) 90 (te.length + 1) (b01 v)) := by
  refine ⟨?_, fun i hi => ?_⟩
  · rw [puI_ne (by omega), puI_eq, List.length_cons]
  · rw [List.length_cons] at hi ⊢
    cases i with
    | zero => exact puI_eq _ _ _ _
    | succ i =>
      rw [puI_nj (by omega), puI_ne (by omega), show te.length + 1 - (i + 1) = te.length - i by omega, h.2 i (by omega), List.getD_cons_succ]
theorem MX_deep (h : MX b n k W O te M) (hl : te.length < 6) : ∃ M', fn X (d + 1) 234 [rv 59] M = oV M' ∧ MX b n k W O (false :: te) M' ∧ sf Px M M' := by
  have hd := h.2.2.2.2.1.1
  have hs : sf Px M (puI (puI M 59 42 ((te.length + 1 : Nat) : Int)) 90 (te.length + 1) 0) := (sf.rf.pu rfl _).pu rfl _
  have hs2 : sf Pde M (puI (puI M 59 42 ((te.length + 1 : Nat) : Int)) 90 (te.length + 1) 0) := (sf.rf.pu rfl _).pu rfl _
  refine ⟨_, ?_, ⟨MT_sf h.1 hs2 (fun _ => rfl) (r8 (by decide)), ?_, OU_sf h.2.2.1 hs2 rfl (fun _ => rfl), ⟨?_, fun j hj => ?_⟩, TD_in h.2.2.2.2.1 false hl, by rw [(hs2.2 59 23 rfl).1]; exact h.2.2.2.2.2⟩, hs⟩
  · rw [q_234_59, hd, if_pos (by omega), wr_succ (by omega), gdx (by omega) (by omega), Int.toNat_natCast]
  · rw [(hs2.2 59 22 rfl).1]; exact h.2.1
  · rw [puI_ne (by omega), puI_nj (by omega)]; exact h.2.2.2.1.1
  · rw [(hs2.2 89 j rfl).1]; exact h.2.2.2.1.2 j hj
theorem MX_deepF (h : MX b n k W O te M) (hl : te.length = 6) : ∃ M', fn X (d + 2) 234 [rv 59] M = oV M' ∧ FX b n (if canB (tkK (tks b n) k) then 2 else 1) k W O M' ∧ sf Px M M' := by
  have hd := h.2.2.2.2.1.1
  have hs := h.1.2.2.2.1
  rw [q_234_59, hd, if_neg (by omega)]
  by_cases h2 : tkK (tks b n) k = 2
  · have hs2 : M.2.1 59 27 = 2 := by rw [hs, h2]; rfl
    obtain ⟨M', a1, a2, a3⟩ := MX_wrong (X := X) (d := d) h 2 2 rfl
    have e : canB (tkK (tks b n) k) = true := by rw [h2]; rfl
    rw [if_pos hs2, a1, cV_V, e]
    exact ⟨M', rfl, a2, a3⟩
  have n2 : M.2.1 59 27 ≠ 2 := fun z => h2 (srt_2 (by omega))
  rw [if_neg n2]
  by_cases h1 : 100 ≤ tkK (tks b n) k
  · have hs1 : M.2.1 59 27 = 1 := by rw [hs, srt_wd h1]; rfl
    obtain ⟨M', a1, a2, a3⟩ := MX_wrong (X := X) (d := d) h 2 2 rfl
    have e : canB (tkK (tks b n) k) = true := by
      unfold canB
      rw [decide_eq_true h1, Bool.or_true, Bool.true_or]
    rw [if_pos hs1, a1, cV_V, e]
    exact ⟨M', rfl, a2, a3⟩
  have n1 : M.2.1 59 27 ≠ 1 := fun z => h1 (srt_1 (by omega))
  rw [if_neg n1]
  by_cases h40 : tkK (tks b n) k = 40
  · obtain ⟨M', a1, a2, a3⟩ := MX_wrong (X := X) (d := d) h 2 2 rfl
    have e : canB (tkK (tks b n) k) = true := by rw [h40]; rfl
    rw [m_sigT (X := X) (d := d) (c := 40) h.1 40 rfl (by omega) (by omega) h40, cI_I, if_neg (by decide), a1, cV_V, e]
    exact ⟨M', rfl, a2, a3⟩
  · obtain ⟨M', a1, a2, a3⟩ := MX_wrong (X := X) (d := d) h 1 1 rfl
    have e : canB (tkK (tks b n) k) = false := by
      unfold canB
      rw [decide_eq_false h1, beq_false_of_ne h2, beq_false_of_ne h40]
      rfl
    rw [m_sigF (X := X) (d := d) (c := 40) h.1 40 rfl h40, cI_I, if_pos rfl, a1, cV_V, e]
    exact ⟨M', rfl, a2, a3⟩
/-- ended in a fault -/
def FF (b : Nat → Nat) (n f p : Nat) (M : rM) : Prop := f ≠ 0 ∧ ∃ W O, FX b n f p W O M ∧ (∀ a ∈ W, okA a) ∧ O.length + W.length ≤ 1399 ∧ W.length ≤ 949
def Og1 (b : Nat → Nat) (n : Nat) (y : SZ ⊕ PZ) (M : rM) : Prop := (∃ f p, y = .inr (.inl (f, p)) ∧ FF b n f p M) ∨ ∃ k W O te, y = .inl (none, k, W, O, te) ∧ MX b n k W O te M ∧ Iv k W O te
theorem Iv_num (hi : Iv k W O te) (hk : k < 700) (x y : Int) : Iv (k + 1) W (O ++ [x, y]) te := by
  obtain ⟨i1, i2, i3, i4, i5, i6⟩ := hi
  refine ⟨?_, by omega, i3, i4, i5, by omega⟩
  rw [List.length_append, List.length_cons, List.length_singleton]
  omega
theorem app2 (x y : Int) : O ++ [x] ++ [y] = O ++ [x, y] := by rw [List.append_assoc]; rfl
theorem m_putsG (h : MX b n k W O te M) (hi : Iv k W O te) (hk : k < 700) (x y : Int) : ∃ M1 M2 M3, fn X (d + 3) 228 [rv 59, iv x] M = oV M1 ∧ MX b n k W (O ++ [x]) te M1 ∧ fn X (d + 3) 228 [rv 59, iv y] M1 = oV M2 ∧ fn X (d + 3) 224 [rv 59] M2 = oI 1 M2 ∧ fn X (d + 3) 219 [rv 59] M2 = oV M3 ∧ MX b n (k + 1) W (O ++ [x, y]) te M3 ∧ Iv (k + 1) W (O ++ [x, y]) te ∧ sf Px M M3 := by
  have i1 := hi.1
  obtain ⟨M1, a1, a2, a3⟩ := MX_put (X := X) (d := d + 2) h (by omega) x
  obtain ⟨M2, b1, b2, b3⟩ := MX_put (X := X) (d := d + 2) a2 (by rw [List.length_append, List.length_singleton]; omega) y
  rw [app2] at b2
  obtain ⟨M3, c1, c2, c3⟩ := MX_go (X := X) (d := d + 1) b2
  exact ⟨M1, M2, M3, a1, a2, b1, m_good b2.2.1, c1, c2, Iv_num hi hk x y, a3.tr (b3.tr c3)⟩
theorem m_putsB {f : Nat} (h : FX b n f k W O M) (hf : f ≠ 0) (hi : Iv k W O te) (hk : k < 700) (x : Int) (y : rM → Int) : ∃ M1 M2, fn X (d + 3) 228 [rv 59, iv x] M = oV M1 ∧ fn X (d + 3) 228 [rv 59, iv (y M1)] M1 = oV M2 ∧ fn X (d + 3) 224 [rv 59] M2 = oI 0 M2 ∧ FF b n f k M2 ∧ sf Px M M2 := by
  obtain ⟨i1, i2, i3, i4, i5, i6⟩ := hi
  obtain ⟨M1, a1, a2, a3⟩ := FX_put (X := X) (d := d + 2) h (by omega) x
  obtain ⟨M2, b1, b2, b3⟩ := FX_put (X := X) (d := d + 2) a2 (by rw [List.length_append, List.length_singleton]; omega) (y M1)
  refine ⟨M1, M2, a1, b1, m_bad ?_, ⟨hf, W, _, b2, i3, ?_, by omega⟩, a3.tr b3⟩
  · rw [b2.1]
    omega
  · rw [List.length_append, List.length_append, List.length_singleton, List.length_singleton]
    omega
/-- an operand's one token -/
theorem m_part (hT : Tok (tks b n)) {nt : Bool} {c : Nat} (h : MX b n k W O te M) (hi : Iv k W O te) (hn : ¬ (nt = true ∧ tkK (tks b n) k = 110)) (h40 : tkK (tks b n) k ≠ 40) : ∃ M', fn X (d + 4) 233 [rv 59] M = oV M' ∧ sf Px M M' ∧ Og1 b n (stM (tks b n) (some (nt, c), k, W, O, te)) M' := by
  have hs := h.1.2.2.2.1
  have hD := h.1.2.2.2.2.1
  have i1 := hi.1
  unfold stM
  dsimp only
  rw [if_neg hn, if_neg h40, q_233_59, m_good (X := X) (d := d + 2) h.2.1, cI_I, if_neg (by decide)]
  by_cases h2 : tkK (tks b n) k = 2
  · have hk : k < 700 := hT k (by omega)
    have hs2 : M.2.1 59 27 = 2 := by rw [hs, h2]; rfl
    rw [if_pos h2, if_pos hs2, hD]
    by_cases h4 : 4 < tkD (tks b n) k
    · rw [if_pos h4, if_pos (by omega)]
      obtain ⟨M1, a1, a2, a3⟩ := MX_wrong (X := X) (d := d + 2) h 2 2 rfl
      obtain ⟨M2, M3, b1, b2, b3, b4, b5⟩ := m_putsB (X := X) (d := d) a2 (by omega) hi hk 1 (fun M => M.2.1 59 30)
      rw [a1, cV_V, b1, cV_V, b2, cV_V, b3, cI_I, if_pos rfl]
      exact ⟨M3, rfl, a3.tr b5, Or.inl ⟨2, k, rfl, b4⟩⟩
    · rw [if_neg h4, if_neg (by omega)]
      obtain ⟨M1, M2, M3, a1, a2, a3, a4, a5, a6, a7, a8⟩ := m_putsG (X := X) (d := d) h hi hk 1 (tkV (tks b n) k : Int)
      have hv := a2.1.2.2.2.2.2.1 h2
      rw [a1, cV_V, hv, a3, cV_V, a4, cI_I, if_neg (by decide), a5, cV_V]
      exact ⟨M3, rfl, a8, Or.inr ⟨_, _, _, _, rfl, a6, a7⟩⟩
  have n2 : M.2.1 59 27 ≠ 2 := fun z => h2 (srt_2 (by omega))
  rw [if_neg h2, if_neg n2]
  by_cases h1 : 100 ≤ tkK (tks b n) k
  · have hk : k < 700 := hT k (by omega)
    have hs1 : M.2.1 59 27 = 1 := by rw [hs, srt_wd h1]; rfl
    rw [if_pos hs1, m_known (X := X) (d := d) h.1, cI_I]
    by_cases h6 : 111 ≤ tkK (tks b n) k ∧ tkK (tks b n) k ≤ 116
    · rw [if_pos h6, knw_lo h6.1 h6.2, if_neg (by omega), if_neg (by omega)]
      obtain ⟨M1, M2, M3, a1, a2, a3, a4, a5, a6, a7, a8⟩ := m_putsG (X := X) (d := d) h hi hk 2 ((tkK (tks b n) k : Int) - 111)
      rw [a1, cV_V, a3, cV_V, a4, cI_I, if_neg (by decide), a5, cV_V]
      exact ⟨M3, rfl, a8, Or.inr ⟨_, _, _, _, rfl, a6, a7⟩⟩
    · rw [if_neg h6, if_pos h1]
      obtain ⟨M1, a1, a2, a3⟩ := MX_wrong (X := X) (d := d + 2) h 3 3 rfl
      obtain ⟨M2, M3, b1, b2, b3, b4, b5⟩ := m_putsB (X := X) (d := d) a2 (by omega) hi hk 2 (fun _ => knw (tkK (tks b n) k))
      by_cases hz : knw (tkK (tks b n) k) < 0
      · rw [if_pos hz, a1, cV_V, b1, cV_V, b2, cV_V, b3, cI_I, if_pos rfl]
        exact ⟨M3, rfl, a3.tr b5, Or.inl ⟨3, k, rfl, b4⟩⟩
      · have h5 : 5 < knw (tkK (tks b n) k) := by
          rcases knw_hi h6 with z | z
          · exact absurd z hz
          · exact z
        rw [if_neg hz, if_pos h5, a1, cV_V, b1, cV_V, b2, cV_V, b3, cI_I, if_pos rfl]
        exact ⟨M3, rfl, a3.tr b5, Or.inl ⟨3, k, rfl, b4⟩⟩
  · have n1 : M.2.1 59 27 ≠ 1 := fun z => h1 (srt_1 (by omega))
    rw [if_neg n1, if_neg (fun z => h1 (by omega)), if_neg h1]
    obtain ⟨M1, a1, a2, a3⟩ := MX_wrong (X := X) (d := d + 2) h 1 1 rfl
    rw [a1, cV_V, m_bad (X := X) (d := d + 2) (by rw [a2.1]; decide), cI_I, if_pos rfl]
    obtain ⟨j1, j2, j3, j4, j5, j6⟩ := hi
    exact ⟨M1, rfl, a3, Or.inl ⟨1, k, rfl, by omega, W, O, a2, j3, by omega, by omega⟩⟩
/-- what an operand owes -/
def Og (b : Nat → Nat) (n g : Nat) (x : PZ) (M : rM) : Prop := (∃ f p, x = .inl (f, p) ∧ FF b n f p M) ∨ ∃ g' k W O te, g' < g ∧ ex (tks b n) g' (none, k, W, O, te) = some x ∧ MX b n k W O te M ∧ Iv k W O te
theorem ex_in {t : TS} {s s' : SZ} {g : Nat} (e : stM t s = .inl s') : ex t (g + 1) s = ex t g s' := by
  show (match stM t s with
    | .inl s' => ex t g s'
    | .inr x => some x) = _
  rw [e]
theorem ex_st {t : TS} {s : SZ} {y : PZ} {g : Nat} (e : stM t s = .inr y) : ex t (g + 1) s = some y := by
  show (match stM t s with
    | .inl s' => ex t g s'
    | .inr x => some x) = _
  rw [e]
theorem Og1_Og {g : Nat} {x : PZ} {s : SZ} (h : ex (tks b n) (g + 1) s = some x) (o : Og1 b n (stM (tks b n) s) M) : Og b n (g + 1) x M := by
  rcases o with ⟨f, p, e, hf⟩ | ⟨k, W, O, te, e, h1, h2⟩
  · rw [ex_st e] at h
    cases h
    exact Or.inl ⟨f, p, rfl, hf⟩
  · rw [ex_in e] at h
    exact Or.inr ⟨g, k, W, O, te, by omega, h, h1, h2⟩
theorem Og_up {g g' : Nat} {x : PZ} (h : Og b n g x M) (hg : g ≤ g') : Og b n g' x M := by
  rcases h with z | ⟨g1, k, W, O, te, h1, h2⟩
  · exact Or.inl z
  · exact Or.inr ⟨g1, k, W, O, te, by omega, h2⟩
theorem Iv_w (hi : Iv k W O te) (hk : k < 700) {a : Int} (ha : okA a) (h14 : a ≠ 14) : Iv (k + 1) (a :: W) O te := by
  obtain ⟨i1, i2, i3, i4, i5, i6⟩ := hi
  refine ⟨by rw [List.length_cons]; omega, by rw [List.length_cons]; omega, fun x hx => ?_, by rw [List.count_cons_of_ne h14]; exact i4, i5, by omega⟩
  rcases List.mem_cons.1 hx with rfl | e
  · exact ha
  · exact i3 x e
theorem Iv_o (hi : Iv k W O te) (hk : k < 700) (ht : te.length < 6) : Iv (k + 1) (14 :: W) O (false :: te) := by
  obtain ⟨i1, i2, i3, i4, i5, i6⟩ := hi
  refine ⟨by rw [List.length_cons]; omega, by rw [List.length_cons]; omega, fun x hx => ?_, by rw [List.count_cons_self, List.length_cons]; omega, by rw [List.length_cons]; omega, by omega⟩
  rcases List.mem_cons.1 hx with rfl | e
  · exact Or.inr rfl
  · exact i3 x e
theorem m_op (hT : Tok (tks b n)) (x : PZ) : ∀ (g : Nat) (nt : Bool) (c k : Nat) (W O : List Int) (te : List Bool) (M : rM) (m : Nat) (l2 : Int), ex (tks b n) g (some (nt, c), k, W, O, te) = some x → MX b n k W O te M → Iv k W O te → c ≤ 6 → 3 * g + 3 < m → l2 = b01 nt → ∃ M', kb X (d + 4) 235 m 18 [some (rv 59), none, some (iv l2), none, some (iv (c : Int))] [] M = oV M' ∧ sf Px M M' ∧ Og b n g x M'
  | 0, nt, c, k, W, O, te, M, m, l2, h, hX, hi, hc, hm, hl => by cases h
  | g + 1, nt, c, k, W, O, te, M, m, l2, h, hX, hi, hc, hm, hl => by
    have hW : W.length < 950 := by
      have := hi.2.1
      have := hi.2.2.2.2.2
      omega
    have h75 : ¬ (nt = true ∧ tkK (tks b n) k = 110) → ∀ m, 3 * g + 5 < m → ∃ M', kb X (d + 4) 235 m 75 [some (rv 59), none, some (iv l2), none, none] [] M = oV M' ∧ sf Px M M' ∧ Og b n (g + 1) x M' := by
      intro hn m hm
      obtain ⟨m', rfl⟩ : ∃ m', m = m' + 2 := ⟨m - 2, by omega⟩
      rw [q_235_59_at75, m_good (X := X) (d := d + 3) hX.2.1, cI_I, if_neg (by decide)]
      by_cases h40 : tkK (tks b n) k = 40
      · have hk : k < 700 := hT k (by omega)
        obtain ⟨M1, a1, a2, a3⟩ := MX_wait (X := X) (d := d + 3) hX hW 14
        obtain ⟨M2, b1, b2, b3⟩ := MX_go (X := X) (d := d + 2) a2
        rw [m_sigT (X := X) (d := d + 3) (c := 40) hX.1 40 rfl (by omega) (by omega) h40, cI_I, if_neg (by decide), a1, cV_V, b1, cV_V]
        by_cases ht : te.length < 6
        · have e : stM (tks b n) (some (nt, c), k, W, O, te) = .inl (some (true, 0), k + 1, 14 :: W, O, false :: te) := by
            unfold stM
            dsimp only
            rw [if_neg hn, if_pos h40, if_pos ht]
          obtain ⟨M3, c1, c2, c3⟩ := MX_deep (X := X) (d := d + 3) b2 ht
          rw [ex_in e] at h
          rw [c1, cV_V, q_235_59_at4, if_neg (by decide), m_good (X := X) (d := d + 3) c2.2.1, cI_I, if_neg (by decide)]
          obtain ⟨M4, d1, d2, d3⟩ := m_op hT x g true 0 (k + 1) (14 :: W) O (false :: te) M3 m' 1 h c2 (Iv_o hi hk ht) (by omega) (by omega) rfl
          exact ⟨M4, d1, a3.tr (b3.tr (c3.tr d2)), Og_up d3 (by omega)⟩
        · have ht6 : te.length = 6 := by
            have := hi.2.2.2.2.1
            omega
          have e : stM (tks b n) (some (nt, c), k, W, O, te) = .inr (.inl (if canB (tkK (tks b n) (k + 1)) then 2 else 1, k + 1)) := by
            unfold stM
            dsimp only
            rw [if_neg hn, if_pos h40, if_neg ht]
          obtain ⟨M3, c1, c2, c3⟩ := MX_deepF (X := X) (d := d + 2) b2 ht6
          have hf : (if canB (tkK (tks b n) (k + 1)) then 2 else 1) ≠ 0 := by split <;> omega
          have hz : M3.2.1 59 22 ≠ 0 := by
            rw [c2.1]
            omega
          rw [ex_st e] at h
          cases h
          rw [c1, cV_V, q_235_59_at4, if_neg (by decide), m_bad (X := X) (d := d + 3) hz, cI_I, if_pos rfl, q_233_59, m_bad (X := X) (d := d + 2) hz, cI_I, if_pos rfl, cV_V]
          obtain ⟨j1, j2, j3, j4, j5, j6⟩ := hi
          refine ⟨M3, rfl, a3.tr (b3.tr c3), Or.inl ⟨_, _, rfl, hf, _, _, c2, fun y hy => ?_, by rw [List.length_cons]; omega, by rw [List.length_cons]; omega⟩⟩
          rcases List.mem_cons.1 hy with rfl | e
          · exact Or.inr rfl
          · exact j3 y e
      · obtain ⟨M1, a1, a2, a3⟩ := m_part (X := X) (d := d) (c := c) hT hX hi hn h40
        rw [m_sigF (X := X) (d := d + 3) (c := 40) hX.1 40 rfl h40, cI_I, if_pos rfl, q_235_59_at4, if_pos rfl, a1, cV_V]
        exact ⟨M1, rfl, a2, Og1_Og h a3⟩
    obtain ⟨m', rfl⟩ : ∃ m', m = m' + 1 := ⟨m - 1, by omega⟩
    rw [q_235_59_at18, m_good (X := X) (d := d + 3) hX.2.1, cI_I, if_neg (by decide)]
    cases nt with
    | false =>
      have hl0 : l2 = 0 := hl
      rw [if_pos hl0]
      exact h75 (fun z => (by cases z.1)) m' (by omega)
    | true =>
      have hl0 : l2 = 1 := hl
      rw [if_neg (by omega), m_known (X := X) (d := d + 1) hX.1, cI_I]
      by_cases h110 : tkK (tks b n) k = 110
      · have hk : k < 700 := hT k (by omega)
        rw [if_pos ((knw_w _).1.2 h110)]
        by_cases h6 : c = 6
        · have e : stM (tks b n) (some (true, c), k, W, O, te) = .inr (.inl (2, k)) := by
            unfold stM
            dsimp only
            rw [if_pos ⟨rfl, h110⟩, if_pos h6]
          obtain ⟨m'', rfl⟩ : ∃ m'', m' = m'' + 3 := ⟨m' - 3, by omega⟩
          obtain ⟨M1, a1, a2, a3⟩ := MX_wrong (X := X) (d := d + 3) hX 2 2 rfl
          have hz : M1.2.1 59 22 ≠ 0 := by rw [a2.1]; decide
          rw [ex_st e] at h
          cases h
          rw [if_pos (by omega), a1, cV_V, m_bad (X := X) (d := d + 3) hz, cI_I, if_pos rfl, q_235_59_at18, m_bad (X := X) (d := d + 3) hz, cI_I, if_pos rfl, q_235_59_at75, m_bad (X := X) (d := d + 3) hz, cI_I, if_pos rfl, q_235_59_at4, if_pos rfl, q_233_59, m_bad (X := X) (d := d + 2) hz, cI_I, if_pos rfl, cV_V]
          obtain ⟨j1, j2, j3, j4, j5, j6⟩ := hi
          exact ⟨M1, rfl, a3, Or.inl ⟨2, k, rfl, by omega, W, O, a2, j3, by omega, by omega⟩⟩
        · have e : stM (tks b n) (some (true, c), k, W, O, te) = .inl (some (true, c + 1), k + 1, 3 :: W, O, te) := by
            unfold stM
            dsimp only
            rw [if_pos ⟨rfl, h110⟩, if_neg h6]
          obtain ⟨M1, a1, a2, a3⟩ := MX_wait (X := X) (d := d + 3) hX hW 3
          obtain ⟨M2, b1, b2, b3⟩ := MX_go (X := X) (d := d + 2) a2
          rw [ex_in e] at h
          rw [if_neg (by omega), m_good (X := X) (d := d + 3) hX.2.1, cI_I, if_neg (by decide), a1, cV_V, b1, cV_V, wr_succ (by omega)]
          obtain ⟨M3, c1, c2, c3⟩ := m_op hT x g true (c + 1) (k + 1) (3 :: W) O te M2 m' l2 h b2 (Iv_w hi hk (Or.inl (by omega)) (by omega)) (by omega) (by omega) hl
          exact ⟨M3, c1, a3.tr (b3.tr c2), Og_up c3 (by omega)⟩
      · rw [if_neg (fun z => h110 ((knw_w _).1.1 z))]
        exact h75 (fun z => h110 z.2) m' (by omega)
theorem m_operand (hT : Tok (tks b n)) {x : PZ} {g : Nat} {nt : Bool} (l2 : Int) (hl : l2 = b01 nt) (h : ex (tks b n) g (some (nt, 0), k, W, O, te) = some x) (hX : MX b n k W O te M) (hi : Iv k W O te) (hg : g < 1000) : ∃ M', fn X (d + 5) 235 [rv 59, iv l2] M = oV M' ∧ sf Px M M' ∧ Og b n g x M' := by
  have hF := FU_lt (k := 4000) (by omega)
  obtain ⟨m', hm⟩ : ∃ m', FU = m' + 1 := ⟨FU - 1, by omega⟩
  rw [q_235_59, hm, q_235_59_at4, if_neg (by decide), m_good (X := X) (d := d + 3) hX.2.1, cI_I, if_neg (by decide)]
  exact m_op hT x g nt 0 k W O te M m' l2 h hX hi (by omega) (by omega) hl
end C88d

/-! ===== order, on the class's side ===== -/
/-- a loop of at most B stops a step -/
theorem loop_g {σ : Type} (Inv : Nat → σ → Prop) (P : Nat → Nat → σ → Option rO) (Q : Option rO → Prop) (N B : Nat) (hs : ∀ g c s, c < N → Inv c s → (∃ g' s', g ≤ g' ∧ P (g + B) c s = P g' (c + 1) s' ∧ Inv (c + 1) s') ∨ Q (P (g + B) c s)) (he : ∀ g s, Inv N s → Q (P (g + 1) N s)) : ∀ (k c g : Nat) (s : σ), c + k = N → k * B + 1 ≤ g → Inv c s → Q (P g c s)
  | 0, c, g, s, h, hn, hi => by
    obtain ⟨m, rfl⟩ : ∃ m, g = m + 1 := ⟨g - 1, by omega⟩
    have : c = N := by omega
    subst this
    exact he m s hi
  | k + 1, c, g, s, h, hn, hi => by
    have hk : (k + 1) * B = k * B + B := by rw [Nat.add_mul, Nat.one_mul]
    obtain ⟨m, rfl⟩ : ∃ m, g = m + B := ⟨g - B, by omega⟩
    rcases hs m c s (by omega) hi with ⟨g', s', h0, h1, h2⟩ | h1
    · rw [h1]
      exact loop_g Inv P Q N B hs he k (c + 1) g' s' (by omega) (by omega) h2
    · exact h1
def tv (p : Option (Nat × Nat)) : Int := match p with
  | none => -1
  | some q => (q.1 : Int)
def tf (p : Option (Nat × Nat)) : Int := match p with
  | none => 0
  | some q => (q.2 : Int)
def PO (k j : Nat) : Bool := PQ k j || k == 50 || k == 51 || k == 52
theorem PO_Q : ∀ k j, PO k j = false → PQ k j = false := by
  intro k j z
  unfold PO at z
  simp only [Bool.or_eq_false_iff] at z
  exact z.1.1.1
theorem eC_O : ∀ k j, eC k j = true → PO k j = false := by
  intro k j z
  unfold PO
  rw [eC_Q k j z]
  unfold eC at z
  simp only [Bool.or_eq_true, Bool.and_eq_true, beq_iff_eq, decide_eq_true_eq] at z
  simp only [Bool.or_eq_false_iff, beq_eq_false_iff_ne]
  exact ⟨⟨⟨trivial, by omega⟩, by omega⟩, by omega⟩
theorem kC_O {M M' : rM} (f : sf PO M M') : kC M M' := kC.sf f (fun k j hk => by
  unfold PO PQ
  simp only [Bool.or_eq_false_iff, Bool.and_eq_false_iff, beq_eq_false_iff_ne, decide_eq_false_iff_not]
  omega)
noncomputable def CO (A : AS) (lo : Nat) (M : rM) : Prop := ∀ v, lo ≤ v → v ≤ frF A → less v (frF A) = 0 → M.2.1 50 v = tv (RA A v) ∧ M.2.1 51 v = tf (RA A v)
noncomputable def CP (A : AS) (M : rM) : Prop := ∀ c h, c < nC (aS A) → h ≤ 54 → M.2.1 52 (c * 55 + h) = -1 ∨ M.2.1 52 (c * 55 + h) = ((((fwh A c h).getD []).length : Nat) : Int)
theorem helpN_or {S : SK} {p q : Nat → Bool} : ∀ n, (∀ c, c < n → p c = true → q c = false) → helpN S p n + helpN S q n = helpN S (fun c => p c || q c) n
  | 0, _ => rfl
  | n + 1, h => by
    have ih := helpN_or (S := S) n (fun c hc => h c (by omega))
    have hn := h n (by omega)
    unfold helpN
    cases hp : p n with
    | true =>
      rw [hn hp]
      simp
      omega
    | false =>
      cases hq : q n with
      | true =>
        simp
        omega
      | false =>
        simp
        omega
theorem sub_bit {u F c : Nat} (h : less u F = 0) (hc : u.testBit c = true) : F.testBit c = true := by
  have h1 := congrArg (fun z => z.testBit c) h
  rw [less_bit, Nat.zero_testBit, hc, Bool.true_and] at h1
  simpa using h1
theorem sub_le {u F : Nat} (h : less u F = 0) : u ≤ F := by
  have : u &&& F = u := xor_and_0.1 h
  rw [← this]
  exact Nat.and_le_right
theorem or_gt {u c : Nat} (h : u.testBit c = false) : u + 1 ≤ u ||| 2 ^ c := by
  have h1 : u ≤ u ||| 2 ^ c := Nat.left_le_or
  have h2 : u ≠ u ||| 2 ^ c := fun e => by
    have : (u ||| 2 ^ c).testBit c = true := by
      rw [Nat.testBit_or, Nat.testBit_two_pow_self, Bool.or_true]
    rw [← e, h] at this
    cases this
  omega
theorem frF_bit {A : AS} (c : Nat) : (frF A).testBit c = (decide (c < nC (aS A)) && (aW A (21 + c) == 0)) := by
  unfold frF fates
  rw [setN_bit]
theorem hu_eq {A : AS} {u : Nat} (h : less u (frF A) = 0) : hu A u = helpW (aS A) (aW A) + helpN (aS A) (fun c => u.testBit c) (nC (aS A)) := by
  unfold helpW
  rw [helpN_or]
  · unfold hu
    apply helpN_congr
    intro c hc
    rw [Nat.testBit_or]
    unfold fates
    rw [setN_bit]
    simp [hc]
  · intro c hc hp
    cases hx : u.testBit c with
    | false => rfl
    | true =>
      have := sub_bit h hx
      rw [frF_bit] at this
      simp only [Bool.and_eq_true, beq_iff_eq] at this hp
      omega
theorem hu_le {A : AS} (hF : WF (aS A)) {u : Nat} : hu A u ≤ 54 := by
  have := helpN_le hF (fun c => (fates (aS A) (aW A) 1 ||| u).testBit c) (nC (aS A)) (Nat.le_refl _)
  have h6 := hF.1
  unfold hu
  omega
theorem pc_6 {v : Nat} (h : v < 64) : pc v = pcN v 6 := by
  have hb : ∀ i, 6 ≤ i → v.testBit i = false := fun i hi => Nat.testBit_lt_two_pow (Nat.lt_of_lt_of_le h (Nat.pow_le_pow_right (n := 2) (by omega) hi))
  unfold pc
  show pcN v 6 + (if v.testBit 6 then 1 else 0) + (if v.testBit 7 then 1 else 0) + (if v.testBit 8 then 1 else 0) + (if v.testBit 9 then 1 else 0) = _
  rw [hb 6 (by omega), hb 7 (by omega), hb 8 (by omega), hb 9 (by omega)]
  simp
theorem cn_pc {A : AS} (hF : WF (aS A)) : cnF A 0 = pc (frF A) := by
  rw [pc_6 (show frF A < 64 from fates_lt hF 0)]
  unfold cnF
  rw [less_0]
section C72
variable {X : Nat × (Nat → Int32)} {d n : Nat} {M M1 M2 M' : rM} {A A' : AS} {S : SK} {W V : WD} {cr wa h : Nat} {s : BS} {Q : List QE}
theorem c_hOf (hS : CS S M) (hF : WF S) {u : Nat} (hu : u < 64) : fn X (d + 2) 12 [rv 49, iv (u : Int)] M = oI (helpN S (fun c => u.testBit c) (nC S) : Int) M := by
  have h6 := hF.1
  rw [q_12_49]
  refine loop_up (P := fun n c => kb X (d + 1) 12 n 4 [some (rv 49), some (iv (u : Int)), some (iv ((helpN S (fun c => u.testBit c) c : Nat) : Int)), some (iv (c : Int))] [] M) (nC S) ?_ ?_ (nC S) 0 FU (by omega) (FU_lt (by omega))
  · intro n c hc
    left
    have hb := helpN_le hF (fun c => u.testBit c) c (by omega)
    have hb2 := (hF.2.2.2.2.1 c hc).2.2.2.2
    have hg := c_get4 (X := X) (d := d) hS hF hc (j := 4) (by omega)
    have hg : fn X (d + 1) 118 [rv 4, iv (c : Int), iv 4] M = _ := hg
    rw [q_12_49_at4, q_112_4, cI_I, hS.1, if_pos (by omega), bit_test (by omega) (by omega), wr_succ (by omega)]
    simp only [helpN]
    by_cases hx : u.testBit c = true
    · rw [if_neg (by rw [if_pos hx]; omega), if_pos hx, hg, cI_I, wri (by omega) (by omega)]
      rfl
    · rw [if_pos (by rw [if_neg hx]), if_neg hx]
  · intro n
    rw [q_12_49_at4, q_112_4, cI_I, hS.1, if_neg (by omega)]
theorem CO.fr {lo : Nat} (h : CO A lo M) (e : ∀ v, lo ≤ v → M'.2.1 50 v = M.2.1 50 v ∧ M'.2.1 51 v = M.2.1 51 v) : CO A lo M' := fun v h1 h2 h3 => by
  rw [(e v h1).1, (e v h1).2]
  exact h v h1 h2 h3
theorem CP.fr (h : CP A M) (e : M'.2.1 52 = M.2.1 52) : CP A M' := fun c v h1 h2 => by
  rw [e]
  exact h c v h1 h2
theorem tv_ne {p : Nat × Nat} : tv (some p) ≠ -1 := by
  show ((p.1 : Nat) : Int) ≠ -1
  omega
theorem CHso (h : CH A M) (f : sf PO M M') : CH A M' := h.sf f eC_O
theorem c_choose (hA : OKA A) (h : CH A M) {u : Nat} (hs : less u (frF A) = 0) (hO : CO A (u + 1) M) (hP : CP A M) : ∃ M', fn X (d + 6) 13 [rv 49, iv (frF A : Int), iv (u : Int), iv (hu A u : Int)] M = oV M' ∧ CO A u M' ∧ CP A M' ∧ sf PO M M' := by
  have hF := hA.1
  have hR := hA.2.1
  have h6 := hF.1
  have hf6 : frF A < 64 := fates_lt hF 0
  have hul := sub_le hs
  have hh := hu_le (A := A) (u := u) hF
  have p50 : ∀ j, PO 50 j = true := fun j => by simp [PO]
  have p51 : ∀ j, PO 51 j = true := fun j => by simp [PO]
  have p52 : ∀ j, PO 52 j = true := fun j => by simp [PO]
  have hl : less (frF A) u < 64 := by
    have hx : less (less (frF A) u) (frF A) = 0 := by
      apply Nat.eq_of_testBit_eq
      intro i
      rw [less_bit, less_bit, Nat.zero_testBit]
      cases (frF A).testBit i <;> simp
    have := sub_le hx
    omega
  have eF : iand (frF A : Int) (ixor (u : Int) (-1)) = (less (frF A) u : Int) := iand_not (by omega) (by omega)
  have main : ∀ b0 : Int, b0 = tv (bs A (RA A) u 0) → ∃ M', kb X (d + 5) 13 FU 22 [some (rv 49), some (iv (frF A : Int)), some (iv (u : Int)), some (iv (hu A u : Int)), some (iv b0), some (iv 0), none, none] [] (puI M 51 u 0) = oV M' ∧ CO A u M' ∧ CP A M' ∧ sf PO M M' := by
    rintro b0 rfl
    refine loop_g (σ := rM) (fun c M1 => M1.2.1 51 u = tf (bs A (RA A) u c) ∧ CO A (u + 1) M1 ∧ CP A M1 ∧ sf PO M M1) (fun m c M1 => kb X (d + 5) 13 m 22 [some (rv 49), some (iv (frF A : Int)), some (iv (u : Int)), some (iv (hu A u : Int)), some (iv (tv (bs A (RA A) u c))), some (iv (c : Int)), none, none] [] M1) (fun z => ∃ M', z = oV M' ∧ CO A u M' ∧ CP A M' ∧ sf PO M M') (nC (aS A)) 2 ?_ ?_ (nC (aS A)) 0 FU (puI M 51 u 0) (by omega) (by have := FU_ge; omega) ⟨?_, ?_, ?_, sf.rf.pu (p51 _) _⟩
    · rintro g c M1 hc ⟨i1, i2, i3, i4⟩
      left
      have h1 : CH A M1 := CHso h i4
      have hbt : (less (frF A) u).testBit c = ((frF A).testBit c && !u.testBit c) := less_bit _ _ _
      have eb : bs A (RA A) u (c + 1) = (match (if (frF A).testBit c = true ∧ u.testBit c = false then one A c u else none), RA A (u ||| 2 ^ c) with
        | some a, some b => (match bs A (RA A) u c with
          | none => some (a + b.1, c)
          | some t => if a + b.1 < t.1 then some (a + b.1, c) else some t)
        | _, _ => bs A (RA A) u c) := rfl
      rw [show g + 2 = (g + 1) + 1 by omega, q_13_49_at22, q_112_4, cI_I, h1.1.1, if_pos (by omega), eF, bit_test (by omega) (by omega), wr_succ (by omega), set_or (by omega) (by omega)]
      by_cases hb : (frF A).testBit c = true ∧ u.testBit c = false
      · have hb2 : (less (frF A) u).testBit c = true := by rw [hbt, hb.1, hb.2]; rfl
        have hv := less_sub hs hb.1
        have hvl := sub_le hv
        have hvg := or_gt hb.2
        obtain ⟨o1, o2⟩ := i2 (u ||| 2 ^ c) hvg hvl hv
        rw [if_pos hb] at eb
        rw [if_neg (by rw [if_pos hb2]; omega), gdx (by omega) (by omega), Int.toNat_natCast, o1]
        cases hr : RA A (u ||| 2 ^ c) with
        | none =>
          have e1 : bs A (RA A) u (c + 1) = bs A (RA A) u c := by
            rw [eb, hr]
            cases one A c u <;> rfl
          rw [if_pos (show tv none = -1 from rfl), e1]
          exact ⟨g + 1, M1, by omega, rfl, i1, i2, i3, i4⟩
        | some b =>
          have ei : wr (wr ((c : Int) * 55) + (hu A u : Int)) = ((c * 55 + hu A u : Nat) : Int) := by
            rw [wri (x := (c : Int) * 55) (by omega) (by omega), wri (by omega) (by omega)]
            omega
          have htv : tv (some b) = (b.1 : Int) := rfl
          have hbl : b.1 ≤ 23424 := RA_le hA (t := b.1) (f := b.2) hr
          rw [if_neg tv_ne, ei, gdx (by omega) (by omega), Int.toNat_natCast]
          -- behind the plans
          have fin : ∀ (M2 : rM), M2.2.1 52 (c * 55 + hu A u) = ((((fwh A c (hu A u)).getD []).length : Nat) : Int) → M2.2.1 51 u = tf (bs A (RA A) u c) → M2.2.1 50 (u ||| 2 ^ c) = tv (some b) → CO A (u + 1) M2 → CP A M2 → sf PO M M2 → ∃ g' s', g ≤ g' ∧ kb X (d + 5) 13 (g + 1) 116 [some (rv 49), some (iv (frF A : Int)), some (iv (u : Int)), some (iv (hu A u : Int)), some (iv (tv (bs A (RA A) u c))), some (iv (c : Int)), some (iv ((c * 55 + hu A u : Nat) : Int)), none] [] M2 = kb X (d + 5) 13 g' 22 [some (rv 49), some (iv (frF A : Int)), some (iv (u : Int)), some (iv (hu A u : Int)), some (iv (tv (bs A (RA A) u (c + 1)))), some (iv ((c + 1 : Nat) : Int)), none, none] [] s' ∧ s'.2.1 51 u = tf (bs A (RA A) u (c + 1)) ∧ CO A (u + 1) s' ∧ CP A s' ∧ sf PO M s' := by
            intro M2 j1 j2 j3 j4 j5 j6
            have j7 : CO A (u + 1) (puI M2 51 u (c : Int)) := j4.fr (fun v hv => ⟨puI_ne (by omega), puI_nj (by omega)⟩)
            have j8 : CP A (puI M2 51 u (c : Int)) := j5.fr (puI_k (by omega))
            rw [q_13_49_at116, set_or (by omega) (by omega), gdx (by omega) (by omega), gdx (by omega) (by omega), gdx (by omega) (by omega), Int.toNat_natCast, Int.toNat_natCast, j1, j3, htv, wr_succ (by omega), Int.toNat_natCast]
            rw [hr] at eb
            unfold one at eb
            cases hx : fwh A c (hu A u) with
            | none =>
              rw [hx] at eb
              have e1 : bs A (RA A) u (c + 1) = bs A (RA A) u c := eb
              rw [if_neg (show ¬ (0 : Int) < (((none : Option (List Nat)).getD []).length : Nat) by simp), e1]
              exact ⟨g, M2, Nat.le_refl _, rfl, j2, j4, j5, j6⟩
            | some r =>
              obtain ⟨r1, r2⟩ := fwh_ok hA hc hx
              have r0 : r.length ≠ 0 := fun z => r1 (List.length_eq_zero_iff.1 z)
              have er : (((some r).getD []).length : Nat) = r.length := rfl
              rw [hx] at eb
              have eb : bs A (RA A) u (c + 1) = (match bs A (RA A) u c with
                | none => some (r.length + b.1, c)
                | some t => if r.length + b.1 < t.1 then some (r.length + b.1, c) else some t) := eb
              rw [er, if_pos (by omega), wri (by omega) (by omega), gdx (by omega) (by omega)]
              cases hy : bs A (RA A) u c with
              | none =>
                rw [hy] at eb
                have eb : bs A (RA A) u (c + 1) = some (r.length + b.1, c) := eb
                rw [if_pos (show tv none = -1 from rfl), eb]
                exact ⟨g, puI M2 51 u (c : Int), Nat.le_refl _, rfl, puI_eq _ _ _ _, j7, j8, j6.pu (p51 _) _⟩
              | some t =>
                rw [hy] at eb
                have eb : bs A (RA A) u (c + 1) = if r.length + b.1 < t.1 then some (r.length + b.1, c) else some t := eb
                have ht : tv (some t) = (t.1 : Int) := rfl
                rw [if_neg tv_ne, ht]
                by_cases hlt : r.length + b.1 < t.1
                · rw [if_pos (by omega)]
                  rw [if_pos hlt] at eb
                  rw [eb]
                  exact ⟨g, puI M2 51 u (c : Int), Nat.le_refl _, rfl, puI_eq _ _ _ _, j7, j8, j6.pu (p51 _) _⟩
                · rw [if_neg (by omega)]
                  rw [if_neg hlt] at eb
                  rw [eb]
                  rw [hy] at j2
                  exact ⟨g, M2, Nat.le_refl _, rfl, j2, j4, j5, j6⟩
          rw [hr] at o1
          rcases i3 c (hu A u) hc hh with hp | hp
          · obtain ⟨M3, a1, a2, a3⟩ := c_startAt (X := X) (d := d + 3) (h := hu A u) hF h1.W hc
            obtain ⟨vb, -, vc, -⟩ := hA.2.2.1.1.2.2 c hc
            obtain ⟨M4, s', k1, k2, k3, k4, k5⟩ := c_fewest (X := X) (d := d) (h1.1.sf a3 PQ_lo) hF hR hc (by omega) vb vc a2
            have f4 : sf PQ M1 M4 := a3.tr k5
            have o5 : ∀ a, 50 ≤ a → M4.2.1 a = M1.2.1 a := fun a ha => by
              funext j
              exact (f4.2 a j (by simp only [PQ, Bool.or_eq_false_iff, Bool.and_eq_false_iff, beq_eq_false_iff_ne, decide_eq_false_iff_not]; omega)).1
            rw [if_pos hp, a1, cV_V, k1, cI_I, gdx (by omega) (by omega)]
            refine fin _ (puI_eq _ _ _ _) ?_ ?_ ?_ ?_ ((i4.tr (f4.mo PO_Q)).pu (p52 _) _)
            · rw [puI_ne (by omega), o5 51 (by omega)]
              exact i1
            · rw [puI_ne (by omega), o5 50 (by omega)]
              exact o1
            · exact i2.fr (fun v hv => ⟨by rw [puI_ne (by omega), o5 50 (by omega)], by rw [puI_ne (by omega), o5 51 (by omega)]⟩)
            · intro c' v h1' h2'
              by_cases e : c' * 55 + v = c * 55 + hu A u
              · have e1 : c' = c := by omega
                have e2 : v = hu A u := by omega
                subst e1; subst e2
                rw [puI_eq]
                exact Or.inr rfl
              · rw [puI_nj e, o5 52 (by omega)]
                exact i3 c' v h1' h2'
          · rw [if_neg (by omega)]
            exact fin M1 hp i1 o1 i2 i3 i4
      · have e1 : bs A (RA A) u (c + 1) = bs A (RA A) u c := by
          rw [eb, if_neg hb]
        have hb2 : (less (frF A) u).testBit c = false := by
          rw [hbt]
          cases hx : (frF A).testBit c with
          | false => rfl
          | true =>
            cases hy : u.testBit c with
            | true => rfl
            | false => exact absurd ⟨hx, hy⟩ hb
        rw [if_pos (by rw [if_neg (by rw [hb2]; simp)]), e1]
        exact ⟨g + 1, M1, by omega, rfl, i1, i2, i3, i4⟩
    · rintro g M1 ⟨i1, i2, i3, i4⟩
      have h1 : CH A M1 := CHso h i4
      rw [q_13_49_at22, q_112_4, cI_I, h1.1.1, if_neg (by omega), gdx (by omega) (by omega), Int.toNat_natCast]
      refine ⟨_, rfl, fun v z1 z2 z3 => ?_, i3.fr (puI_k (by omega)), i4.pu (p50 _) _⟩
      by_cases e : v = u
      · subst e
        rw [puI_eq, puI_ne (by omega), i1, ← RA_eq h6]
        exact ⟨rfl, rfl⟩
      · rw [puI_nj e, puI_ne (by omega)]
        exact i2 v (by omega) z2 z3
    · rw [puI_eq]
      unfold bs
      split <;> rfl
    · exact hO.fr (fun v hv => ⟨puI_ne (by omega), puI_nj (by omega)⟩)
    · exact hP.fr (puI_k (by omega))
  rw [q_13_49]
  by_cases e : u = frF A
  · rw [if_pos (by omega), gdx (by omega) (by omega), Int.toNat_natCast]
    exact main 0 (by unfold bs; rw [if_pos e]; rfl)
  · rw [if_neg (by omega), gdx (by omega) (by omega), Int.toNat_natCast]
    exact main (-1) (by unfold bs; rw [if_neg e]; rfl)
theorem c_fillP : ∃ M', fn X (d + 1) 354 [rv 52, iv (-1)] M = oV M' ∧ (∀ j, j < 330 → M'.2.1 52 j = -1) ∧ sf PO M M' := by
  rw [q_354_52]
  refine loop_st (σ := rM) (fun c M1 => (∀ j, j < c → M1.2.1 52 j = -1) ∧ sf PO M M1) (fun m c M1 => kb X d 354 m 5 [some (rv 52), some (iv (-1)), some (iv (c : Int)), some (iv 330)] [] M1) (fun r => ∃ M', r = oV M' ∧ (∀ j, j < 330 → M'.2.1 52 j = -1) ∧ sf PO M M') 330 ?_ ?_ 330 0 FU M (by omega) (FU_lt (by omega)) ⟨fun j hj => by omega, sf.rf⟩
  · rintro m c M1 hc ⟨i1, i2⟩
    left
    rw [q_354_52_at5, if_pos (by omega), gdx (by omega) (by omega), Int.toNat_natCast, wr_succ (by omega)]
    refine ⟨_, rfl, fun j hj => ?_, i2.pu (by simp [PO]) _⟩
    by_cases e : j = c
    · rw [e, puI_eq]
    · rw [puI_nj e]
      exact i1 j (by omega)
  · rintro m M1 ⟨i1, i2⟩
    rw [q_354_52_at5, if_neg (by omega)]
    exact ⟨M1, rfl, i1, i2⟩
theorem c_solve (hA : OKA A) (h : CH A M) : ∃ M', fn X (d + 7) 10 [rv 49, iv (frF A : Int)] M = oI (tv (RA A 0)) M' ∧ CO A 0 M' ∧ sf PO M M' := by
  have hF := hA.1
  have hf6 : frF A < 64 := fates_lt hF 0
  obtain ⟨M1, a1, a2, a3⟩ := c_fillP (X := X) (d := d + 5) (M := M)
  have h1 : CH A M1 := CHso h a3
  rw [q_10_49, a1, cV_V, c_help hs34 h1.1 hF h1.W, cI_I]
  refine loop_st (σ := rM) (fun c M2 => CO A (frF A + 1 - c) M2 ∧ CP A M2 ∧ sf PO M M2) (fun m c M2 => kb X (d + 6) 10 m 18 [some (rv 49), some (iv (frF A : Int)), some (iv (helpW (aS A) (aW A) : Int)), some (iv ((frF A : Int) - (c : Int)))] [] M2) (fun r => ∃ M', r = oI (tv (RA A 0)) M' ∧ CO A 0 M' ∧ sf PO M M') (frF A + 1) ?_ ?_ (frF A + 1) 0 FU M1 (by omega) (FU_lt (by omega)) ⟨fun v z1 z2 => by omega, fun c v z1 z2 => Or.inl (a2 _ (by have := hF.1; omega)), a3⟩ |> fun z => by
    rw [show (frF A : Int) - ((0 : Nat) : Int) = (frF A : Int) by omega] at z
    exact z
  · rintro m c M2 hc ⟨i1, i2, i3⟩
    left
    have h2 : CH A M2 := CHso h i3
    obtain ⟨u, hu'⟩ : ∃ u, u = frF A - c := ⟨_, rfl⟩
    have eu : (frF A : Int) - (c : Int) = (u : Int) := by omega
    have ew : wr ((u : Int) + (-1)) = (frF A : Int) - ((c + 1 : Nat) : Int) := by
      rw [wri (by omega) (by omega)]
      omega
    have ea : iand (u : Int) (ixor (frF A : Int) (-1)) = (less u (frF A) : Int) := iand_not (by omega) (by omega)
    rw [show frF A + 1 - c = u + 1 by omega] at i1
    rw [q_10_49_at18, eu, if_neg (by omega), ea, ew, show frF A + 1 - (c + 1) = u by omega]
    by_cases hs : less u (frF A) = 0
    · have he := hu_eq hs
      have hh := hu_le (A := A) (u := u) hF
      obtain ⟨M3, k1, k2, k3, k4⟩ := c_choose (X := X) (d := d) hA h2 hs i1 i2
      rw [if_pos (by omega), c_hOf h2.1 hF (by omega), cI_I, wri (by omega) (by omega), ← Int.natCast_add, ← he, k1, cV_V]
      exact ⟨M3, rfl, k2, k3, i3.tr k4⟩
    · rw [if_neg (by omega)]
      refine ⟨M2, rfl, fun v z1 z2 z3 => ?_, i2, i3⟩
      by_cases e : v = u
      · subst e
        exact absurd z3 hs
      · exact i1 v (by omega) z2 z3
  · rintro m M2 ⟨i1, i2, i3⟩
    rw [show frF A + 1 - (frF A + 1) = 0 by omega] at i1
    rw [q_10_49_at18, if_pos (by omega), (i1 0 (Nat.le_refl _) (Nat.zero_le _) (less_z _)).1]
    exact ⟨M2, rfl, i1, i3⟩
theorem c_crOf (hA : OKA A) (hO : CO A 0 M) (h0 : RA A 0 ≠ none) {i : Nat} (hi : i < cnF A 0) : fn X (d + 1) 11 [rv 49, iv (i : Int)] M = oI ((((RA A (os A i)).getD (0, 0)).2 : Nat) : Int) M := by
  have hF := hA.1
  have h6 := hF.1
  have hc6 := cn_le (A := A) (u := 0)
  have get : ∀ k, k ≤ i → M.2.1 51 (os A k) = ((((RA A (os A k)).getD (0, 0)).2 : Nat) : Int) ∧ os A k < 64 ∧ ((RA A (os A k)).getD (0, 0)).2 < 6 := by
    intro k hk
    obtain ⟨o1, o2, o3, o4⟩ := os_ok hA h0 k (by omega)
    have := (hO (os A k) (Nat.zero_le _) (sub_le o2) o2).2
    cases hx : RA A (os A k) with
    | none => exact absurd hx o3
    | some p =>
      rw [hx] at this
      exact ⟨this, o1, RA_lt h6 hA (t := p.1) (f := p.2) hx⟩
  rw [q_11_49]
  refine loop_up (P := fun n k => kb X d 11 n 4 [some (rv 49), some (iv (i : Int)), some (iv (os A k : Int)), some (iv (k : Int))] [] M) i ?_ ?_ i 0 FU (by omega) (FU_lt (by omega))
  · intro n k hk
    left
    obtain ⟨g1, g2, g3⟩ := get k (by omega)
    rw [q_11_49_at4, if_pos (by omega), if_pos (by omega), gdx (by omega) (by omega), Int.toNat_natCast, g1, wr_succ (by omega), set_or (by omega) (by omega)]
    rfl
  · intro n
    obtain ⟨g1, g2, g3⟩ := get i (Nat.le_refl _)
    rw [q_11_49_at4, if_neg (by omega), gdx (by omega) (by omega), Int.toNat_natCast, g1]
noncomputable def ordV (A : AS) (i : Int) : Int := match RA A 0 with
  | none => -2
  | some p => if i = -1 then (p.1 : Int) else ((((RA A (os A i.toNat)).getD (0, 0)).2 : Nat) : Int)
theorem c_order (hA : OKA A) (h : CH A M) (i : Int) : wOut A (ans (-1 ≤ i ∧ i < (pc (frF A) : Int)) 0).1 (ordV A i) M (fn X (d + 9) 333 [rv 0, iv i, rv 111] M) := by
  have hF := hA.1
  have hf6 : frF A < 64 := fates_lt hF 0
  have b := c_bits (X := X) (d := d + 5) hs34 h.1 hF h.W 0
  have b : fn X (d + 7) 105 [rv 34, iv 0] M = oI (frF A : Int) M := b
  rw [q_333_0_111, q_166_0, b, cI_I, c_bc (by omega), cI_I]
  unfold ans
  by_cases h1 : -1 ≤ i
  · rw [if_neg (show ¬ i < -1 by omega)]
    by_cases h2 : i < (pc (frF A) : Int)
    · rw [if_pos (show -1 ≤ i ∧ i < (pc (frF A) : Int) from ⟨h1, h2⟩), if_pos h2]
      obtain ⟨M1, g1, g2, g3⟩ := c_solve (X := X) (d := d) hA h
      have hc1 : CH A M1 := CHso h g3
      rw [g1, cI_I]
      unfold ordV
      cases hx : RA A 0 with
      | none =>
        rw [if_pos (show tv none = -1 from rfl)]
        exact w_ok (M1 := M1) rfl hc1 (kC_O g3) g3.1
      | some p =>
        rw [if_neg tv_ne]
        dsimp only
        by_cases h3 : i = -1
        · rw [if_pos h3, if_pos h3]
          exact w_ok (M1 := M1) rfl hc1 (kC_O g3) g3.1
        · obtain ⟨k, hk, rfl⟩ := nat_of (a := i) (n := pc (frF A)) ⟨by omega, h2⟩
          rw [if_neg h3, if_neg h3, c_crOf hA g2 (by rw [hx]; simp) (by rw [cn_pc hF]; exact hk), cI_I, Int.toNat_natCast]
          exact w_ok (M1 := M1) rfl hc1 (kC_O g3) g3.1
    · rw [if_neg (show ¬ (-1 ≤ i ∧ i < (pc (frF A) : Int)) from fun z => h2 z.2), if_neg h2]
      exact w_x (q := 0) (k := 1) (M1 := thr M) rfl rfl (by omega) h kC.rf rfl
  · rw [if_neg (show ¬ (-1 ≤ i ∧ i < (pc (frF A) : Int)) from fun z => h1 z.1), if_pos (show i < -1 by omega)]
    exact w_x (q := 0) (k := 1) (M1 := thr M) rfl rfl (by omega) h kC.rf rfl
end C72

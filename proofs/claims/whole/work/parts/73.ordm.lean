/-! ===== order, on the model's side ===== -/
def rvv (p : Option (Nat × Nat)) : Int := match p with
  | none => 99999
  | some q => (q.1 : Int)
def ovv (p : Option Nat) : Int := match p with
  | none => 99999
  | some a => (a : Int)
def PR (k j : Nat) : Bool := PB k j || k == 102 || k == 103
theorem PR_B : ∀ k j, PR k j = false → PB k j = false := by
  intro k j z
  unfold PR at z
  simp only [Bool.or_eq_false_iff] at z
  exact z.1.1
theorem eM_R : ∀ k j, eM k j = true → PR k j = false := by
  intro k j z
  unfold PR
  rw [eM_B k j z]
  unfold eM at z
  simp only [Bool.or_eq_true, Bool.and_eq_true, beq_iff_eq, decide_eq_true_eq] at z
  simp only [Bool.or_eq_false_iff, beq_eq_false_iff_ne]
  exact ⟨⟨trivial, by omega⟩, by omega⟩
theorem kM_R {M M' : rM} (f : sf PR M M') : kM M M' := kM.sf f (fun k j hk => by
  unfold PR PB
  simp only [Bool.or_eq_false_iff, Bool.and_eq_false_iff, beq_eq_false_iff_ne, decide_eq_false_iff_not]
  omega)
noncomputable def MO (A : AS) (lo : Nat) (M : rM) : Prop := ∀ v, lo ≤ v → v ≤ frF A → less v (frF A) = 0 → M.2.1 102 v = rvv (RA A v) ∧ ∀ c, c < nC (aS A) → (frF A).testBit c = true → v.testBit c = false → M.2.1 103 (6 * v + c) = ovv (one A c v)
section C73
variable {X : Nat × (Nat → Int32)} {d n : Nat} {M M1 M2 M' : rM} {A A' : AS} {S : SK} {W V : WD} {cr wa h : Nat} {s : BS} {Q : List QE}
theorem bit01 (p : Bool) : ((if p = true then (1 : Int) else 0) = 0 ↔ p = false) ∧ ((if p = true then (1 : Int) else 0) = 1 ↔ p = true) := by
  cases p <;> simp
theorem m_one (hA : OKA A) (h : MH A M) {c u : Nat} (hc : c < nC (aS A)) : ∃ M', fn X (d + 5) 278 [rv 59, iv (c : Int), iv (hu A u : Int)] M = oI (ovv (one A c u)) M' ∧ sf PB M M' := by
  obtain ⟨hF, hR, hV, -⟩ := hA
  have hh := hu_le (A := A) (u := u) hF
  obtain ⟨M1, g1, -, g3⟩ := m_fewest (X := X) (d := d) (h := hu A u) h.1 hF hR h.W hV.1 hc (by omega)
  refine ⟨M1, ?_, g3⟩
  rw [g1]
  unfold one fwh
  cases (stF (aS A) c (aW A (9 + c)) (hu A u) (aW A (3 + c)) (aW A (15 + c))).2.1 <;> rfl
theorem m_layU (hA : OKA A) (h : MH A M) {u : Nat} (hs : less u (frF A) = 0) : ∀ (j c g : Nat) (M1 : rM), c + j = nC (aS A) → M1.2.1 102 u = rvv (bs A (RA A) u c) → (∀ c', c' < c → (frF A).testBit c' = true → u.testBit c' = false → M1.2.1 103 (6 * u + c') = ovv (one A c' u)) → MO A (u + 1) M1 → sf PR M M1 →
    ∃ M2, kb X (d + 5) 284 (g + j + 1) 45 [some (rv 59), some (iv (frF A : Int)), some (iv (fates (aS A) (aW A) 1 : Int)), some (iv (u : Int)), some (iv (c : Int))] [] M1 = kb X (d + 5) 284 g 9 [some (rv 59), some (iv (frF A : Int)), some (iv (fates (aS A) (aW A) 1 : Int)), some (iv ((u : Int) - 1)), none] [] M2 ∧ MO A u M2 ∧ sf PR M M2
  | 0, c, g, M1, hc, i1, i2, i3, i4 => by
    have hF := hA.1
    have hf6 : frF A < 64 := fates_lt hF 0
    have hul := sub_le hs
    have h1 : MH A M1 := h.sf i4 eM_R
    have : c = nC (aS A) := by omega
    subst this
    have ew : wr ((u : Int) + (-1)) = (u : Int) - 1 := by
      rw [wri (by omega) (by omega)]
      omega
    rw [show g + 0 + 1 = g + 1 from rfl, q_284_59_at45, h1.1.1, if_neg (by omega), ew]
    refine ⟨M1, rfl, fun v z1 z2 z3 => ?_, i4⟩
    by_cases e : v = u
    · subst e
      rw [i1, ← RA_eq hF.1]
      exact ⟨rfl, i2⟩
    · exact i3 v (by omega) z2 z3
  | j + 1, c, g, M1, hc, i1, i2, i3, i4 => by
    have hF := hA.1
    have h6 := hF.1
    have hf6 : frF A < 64 := fates_lt hF 0
    have hul := sub_le hs
    have hcl : c < nC (aS A) := by omega
    have h1 : MH A M1 := h.sf i4 eM_R
    have hf1 : fates (aS A) (aW A) 1 < 64 := fates_lt hF 1
    have ih := m_layU hA h hs j (c + 1) g
    have eb : bs A (RA A) u (c + 1) = (match (if (frF A).testBit c = true ∧ u.testBit c = false then one A c u else none), RA A (u ||| 2 ^ c) with
      | some a, some b => (match bs A (RA A) u c with
        | none => some (a + b.1, c)
        | some t => if a + b.1 < t.1 then some (a + b.1, c) else some t)
      | _, _ => bs A (RA A) u c) := rfl
    rw [show g + (j + 1) + 1 = (g + j + 1) + 1 by omega, q_284_59_at45, h1.1.1, if_pos (by omega), bit_test (by omega) (by omega), bit_test (by omega) (by omega), wr_succ (by omega), ior_nat (by omega) (by omega), set_or (by omega) (by omega)]
    by_cases hb1 : (frF A).testBit c = true
    · rw [if_neg (fun z => by rw [(bit01 _).1] at z; rw [hb1] at z; cases z)]
      by_cases hb2 : u.testBit c = true
      · rw [if_pos ((bit01 _).2.2 hb2)]
        have e1 : bs A (RA A) u (c + 1) = bs A (RA A) u c := by
          rw [eb, if_neg (fun z => by rw [hb2] at z; cases z.2)]
        refine ih M1 (by omega) (by rw [e1]; exact i1) (fun c' z1 z2 z3 => ?_) i3 i4
        by_cases e : c' = c
        · subst e
          rw [hb2] at z3
          cases z3
        · exact i2 c' (by omega) z2 z3
      · have hb2 : u.testBit c = false := by simpa using hb2
        rw [if_neg (fun z => by rw [(bit01 _).2] at z; rw [hb2] at z; cases z)]
        have hv := less_sub hs hb1
        have hvl := sub_le hv
        have hvg := or_gt hb2
        obtain ⟨M3, k1, k2⟩ := m_one (X := X) (d := d) (u := u) hA h1 hcl
        have o : ∀ a, a = 102 ∨ a = 103 → M3.2.1 a = M1.2.1 a := fun a ha => by
          funext j
          exact (k2.2 a j (by simp only [PB, Bool.or_eq_false_iff, Bool.and_eq_false_iff, beq_eq_false_iff_ne, decide_eq_false_iff_not]; omega)).1
        have ho : fates (aS A) (aW A) 1 ||| u < 64 := Nat.or_lt_two_pow (n := 6) hf1 (by omega)
        have hh : fn X (d + 5) 253 [rv 59, iv ((fates (aS A) (aW A) 1 ||| u : Nat) : Int)] M1 = oI (hu A u : Int) M1 := m_helpOf h1.1 hF (by omega)
        have ei : wr (wr (6 * (u : Int)) + (c : Int)) = ((6 * u + c : Nat) : Int) := by
          rw [wri (x := 6 * (u : Int)) (by omega) (by omega), wri (by omega) (by omega)]
          omega
        have r1 := (i3 (u ||| 2 ^ c) hvg hvl hv).1
        rw [hh, cI_I, k1, cI_I, ei, gdx (by omega) (by omega), gdx (by omega) (by omega), gdx (by omega) (by omega), gdx (by omega) (by omega), Int.toNat_natCast, Int.toNat_natCast, Int.toNat_natCast, puI_eq, o 102 (Or.inl rfl), r1, i1]
        have oo : 0 ≤ ovv (one A c u) ∧ ovv (one A c u) ≤ 99999 := by
          cases hx : one A c u with
          | none => exact ⟨by decide, by decide⟩
          | some a =>
            have := (one_ok hA hcl hx).2
            show (0 : Int) ≤ (a : Int) ∧ (a : Int) ≤ 99999
            omega
        have rr : 0 ≤ rvv (RA A (u ||| 2 ^ c)) ∧ rvv (RA A (u ||| 2 ^ c)) ≤ 99999 := by
          cases hx : RA A (u ||| 2 ^ c) with
          | none => exact ⟨by decide, by decide⟩
          | some p =>
            have := RA_le hA (t := p.1) (f := p.2) hx
            show (0 : Int) ≤ (p.1 : Int) ∧ (p.1 : Int) ≤ 99999
            omega
        have bb' : rvv (bs A (RA A) u c) ≤ 99999 := by
          cases hx : bs A (RA A) u c with
          | none => exact (by decide)
          | some p =>
            have := (bs_le hA c (by omega) p.1 p.2 hx).1
            show (p.1 : Int) ≤ 99999
            omega
        have ev : min (rvv (bs A (RA A) u c)) (min 99999 (ovv (one A c u) + rvv (RA A (u ||| 2 ^ c)))) = rvv (bs A (RA A) u (c + 1)) := by
          rw [eb, if_pos ⟨hb1, hb2⟩]
          cases hx : one A c u with
          | none =>
            have : ovv none = 99999 := rfl
            dsimp only
            omega
          | some a =>
            have ha := (one_ok hA hcl hx).2
            have : ovv (some a) = (a : Int) := rfl
            cases hy : RA A (u ||| 2 ^ c) with
            | none =>
              have key : ∀ x y : Int, x ≤ 99999 → 99999 ≤ y → min x (min 99999 y) = x := fun x y _ _ => by omega
              refine key _ _ bb' ?_
              show (99999 : Int) ≤ (a : Int) + 99999
              omega
            | some b =>
              have hbl := RA_le hA (t := b.1) (f := b.2) hy
              have : rvv (some b) = (b.1 : Int) := rfl
              cases hz : bs A (RA A) u c with
              | none =>
                have e1 : rvv none = 99999 := rfl
                have e2 : rvv (some (a + b.1, c)) = ((a + b.1 : Nat) : Int) := rfl
                dsimp only
                omega
              | some t =>
                have e1 : rvv (some t) = (t.1 : Int) := rfl
                dsimp only
                by_cases hl : a + b.1 < t.1
                · rw [if_pos hl]
                  have e2 : rvv (some (a + b.1, c)) = ((a + b.1 : Nat) : Int) := rfl
                  omega
                · rw [if_neg hl]
                  omega
        rw [wri (x := ovv _ + rvv _) (by omega) (by omega), m_lesser, cI_I, m_lesser, cI_I, gdx (by omega) (by omega), ev]
        refine ih _ (by omega) (puI_eq _ _ _ _) (fun c' z1 z2 z3 => ?_) (fun v z1 z2 z3 => ?_) (((i4.tr (k2.mo PR_B)).pu (k := 103) (by simp [PR]) _).pu (k := 102) (by simp [PR]) _)
        · rw [puI_ne (by omega)]
          by_cases e : c' = c
          · rw [e, puI_eq]
          · rw [puI_nj (by omega), o 103 (Or.inr rfl)]
            exact i2 c' (by omega) z2 z3
        · obtain ⟨y1, y2⟩ := i3 v z1 z2 z3
          refine ⟨?_, fun c' w1 w2 w3 => ?_⟩
          · rw [puI_nj (by omega), puI_ne (by omega), o 102 (Or.inl rfl)]
            exact y1
          · rw [puI_ne (by omega), puI_nj (by omega), o 103 (Or.inr rfl)]
            exact y2 c' w1 w2 w3
    · have hb1 : (frF A).testBit c = false := by simpa using hb1
      rw [if_pos ((bit01 _).1.2 hb1)]
      have e1 : bs A (RA A) u (c + 1) = bs A (RA A) u c := by
        rw [eb, if_neg (fun z => by rw [hb1] at z; cases z.1)]
      refine ih M1 (by omega) (by rw [e1]; exact i1) (fun c' z1 z2 z3 => ?_) i3 i4
      by_cases e : c' = c
      · subst e
        rw [hb1] at z2
        cases z2
      · exact i2 c' (by omega) z2 z3
theorem m_lays (hA : OKA A) (h : MH A M) : ∃ M', fn X (d + 6) 284 [rv 59, iv (frF A : Int)] M = oV M' ∧ MO A 0 M' ∧ sf PR M M' := by
  have hF := hA.1
  have h6 := hF.1
  have hf6 : frF A < 64 := fates_lt hF 0
  have th := m_those (X := X) (d := d + 4) h.1 hF (off := 0) (by omega) h.W 1
  have th : fn X (d + 5) 252 [rv 59, iv 0, iv 1] M = _ := th
  rw [q_284_59, th, cI_I]
  refine loop_g (σ := rM) (fun c M2 => MO A (frF A + 1 - c) M2 ∧ sf PR M M2) (fun m c M2 => kb X (d + 5) 284 m 9 [some (rv 59), some (iv (frF A : Int)), some (iv (fates (aS A) (aW A) 1 : Int)), some (iv ((frF A : Int) - (c : Int))), none] [] M2) (fun r => ∃ M', r = oV M' ∧ MO A 0 M' ∧ sf PR M M') (frF A + 1) (nC (aS A) + 2) ?_ ?_ (frF A + 1) 0 FU M (by omega) ?_ ⟨fun v z1 z2 => by omega, sf.rf⟩ |> fun z => by
    rw [show (frF A : Int) - ((0 : Nat) : Int) = (frF A : Int) by omega] at z
    exact z
  · rintro g c M2 hc ⟨i1, i3⟩
    left
    have h2 : MH A M2 := h.sf i3 eM_R
    obtain ⟨u, hu'⟩ : ∃ u, u = frF A - c := ⟨_, rfl⟩
    have eu : (frF A : Int) - (c : Int) = (u : Int) := by omega
    have ew : wr ((u : Int) + (-1)) = (frF A : Int) - ((c + 1 : Nat) : Int) := by
      rw [wri (by omega) (by omega)]
      omega
    have ew2 : (u : Int) - 1 = (frF A : Int) - ((c + 1 : Nat) : Int) := by omega
    have ea : iand (u : Int) (ixor (frF A : Int) (-1)) = (less u (frF A) : Int) := iand_not (by omega) (by omega)
    rw [show frF A + 1 - c = u + 1 by omega] at i1
    rw [show g + (nC (aS A) + 2) = (g + nC (aS A) + 1) + 1 by omega, q_284_59_at9, eu, if_neg (by omega), ea, ew, show frF A + 1 - (c + 1) = u by omega]
    by_cases hs : less u (frF A) = 0
    · rw [if_pos (by omega)]
      have go : ∀ x : Int, x = rvv (bs A (RA A) u 0) → ∃ g' s', g ≤ g' ∧ kb X (d + 5) 284 (g + nC (aS A) + 1) 45 [some (rv 59), some (iv (frF A : Int)), some (iv (fates (aS A) (aW A) 1 : Int)), some (iv (u : Int)), some (iv 0)] [] (puI M2 102 u x) = kb X (d + 5) 284 g' 9 [some (rv 59), some (iv (frF A : Int)), some (iv (fates (aS A) (aW A) 1 : Int)), some (iv ((frF A : Int) - ((c + 1 : Nat) : Int))), none] [] s' ∧ MO A u s' ∧ sf PR M s' := by
        rintro x rfl
        obtain ⟨M3, k1, k2, k3⟩ := m_layU (X := X) (d := d) hA h hs (nC (aS A)) 0 g (puI M2 102 u (rvv (bs A (RA A) u 0))) (by omega) (puI_eq _ _ _ _) (fun c' hc' => by omega) (fun v z1 z2 z3 => by
          obtain ⟨y1, y2⟩ := i1 v z1 z2 z3
          exact ⟨by rw [puI_nj (by omega)]; exact y1, fun c' w1 w2 w3 => by rw [puI_ne (by omega)]; exact y2 c' w1 w2 w3⟩) (i3.pu (k := 102) (by simp [PR]) _)
        rw [ew2] at k1
        exact ⟨g, M3, Nat.le_refl _, k1, k2, k3⟩
      by_cases e : u = frF A
      · rw [if_pos (by omega), gdx (by omega) (by omega), Int.toNat_natCast]
        exact go 0 (by unfold bs; rw [if_pos e]; rfl)
      · rw [if_neg (by omega), gdx (by omega) (by omega), Int.toNat_natCast]
        exact go 99999 (by unfold bs; rw [if_neg e]; rfl)
    · rw [if_neg (by omega)]
      refine ⟨g + nC (aS A) + 1, M2, by omega, rfl, fun v z1 z2 z3 => ?_, i3⟩
      by_cases e : v = u
      · subst e
        exact absurd z3 hs
      · exact i1 v (by omega) z2 z3
  · rintro m M2 ⟨i1, i3⟩
    rw [show frF A + 1 - (frF A + 1) = 0 by omega] at i1
    rw [q_284_59_at9, if_pos (by omega)]
    exact ⟨M2, rfl, i1, i3⟩
  · have := FU_ge
    have h1 : (frF A + 1) * (nC (aS A) + 2) ≤ 64 * 8 := Nat.mul_le_mul (by omega) (by omega)
    omega
/-- who comes next -/
theorem m_nextC (hA : OKA A) (hO : MO A 0 M) (hS : MS (aS A) M) {u t f : Nat} (hu : u < 64) (hs : less u (frF A) = 0) (hne : u ≠ frF A) (hr : RA A u = some (t, f)) {i k : Int} : ∀ (j g : Nat) (w : Int), j ≤ nC (aS A) → (j ≤ f → w = (f : Int)) → kb X d 285 (g + j + 1) 97 [some (rv 59), some (iv i), some (iv (frF A : Int)), some (iv (u : Int)), some (iv w), some (iv k), some (iv ((j : Int) - 1))] [] M = kb X d 285 g 80 [some (rv 59), some (iv i), some (iv (frF A : Int)), some (iv ((u ||| 2 ^ f : Nat) : Int)), some (iv (f : Int)), some (iv (wr (k + 1))), none] [] M
  | 0, g, w, hj, hw => by
    have hF := hA.1
    have h6 := hF.1
    have hf := RA_lt h6 hA hr
    have hw := hw (Nat.zero_le _)
    subst hw
    rw [show g + 0 + 1 = g + 1 from rfl, q_285_59_at97, if_pos (by omega), set_or (by omega) (by omega)]
  | j + 1, g, w, hj, hw => by
    have hF := hA.1
    have h6 := hF.1
    have hf6 : frF A < 64 := fates_lt hF 0
    have hr' := hr
    rw [RA_eq h6] at hr'
    obtain ⟨b1, b2, b3, a, b, b4, b5, b6, b7⟩ := bs_ok hA _ (Nat.le_refl _) t f hr' hne
    have htl := RA_le hA hr
    have hul := sub_le hs
    have e1 : (((j + 1 : Nat) : Int) - 1) = (j : Int) := by omega
    have e2 : wr ((j : Int) + (-1)) = (j : Int) - 1 := by
      rw [wri (by omega) (by omega)]
      omega
    obtain ⟨r1, r2⟩ := hO u (Nat.zero_le _) hul hs
    rw [hr] at r1
    have r1 : M.2.1 102 u = (t : Int) := r1
    rw [show g + (j + 1) + 1 = (g + j + 1) + 1 by omega, q_285_59_at97, e1, if_neg (by omega), bit_test (by omega) (by omega), bit_test (by omega) (by omega), e2, set_or (by omega) (by omega)]
    have keep : ¬ j = f → kb X d 285 (g + j + 1) 97 [some (rv 59), some (iv i), some (iv (frF A : Int)), some (iv (u : Int)), some (iv w), some (iv k), some (iv ((j : Int) - 1))] [] M = kb X d 285 g 80 [some (rv 59), some (iv i), some (iv (frF A : Int)), some (iv ((u ||| 2 ^ f : Nat) : Int)), some (iv (f : Int)), some (iv (wr (k + 1))), none] [] M := fun hn => m_nextC hA hO hS hu hs hne hr j g w (by omega) (fun z => hw (by omega))
    by_cases c1 : (frF A).testBit j = true
    · rw [if_pos ((bit01 _).2.2 c1)]
      by_cases c2 : u.testBit j = true
      · rw [if_neg (fun z => by rw [(bit01 _).1, c2] at z; cases z)]
        exact keep (fun z => by rw [← z, c2] at b3; cases b3)
      · have c2 : u.testBit j = false := by simpa using c2
        have hv := less_sub hs c1
        have hvl := sub_le hv
        have ei : wr (wr (6 * (u : Int)) + (j : Int)) = ((6 * u + j : Nat) : Int) := by
          rw [wri (x := 6 * (u : Int)) (by omega) (by omega), wri (by omega) (by omega)]
          omega
        rw [if_pos ((bit01 _).1.2 c2), ei, gdx (by omega) (by omega), gdx (by omega) (by omega), gdx (by omega) (by omega), Int.toNat_natCast, Int.toNat_natCast, Int.toNat_natCast, r1, r2 j (by omega) c1 c2, (hO (u ||| 2 ^ j) (Nat.zero_le _) hvl hv).1]
        by_cases ejf : j = f
        · subst ejf
          rw [b4, b5]
          have ea : ovv (some a) = (a : Int) := rfl
          have eb : rvv (some b) = (b.1 : Int) := rfl
          rw [ea, eb, wri (by omega) (by omega), if_pos (by omega)]
          exact m_nextC hA hO hS hu hs hne hr j g (j : Int) (by omega) (fun _ => rfl)
        · have go : ∀ x : Int, x = ovv (one A j u) + rvv (RA A (u ||| 2 ^ j)) → j < f → x ≠ (t : Int) := by
            rintro x rfl hjf
            cases hx : one A j u with
            | none =>
              have ea : ovv none = 99999 := rfl
              have : 0 ≤ rvv (RA A (u ||| 2 ^ j)) := by
                cases RA A (u ||| 2 ^ j) with
                | none => decide
                | some p => show (0 : Int) ≤ (p.1 : Int); omega
              omega
            | some a' =>
              have ea : ovv (some a') = (a' : Int) := rfl
              cases hy : RA A (u ||| 2 ^ j) with
              | none =>
                have eb : rvv none = 99999 := rfl
                omega
              | some b' =>
                have eb : rvv (some b') = (b'.1 : Int) := rfl
                have := (b7 j (by omega) c1 c2 a' b' hx hy).2 hjf
                omega
          have rng : 0 ≤ ovv (one A j u) ∧ ovv (one A j u) ≤ 99999 ∧ 0 ≤ rvv (RA A (u ||| 2 ^ j)) ∧ rvv (RA A (u ||| 2 ^ j)) ≤ 99999 := by
            refine ⟨?_, ?_, ?_, ?_⟩
            · cases hx : one A j u with
              | none => decide
              | some a' => show (0 : Int) ≤ (a' : Int); omega
            · cases hx : one A j u with
              | none => decide
              | some a' =>
                have := (one_ok hA (show j < nC (aS A) by omega) hx).2
                show (a' : Int) ≤ 99999
                omega
            · cases hx : RA A (u ||| 2 ^ j) with
              | none => decide
              | some p => show (0 : Int) ≤ (p.1 : Int); omega
            · cases hx : RA A (u ||| 2 ^ j) with
              | none => decide
              | some p =>
                have := RA_le hA (t := p.1) (f := p.2) hx
                show (p.1 : Int) ≤ 99999
                omega
          rw [wri (by omega) (by omega)]
          by_cases hjf : j < f
          · rw [if_neg (go _ rfl hjf)]
            exact keep (fun z => by omega)
          · split
            · exact m_nextC hA hO hS hu hs hne hr j g (j : Int) (by omega) (fun z => by omega)
            · exact keep (fun z => by omega)
    · have c1 : (frF A).testBit j = false := by simpa using c1
      rw [if_neg (fun z => by rw [(bit01 _).2, c1] at z; cases z)]
      exact keep (fun z => by rw [← z, c1] at b2; cases b2)
theorem m_order (hA : OKA A) (h : MH A M) (i : Int) : mOut A (ans (-1 ≤ i ∧ i < (pc (frF A) : Int)) 0).1 (if -1 ≤ i ∧ i < (pc (frF A) : Int) then ordV A i else 0) M (fn X (d + 7) 285 [rv 59, iv i] M) := by
  have hF := hA.1
  have h6 := hF.1
  have hf6 : frF A < 64 := fates_lt hF 0
  obtain ⟨h0, z0, k0⟩ := m_0 h
  obtain ⟨n, hn⟩ : ∃ n, FU = (n + 1) + 1 := ⟨FU - 2, by have := FU_ge; omega⟩
  have hnb : 100000 ≤ n := by have := FU_ge; omega
  have th := m_those (X := X) (d := d + 5) h0.1 hF (off := 0) (by omega) h0.W 0
  have th : fn X (d + 6) 252 [rv 59, iv 0, iv 0] (puI M 59 0 0) = oI (frF A : Int) (puI M 59 0 0) := th
  rw [q_285_59, th, cI_I]
  generalize puI M 59 0 0 = M0 at *
  unfold ans
  have bad : mOut A 1 0 M (kb X (d + 6) 285 FU 30 [some (rv 59), some (iv i), some (iv (frF A : Int)), none, none, none, none] [rv 59] M0) := by
    rw [hn, q_285_59_at30, q_285_59_at31, m_right0 z0 (by omega), cI_I, if_pos (show (0 : Int) = 0 from rfl)]
    exact ⟨_, rfl, puI_eq _ _ _ _, h0.p0 1, k0.pu (by omega) _ _⟩
  by_cases h1 : -1 ≤ i
  · rw [if_neg (show ¬ i < -1 by omega), m_bits (by omega), cI_I]
    by_cases h2 : i < (pc (frF A) : Int)
    · simp only [if_pos (show -1 ≤ i ∧ i < (pc (frF A) : Int) from ⟨h1, h2⟩)]
      obtain ⟨M1, g1, g2, g3⟩ := m_lays (X := X) (d := d) hA h0
      have hm1 : MH A M1 := h0.sf g3 eM_R
      have z1 : M1.2.1 59 0 = 0 := ((g3.2 59 0 (by decide)).1).trans z0
      have r0 := (g2 0 (Nat.le_refl _) (Nat.zero_le _) (less_z _)).1
      rw [if_pos h2, hn, q_285_59_at31, m_right1 z0, cI_I, if_neg n10, g1, cV_V, r0]
      have kk : kM M M1 := k0.tr (kM_R g3)
      unfold ordV
      cases hx : RA A 0 with
      | none =>
        rw [if_neg (show ¬ rvv none < 99999 by decide)]
        exact ⟨M1, rfl, z1, hm1, kk⟩
      | some p =>
        have hpl := RA_le hA (t := p.1) (f := p.2) hx
        have ep : rvv (some p) = (p.1 : Int) := rfl
        rw [ep, if_pos (by omega)]
        dsimp only
        by_cases h3 : i = -1
        · rw [if_pos h3, if_pos h3]
          exact ⟨M1, rfl, z1, hm1, kk⟩
        · obtain ⟨q, hq, rfl⟩ := nat_of (a := i) (n := pc (frF A)) ⟨by omega, h2⟩
          rw [← cn_pc hF] at hq
          have hc6 := cn_le (A := A) (u := 0)
          rw [if_neg h3, if_neg h3, Int.toNat_natCast]
          have hne0 : RA A 0 ≠ none := by rw [hx]; simp
          refine loop_g (σ := Int) (fun k w => 1 ≤ k → w = ((((RA A (os A (k - 1))).getD (0, 0)).2 : Nat) : Int)) (fun m k w => kb X (d + 6) 285 m 80 [some (rv 59), some (iv (q : Int)), some (iv (frF A : Int)), some (iv (os A k : Int)), some (iv w), some (iv (k : Int)), none] [] M1) (fun r => mOut A 0 ((((RA A (os A q)).getD (0, 0)).2 : Nat) : Int) M r) (q + 1) (nC (aS A) + 2) ?_ ?_ (q + 1) 0 (n + 1) (-1) (by omega) ?_ (fun z => by omega)
          · rintro g k w hk hw
            left
            obtain ⟨o1, o2, o3, o4⟩ := os_ok hA hne0 k (by omega)
            have hne : os A k ≠ frF A := fun z => by
              rw [z] at o4
              have : cnF A (frF A) = 0 := by
                unfold cnF
                have : less (frF A) (frF A) = 0 := by
                  unfold less
                  rw [Nat.and_self, Nat.xor_self]
                rw [this]
                rfl
              omega
            cases hy : RA A (os A k) with
            | none => exact absurd hy o3
            | some y =>
              obtain ⟨t, f⟩ := y
              have e1 : wr ((nC (aS A) : Int) - 1) = (nC (aS A) : Int) - 1 := wri (by omega) (by omega)
              have hf := RA_lt h6 hA hy
              have hfn : f < nC (aS A) := by
                have hy' := hy
                rw [RA_eq h6] at hy'
                exact (bs_ok hA _ (Nat.le_refl _) t f hy' hne).1
              have eo : os A (k + 1) = os A k ||| 2 ^ f := by
                show os A k ||| 2 ^ ((RA A (os A k)).getD (0, 0)).2 = _
                rw [hy]
                rfl
              rw [show g + (nC (aS A) + 2) = (g + nC (aS A) + 1) + 1 by omega, q_285_59_at80, if_neg (by omega), hm1.1.1, e1, m_nextC hA g2 hm1.1 o1 o2 hne hy (nC (aS A)) g (-1) (Nat.le_refl _) (fun z => by omega), wr_succ (by omega)]
              refine ⟨g, (f : Int), Nat.le_refl _, by rw [eo], fun _ => ?_⟩
              rw [show k + 1 - 1 = k by omega, hy]
              rfl
          · rintro g w hw
            rw [q_285_59_at80, if_pos (by omega), hw (by omega), show q + 1 - 1 = q by omega]
            exact ⟨M1, rfl, z1, hm1, kk⟩
          · have h1 : (q + 1) * (nC (aS A) + 2) ≤ 7 * 8 := Nat.mul_le_mul (by omega) (by omega)
            omega
    · simp only [if_neg (show ¬ (-1 ≤ i ∧ i < (pc (frF A) : Int)) from fun z => h2 z.2)]
      rw [if_neg h2]
      exact bad
  · simp only [if_neg (show ¬ (-1 ≤ i ∧ i < (pc (frF A) : Int)) from fun z => h1 z.1)]
    rw [if_pos (show i < -1 by omega)]
    exact bad
end C73

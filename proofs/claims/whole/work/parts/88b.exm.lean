section C88b
variable {X : Nat × (Nat → Int32)} {d : Nat}
def okA (a : Int) : Prop := a ≤ 11 ∨ a = 14
def Pd (k j : Nat) : Bool := k == 88 || (k == 59 && (j == 40 || j == 41))
theorem m_stg (a : Int) (M : rM) : fn X (d + 1) 230 [iv a] M = oI (stg a : Int) M := by
  rw [q_230]
  unfold stg
  by_cases h5 : a = 5
  · rw [if_pos h5, if_pos h5]; rfl
  rw [if_neg h5, if_neg h5]
  by_cases h4 : a = 4
  · rw [if_pos h4, if_pos h4]; rfl
  rw [if_neg h4, if_neg h4]
  by_cases h3 : a = 3
  · rw [if_pos h3, if_pos h3]; rfl
  rw [if_neg h3, if_neg h3]
  by_cases h6 : a = 6
  · rw [if_pos h6, if_pos (Or.inl h6)]; rfl
  rw [if_neg h6]
  by_cases h7 : a = 7
  · rw [if_pos h7, if_pos (Or.inr h7)]; rfl
  rw [if_neg h7, if_neg (show ¬ (a = 6 ∨ a = 7) by omega)]
  by_cases h8 : a = 8
  · rw [if_pos h8, if_pos (Or.inl h8)]; rfl
  rw [if_neg h8]
  by_cases h9 : a = 9
  · rw [if_pos h9, if_pos (Or.inr h9)]; rfl
  rw [if_neg h9, if_neg (show ¬ (a = 8 ∨ a = 9) by omega)]
  rfl
theorem m_dropL (l : Nat) : ∀ (W O : List Int) (m : Nat) (M : rM), WA W M → OU O M → (∀ a ∈ W, okA a) → O.length + W.length ≤ 1400 → W.length ≤ 949 → W.length < m → ∃ M', kb X (d + 2) 231 m 0 [some (rv 59), some (iv (l : Int))] [] M = oV M' ∧ WA (drp l W O).1 M' ∧ OU (drp l W O).2 M' ∧ sf Pd M M'
  | [], O, m, M, hw, ho, ha, h1, h2, hm => by
    obtain ⟨m', rfl⟩ : ∃ m', m = m' + 1 := ⟨m - 1, by omega⟩
    rw [q_231_59_at0, hw.1, if_neg (by rw [List.length_nil]; omega)]
    exact ⟨M, rfl, hw, ho, sf.rf⟩
  | a :: W, O, m, M, hw, ho, ha, h1, h2, hm => by
    obtain ⟨m', rfl⟩ : ∃ m', m = m' + 1 := ⟨m - 1, by omega⟩
    rw [List.length_cons] at h1 h2 hm
    have hla : M.2.1 59 41 = ((W.length + 1 : Nat) : Int) := hw.1
    have htop := stk_top hw.2
    have hoa : okA a := ha a (List.mem_cons_self ..)
    rw [q_231_59_at0, hla, if_pos (by omega), show wr (((W.length + 1 : Nat) : Int) - 1) = (W.length : Int) by rw [wri (by omega) (by omega)]; omega, gdx (by omega) (by omega), Int.toNat_natCast, htop, q_229]
    unfold drp
    by_cases h14 : a = 14
    · rw [if_neg (by omega), if_neg (fun z => z.1 h14), cI_I, if_neg (by decide)]
      exact ⟨M, rfl, hw, ho, sf.rf⟩
    · have hlt : a < 14 := by
        unfold okA at hoa
        omega
      rw [if_pos hlt, cI_I, if_pos rfl, hla, show wr (((W.length + 1 : Nat) : Int) - 1) = (W.length : Int) by rw [wri (by omega) (by omega)]; omega, gdx (by omega) (by omega), Int.toNat_natCast, htop, m_stg, cI_I]
      by_cases hs : l ≤ stg a
      · rw [if_neg (show ¬ (stg a : Int) < (l : Int) by omega), if_pos ⟨h14, hs⟩, hla, show wr (((W.length + 1 : Nat) : Int) - 1) = (W.length : Int) by rw [wri (by omega) (by omega)]; omega, gdx (by omega) (by omega), Int.toNat_natCast, htop]
        have s1 : sf Pd M (puI M 59 41 (W.length : Int)) := sf.rf.pu rfl _
        have ho1 : OU O (puI M 59 41 (W.length : Int)) := ⟨by rw [puI_nj (by omega)]; exact ho.1, fun i hi => by rw [puI_ne (by omega)]; exact ho.2 i hi⟩
        obtain ⟨M2, a1, a2, a3⟩ := m_puts (X := X) (d := d + 1) ho1 (by omega) a
        have hw2 : WA W M2 := by
          refine ⟨?_, fun j hj => ?_⟩
          · rw [(a3.2 59 41 rfl).1]
            exact puI_eq _ _ _ _
          · rw [(a3.2 89 j rfl).1, puI_ne (by omega)]
            exact stk_pop hw.2 j hj
        rw [a1, cV_V]
        obtain ⟨M3, c1, c2, c3, c4⟩ := m_dropL l W (O ++ [a]) m' M2 hw2 a2 (fun x hx => ha x (List.mem_cons_of_mem _ hx)) (by rw [List.length_append, List.length_singleton]; omega) (by omega) (by omega)
        refine ⟨M3, c1, c2, c3, s1.tr ((a3.mo (fun k j z => ?_)).tr c4)⟩
        unfold Pd at z
        unfold Pp
        rw [Bool.or_eq_false_iff] at z ⊢
        refine ⟨z.1, ?_⟩
        rw [Bool.and_eq_false_iff] at z ⊢
        rcases z.2 with y | y
        · exact Or.inl y
        · rw [Bool.or_eq_false_iff] at y
          exact Or.inr y.1
      · rw [if_pos (show (stg a : Int) < (l : Int) by omega), if_neg (fun z => hs z.2)]
        exact ⟨M, rfl, hw, ho, sf.rf⟩
theorem m_drops {W O : List Int} {M : rM} (l : Nat) (hw : WA W M) (ho : OU O M) (ha : ∀ a ∈ W, okA a) (h1 : O.length + W.length ≤ 1400) (h2 : W.length ≤ 949) : ∃ M', fn X (d + 3) 231 [rv 59, iv (l : Int)] M = oV M' ∧ WA (drp l W O).1 M' ∧ OU (drp l W O).2 M' ∧ sf Pd M M' := by
  rw [(q_231_59 (l : Int) M).trans (q_231_59_at0 (n := FU) (l : Int) M).symm]
  exact m_dropL l W O (FU + 1) M hw ho ha h1 h2 (by have := FU_lt (k := 1000) (by omega); omega)
end C88b

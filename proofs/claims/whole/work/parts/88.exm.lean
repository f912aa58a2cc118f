/-! ===== the model reads a rule: signs that wait ===== -/
section C88
variable {X : Nat × (Nat → Int32)} {d : Nat} {M : rM} {W O : List Int}
def OU (O : List Int) (M : rM) : Prop := M.2.1 59 40 = (O.length : Int) ∧ ∀ i, i < O.length → M.2.1 88 i = O.getD i 0
def WA (W : List Int) (M : rM) : Prop := M.2.1 59 41 = (W.length : Int) ∧ stk 89 M W
def Pp (k j : Nat) : Bool := k == 88 || (k == 59 && j == 40)
def Pw (k j : Nat) : Bool := k == 89 || (k == 59 && j == 41)
theorem m_puts (h : OU O M) (hl : O.length < 1400) (a : Int) : ∃ M', fn X (d + 1) 228 [rv 59, iv a] M = oV M' ∧ OU (O ++ [a]) M' ∧ sf Pp M M' := by
  refine ⟨puI (puI M 88 O.length a) 59 40 ((O.length + 1 : Nat) : Int), ?_, ⟨?_, fun i hi => ?_⟩, (sf.rf.pu rfl _).pu rfl _⟩
  · rw [q_228_59, h.1, gdx (by omega) (by omega), Int.toNat_natCast, wr_succ (by omega)]
  · rw [puI_eq, List.length_append]
    rfl
  · rw [puI_ne (by omega)]
    rw [List.length_append, List.length_singleton] at hi
    by_cases e : i = O.length
    · subst e
      rw [puI_eq, List.getD_eq_getElem?_getD, List.getElem?_append_right (Nat.le_refl _), Nat.sub_self]
      rfl
    · rw [puI_nj e, h.2 i (by omega), List.getD_eq_getElem?_getD, List.getD_eq_getElem?_getD, List.getElem?_append_left (by omega)]
theorem m_wait (h : WA W M) (hl : W.length < 950) (a : Int) : ∃ M', fn X (d + 1) 232 [rv 59, iv a] M = oV M' ∧ WA (a :: W) M' ∧ sf Pw M M' := by
  refine ⟨puI (puI M 89 W.length a) 59 41 ((W.length + 1 : Nat) : Int), ?_, ⟨?_, fun j hj => ?_⟩, (sf.rf.pu rfl _).pu rfl _⟩
  · rw [q_232_59, h.1, gdx (by omega) (by omega), Int.toNat_natCast, wr_succ (by omega)]
  · rw [puI_eq, List.length_cons]
  · rw [puI_ne (by omega)]
    exact stk_push h.2 a j hj
end C88

/-! ===== the model's tokens ===== -/
def cod (b : Nat → Nat) (s : Nat) : Nat → Nat
  | 0 => 0
  | m + 1 => cod b s m * 32 + (b (s + m) - 96)
theorem cod_lt {b : Nat → Nat} {s : Nat} : ∀ m, (∀ j, j < m → isLt (b (s + j)) = true) → cod b s m < 32 ^ m
  | 0, _ => by
    show 0 < 1
    omega
  | m + 1, h => by
    have ih := cod_lt m (fun j hj => h j (by omega))
    have h1 := h m (by omega)
    unfold isLt at h1
    rw [Bool.and_eq_true, decide_eq_true_eq, decide_eq_true_eq] at h1
    unfold cod
    rw [Nat.pow_succ]
    omega
theorem i2j_sm : ∀ c : Fin 32, i2j ((c.val : Nat) : Int) = Int64.ofNat c.val := by
  have : ∀ c : Fin 32, i2j_ex.choose ((c.val : Nat) : Int) = Int64.ofNat c.val := by
    rw [i2j_ex.choose_spec]
    decide +kernel
  exact this
theorem jcod {v c : Nat} (hv : v < 1099511627776) (hc : c < 32) : (jshl (Int64.ofNat v) 5 ||| i2j (c : Int)) = Int64.ofNat (v * 32 + c) := by
  have e : i2j (c : Int) = Int64.ofNat c := i2j_sm ⟨c, hc⟩
  have e5 : ((Int32.ofInt 5).toInt64 &&& 63).toBitVec.smod 64 = BitVec.ofNat 64 5 := jsc 5 (by omega)
  rw [e]
  apply Int64.toBitVec.inj
  rw [Int64.toBitVec_or, jshl_df, Int64.toBitVec_shiftLeft, e5, BitVec.shiftLeft_eq', bv64 (by omega)]
  have eo : ∀ x, (Int64.ofNat x).toBitVec = BitVec.ofNat 64 x := fun x => rfl
  rw [eo, eo, eo]
  apply BitVec.eq_of_toNat_eq
  rw [BitVec.toNat_or, BitVec.toNat_shiftLeft, BitVec.toNat_ofNat, BitVec.toNat_ofNat, BitVec.toNat_ofNat]
  have e1 : v % 2 ^ 64 = v := Nat.mod_eq_of_lt (by omega)
  have e2 : c % 2 ^ 64 = c := Nat.mod_eq_of_lt (by omega)
  have e3 : v <<< 5 = v * 32 := by
    rw [Nat.shiftLeft_eq]
  have e4 : v * 32 % 2 ^ 64 = v * 32 := Nat.mod_eq_of_lt (by omega)
  have e6 : (v * 32 + c) % 2 ^ 64 = v * 32 + c := Nat.mod_eq_of_lt (by omega)
  rw [e1, e2, e3, e4, e6]
  have := Nat.shiftLeft_add_eq_or_of_lt (i := 5) (b := c) (by omega) v
  rw [e3] at this
  exact this.symm
section C86
variable {X : Nat × (Nat → Int32)} {d : Nat} {M : rM} {b : Nat → Nat} {s n : Nat}
def MB (b : Nat → Nat) (n : Nat) (M : rM) : Prop := n ≤ 700 ∧ (∀ i, i < n → M.2.1 73 i = (b i : Int)) ∧ (∀ i, b i ≤ 255) ∧ M.2.1 59 25 = (n : Int)
def P59 (k j : Nat) : Bool := k == 59 && decide (26 ≤ j ∧ j ≤ 32)
theorem MB_sf {Q : Nat → Nat → Bool} {M' : rM} (h : MB b n M) (f : sf Q M M') (hq : ∀ j, Q 73 j = false) (h25 : Q 59 25 = false) : MB b n M' := ⟨h.1, fun i hi => by rw [(f.2 73 i (hq i)).1]; exact h.2.1 i hi, h.2.2.1, by rw [(f.2 59 25 h25).1]; exact h.2.2.2⟩
theorem MB_s9 {M' : rM} (h : MB b n M) (f : sf P59 M M') : MB b n M' := MB_sf h f (fun _ => rfl) rfl
def bya (b : Nat → Nat) (n i : Nat) : Nat := if i < n then b i else 0
theorem m_byte (h : MB b n M) {i : Nat} (hi : i ≤ 700) : fn X (d + 1) 216 [rv 59, iv (i : Int)] M = oI (bya b n i : Int) M := by
  rw [q_216_59, h.2.2.2]
  unfold bya
  have := h.1
  by_cases z : i < n
  · rw [if_pos (by omega), if_pos z, gdx (by omega) (by omega), Int.toNat_natCast, h.2.1 i z]
  · rw [if_neg (by omega), if_neg z]
    rfl
theorem m_lt (c : Nat) : fn X (d + 1) 217 [iv (c : Int)] M = oI (b01 (isLt c)) M := by
  rw [q_217]
  unfold isLt b01
  by_cases h1 : (c : Int) < 97
  · rw [if_pos h1, decide_eq_false (show ¬ 97 ≤ c by omega)]
    rfl
  · rw [if_neg h1, decide_eq_true (show 97 ≤ c by omega)]
    by_cases h2 : 122 < (c : Int)
    · rw [if_pos h2, decide_eq_false (show ¬ c ≤ 122 by omega)]
      rfl
    · rw [if_neg h2, decide_eq_true (show c ≤ 122 by omega)]
      rfl
theorem m_dg (c : Nat) : fn X (d + 1) 218 [iv (c : Int)] M = oI (b01 (isDg c)) M := by
  rw [q_218]
  unfold isDg b01
  by_cases h1 : (c : Int) < 48
  · rw [if_pos h1, decide_eq_false (show ¬ 48 ≤ c by omega)]
    rfl
  · rw [if_neg h1, decide_eq_true (show 48 ≤ c by omega)]
    by_cases h2 : 57 < (c : Int)
    · rw [if_pos h2, decide_eq_false (show ¬ c ≤ 57 by omega)]
      rfl
    · rw [if_neg h2, decide_eq_true (show c ≤ 57 by omega)]
      rfl
theorem sg_chain {α : Type} {c : Nat} {E F : α} : (if (c : Int) = 59 then E else if (c : Int) = 40 then E else if (c : Int) = 41 then E else if (c : Int) = 43 then E else if (c : Int) = 45 then E else if (c : Int) = 42 then E else if (c : Int) = 47 then E else if (c : Int) = 60 then E else if (c : Int) = 61 then E else F) = if isSg c = true then E else F := by
  by_cases h : isSg c = true
  · rw [if_pos h]
    unfold isSg at h
    simp only [Bool.or_eq_true, beq_iff_eq] at h
    repeat' split
    all_goals first
      | rfl
      | (exfalso; omega)
  · rw [if_neg h]
    unfold isSg at h
    simp only [Bool.or_eq_true, beq_iff_eq] at h
    repeat' split
    all_goals first
      | rfl
      | (exfalso; omega)
theorem m_blank : ∀ (f i m : Nat) (M : rM), i + f = n → MB b n M → M.2.1 59 26 = (i : Int) → f + 2 < m → ∃ M' m', kb X (d + 1) 219 m 0 [some (rv 59), none] [] M = kb X (d + 1) 219 (m' + 2) 50 [some (rv 59), none] [] M' ∧ M'.2.1 59 26 = (skp b isBl f i : Int) ∧ sf P59 M M' ∧ m ≤ m' + f + 3
  | 0, i, m, M, hf, hT, h3, hm => by
    obtain ⟨m', rfl⟩ : ∃ m', m = m' + 3 := ⟨m - 3, by omega⟩
    refine ⟨M, m', ?_, h3, sf.rf, by omega⟩
    rw [q_219_59_at0, hT.2.2.2, h3, if_neg (by omega)]
  | f + 1, i, m, M, hf, hT, h3, hm => by
    obtain ⟨m', rfl⟩ : ∃ m', m = m' + 3 := ⟨m - 3, by omega⟩
    have hn := hT.1
    have hb1 : bya b n i = b i := if_pos (by omega)
    rw [q_219_59_at0, hT.2.2.2, h3, if_pos (by omega), m_byte hT (by omega), cI_I, h3, m_byte hT (by omega), cI_I, hb1, h3, wr_succ (by omega)]
    have hs : sf P59 M (puI M 59 26 ((i + 1 : Nat) : Int)) := sf.rf.pu rfl _
    have ih := m_blank f (i + 1) (m' + 2) (puI M 59 26 ((i + 1 : Nat) : Int)) (by omega) (MB_s9 hT hs) (puI_eq _ _ _ _) (by omega)
    have es : isBl (b i) = true → skp b isBl (f + 1) i = skp b isBl f (i + 1) := fun z => by
      show (if isBl (b i) = true then _ else _) = _
      rw [if_pos z]
    obtain ⟨M2, m2, e1, e2, e3, e4⟩ := ih
    by_cases h32 : (b i : Int) = 32
    · rw [if_pos h32, es (by unfold isBl; rw [beq_iff_eq.2 (show b i = 32 by omega)]; rfl)]
      exact ⟨M2, m2, e1, e2, hs.tr e3, by omega⟩
    · rw [if_neg h32]
      by_cases h10 : (b i : Int) = 10
      · rw [if_pos h10, es (by unfold isBl; rw [beq_iff_eq.2 (show b i = 10 by omega), Bool.or_true])]
        exact ⟨M2, m2, e1, e2, hs.tr e3, by omega⟩
      · rw [if_neg h10]
        have en : isBl (b i) = false := by
          unfold isBl
          rw [beq_eq_false_iff_ne.2 (show b i ≠ 32 by omega), beq_eq_false_iff_ne.2 (show b i ≠ 10 by omega)]
          rfl
        have es2 : skp b isBl (f + 1) i = i := by
          show (if isBl (b i) = true then _ else _) = _
          rw [en, if_neg (by decide)]
        rw [es2]
        exact ⟨M, m', rfl, h3, sf.rf, by omega⟩
theorem m_numL : ∀ (f i m : Nat) (M : rM), s + i + f = n → MB b n M → M.2.1 59 28 = (s : Int) → M.2.1 59 26 = ((s + i : Nat) : Int) → M.2.1 59 30 = (nmb b s (min 4 i) : Int) → (∀ j, j < i → isDg (b (s + j)) = true) → f < m → ∃ M', kb X (d + 1) 219 m 187 [some (rv 59), none] [] M = oV M' ∧ M'.2.1 59 28 = (s : Int) ∧ M'.2.1 59 26 = (skp b isDg f (s + i) : Int) ∧ M'.2.1 59 27 = 2 ∧ M'.2.1 59 29 = ((skp b isDg f (s + i) - s : Nat) : Int) ∧ M'.2.1 59 30 = (nmb b s (min 4 (skp b isDg f (s + i) - s)) : Int) ∧ sf P59 M M'
  | f, i, m, M, hf, hT, h28, h26, h30, hd, hm => by
    obtain ⟨m', rfl⟩ : ∃ m', m = m' + 1 := ⟨m - 1, by omega⟩
    have hn := hT.1
    rw [q_219_59_at187, h26, m_byte hT (by omega), cI_I, m_dg, cI_I, h26, h28, wri (x := ((s + i : Nat) : Int) - (s : Int)) (by omega) (by omega), wr_succ (by omega)]
    by_cases hb : isDg (bya b n (s + i)) = true
    · have hlt : s + i < n := by
        apply Classical.byContradiction
        intro z
        unfold bya at hb
        rw [if_neg z] at hb
        cases hb
      have hby : bya b n (s + i) = b (s + i) := if_pos hlt
      rw [hby] at hb
      obtain ⟨f', rfl⟩ : ∃ f', f = f' + 1 := ⟨f - 1, by omega⟩
      have es : skp b isDg (f' + 1) (s + i) = skp b isDg f' (s + (i + 1)) := by
        show (if isDg (b (s + i)) = true then _ else _) = _
        rw [if_pos hb]
        rfl
      have hd' : ∀ j, j < i + 1 → isDg (b (s + j)) = true := lt_ext (Q := fun j => isDg (b (s + j)) = true) hd hb
      have hb2 := hb
      unfold isDg at hb2
      rw [Bool.and_eq_true, decide_eq_true_eq, decide_eq_true_eq] at hb2
      rw [hby, hb, if_neg (by decide), es]
      by_cases h4 : ((s + i : Nat) : Int) - (s : Int) < 4
      · rw [if_pos h4, m_byte hT (by omega), cI_I, hby, h30, h26, wr_succ (by omega)]
        have ev : nmb b s (min 4 i) < 10000 := by
          have h1 : nmb b s (min 4 i) < 10 ^ (min 4 i) := nmb_lt _ (fun j hj => hd j (by omega))
          have h2 : 10 ^ (min 4 i) ≤ 10 ^ 4 := Nat.pow_le_pow_right (by omega) (by omega)
          omega
        have ew : wr ((wr ((wr (10 * (nmb b s (min 4 i) : Int))) + (b (s + i) : Int))) - 48) = (nmb b s (min 4 (i + 1)) : Int) := by
          have e2 : nmb b s (min 4 (i + 1)) = nmb b s (min 4 i) * 10 + (b (s + i) - 48) := by
            rw [show min 4 (i + 1) = i + 1 by omega, show min 4 i = i by omega]
            rfl
          rw [e2, wri (x := 10 * (nmb b s (min 4 i) : Int)) (by omega) (by omega), wri (x := 10 * (nmb b s (min 4 i) : Int) + (b (s + i) : Int)) (by omega) (by omega), wri (by omega) (by omega)]
          omega
        rw [ew]
        have hs : sf P59 M (puI (puI M 59 30 (nmb b s (min 4 (i + 1)) : Int)) 59 26 ((s + i + 1 : Nat) : Int)) := (sf.rf.pu rfl _).pu rfl _
        obtain ⟨M2, e1, e2, e3, e4, e5, e6, e7⟩ := m_numL f' (i + 1) m' _ (by omega) (MB_s9 hT hs) (by rw [puI_nj (by omega), puI_nj (by omega)]; exact h28) (puI_eq _ _ _ _) (by rw [puI_nj (by omega)]; exact puI_eq _ _ _ _) hd' (by omega)
        exact ⟨M2, e1, e2, e3, e4, e5, e6, hs.tr e7⟩
      · rw [if_neg h4]
        have hs : sf P59 M (puI M 59 26 ((s + i + 1 : Nat) : Int)) := sf.rf.pu rfl _
        obtain ⟨M2, e1, e2, e3, e4, e5, e6, e7⟩ := m_numL f' (i + 1) m' _ (by omega) (MB_s9 hT hs) (by rw [puI_nj (by omega)]; exact h28) (puI_eq _ _ _ _) (by rw [puI_nj (by omega), h30, show min 4 i = min 4 (i + 1) by omega]) hd' (by omega)
        exact ⟨M2, e1, e2, e3, e4, e5, e6, hs.tr e7⟩
    · have es : skp b isDg f (s + i) = s + i := by
        cases f with
        | zero => rfl
        | succ f =>
          have hby : bya b n (s + i) = b (s + i) := if_pos (by omega)
          rw [hby] at hb
          show (if isDg (b (s + i)) = true then _ else _) = _
          rw [if_neg hb]
      rw [es, show s + i - s = i by omega, Bool.eq_false_iff.2 hb, if_pos (show b01 false = 0 from rfl)]
      refine ⟨_, rfl, ?_, ?_, ?_, ?_, ?_, (sf.rf.pu rfl _).pu rfl _⟩
      · rw [puI_nj (by omega), puI_nj (by omega)]; exact h28
      · rw [puI_nj (by omega), puI_nj (by omega)]; exact h26
      · rw [puI_nj (by omega)]; exact puI_eq _ _ _ _
      · rw [puI_eq]
        omega
      · rw [puI_nj (by omega), puI_nj (by omega)]; exact h30
termination_by f => f
end C86

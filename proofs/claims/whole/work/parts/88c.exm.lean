section C88c
variable {X : Nat × (Nat → Int32)} {d : Nat} {b : Nat → Nat} {n : Nat} {M M' : rM} {W O : List Int} {te : List Bool} {k : Nat}
def Px (k j : Nat) : Bool := k == 88 || k == 89 || k == 90 || (k == 59 && (j == 22 || j == 23 || decide (26 ≤ j ∧ j ≤ 32) || decide (40 ≤ j ∧ j ≤ 42)))
def Pf2 (k j : Nat) : Bool := k == 59 && (j == 22 || j == 23)
def Pde (k j : Nat) : Bool := k == 90 || (k == 59 && (j == 41 || j == 42))
theorem Px_of {Q : Nat → Nat → Bool} (h : ∀ k j, Q k j = true → Px k j = true) : ∀ k j, Px k j = false → Q k j = false := fun k j z => by
  cases e : Q k j with
  | false => rfl
  | true => rw [h k j e] at z; cases z
theorem Px_tr {k j : Nat} (h : k = 88 ∨ k = 89 ∨ k = 90 ∨ (k = 59 ∧ (j = 22 ∨ j = 23 ∨ (26 ≤ j ∧ j ≤ 32) ∨ (40 ≤ j ∧ j ≤ 42)))) : Px k j = true := by
  unfold Px
  simp only [Bool.or_eq_true, Bool.and_eq_true, beq_iff_eq, decide_eq_true_eq]
  omega
theorem Px_p : ∀ k j, Px k j = false → Pp k j = false := Px_of (fun k j e => Px_tr (by
  unfold Pp at e
  simp only [Bool.or_eq_true, Bool.and_eq_true, beq_iff_eq] at e
  omega))
theorem Px_w : ∀ k j, Px k j = false → Pw k j = false := Px_of (fun k j e => Px_tr (by
  unfold Pw at e
  simp only [Bool.or_eq_true, Bool.and_eq_true, beq_iff_eq] at e
  omega))
theorem Px_d : ∀ k j, Px k j = false → Pd k j = false := Px_of (fun k j e => Px_tr (by
  unfold Pd at e
  simp only [Bool.or_eq_true, Bool.and_eq_true, beq_iff_eq] at e
  omega))
theorem Px_9 : ∀ k j, Px k j = false → P59 k j = false := Px_of (fun k j e => Px_tr (by
  unfold P59 at e
  simp only [Bool.and_eq_true, beq_iff_eq, decide_eq_true_eq] at e
  omega))
theorem Px_f : ∀ k j, Px k j = false → Pf2 k j = false := Px_of (fun k j e => Px_tr (by
  unfold Pf2 at e
  simp only [Bool.or_eq_true, Bool.and_eq_true, beq_iff_eq] at e
  omega))
theorem Px_e : ∀ k j, Px k j = false → Pde k j = false := Px_of (fun k j e => Px_tr (by
  unfold Pde at e
  simp only [Bool.or_eq_true, Bool.and_eq_true, beq_iff_eq] at e
  omega))
theorem r8 {Q : Nat → Nat → Bool} (h : ∀ i : Fin 8, Q 59 (25 + i.val) = false) : ∀ j, 25 ≤ j → j ≤ 32 → Q 59 j = false := fun j a c => by
  have e : Q 59 (25 + (j - 25)) = false := h ⟨j - 25, by omega⟩
  rw [show 25 + (j - 25) = j by omega] at e
  exact e
theorem MT_sf {Q : Nat → Nat → Bool} (h : MT b n k M) (f : sf Q M M') (hq : ∀ j, Q 73 j = false) (hr : ∀ j, 25 ≤ j → j ≤ 32 → Q 59 j = false) : MT b n k M' := by
  obtain ⟨h1, h2, h3, h4, h5, h6, h7, h8⟩ := h
  refine ⟨MB_sf h1 f hq (hr 25 (by omega) (by omega)), ?_, ?_, ?_, ?_, fun z => ?_, fun z y => ?_, fun z => ?_⟩
  · rw [(f.2 59 28 (hr 28 (by omega) (by omega))).1]; exact h2
  · rw [(f.2 59 26 (hr 26 (by omega) (by omega))).1]; exact h3
  · rw [(f.2 59 27 (hr 27 (by omega) (by omega))).1]; exact h4
  · rw [(f.2 59 29 (hr 29 (by omega) (by omega))).1]; exact h5
  · rw [(f.2 59 30 (hr 30 (by omega) (by omega))).1]; exact h6 z
  · rw [(f.2 59 31 (hr 31 (by omega) (by omega))).1]; exact h7 z y
  · rw [(f.2 59 32 (hr 32 (by omega) (by omega))).2]; exact h8 z
theorem OU_sf {Q : Nat → Nat → Bool} (h : OU O M) (f : sf Q M M') (h1 : Q 59 40 = false) (h2 : ∀ j, Q 88 j = false) : OU O M' := ⟨by rw [(f.2 59 40 h1).1]; exact h.1, fun i hi => by rw [(f.2 88 i (h2 i)).1]; exact h.2 i hi⟩
theorem WA_sf {Q : Nat → Nat → Bool} (h : WA W M) (f : sf Q M M') (h1 : Q 59 41 = false) (h2 : ∀ j, Q 89 j = false) : WA W M' := ⟨by rw [(f.2 59 41 h1).1]; exact h.1, fun j hj => by rw [(f.2 89 j (h2 j)).1]; exact h.2 j hj⟩
/-- the depth, and where a test was read -/
def TD (te : List Bool) (M : rM) : Prop := M.2.1 59 42 = (te.length : Int) ∧ ∀ i, i < te.length → M.2.1 90 (te.length - i) = b01 (te.getD i false)
theorem TD_sf {Q : Nat → Nat → Bool} (h : TD te M) (f : sf Q M M') (h1 : Q 59 42 = false) (h2 : ∀ j, Q 90 j = false) : TD te M' := ⟨by rw [(f.2 59 42 h1).1]; exact h.1, fun i hi => by rw [(f.2 90 _ (h2 _)).1]; exact h.2 i hi⟩
def MX (b : Nat → Nat) (n k : Nat) (W O : List Int) (te : List Bool) (M : rM) : Prop := MT b n k M ∧ M.2.1 59 22 = 0 ∧ OU O M ∧ WA W M ∧ TD te M ∧ M.2.1 59 23 = -1
def FX (b : Nat → Nat) (n f p : Nat) (W O : List Int) (M : rM) : Prop := M.2.1 59 22 = (f : Int) ∧ M.2.1 59 23 = (tZ b n p : Int) ∧ OU O M ∧ WA W M
def Iv (k : Nat) (W O : List Int) (te : List Bool) : Prop := O.length + W.length + 2 ≤ 2 * k ∧ W.length ≤ k ∧ (∀ a ∈ W, okA a) ∧ W.count 14 + 1 = te.length ∧ te.length ≤ 6 ∧ k ≤ 700
theorem m_good (h : M.2.1 59 22 = 0) : fn X (d + 1) 224 [rv 59] M = oI 1 M := by rw [q_224_59, if_pos h]
theorem m_bad (h : M.2.1 59 22 ≠ 0) : fn X (d + 1) 224 [rv 59] M = oI 0 M := by rw [q_224_59, if_neg h]
theorem srt_3 {q : Nat} (h : srt q = 3) : 3 ≤ q ∧ q < 100 := by
  unfold srt at h
  by_cases h0 : q = 0
  · rw [if_pos h0] at h; omega
  rw [if_neg h0] at h
  by_cases h1 : q = 1
  · rw [if_pos h1] at h; omega
  rw [if_neg h1] at h
  by_cases h2 : q = 2
  · rw [if_pos h2] at h; omega
  rw [if_neg h2] at h
  by_cases h3 : 100 ≤ q
  · rw [if_pos h3] at h; omega
  omega
theorem srt_sg {q : Nat} (h3 : 3 ≤ q) (h : q < 100) : srt q = 3 := by
  unfold srt
  rw [if_neg (by omega), if_neg (by omega), if_neg (by omega), if_neg (by omega)]
theorem srt_wd {q : Nat} (h : 100 ≤ q) : srt q = 1 := by
  unfold srt
  rw [if_neg (by omega), if_neg (by omega), if_neg (by omega), if_pos h]
theorem srt_1 {q : Nat} (h : srt q = 1) : 100 ≤ q := by
  apply Classical.byContradiction
  intro z
  by_cases h3 : 3 ≤ q
  · rw [srt_sg h3 (by omega)] at h
    omega
  · obtain rfl | rfl | rfl : q = 0 ∨ q = 1 ∨ q = 2 := by omega
    · exact absurd h (by decide)
    · exact absurd h (by decide)
    · exact absurd h (by decide)
theorem srt_2 {q : Nat} (h : srt q = 2) : q = 2 := by
  apply Classical.byContradiction
  intro z
  by_cases h3 : 3 ≤ q
  · by_cases h4 : 100 ≤ q
    · rw [srt_wd h4] at h
      omega
    · rw [srt_sg h3 (by omega)] at h
      omega
  · obtain rfl | rfl : q = 0 ∨ q = 1 := by omega
    · exact absurd h (by decide)
    · exact absurd h (by decide)
theorem m_sigT (h : MT b n k M) {c : Nat} (a : Int) (ha : a = (c : Int)) (h3 : 3 ≤ c) (h1 : c < 100) (e : tkK (tks b n) k = c) : fn X (d + 1) 225 [rv 59, iv a] M = oI 1 M := by
  have hs := h.2.2.2.1
  rw [e, srt_sg h3 h1] at hs
  replace hs : M.2.1 59 27 = 3 := hs
  have h7 := h.2.2.2.2.2.2.1 (by omega) (by omega)
  rw [q_225_59, if_pos hs, if_pos (by rw [h7, e, ha])]
theorem m_sigF (h : MT b n k M) {c : Nat} (a : Int) (ha : a = (c : Int)) (e : tkK (tks b n) k ≠ c) : fn X (d + 1) 225 [rv 59, iv a] M = oI 0 M := by
  rw [q_225_59]
  by_cases hs : M.2.1 59 27 = 3
  · rw [if_pos hs]
    have hs' := h.2.2.2.1
    have h3 := srt_3 (q := tkK (tks b n) k) (by omega)
    have h7 := h.2.2.2.2.2.2.1 h3.1 h3.2
    rw [if_neg (by rw [h7, ha]; omega)]
  · rw [if_neg hs]
theorem MX_go (h : MX b n k W O te M) : ∃ M', fn X (d + 2) 219 [rv 59] M = oV M' ∧ MX b n (k + 1) W O te M' ∧ sf Px M M' := by
  obtain ⟨M', a1, a2, a3⟩ := MT_goes (X := X) (d := d) h.1
  exact ⟨M', a1, ⟨a2, by rw [(a3.2 59 22 rfl).1]; exact h.2.1, OU_sf h.2.2.1 a3 rfl (fun _ => rfl), WA_sf h.2.2.2.1 a3 rfl (fun _ => rfl), TD_sf h.2.2.2.2.1 a3 rfl (fun _ => rfl), by rw [(a3.2 59 23 rfl).1]; exact h.2.2.2.2.2⟩, a3.mo Px_9⟩
theorem MX_put (h : MX b n k W O te M) (hl : O.length < 1400) (a : Int) : ∃ M', fn X (d + 1) 228 [rv 59, iv a] M = oV M' ∧ MX b n k W (O ++ [a]) te M' ∧ sf Px M M' := by
  obtain ⟨M', a1, a2, a3⟩ := m_puts (X := X) (d := d) h.2.2.1 hl a
  exact ⟨M', a1, ⟨MT_sf h.1 a3 (fun _ => rfl) (r8 (by decide)), by rw [(a3.2 59 22 rfl).1]; exact h.2.1, a2, WA_sf h.2.2.2.1 a3 rfl (fun _ => rfl), TD_sf h.2.2.2.2.1 a3 rfl (fun _ => rfl), by rw [(a3.2 59 23 rfl).1]; exact h.2.2.2.2.2⟩, a3.mo Px_p⟩
theorem FX_put {f p : Nat} (h : FX b n f p W O M) (hl : O.length < 1400) (a : Int) : ∃ M', fn X (d + 1) 228 [rv 59, iv a] M = oV M' ∧ FX b n f p W (O ++ [a]) M' ∧ sf Px M M' := by
  obtain ⟨M', a1, a2, a3⟩ := m_puts (X := X) (d := d) h.2.2.1 hl a
  exact ⟨M', a1, ⟨by rw [(a3.2 59 22 rfl).1]; exact h.1, by rw [(a3.2 59 23 rfl).1]; exact h.2.1, a2, WA_sf h.2.2.2 a3 rfl (fun _ => rfl)⟩, a3.mo Px_p⟩
theorem MX_wait (h : MX b n k W O te M) (hl : W.length < 950) (a : Int) : ∃ M', fn X (d + 1) 232 [rv 59, iv a] M = oV M' ∧ MX b n k (a :: W) O te M' ∧ sf Px M M' := by
  obtain ⟨M', a1, a2, a3⟩ := m_wait (X := X) (d := d) h.2.2.2.1 hl a
  exact ⟨M', a1, ⟨MT_sf h.1 a3 (fun _ => rfl) (r8 (by decide)), by rw [(a3.2 59 22 rfl).1]; exact h.2.1, OU_sf h.2.2.1 a3 rfl (fun _ => rfl), a2, TD_sf h.2.2.2.2.1 a3 rfl (fun _ => rfl), by rw [(a3.2 59 23 rfl).1]; exact h.2.2.2.2.2⟩, a3.mo Px_w⟩
theorem MX_drop (h : MX b n k W O te M) (hi : Iv k W O te) (a : Int) (l : Nat) (ha : a = (l : Int)) : ∃ M', fn X (d + 3) 231 [rv 59, iv a] M = oV M' ∧ MX b n k (drp l W O).1 (drp l W O).2 te M' ∧ sf Px M M' := by
  subst ha
  obtain ⟨i1, i2, i3, i4, i5, i6⟩ := hi
  obtain ⟨M', a1, a2, a3, a4⟩ := m_drops (X := X) (d := d) l h.2.2.2.1 h.2.2.1 i3 (by omega) (by omega)
  exact ⟨M', a1, ⟨MT_sf h.1 a4 (fun _ => rfl) (r8 (by decide)), by rw [(a4.2 59 22 rfl).1]; exact h.2.1, a3, a2, TD_sf h.2.2.2.2.1 a4 rfl (fun _ => rfl), by rw [(a4.2 59 23 rfl).1]; exact h.2.2.2.2.2⟩, a4.mo Px_d⟩
theorem FX_drop {f p : Nat} (h : FX b n f p W O M) (ho : ∀ a ∈ W, okA a) (h1 : O.length + W.length ≤ 1400) (h2 : W.length ≤ 949) (a : Int) (l : Nat) (ha : a = (l : Int)) : ∃ M', fn X (d + 3) 231 [rv 59, iv a] M = oV M' ∧ FX b n f p (drp l W O).1 (drp l W O).2 M' ∧ sf Px M M' := by
  subst ha
  obtain ⟨M', a1, a2, a3, a4⟩ := m_drops (X := X) (d := d) l h.2.2.2 h.2.2.1 ho h1 h2
  exact ⟨M', a1, ⟨by rw [(a4.2 59 22 rfl).1]; exact h.1, by rw [(a4.2 59 23 rfl).1]; exact h.2.1, a3, a2⟩, a4.mo Px_d⟩
theorem MX_wrong (h : MX b n k W O te M) (a : Int) (f : Nat) (ha : a = (f : Int)) : ∃ M', fn X (d + 1) 223 [rv 59, iv a] M = oV M' ∧ FX b n f k W O M' ∧ sf Px M M' := by
  have hs : sf Pf2 M (puI (puI M 59 22 a) 59 23 (M.2.1 59 28)) := (sf.rf.pu rfl _).pu rfl _
  refine ⟨_, ?_, ⟨?_, ?_, OU_sf h.2.2.1 hs rfl (fun _ => rfl), WA_sf h.2.2.2.1 hs rfl (fun _ => rfl)⟩, hs.mo Px_f⟩
  · rw [q_223_59, if_pos h.2.1]
  · rw [puI_nj (by omega), puI_eq, ha]
  · rw [puI_eq]; exact h.1.2.1
theorem drp_len (l : Nat) : ∀ (W O : List Int), (drp l W O).1.length + (drp l W O).2.length = W.length + O.length ∧ (drp l W O).1.length ≤ W.length ∧ (∀ a ∈ (drp l W O).1, a ∈ W) ∧ (drp l W O).1.count 14 = W.count 14
  | [], O => ⟨rfl, Nat.le_refl _, fun _ h => h, rfl⟩
  | a :: W, O => by
    unfold drp
    by_cases h : a ≠ 14 ∧ l ≤ stg a
    · rw [if_pos h]
      obtain ⟨h1, h2, h3, h4⟩ := drp_len l W (O ++ [a])
      refine ⟨?_, ?_, fun x hx => List.mem_cons_of_mem _ (h3 x hx), ?_⟩
      · rw [h1, List.length_append, List.length_singleton, List.length_cons]; omega
      · rw [List.length_cons]; omega
      · rw [h4, List.count_cons_of_ne h.1]
    · rw [if_neg h]
      exact ⟨rfl, Nat.le_refl _, fun _ h => h, rfl⟩
theorem drp_0 : ∀ (W O : List Int), (14 ∈ W → ∃ W', (drp 0 W O).1 = 14 :: W') ∧ (14 ∉ W → (drp 0 W O).1 = [])
  | [], O => ⟨fun h => (by cases h), fun _ => rfl⟩
  | a :: W, O => by
    unfold drp
    by_cases h : a = 14
    · rw [if_neg (fun z => z.1 h)]
      exact ⟨fun _ => ⟨W, by rw [h]⟩, fun z => absurd (List.mem_cons.2 (Or.inl h.symm)) z⟩
    · rw [if_pos ⟨h, Nat.zero_le _⟩]
      obtain ⟨h1, h2⟩ := drp_0 W (O ++ [a])
      refine ⟨fun z => h1 ?_, fun z => h2 (fun y => z (List.mem_cons_of_mem _ y))⟩
      rcases List.mem_cons.1 z with e | e
      · exact absurd e.symm h
      · exact e
end C88c

section C88e
variable {X : Nat × (Nat → Int32)} {d : Nat} {b : Nat → Nat} {n : Nat} {M M' : rM} {W O : List Int} {te : List Bool} {k : Nat}
theorem m_isOp : ∀ (W : List Int) (m : Nat), stk 89 M W → (∀ a ∈ W, okA a) → W.length ≤ 949 → W.length < m → kb X (d + 1) 236 m 7 [some (rv 59), some (iv ((W.length : Int) - 1))] [] M = oI (if 14 ∈ W then 1 else 0) M
  | [], m, h, ho, hl, hm => by
    obtain ⟨m', rfl⟩ : ∃ m', m = m' + 1 := ⟨m - 1, by omega⟩
    rw [q_236_59_at7, if_pos (show (([] : List Int).length : Int) - 1 < 0 by decide), if_pos (show (([] : List Int).length : Int) - 1 < 0 by decide), if_neg (show ¬ (14 : Int) ∈ ([] : List Int) from fun z => (by cases z))]
  | a :: W, m, h, ho, hl, hm => by
    obtain ⟨m', rfl⟩ : ∃ m', m = m' + 1 := ⟨m - 1, by omega⟩
    rw [List.length_cons] at hl hm
    have hoa : okA a := ho a (List.mem_cons_self ..)
    rw [q_236_59_at7, List.length_cons, show (((W.length + 1 : Nat) : Int) - 1) = (W.length : Int) by omega, if_neg (by omega), gdx (by omega) (by omega), Int.toNat_natCast, stk_top h, q_229]
    by_cases h14 : a = 14
    · rw [if_neg (by omega), cI_I, if_neg (by decide), if_neg (by omega), if_pos (List.mem_cons.2 (Or.inl h14.symm))]
    · have hlt : a < 14 := by
        unfold okA at hoa
        omega
      rw [if_pos hlt, cI_I, if_pos rfl, show wr ((W.length : Int) + (-1)) = (W.length : Int) - 1 by rw [wri (by omega) (by omega)]; omega, m_isOp W m' (stk_pop h) (fun x hx => ho x (List.mem_cons_of_mem _ hx)) (by omega) (by omega)]
      by_cases hq : (14 : Int) ∈ W
      · rw [if_pos hq, if_pos (List.mem_cons_of_mem _ hq)]
      · rw [if_neg hq, if_neg]
        intro z
        rcases List.mem_cons.1 z with e | e
        · exact h14 e.symm
        · exact hq e
theorem m_opened (h : WA W M) (ho : ∀ a ∈ W, okA a) (hl : W.length ≤ 949) : fn X (d + 2) 236 [rv 59] M = oI (if 14 ∈ W then 1 else 0) M := by
  rw [q_236_59, h.1, wri (by omega) (by omega)]
  exact m_isOp W FU h.2 ho hl (by have := FU_lt (k := 1000) (by omega); omega)
theorem TD_tl {v : Bool} (h : TD (v :: te) M) (c : Int) (hc : c = (te.length : Int)) : TD te (puI M 59 42 c) := by
  refine ⟨by rw [puI_eq, hc], fun i hi => ?_⟩
  rw [puI_ne (by omega)]
  have e := h.2 (i + 1) (by rw [List.length_cons]; omega)
  rw [List.length_cons, show te.length + 1 - (i + 1) = te.length - i by omega, List.getD_cons_succ] at e
  exact e
theorem TD_st {v : Bool} (h : TD (v :: te) M) (w : Bool) (c : Int) (hc : c = b01 w) : TD (w :: te) (puI M 90 (te.length + 1) c) := by
  refine ⟨by rw [puI_ne (by omega)]; exact h.1, fun i hi => ?_⟩
  rw [List.length_cons] at hi ⊢
  cases i with
  | zero => rw [hc]; exact puI_eq _ _ _ _
  | succ i =>
    rw [puI_nj (by omega)]
    have e := h.2 (i + 1) (by rw [List.length_cons]; omega)
    rw [List.length_cons, List.getD_cons_succ] at e
    rw [List.getD_cons_succ]
    exact e
theorem MX_st {v : Bool} (h : MX b n k W O (v :: te) M) (w : Bool) (c : Int) (hc : c = b01 w) : MX b n k W O (w :: te) (puI M 90 (te.length + 1) c) ∧ sf Px M (puI M 90 (te.length + 1) c) := by
  have hs : sf Px M (puI M 90 (te.length + 1) c) := sf.rf.pu rfl _
  have hs2 : sf Pde M (puI M 90 (te.length + 1) c) := sf.rf.pu rfl _
  exact ⟨⟨MT_sf h.1 hs2 (fun _ => rfl) (r8 (by decide)), by rw [(hs2.2 59 22 rfl).1]; exact h.2.1, OU_sf h.2.2.1 hs2 rfl (fun _ => rfl), ⟨by rw [puI_ne (by omega)]; exact h.2.2.2.1.1, fun j hj => by rw [puI_ne (by omega)]; exact h.2.2.2.1.2 j hj⟩, TD_st h.2.2.2.2.1 w c hc, by rw [(hs2.2 59 23 rfl).1]; exact h.2.2.2.2.2⟩, hs⟩
theorem Iv_op (hi : Iv k W O te) (hk : k < 700) {a : Int} (l : Nat) (ha : okA a) (h14 : a ≠ 14) {te' : List Bool} (ht : te'.length = te.length) : Iv (k + 1) (a :: (drp l W O).1) (drp l W O).2 te' := by
  obtain ⟨i1, i2, i3, i4, i5, i6⟩ := hi
  obtain ⟨e1, e2, e3, e4⟩ := drp_len l W O
  refine ⟨by rw [List.length_cons]; omega, by rw [List.length_cons]; omega, fun x hx => ?_, by rw [List.count_cons_of_ne h14, e4, ht]; exact i4, by omega, by omega⟩
  rcases List.mem_cons.1 hx with rfl | e
  · exact ha
  · exact i3 x (e3 x e)
theorem MX_close (h : MX b n k W O te M) (hi : Iv k W O te) (hk : k < 700) (h14 : 14 ∈ W) : ∃ M', fn X (d + 4) 237 [rv 59] M = oV M' ∧ MX b n (k + 1) (drp 0 W O).1.tail (drp 0 W O).2 te.tail M' ∧ Iv (k + 1) (drp 0 W O).1.tail (drp 0 W O).2 te.tail ∧ sf Px M M' := by
  obtain ⟨M1, a1, a2, a3⟩ := MX_drop (X := X) (d := d) h hi 0 0 rfl
  obtain ⟨W', eW⟩ := (drp_0 W O).1 h14
  obtain ⟨i1, i2, i3, i4, i5, i6⟩ := hi
  obtain ⟨e1, e2, e3, e4⟩ := drp_len 0 W O
  rw [eW] at a2 e1 e2 e3 e4 ⊢
  rw [List.length_cons] at e1 e2
  rw [List.count_cons_self] at e4
  cases te with
  | nil => rw [List.length_nil] at i4; omega
  | cons v te =>
    rw [List.length_cons] at i4 i5
    have w1 : M1.2.1 59 41 = ((W'.length + 1 : Nat) : Int) := a2.2.2.2.1.1
    have w2 : M1.2.1 59 42 = ((te.length + 1 : Nat) : Int) := a2.2.2.2.2.1.1
    have hs : sf Px M1 (puI (puI M1 59 41 (W'.length : Int)) 59 42 (te.length : Int)) := (sf.rf.pu rfl _).pu rfl _
    have hs2 : sf Pde M1 (puI (puI M1 59 41 (W'.length : Int)) 59 42 (te.length : Int)) := (sf.rf.pu rfl _).pu rfl _
    have t1 : TD (v :: te) (puI M1 59 41 (W'.length : Int)) := ⟨by rw [puI_nj (by omega)]; exact a2.2.2.2.2.1.1, fun i hi => by rw [puI_ne (by omega)]; exact a2.2.2.2.2.1.2 i hi⟩
    have b2 : MX b n k W' (drp 0 W O).2 te (puI (puI M1 59 41 (W'.length : Int)) 59 42 (te.length : Int)) := ⟨MT_sf a2.1 hs2 (fun _ => rfl) (r8 (by decide)), by rw [(hs2.2 59 22 rfl).1]; exact a2.2.1, OU_sf a2.2.2.1 hs2 rfl (fun _ => rfl), ⟨by rw [puI_nj (by omega), puI_eq], fun j hj => by rw [puI_ne (by omega), puI_ne (by omega)]; exact stk_pop a2.2.2.2.1.2 j hj⟩, TD_tl t1 _ rfl, by rw [(hs2.2 59 23 rfl).1]; exact a2.2.2.2.2.2⟩
    obtain ⟨M2, c1, c2, c3⟩ := MX_go (X := X) (d := d + 1) b2
    refine ⟨M2, ?_, c2, ⟨?_, ?_, fun x hx => i3 x (e3 x (List.mem_cons_of_mem _ hx)), ?_, ?_, by omega⟩, a3.tr (hs.tr c3)⟩
    · rw [q_237_59, a1, cV_V, w1, w2, show wr (((W'.length + 1 : Nat) : Int) - 1) = (W'.length : Int) by rw [wri (by omega) (by omega)]; omega, show wr (((te.length + 1 : Nat) : Int) - 1) = (te.length : Int) by rw [wri (by omega) (by omega)]; omega, c1, cV_V]
    · show (drp 0 W O).2.length + W'.length + 2 ≤ 2 * (k + 1)
      omega
    · show W'.length ≤ k + 1
      omega
    · show W'.count 14 + 1 = te.length
      omega
    · show te.length ≤ 6
      omega
/-- what a rule's reading leaves -/
def XF (b : Nat → Nat) (n : Nat) (x : PZ) (M : rM) : Prop := (∀ f p, x = .inl (f, p) → f ≠ 0 ∧ M.2.1 59 22 = (f : Int) ∧ M.2.1 59 23 = (tZ b n p : Int)) ∧ ∀ k c, x = .inr (k, c) → MT b n k M ∧ M.2.1 59 22 = 0 ∧ OU c M ∧ M.2.1 59 23 = -1
theorem f_325 {f p m : Nat} (h : FF b n f p M) : ∃ M', kb X (d + 3) 238 (m + 1) 325 [some (rv 59), none, none] [] M = oV M' ∧ sf Px M M' ∧ XF b n (.inl (f, p)) M' := by
  obtain ⟨hf, W, O, h1, h2, h3, h4⟩ := h
  obtain ⟨M1, a1, a2, a3⟩ := FX_drop (X := X) (d := d) h1 h2 (by omega) h4 0 0 rfl
  have e1 := (drp_len 0 W O).1
  obtain ⟨M2, b1, b2, b3⟩ := FX_put (X := X) (d := d + 2) a2 (by omega) 0
  refine ⟨M2, ?_, a3.tr b3, ?_, fun k c e => (by cases e)⟩
  · rw [q_238_59_at325, m_bad (X := X) (d := d + 2) (by rw [h1.1]; omega), cI_I, if_pos rfl, a1, cV_V, b1, cV_V]
  · intro f' p' e
    cases e
    exact ⟨hf, b2.1, b2.2.1⟩
theorem f_29 {f p m : Nat} (h : FF b n f p M) : ∃ M', kb X (d + 3) 238 (m + 2) 29 [some (rv 59), some (iv 1), none] [] M = oV M' ∧ sf Px M M' ∧ XF b n (.inl (f, p)) M' := by
  have h0 : M.2.1 59 22 ≠ 0 := by
    obtain ⟨hf, W, O, h1, h2⟩ := h
    rw [h1.1]
    omega
  rw [q_238_59_at29, if_neg (by decide), m_bad (X := X) (d := d + 2) h0, cI_I, if_pos rfl]
  exact f_325 h
theorem e_325 {m : Nat} (h : MX b n k W O te M) (hi : Iv k W O te) : ∃ M', kb X (d + 3) 238 (m + 1) 325 [some (rv 59), none, none] [] M = oV M' ∧ sf Px M M' ∧ XF b n (hlt k W O te) M' := by
  have hd := h.2.2.2.2.1.1
  obtain ⟨i1, i2, i3, i4, i5, i6⟩ := id hi
  have e1 := (drp_len 0 W O).1
  unfold hlt
  rw [q_238_59_at325, m_good (X := X) (d := d + 2) h.2.1, cI_I, if_neg (by decide), hd]
  by_cases ht : 1 < te.length
  · rw [if_pos (by omega), if_pos ht]
    obtain ⟨M0, z1, z2, z3⟩ := MX_wrong (X := X) (d := d + 2) h 1 1 rfl
    obtain ⟨M1, a1, a2, a3⟩ := FX_drop (X := X) (d := d) z2 i3 (by omega) (by omega) 0 0 rfl
    obtain ⟨M2, b1, b2, b3⟩ := FX_put (X := X) (d := d + 2) a2 (by omega) 0
    refine ⟨M2, ?_, z3.tr (a3.tr b3), ?_, fun k c e => (by cases e)⟩
    · rw [z1, cV_V, a1, cV_V, b1, cV_V]
    · intro f' p' e
      cases e
      exact ⟨by omega, b2.1, b2.2.1⟩
  · rw [if_neg (by omega), if_neg ht]
    obtain ⟨M1, a1, a2, a3⟩ := MX_drop (X := X) (d := d) h hi 0 0 rfl
    obtain ⟨M2, b1, b2, b3⟩ := MX_put (X := X) (d := d + 2) a2 (by omega) 0
    refine ⟨M2, ?_, a3.tr b3, fun f p e => (by cases e), ?_⟩
    · rw [a1, cV_V, b1, cV_V]
    · intro k' c e
      cases e
      exact ⟨b2.1, b2.2.1, b2.2.2.1, b2.2.2.2.2.2⟩
theorem st_nop {t : TS} (h0 : lev (tkK t k) ≠ 0) (h4 : ¬ (lev (tkK t k) = 4 ∧ te.headD false = true)) : stM t (none, k, W, O, te) = .inl (some (decide (lev (tkK t k) ≤ 2), 0), k + 1, acq (tkK t k) :: (drp (lev (tkK t k)) W O).1, (drp (lev (tkK t k)) W O).2, if lev (tkK t k) = 4 then true :: te.tail else if lev (tkK t k) ≤ 2 then false :: te.tail else te) := by
  unfold stM
  dsimp only
  rw [if_neg h0, if_neg h4]
theorem MX_dw (h : MX b n k W O te M) (hi : Iv k W O te) (L : Int) (l : Nat) (hl : L = (l : Int)) (a : Int) : ∃ M1 M2, fn X (d + 3) 231 [rv 59, iv L] M = oV M1 ∧ MX b n k (drp l W O).1 (drp l W O).2 te M1 ∧ fn X (d + 3) 232 [rv 59, iv a] M1 = oV M2 ∧ MX b n k (a :: (drp l W O).1) (drp l W O).2 te M2 ∧ sf Px M M2 := by
  obtain ⟨M1, a1, a2, a3⟩ := MX_drop (X := X) (d := d) h hi L l hl
  have e2 := (drp_len l W O).2.1
  have i2 := hi.2.1
  have i6 := hi.2.2.2.2.2
  obtain ⟨M2, b1, b2, b3⟩ := MX_wait (X := X) (d := d + 2) a2 (by omega) a
  exact ⟨M1, M2, a1, a2, b1, b2, a3.tr b3⟩
/-- the loop behind an operand -/
theorem m_exL (hT : Tok (tks b n)) (x : PZ) : ∀ (g k : Nat) (W O : List Int) (te : List Bool) (M : rM) (m : Nat), g < 1000 → ex (tks b n) g (none, k, W, O, te) = some x → MX b n k W O te M → Iv k W O te → 3 * g + 6 < m → ∃ M', kb X (d + 5) 238 m 29 [some (rv 59), some (iv 1), none] [] M = oV M' ∧ sf Px M M' ∧ XF b n x M' := by
  intro g
  induction g using Nat.strongRecOn with
  | ind g ih =>
  intro k W O te M m hg h hX hi hm
  cases g with
  | zero => cases h
  | succ g =>
  have key : ∀ (nt : Bool) (l2 : Int) (k1 : Nat) (W1 O1 : List Int) (te1 : List Bool) (M1 : rM) (m' : Nat), l2 = b01 nt → ex (tks b n) g (some (nt, 0), k1, W1, O1, te1) = some x → MX b n k1 W1 O1 te1 M1 → Iv k1 W1 O1 te1 → 3 * g + 6 < m' + 3 → 2 ≤ m' → ∃ M', cV (fn X (d + 5) 235 [rv 59, iv l2] M1) (fun M4 => kb X (d + 5) 238 m' 29 [some (rv 59), some (iv 1), none] [] M4) = oV M' ∧ sf Px M1 M' ∧ XF b n x M' := by
    intro nt l2 k1 W1 O1 te1 M1 m' hl h1 hX1 hi1 hm1 hm2
    obtain ⟨M2, a1, a2, a3⟩ := m_operand (X := X) (d := d) hT l2 hl h1 hX1 hi1 (by omega)
    rw [a1, cV_V]
    rcases a3 with ⟨f, p, rfl, hf⟩ | ⟨g', k2, W2, O2, te2, hg2, h2, hX2, hi2⟩
    · obtain ⟨m'', rfl⟩ : ∃ m'', m' = m'' + 2 := ⟨m' - 2, by omega⟩
      obtain ⟨M3, b1, b2, b3⟩ := f_29 (X := X) (d := d + 2) (m := m'') hf
      exact ⟨M3, b1, a2.tr b2, b3⟩
    · obtain ⟨M3, b1, b2, b3⟩ := ih g' (by omega) k2 W2 O2 te2 M2 m' (by omega) h2 hX2 hi2 (by omega)
      exact ⟨M3, b1, a2.tr b2, b3⟩
  have hend : stM (tks b n) (none, k, W, O, te) = .inr (hlt k W O te) → ∀ m', 2 ≤ m' → ∃ M', kb X (d + 5) 238 m' 29 [some (rv 59), some (iv 0), none] [] M = oV M' ∧ sf Px M M' ∧ XF b n x M' := by
    intro e m' hm'
    obtain ⟨m'', rfl⟩ : ∃ m'', m' = m'' + 2 := ⟨m' - 2, by omega⟩
    rw [ex_st e] at h
    cases h
    rw [q_238_59_at29, if_pos rfl]
    exact e_325 (X := X) (d := d + 2) hX hi
  obtain ⟨m, rfl⟩ : ∃ m', m = m' + 5 := ⟨m - 5, by omega⟩
  cases te with
  | nil =>
    have := hi.2.2.2.1
    rw [List.length_nil] at this
    omega
  | cons v te =>
  have hte := hi.2.2.2.2.1
  rw [List.length_cons] at hte
  rw [q_238_59_at29, if_neg (by decide), m_good (X := X) (d := d + 4) hX.2.1, cI_I, if_neg (by decide), m_known (X := X) (d := d + 2) hX.1, cI_I]
  by_cases h109 : tkK (tks b n) k = 109
  · have hk : k < 700 := hT k (by omega)
    have ek := (knw_w (tkK (tks b n) k)).2.1.2 h109
    have e := st_nop (t := tks b n) (k := k) (W := W) (O := O) (te := v :: te) (by rw [h109]; decide) (by rw [h109]; exact fun z => absurd z.1 (by decide))
    rw [h109] at e
    obtain ⟨M1, M2, a1, a2, a3, a4, a5⟩ := MX_dw (X := X) (d := d + 2) hX hi 2 2 rfl 4
    obtain ⟨b1, b2⟩ := MX_st a4 false 0 rfl
    obtain ⟨M3, c1, c2, c3⟩ := MX_go (X := X) (d := d + 3) b1
    have hd : M2.2.1 59 42 = ((te.length + 1 : Nat) : Int) := a4.2.2.2.2.1.1
    rw [ex_in e] at h
    rw [if_pos ek, q_238_59_at57, if_pos ek, q_238_59_at69, a1, cV_V, if_pos ek, a3, cV_V, hd, gdx (by omega) (by omega), Int.toNat_natCast, c1, cV_V]
    obtain ⟨M4, d1, d2, d3⟩ := key true 1 _ _ _ _ M3 (m + 2) rfl h c2 (Iv_op hi hk 2 (Or.inl (by decide)) (by decide) rfl) (by omega) (by omega)
    exact ⟨M4, d1, a5.tr (b2.tr (c3.tr d2)), d3⟩
  have n13 : knw (tkK (tks b n) k) ≠ 13 := fun z => h109 ((knw_w _).2.1.1 z)
  rw [if_neg n13]
  by_cases h108 : tkK (tks b n) k = 108
  · have hk : k < 700 := hT k (by omega)
    have ek := (knw_w (tkK (tks b n) k)).2.2.2 h108
    have e := st_nop (t := tks b n) (k := k) (W := W) (O := O) (te := v :: te) (by rw [h108]; decide) (by rw [h108]; exact fun z => absurd z.1 (by decide))
    rw [h108] at e
    obtain ⟨M1, M2, a1, a2, a3, a4, a5⟩ := MX_dw (X := X) (d := d + 2) hX hi 1 1 rfl 5
    obtain ⟨b1, b2⟩ := MX_st a4 false 0 rfl
    obtain ⟨M3, c1, c2, c3⟩ := MX_go (X := X) (d := d + 3) b1
    have hd : M2.2.1 59 42 = ((te.length + 1 : Nat) : Int) := a4.2.2.2.2.1.1
    rw [ex_in e] at h
    rw [if_pos ek, q_238_59_at57, if_neg n13, q_238_59_at69, a1, cV_V, if_neg n13, a3, cV_V, hd, gdx (by omega) (by omega), Int.toNat_natCast, c1, cV_V]
    obtain ⟨M4, d1, d2, d3⟩ := key true 1 _ _ _ _ M3 (m + 2) rfl h c2 (Iv_op hi hk 1 (Or.inl (by decide)) (by decide) rfl) (by omega) (by omega)
    exact ⟨M4, d1, a5.tr (b2.tr (c3.tr d2)), d3⟩
  have n14 : knw (tkK (tks b n) k) ≠ 14 := fun z => h108 ((knw_w _).2.2.1 z)
  rw [if_neg n14]
  have h186 : ∀ m', 4 ≤ m' → m + 3 ≤ m' → (tkK (tks b n) k = 60 ∨ tkK (tks b n) k = 61 → v = true) → ∃ M', kb X (d + 5) 238 m' 186 [some (rv 59), some (iv 1), none] [] M = oV M' ∧ sf Px M M' ∧ XF b n x M' := by
    intro m' hm' hmm hv
    obtain ⟨m', rfl⟩ : ∃ m'', m' = m'' + 2 := ⟨m' - 2, by omega⟩
    rw [q_238_59_at186]
    by_cases h43 : tkK (tks b n) k = 43
    · have hk : k < 700 := hT k (by omega)
      have e := st_nop (t := tks b n) (k := k) (W := W) (O := O) (te := v :: te) (by rw [h43]; decide) (by rw [h43]; exact fun z => absurd z.1 (by decide))
      rw [h43] at e
      obtain ⟨M1, M2, a1, a2, a3, a4, a5⟩ := MX_dw (X := X) (d := d + 2) hX hi 5 5 rfl 8
      obtain ⟨M3, c1, c2, c3⟩ := MX_go (X := X) (d := d + 3) a4
      rw [ex_in e] at h
      rw [m_sigT (X := X) (d := d + 4) (c := 43) hX.1 43 rfl (by omega) (by omega) h43, cI_I, if_neg (by decide), q_238_59_at204, a1, cV_V, m_sigT (X := X) (d := d + 4) (c := 43) a2.1 43 rfl (by omega) (by omega) h43, cI_I, if_neg (by decide), a3, cV_V, c1, cV_V]
      obtain ⟨M4, d1, d2, d3⟩ := key false 0 _ _ _ _ M3 m' rfl h c2 (Iv_op hi hk 5 (Or.inl (by decide)) (by decide) rfl) (by omega) (by omega)
      exact ⟨M4, d1, a5.tr (c3.tr d2), d3⟩
    rw [m_sigF (X := X) (d := d + 4) (c := 43) hX.1 43 rfl h43, cI_I, if_pos rfl]
    by_cases h45 : tkK (tks b n) k = 45
    · have hk : k < 700 := hT k (by omega)
      have e := st_nop (t := tks b n) (k := k) (W := W) (O := O) (te := v :: te) (by rw [h45]; decide) (by rw [h45]; exact fun z => absurd z.1 (by decide))
      rw [h45] at e
      obtain ⟨M1, M2, a1, a2, a3, a4, a5⟩ := MX_dw (X := X) (d := d + 2) hX hi 5 5 rfl 9
      obtain ⟨M3, c1, c2, c3⟩ := MX_go (X := X) (d := d + 3) a4
      rw [ex_in e] at h
      rw [m_sigT (X := X) (d := d + 4) (c := 45) hX.1 45 rfl (by omega) (by omega) h45, cI_I, if_neg (by decide), q_238_59_at204, a1, cV_V, m_sigF (X := X) (d := d + 4) (c := 43) a2.1 43 rfl h43, cI_I, if_pos rfl, a3, cV_V, c1, cV_V]
      obtain ⟨M4, d1, d2, d3⟩ := key false 0 _ _ _ _ M3 m' rfl h c2 (Iv_op hi hk 5 (Or.inl (by decide)) (by decide) rfl) (by omega) (by omega)
      exact ⟨M4, d1, a5.tr (c3.tr d2), d3⟩
    rw [m_sigF (X := X) (d := d + 4) (c := 45) hX.1 45 rfl h45, cI_I, if_pos rfl]
    by_cases h42 : tkK (tks b n) k = 42
    · have hk : k < 700 := hT k (by omega)
      have e := st_nop (t := tks b n) (k := k) (W := W) (O := O) (te := v :: te) (by rw [h42]; decide) (by rw [h42]; exact fun z => absurd z.1 (by decide))
      rw [h42] at e
      obtain ⟨M1, M2, a1, a2, a3, a4, a5⟩ := MX_dw (X := X) (d := d + 2) hX hi 6 6 rfl 10
      obtain ⟨M3, c1, c2, c3⟩ := MX_go (X := X) (d := d + 3) a4
      rw [ex_in e] at h
      rw [m_sigT (X := X) (d := d + 4) (c := 42) hX.1 42 rfl (by omega) (by omega) h42, cI_I, if_neg (by decide), q_238_59_at259, a1, cV_V, m_sigT (X := X) (d := d + 4) (c := 42) a2.1 42 rfl (by omega) (by omega) h42, cI_I, if_neg (by decide), a3, cV_V, c1, cV_V]
      obtain ⟨M4, d1, d2, d3⟩ := key false 0 _ _ _ _ M3 m' rfl h c2 (Iv_op hi hk 6 (Or.inl (by decide)) (by decide) rfl) (by omega) (by omega)
      exact ⟨M4, d1, a5.tr (c3.tr d2), d3⟩
    rw [m_sigF (X := X) (d := d + 4) (c := 42) hX.1 42 rfl h42, cI_I, if_pos rfl]
    by_cases h47 : tkK (tks b n) k = 47
    · have hk : k < 700 := hT k (by omega)
      have e := st_nop (t := tks b n) (k := k) (W := W) (O := O) (te := v :: te) (by rw [h47]; decide) (by rw [h47]; exact fun z => absurd z.1 (by decide))
      rw [h47] at e
      obtain ⟨M1, M2, a1, a2, a3, a4, a5⟩ := MX_dw (X := X) (d := d + 2) hX hi 6 6 rfl 11
      obtain ⟨M3, c1, c2, c3⟩ := MX_go (X := X) (d := d + 3) a4
      rw [ex_in e] at h
      rw [m_sigT (X := X) (d := d + 4) (c := 47) hX.1 47 rfl (by omega) (by omega) h47, cI_I, if_neg (by decide), q_238_59_at259, a1, cV_V, m_sigF (X := X) (d := d + 4) (c := 42) a2.1 42 rfl h42, cI_I, if_pos rfl, a3, cV_V, c1, cV_V]
      obtain ⟨M4, d1, d2, d3⟩ := key false 0 _ _ _ _ M3 m' rfl h c2 (Iv_op hi hk 6 (Or.inl (by decide)) (by decide) rfl) (by omega) (by omega)
      exact ⟨M4, d1, a5.tr (c3.tr d2), d3⟩
    rw [m_sigF (X := X) (d := d + 4) (c := 47) hX.1 47 rfl h47, cI_I, if_pos rfl]
    by_cases h41 : tkK (tks b n) k = 41
    · have hk : k < 700 := hT k (by omega)
      have l0 : lev (tkK (tks b n) k) = 0 := by rw [h41]; decide
      have i2 := hi.2.1
      have i3 := hi.2.2.1
      rw [m_sigT (X := X) (d := d + 4) (c := 41) hX.1 41 rfl (by omega) (by omega) h41, cI_I, if_neg (by decide), m_opened (X := X) (d := d + 3) hX.2.2.2.1 i3 (by omega), cI_I]
      by_cases h14 : (14 : Int) ∈ W
      · have e : stM (tks b n) (none, k, W, O, v :: te) = .inl (none, k + 1, (drp 0 W O).1.tail, (drp 0 W O).2, (v :: te).tail) := by
          unfold stM
          dsimp only
          rw [if_pos l0, if_pos ⟨h41, h14⟩]
        obtain ⟨M1, a1, a2, a3, a4⟩ := MX_close (X := X) (d := d + 1) hX hi hk h14
        rw [ex_in e] at h
        rw [if_pos h14, if_neg (by decide), a1, cV_V]
        obtain ⟨M2, b1, b2, b3⟩ := ih g (by omega) _ _ _ _ M1 (m' + 1) (by omega) h a2 a3 (by omega)
        exact ⟨M2, b1, a4.tr b2, b3⟩
      · have e : stM (tks b n) (none, k, W, O, v :: te) = .inr (hlt k W O (v :: te)) := by
          unfold stM
          dsimp only
          rw [if_pos l0, if_neg (fun z => h14 z.2)]
        rw [if_neg h14, if_pos rfl]
        exact hend e (m' + 1) (by omega)
    · rw [m_sigF (X := X) (d := d + 4) (c := 41) hX.1 41 rfl h41, cI_I, if_pos rfl]
      refine hend ?_ (m' + 1) (by omega)
      unfold stM
      dsimp only
      by_cases hs : tkK (tks b n) k = 60 ∨ tkK (tks b n) k = 61
      · have l4 : lev (tkK (tks b n) k) = 4 := by
          rcases hs with z | z
          · rw [z]; decide
          · rw [z]; decide
        rw [if_neg (by omega), if_pos ⟨l4, hv hs⟩]
      · have l0 : lev (tkK (tks b n) k) = 0 := by
          unfold lev
          rw [if_neg h108, if_neg h109, if_neg hs, if_neg (by omega), if_neg (by omega)]
        rw [if_pos l0, if_neg (fun z => h41 z.1)]
  have h127 : ∀ (c : Nat) (ac : Int), (c = 60 ∧ ac = 6) ∨ (c = 61 ∧ ac = 7) → tkK (tks b n) k = c → ∃ M', kb X (d + 5) 238 (m + 4) 127 [some (rv 59), some (iv 1), none] [] M = oV M' ∧ sf Px M M' ∧ XF b n x M' := by
    intro c ac hc hq
    have hk : k < 700 := hT k (by omega)
    have hd : M.2.1 59 42 = ((te.length + 1 : Nat) : Int) := hX.2.2.2.2.1.1
    have hv0 : M.2.1 90 (te.length + 1) = b01 v := hX.2.2.2.2.1.2 0 (by rw [List.length_cons]; omega)
    rw [q_238_59_at127, hd, gdx (by omega) (by omega), Int.toNat_natCast, hv0]
    cases v with
    | true =>
      rw [if_neg (by decide)]
      exact h186 (m + 3) (by omega) (by omega) (fun _ => rfl)
    | false =>
      rw [if_pos (by decide)]
      obtain ⟨M1, M2, a1, a2, a3, a4, a5⟩ := MX_dw (X := X) (d := d + 2) hX hi 4 4 rfl ac
      obtain ⟨b1, b2⟩ := MX_st a4 true 1 rfl
      obtain ⟨M3, c1, c2, c3⟩ := MX_go (X := X) (d := d + 3) b1
      have hd2 : M2.2.1 59 42 = ((te.length + 1 : Nat) : Int) := a4.2.2.2.2.1.1
      have e := st_nop (t := tks b n) (k := k) (W := W) (O := O) (te := false :: te) (by rw [hq]; rcases hc with z | z <;> rw [z.1] <;> decide) (fun z => (by cases z.2))
      rw [hq] at e
      rw [ex_in e] at h
      rcases hc with ⟨rfl, rfl⟩ | ⟨rfl, rfl⟩
      · rw [a1, cV_V, m_sigT (X := X) (d := d + 4) (c := 60) a2.1 60 rfl (by omega) (by omega) hq, cI_I, if_neg (by decide), a3, cV_V, hd2, gdx (by omega) (by omega), Int.toNat_natCast, c1, cV_V]
        obtain ⟨M4, d1, d2, d3⟩ := key false 0 _ _ _ _ M3 (m + 3) rfl h c2 (Iv_op hi hk 4 (Or.inl (by decide)) (by decide) rfl) (by omega) (by omega)
        exact ⟨M4, d1, a5.tr (b2.tr (c3.tr d2)), d3⟩
      · rw [a1, cV_V, m_sigF (X := X) (d := d + 4) (c := 60) a2.1 60 rfl (by omega), cI_I, if_pos rfl, a3, cV_V, hd2, gdx (by omega) (by omega), Int.toNat_natCast, c1, cV_V]
        obtain ⟨M4, d1, d2, d3⟩ := key false 0 _ _ _ _ M3 (m + 3) rfl h c2 (Iv_op hi hk 4 (Or.inl (by decide)) (by decide) rfl) (by omega) (by omega)
        exact ⟨M4, d1, a5.tr (b2.tr (c3.tr d2)), d3⟩
  by_cases h60 : tkK (tks b n) k = 60
  · rw [m_sigT (X := X) (d := d + 4) (c := 60) hX.1 60 rfl (by omega) (by omega) h60, cI_I, if_neg (by decide)]
    exact h127 60 6 (Or.inl ⟨rfl, rfl⟩) h60
  rw [m_sigF (X := X) (d := d + 4) (c := 60) hX.1 60 rfl h60, cI_I, if_pos rfl]
  by_cases h61 : tkK (tks b n) k = 61
  · rw [m_sigT (X := X) (d := d + 4) (c := 61) hX.1 61 rfl (by omega) (by omega) h61, cI_I, if_neg (by decide)]
    exact h127 61 7 (Or.inr ⟨rfl, rfl⟩) h61
  rw [m_sigF (X := X) (d := d + 4) (c := 61) hX.1 61 rfl h61, cI_I, if_pos rfl]
  exact h186 (m + 4) (by omega) (by omega) (fun z => by omega)
/-- a rule is read, the model's way -/
theorem m_expr (hT : Tok (tks b n)) {x : PZ} {g : Nat} (hx : ex (tks b n) g (some (true, 0), k, [], [], [false]) = some x) (h : MT b n k M) (h0 : M.2.1 59 22 = 0) (h4 : M.2.1 59 40 = 0) (h23 : M.2.1 59 23 = -1) (hk : 1 ≤ k) (hk7 : k ≤ 700) : ∃ M', fn X (d + 6) 238 [rv 59] M = oV M' ∧ sf Px M M' ∧ XF b n x M' := by
  have hx2 := ex_bd hT g _ x hx hk7
  dsimp only at hx2
  have hs : sf Px M (puI (puI M 59 41 0) 59 42 0) := (sf.rf.pu rfl _).pu rfl _
  have hs2 : sf Pde M (puI (puI M 59 41 0) 59 42 0) := (sf.rf.pu rfl _).pu rfl _
  have z1 : MX b n k [] [] [] (puI (puI M 59 41 0) 59 42 0) := ⟨MT_sf h hs2 (fun _ => rfl) (r8 (by decide)), by rw [(hs2.2 59 22 rfl).1]; exact h0, ⟨by rw [(hs2.2 59 40 rfl).1, h4]; rfl, fun i hi => (by cases hi)⟩, ⟨by rw [puI_nj (by omega), puI_eq]; rfl, stk_nil _ _⟩, ⟨by rw [puI_eq]; rfl, fun i hi => (by cases hi)⟩, by rw [(hs2.2 59 23 rfl).1]; exact h23⟩
  obtain ⟨M1, a1, a2, a3⟩ := MX_deep (X := X) (d := d + 4) z1 (by decide)
  have hi : Iv k [] [] [false] := ⟨by rw [List.length_nil]; omega, by rw [List.length_nil]; omega, fun a ha => (by cases ha), rfl, by decide, hk7⟩
  obtain ⟨M2, b1, b2, b3⟩ := m_operand (X := X) (d := d) hT (nt := true) 1 rfl hx2 a2 hi (by omega)
  rw [q_238_59, m_good (X := X) (d := d + 4) h0, cI_I, if_neg (by decide), a1, cV_V, b1, cV_V]
  have hF := FU_lt (k := 4000) (by omega)
  rcases b3 with ⟨f, p, rfl, hf⟩ | ⟨g', k2, W2, O2, te2, hg2, h2, hX2, hi2⟩
  · obtain ⟨m'', hm⟩ : ∃ m'', FU = m'' + 2 := ⟨FU - 2, by omega⟩
    rw [hm]
    obtain ⟨M3, c1, c2, c3⟩ := f_29 (X := X) (d := d + 2) (m := m'') hf
    exact ⟨M3, c1, hs.tr (a3.tr (b2.tr c2)), c3⟩
  · obtain ⟨M3, c1, c2, c3⟩ := m_exL (X := X) (d := d) hT x g' k2 W2 O2 te2 M2 FU (by omega) h2 hX2 hi2 (by omega)
    exact ⟨M3, c1, hs.tr (a3.tr (b2.tr c2)), c3⟩
end C88e

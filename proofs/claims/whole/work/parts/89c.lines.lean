/-! ===== the class reads a text ===== -/
section C89c
variable {X : Nat × (Nat → Int32)} {d : Nat} {b : Nat → Nat} {n : Nat} {M M' : rM} {D : DF} {k : Nat}
def Pz (k j : Nat) : Bool := decide (((16 ≤ k ∧ k ≤ 26) ∧ ¬ ((k = 17 ∨ k = 19 ∨ k = 21 ∨ k = 23) ∧ j = 2)) ∨ k = 29 ∨ k = 30)
def Pc (a c : Nat) (k j : Nat) : Bool := k == a && j == c
def Pn (a c : Nat) (k j : Nat) : Bool := P9 k j || (k == 29 && j == a) || (k == 16 && j == c)
theorem Pz_of {Q : Nat → Nat → Bool} (h : ∀ k j, Q k j = true → ((16 ≤ k ∧ k ≤ 26) ∧ ¬ ((k = 17 ∨ k = 19 ∨ k = 21 ∨ k = 23) ∧ j = 2)) ∨ k = 29 ∨ k = 30) : ∀ k j, Pz k j = false → Q k j = false := fun k j z => by
  cases e : Q k j with
  | false => rfl
  | true =>
    unfold Pz at z
    rw [decide_eq_false_iff_not] at z
    exact absurd (h k j e) z
theorem P9_in {k j : Nat} (h : P9 k j = true) : k = 26 ∨ (k = 25 ∧ j = 3) ∨ (k = 29 ∧ (j = 2 ∨ j = 3)) ∨ k = 30 := by
  unfold P9 at h
  simp only [Bool.or_eq_true, Bool.and_eq_true, beq_iff_eq, decide_eq_true_eq] at h
  omega
theorem Pz_9 : ∀ k j, Pz k j = false → P9 k j = false := Pz_of (fun k j e => by
  have := P9_in e
  omega)
theorem Pz_n {a c : Nat} : ∀ k j, Pz k j = false → Pn a c k j = false := Pz_of (fun k j e => by
  unfold Pn at e
  rw [Bool.or_eq_true, Bool.or_eq_true, Bool.and_eq_true, Bool.and_eq_true, beq_iff_eq, beq_iff_eq, beq_iff_eq, beq_iff_eq] at e
  rcases e with (e | e) | e
  · have := P9_in e
    omega
  · omega
  · omega)
theorem Pz_t {T A : Nat} (h : (T = 17 ∧ A = 18) ∨ (T = 19 ∧ A = 20) ∨ (T = 21 ∧ A = 22) ∨ (T = 23 ∧ A = 24)) : ∀ k j, Pz k j = false → Pt T A k j = false := Pz_of (fun k j e => by
  unfold Pt at e
  rw [Bool.or_eq_true, Bool.or_eq_true, Bool.and_eq_true, beq_iff_eq, beq_iff_eq, beq_iff_eq] at e
  rcases e with (e | e) | e
  · have := P9_in e
    omega
  · omega
  · omega)
theorem Pn_9 {a c : Nat} : ∀ k j, Pn a c k j = false → P9 k j = false := fun k j h => by
  unfold Pn at h
  rw [Bool.or_eq_false_iff, Bool.or_eq_false_iff] at h
  exact h.1.1
/-- the class's draft -/
def CDr (D : DF) (M : rM) : Prop := Tb 17 18 5 6 (nC D.1) (cre D.1) M ∧ Tb 19 20 6 8 (nT D.1) (tri D.1) M ∧ Tb 21 22 2 6 (nH D.1) (hun D.1) M ∧ Tb 23 24 1 8 (nL D.1) (fun c _ => tal D.1 c) M ∧ M.2.1 16 5 = ((D.2.getD 50 : Nat) : Int) ∧ M.2.1 16 6 = (riv D.1 : Int) ∧ M.2.1 29 4 = b01 D.2.isSome ∧ M.2.1 29 5 = (if riv D.1 = 0 then 0 else 1)
theorem CDr_sf {Q : Nat → Nat → Bool} (h : CDr D M) (g : sf Q M M') (h1 : (Q 17 3 || Q 17 2 || Q 19 3 || Q 19 2 || Q 21 3 || Q 21 2 || Q 23 3 || Q 23 2 || Q 16 5 || Q 16 6 || Q 29 4 || Q 29 5) = false) (h2 : ∀ j, Q 18 j = false) (h3 : ∀ j, Q 20 j = false) (h4 : ∀ j, Q 22 j = false) (h5 : ∀ j, Q 24 j = false) : CDr D M' := by
  simp only [Bool.or_eq_false_iff] at h1
  obtain ⟨⟨⟨⟨⟨⟨⟨⟨⟨⟨⟨e1, e2⟩, e3⟩, e4⟩, e5⟩, e6⟩, e7⟩, e8⟩, e9⟩, e10⟩, e11⟩, e12⟩ := h1
  obtain ⟨a1, a2, a3, a4, a5, a6, a7, a8⟩ := h
  exact ⟨Tb_sf a1 g e1 e2 h2, Tb_sf a2 g e3 e4 h3, Tb_sf a3 g e5 e6 h4, Tb_sf a4 g e7 e8 h5, by rw [(g.2 16 5 e9).1]; exact a5, by rw [(g.2 16 6 e10).1]; exact a6, by rw [(g.2 29 4 e11).1]; exact a7, by rw [(g.2 29 5 e12).1]; exact a8⟩
theorem CDr_9 (h : CDr D M) (g : sf P9 M M') : CDr D M' := CDr_sf h g rfl (fun _ => rfl) (fun _ => rfl) (fun _ => rfl) (fun _ => rfl)
def Ob (b : Nat → Nat) (n : Nat) (y : LZ2) (M : rM) : Prop := (∀ f p, y = .inl (f, p) → CF b n f p M) ∧ ∀ k D, y = .inr (k, D) → CGd b n k (rul D.1) M ∧ CDr D M
theorem Ob_l {f p : Nat} (h : CF b n f p M) : Ob b n (.inl (f, p)) M := ⟨fun f' k' z => by cases z; exact h, fun k' r' z => (by cases z)⟩
theorem Ob_row {y : (Nat × Nat) ⊕ (Nat × List Nat)} {f : List Nat → DF} (h1 : ∀ g p, y = .inl (g, p) → CF b n g p M) (h2 : ∀ k l, y = .inr (k, l) → CGd b n k (rul (f l).1) M ∧ CDr (f l) M) : Ob b n (lz1 f y) M := by
  cases y with
  | inl x => exact Ob_l (h1 x.1 x.2 rfl)
  | inr z =>
    obtain ⟨k, l⟩ := z
    refine ⟨fun f' k' z => (by cases z), fun k' r' z => ?_⟩
    cases z
    exact h2 k l rfl
theorem c_coinL (hg : CGd b n k (rul D.1) M) (hd : CDr D M) (hr : (rul D.1).length ≤ 700) : ∃ M', fn X (d + 10) 19 [rv 29] M = oV M' ∧ sf (Pn 4 5) M M' ∧ Ob b n (if D.2.isSome = true then .inl (5, k) else lz2 (k + 2) (aN D) (pNum (tks b n) 0 999 (k + 1))) M' := by
  obtain ⟨S, o⟩ := D
  cases o with
  | some w =>
    have h4 : M.2.1 29 4 = 1 := hd.2.2.2.2.2.2.1
    obtain ⟨M1, a1, a2, a3⟩ := c_ref (X := X) (d := d + 7) hg hr (f := 5) (by omega)
    replace a1 : fn X (d + 9) 17 [rv 29, iv 5] M = oV M1 := a1
    rw [q_19_29, if_neg (show ¬ M.2.1 29 4 = 0 by rw [h4]; decide), a1, cV_V, if_pos (show (some w).isSome = true from rfl)]
    exact ⟨M1, rfl, a3.mo Pn_9, Ob_l a2⟩
  | none =>
    have h4 : M.2.1 29 4 = 0 := hd.2.2.2.2.2.2.1
    have s0 : sf (Pc 29 4) M (puI M 29 4 1) := sf.rf.pu rfl _
    have s1 : sf (Pn 4 5) M (puI M 29 4 1) := sf.rf.pu rfl _
    obtain ⟨M1, a1, a2, a3⟩ := c_go (X := X) (d := d + 1) (CGd_sf hg s0 (fun _ => rfl) (fun _ => rfl) rfl (fun _ => rfl) rfl rfl)
    obtain ⟨M2, b1, b2, b3⟩ := c_22 (X := X) (d := d) a2 hr 0 999
    rw [q_19_29, if_pos h4, if_neg (show ¬ (none : Option Nat).isSome = true by decide), a1, cV_V, b1, cI_I, q_67_16, cV_V]
    have s2 : sf (Pn 4 5) M M2 := s1.tr ((a3.mo Pn_9).tr (b3.mo Pn_9))
    cases e : pNum (tks b n) 0 999 (k + 1) with
    | inl x =>
      rw [e] at b2
      have s3 : sf (Pc 16 5) M2 (puI M2 16 5 0) := sf.rf.pu rfl _
      exact ⟨_, rfl, s2.pu rfl _, Ob_l (CF_sf b2 s3 (fun _ => rfl) (fun _ => rfl) rfl rfl rfl)⟩
    | inr v =>
      rw [e] at b2
      have s3 : sf (Pc 16 5) M2 (puI M2 16 5 (v : Int)) := sf.rf.pu rfl _
      have s4 : sf (Pn 4 5) M (puI M2 16 5 (v : Int)) := s2.pu rfl _
      refine ⟨_, rfl, s4, fun f' k' z => (by cases z), fun k' D' z => ?_⟩
      cases z
      obtain ⟨h1, h2, h3, h4, h5, h6, h7, h8⟩ := hd
      refine ⟨CGd_sf b2 s3 (fun _ => rfl) (fun _ => rfl) rfl (fun _ => rfl) rfl rfl, Tb_sf h1 s4 rfl rfl (fun _ => rfl), Tb_sf h2 s4 rfl rfl (fun _ => rfl), Tb_sf h3 s4 rfl rfl (fun _ => rfl), Tb_sf h4 s4 rfl rfl (fun _ => rfl), puI_eq _ _ _ _, ?_, ?_, ?_⟩
      · rw [(s4.2 16 6 rfl).1]; exact h6
      · rw [puI_ne (by omega), (b3.2 29 4 rfl).1, (a3.2 29 4 rfl).1]; exact puI_eq _ _ _ _
      · rw [(s4.2 29 5 rfl).1]; exact h8
theorem c_rivL (hg : CGd b n k (rul D.1) M) (hd : CDr D M) (hr : (rul D.1).length ≤ 700) : ∃ M', fn X (d + 10) 20 [rv 29] M = oV M' ∧ sf (Pn 5 6) M M' ∧ Ob b n (if riv D.1 ≠ 0 then .inl (5, k) else lz2 (k + 2) (aV D) (pNum (tks b n) 1 30 (k + 1))) M' := by
  rw [q_20_29, hd.2.2.2.2.2.2.2]
  by_cases c : riv D.1 = 0
  · have s0 : sf (Pc 29 5) M (puI M 29 5 1) := sf.rf.pu rfl _
    have s1 : sf (Pn 5 6) M (puI M 29 5 1) := sf.rf.pu rfl _
    obtain ⟨M1, a1, a2, a3⟩ := c_go (X := X) (d := d + 1) (CGd_sf hg s0 (fun _ => rfl) (fun _ => rfl) rfl (fun _ => rfl) rfl rfl)
    obtain ⟨M2, b1, b2, b3⟩ := c_22 (X := X) (d := d) a2 hr 1 30
    rw [if_pos c, if_pos rfl, if_neg (show ¬ riv D.1 ≠ 0 from fun z => z c), a1, cV_V, b1, cI_I, q_68_16, cV_V]
    have s2 : sf (Pn 5 6) M M2 := s1.tr ((a3.mo Pn_9).tr (b3.mo Pn_9))
    cases e : pNum (tks b n) 1 30 (k + 1) with
    | inl x =>
      rw [e] at b2
      have s3 : sf (Pc 16 6) M2 (puI M2 16 6 0) := sf.rf.pu rfl _
      exact ⟨_, rfl, s2.pu rfl _, Ob_l (CF_sf b2 s3 (fun _ => rfl) (fun _ => rfl) rfl rfl rfl)⟩
    | inr v =>
      rw [e] at b2
      have s3 : sf (Pc 16 6) M2 (puI M2 16 6 (v : Int)) := sf.rf.pu rfl _
      have s4 : sf (Pn 5 6) M (puI M2 16 6 (v : Int)) := s2.pu rfl _
      refine ⟨_, rfl, s4, fun f' k' z => (by cases z), fun k' D' z => ?_⟩
      cases z
      obtain ⟨v1, v2, v3, v4⟩ := pNum_ok e
      obtain ⟨h1, h2, h3, h4, h5, h6, h7, h8⟩ := hd
      refine ⟨CGd_sf b2 s3 (fun _ => rfl) (fun _ => rfl) rfl (fun _ => rfl) rfl rfl, Tb_sf h1 s4 rfl rfl (fun _ => rfl), Tb_sf h2 s4 rfl rfl (fun _ => rfl), Tb_sf h3 s4 rfl rfl (fun _ => rfl), Tb_sf h4 s4 rfl rfl (fun _ => rfl), ?_, puI_eq _ _ _ _, ?_, ?_⟩
      · rw [(s4.2 16 5 rfl).1]; exact h5
      · rw [(s4.2 29 4 rfl).1]; exact h7
      · show (puI M2 16 6 (v : Int)).2.1 29 5 = (if v = 0 then 0 else 1)
        rw [if_neg (by omega), puI_ne (by omega), (b3.2 29 5 rfl).1, (a3.2 29 5 rfl).1]; exact puI_eq _ _ _ _
  · obtain ⟨M1, a1, a2, a3⟩ := c_ref (X := X) (d := d + 7) hg hr (f := 5) (by omega)
    replace a1 : fn X (d + 9) 17 [rv 29, iv 5] M = oV M1 := a1
    rw [if_neg c, if_neg (by decide), if_pos c, a1, cV_V]
    exact ⟨M1, rfl, a3.mo Pn_9, Ob_l a2⟩
theorem c_bound (hT : Tok (tks b n)) (hV : TokV (tks b n)) (hg : CGd b n k (rul D.1) M) (hd : CDr D M) (hr : (rul D.1).length ≤ 700) (hk : k < 700) : ∃ M', fn X (d + 53) 21 [rv 29] M = oV M' ∧ sf P9 M M' ∧ Ob b n (if rul D.1 ≠ [] then .inl (5, k) else lz3 (aU D) (pE (tks b n) 6 (k + 1) [])) M' := by
  rw [q_21_29, q_43_25, hg.2.1.1]
  by_cases c : rul D.1 = []
  · have c0 : ((rul D.1).length : Int) = 0 := by rw [c] <;> rfl
    obtain ⟨M1, a1, a2, a3⟩ := c_go (X := X) (d := d + 44) hg
    have hE : Rd b n (fun M => fn X (d + 52) 24 [rv 29, iv 0] M) (pE (tks b n) 6) := c_E hT hV d 6 0 (by decide) (by decide)
    rw [c] at a2
    obtain ⟨M2, b1, b2, b3⟩ := hE (k + 1) [] M1 a2 (Nat.zero_le _) (by omega)
    replace b1 : fn X (d + 52) 24 [rv 29, iv 0] M1 = oV M2 := b1
    rw [if_pos c0, cI_I, if_neg (by decide), if_neg (show ¬ rul D.1 ≠ [] from fun z => z c), a1, cV_V, b1, cV_V]
    refine ⟨M2, rfl, a3.tr b3, ?_⟩
    have hd2 := CDr_9 (CDr_9 hd a3) b3
    cases e : pE (tks b n) 6 (k + 1) [] with
    | inl x => exact Ob_l (b2.1 x.1 x.2 e)
    | inr y =>
      obtain ⟨k2, r2⟩ := y
      refine ⟨fun f' k' z => (by cases z), fun k' D' z => ?_⟩
      cases z
      exact ⟨b2.2 k2 r2 e, hd2⟩
  · have c0 : ((rul D.1).length : Int) ≠ 0 := by
      have := List.length_pos_iff.2 c
      omega
    obtain ⟨M1, a1, a2, a3⟩ := c_ref (X := X) (d := d + 50) hg hr (f := 5) (by omega)
    replace a1 : fn X (d + 52) 17 [rv 29, iv 5] M = oV M1 := a1
    rw [if_neg c0, cI_I, if_pos rfl, if_pos c, a1, cV_V]
    exact ⟨M1, rfl, a3, Ob_l a2⟩
theorem rul_len {S : SK} (h : WR S) : (rul S).length ≤ 700 := by
  rcases h with e | e
  · rw [e]; exact Nat.zero_le _
  · exact e.2
/-- a line but its end -/
theorem c_body (hT : Tok (tks b n)) (hV : TokV (tks b n)) (hg : CGd b n k (rul D.1) M) (hd : CDr D M) (hD : DFo D) (h0 : tkK (tks b n) k ≠ 0) {l2 m : Nat} (hl : l2 < 700) : ∃ M', kb X (d + 53) 15 (m + 1) 37 [some (rv 29), none, some (iv (l2 : Int))] [] M = kb X (d + 53) 15 m 194 [some (rv 29), none, some (iv (l2 : Int))] [] M' ∧ sf Pz M M' ∧ Ob b n (pBody (tks b n) (tkK (tks b n) k) k D) M' := by
  have hr := rul_len hD.2.1
  obtain ⟨h1, h2, h3, h4, h5, h6, h7, h8⟩ := id hd
  rw [q_15_29_at37, if_pos (show (l2 : Int) < 700 by omega), if_pos hg.2.2.1, c_kd (d := d + 52) hg.1, cI_I, if_neg (show ¬ (tkK (tks b n) k : Int) = 0 by omega), c_kd (d := d + 52) hg.1, cI_I]
  by_cases q1 : tkK (tks b n) k = 101
  · have e : pBody (tks b n) (tkK (tks b n) k) k D = (if nC D.1 = 6 then .inl (2, k) else lz1 (aC D) (pNums (tks b n) [60, 63, 9, 99, 9] (k + 1))) := by unfold pBody; rw [if_pos q1]
    obtain ⟨M1, a1, a2, a3, a4⟩ := c_18_17 (X := X) (d := d + 42) hr hg h1 hD.1.1
    rw [e, if_pos (show (tkK (tks b n) k : Int) = 101 by omega), a1, cV_V]
    refine ⟨M1, rfl, a2.mo (Pz_t (by omega)), ?_⟩
    by_cases c : nC D.1 = 6
    · rw [if_pos c]; exact Ob_l (a3 c)
    · rw [if_neg c]
      obtain ⟨g1, g2⟩ := a4 c
      exact Ob_row g1 (fun k' l z => ⟨(g2 k' l z).1, (g2 k' l z).2, Tb_sf h2 a2 rfl rfl (fun _ => rfl), Tb_sf h3 a2 rfl rfl (fun _ => rfl), Tb_sf h4 a2 rfl rfl (fun _ => rfl), by rw [(a2.2 16 5 rfl).1]; exact h5, by rw [(a2.2 16 6 rfl).1]; exact h6, by rw [(a2.2 29 4 rfl).1]; exact h7, by rw [(a2.2 29 5 rfl).1]; exact h8⟩)
  rw [if_neg (show ¬ (tkK (tks b n) k : Int) = 101 by omega)]
  by_cases q2 : tkK (tks b n) k = 102
  · have e : pBody (tks b n) (tkK (tks b n) k) k D = (if nT D.1 = 8 then .inl (2, k) else lz1 (aQ D) (pNums (tks b n) [63, 63, 63, 63, 20, 20] (k + 1))) := by unfold pBody; rw [if_neg q1, if_pos q2]
    obtain ⟨M1, a1, a2, a3, a4⟩ := c_18_19 (X := X) (d := d + 42) hr hg h2 hD.1.2.1
    rw [e, if_pos (show (tkK (tks b n) k : Int) = 102 by omega), a1, cV_V]
    refine ⟨M1, rfl, a2.mo (Pz_t (by omega)), ?_⟩
    by_cases c : nT D.1 = 8
    · rw [if_pos c]; exact Ob_l (a3 c)
    · rw [if_neg c]
      obtain ⟨g1, g2⟩ := a4 c
      exact Ob_row g1 (fun k' l z => ⟨(g2 k' l z).1, Tb_sf h1 a2 rfl rfl (fun _ => rfl), (g2 k' l z).2, Tb_sf h3 a2 rfl rfl (fun _ => rfl), Tb_sf h4 a2 rfl rfl (fun _ => rfl), by rw [(a2.2 16 5 rfl).1]; exact h5, by rw [(a2.2 16 6 rfl).1]; exact h6, by rw [(a2.2 29 4 rfl).1]; exact h7, by rw [(a2.2 29 5 rfl).1]; exact h8⟩)
  rw [if_neg (show ¬ (tkK (tks b n) k : Int) = 102 by omega)]
  by_cases q3 : tkK (tks b n) k = 103
  · have e : pBody (tks b n) (tkK (tks b n) k) k D = (if nH D.1 = 6 then .inl (2, k) else lz1 (aH D) (pNums (tks b n) [60, 999] (k + 1))) := by unfold pBody; rw [if_neg q1, if_neg q2, if_pos q3]
    obtain ⟨M1, a1, a2, a3, a4⟩ := c_18_21 (X := X) (d := d + 42) hr hg h3 hD.1.2.2.1
    rw [e, if_pos (show (tkK (tks b n) k : Int) = 103 by omega), a1, cV_V]
    refine ⟨M1, rfl, a2.mo (Pz_t (by omega)), ?_⟩
    by_cases c : nH D.1 = 6
    · rw [if_pos c]; exact Ob_l (a3 c)
    · rw [if_neg c]
      obtain ⟨g1, g2⟩ := a4 c
      exact Ob_row g1 (fun k' l z => ⟨(g2 k' l z).1, Tb_sf h1 a2 rfl rfl (fun _ => rfl), Tb_sf h2 a2 rfl rfl (fun _ => rfl), (g2 k' l z).2, Tb_sf h4 a2 rfl rfl (fun _ => rfl), by rw [(a2.2 16 5 rfl).1]; exact h5, by rw [(a2.2 16 6 rfl).1]; exact h6, by rw [(a2.2 29 4 rfl).1]; exact h7, by rw [(a2.2 29 5 rfl).1]; exact h8⟩)
  rw [if_neg (show ¬ (tkK (tks b n) k : Int) = 103 by omega)]
  by_cases q4 : tkK (tks b n) k = 104
  · have e : pBody (tks b n) (tkK (tks b n) k) k D = (if nL D.1 = 8 then .inl (2, k) else lz1 (aL D) (pNums (tks b n) [1023] (k + 1))) := by unfold pBody; rw [if_neg q1, if_neg q2, if_neg q3, if_pos q4]
    obtain ⟨M1, a1, a2, a3, a4⟩ := c_18_23 (X := X) (d := d + 42) hr hg h4 hD.1.2.2.2.1
    rw [e, if_pos (show (tkK (tks b n) k : Int) = 104 by omega), a1, cV_V]
    refine ⟨M1, rfl, a2.mo (Pz_t (by omega)), ?_⟩
    by_cases c : nL D.1 = 8
    · rw [if_pos c]; exact Ob_l (a3 c)
    · rw [if_neg c]
      obtain ⟨g1, g2⟩ := a4 c
      refine Ob_row g1 (fun k' l z => ⟨(g2 k' l z).1, Tb_sf h1 a2 rfl rfl (fun _ => rfl), Tb_sf h2 a2 rfl rfl (fun _ => rfl), Tb_sf h3 a2 rfl rfl (fun _ => rfl), ?_, by rw [(a2.2 16 5 rfl).1]; exact h5, by rw [(a2.2 16 6 rfl).1]; exact h6, by rw [(a2.2 29 4 rfl).1]; exact h7, by rw [(a2.2 29 5 rfl).1]; exact h8⟩)
      have g := (g2 k' l z).2
      refine ⟨g.1, g.2.1, fun c j hc hj => ?_⟩
      have g3 := g.2.2 c j hc hj
      obtain rfl : j = 0 := by omega
      exact g3
  rw [if_neg (show ¬ (tkK (tks b n) k : Int) = 104 by omega)]
  by_cases q5 : tkK (tks b n) k = 105
  · have e : pBody (tks b n) (tkK (tks b n) k) k D = (if D.2.isSome = true then .inl (5, k) else lz2 (k + 2) (aN D) (pNum (tks b n) 0 999 (k + 1))) := by unfold pBody; rw [if_neg q1, if_neg q2, if_neg q3, if_neg q4, if_pos q5]
    obtain ⟨M1, a1, a2, a3⟩ := c_coinL (X := X) (d := d + 43) hg hd hr
    rw [e, if_pos (show (tkK (tks b n) k : Int) = 105 by omega), a1, cV_V]
    exact ⟨M1, rfl, a2.mo Pz_n, a3⟩
  rw [if_neg (show ¬ (tkK (tks b n) k : Int) = 105 by omega)]
  by_cases q6 : tkK (tks b n) k = 106
  · have e : pBody (tks b n) (tkK (tks b n) k) k D = (if riv D.1 ≠ 0 then .inl (5, k) else lz2 (k + 2) (aV D) (pNum (tks b n) 1 30 (k + 1))) := by unfold pBody; rw [if_neg q1, if_neg q2, if_neg q3, if_neg q4, if_neg q5, if_pos q6]
    obtain ⟨M1, a1, a2, a3⟩ := c_rivL (X := X) (d := d + 43) hg hd hr
    rw [e, if_pos (show (tkK (tks b n) k : Int) = 106 by omega), a1, cV_V]
    exact ⟨M1, rfl, a2.mo Pz_n, a3⟩
  rw [if_neg (show ¬ (tkK (tks b n) k : Int) = 106 by omega)]
  by_cases q7 : tkK (tks b n) k = 107
  · have e : pBody (tks b n) (tkK (tks b n) k) k D = (if rul D.1 ≠ [] then .inl (5, k) else lz3 (aU D) (pE (tks b n) 6 (k + 1) [])) := by unfold pBody; rw [if_neg q1, if_neg q2, if_neg q3, if_neg q4, if_neg q5, if_neg q6, if_pos q7]
    obtain ⟨M1, a1, a2, a3⟩ := c_bound (X := X) (d := d) hT hV hg hd hr (hT k h0)
    rw [e, if_pos (show (tkK (tks b n) k : Int) = 107 by omega), a1, cV_V]
    exact ⟨M1, rfl, a2.mo Pz_9, a3⟩
  rw [if_neg (show ¬ (tkK (tks b n) k : Int) = 107 by omega)]
  have e : pBody (tks b n) (tkK (tks b n) k) k D = .inl (1, k) := by unfold pBody; rw [if_neg q1, if_neg q2, if_neg q3, if_neg q4, if_neg q5, if_neg q6, if_neg q7]
  obtain ⟨M1, a1, a2, a3⟩ := c_ref (X := X) (d := d + 51) hg hr (f := 1) (by omega)
  replace a1 : fn X (d + 53) 17 [rv 29, iv 1] M = oV M1 := a1
  rw [e, a1, cV_V]
  exact ⟨M1, rfl, a3.mo Pz_9, Ob_l a2⟩
/-- the end of the class's reading -/
def CEn (b : Nat → Nat) (n : Nat) (y : (Nat × Nat) ⊕ DF) (v : Int) (M : rM) : Prop := (∀ g p, y = .inl (g, p) → v = (g : Int) ∧ g ≠ 0 ∧ M.2.1 29 3 = (tZ b n p : Int)) ∧ ∀ D, y = .inr D → v = 0 ∧ CDr D M ∧ RU (rul D.1) M ∧ M.2.1 29 3 = -1
theorem CEn_F {g p : Nat} (h : CF b n g p M) : CEn b n (.inl (g, p)) (M.2.1 29 2) M := ⟨fun g' p' z => by cases z; exact ⟨h.2.1, h.2.2.2.1, h.2.2.1⟩, fun D z => (by cases z)⟩
theorem c_lines (hT : Tok (tks b n)) (hV : TokV (tks b n)) : ∀ (f k l2 : Nat) (D : DF) (M : rM) (m : Nat), 700 < k + f → k ≤ 700 → 2 * l2 ≤ k → DFo D → CGd b n k (rul D.1) M → CDr D M → 2 * f < m → ∃ M' v, kb X (d + 53) 15 m 37 [some (rv 29), none, some (iv (l2 : Int))] [] M = oI v M' ∧ sf Pz M M' ∧ CEn b n (pSky (tks b n) f k D) v M'
  | 0, k, l2, D, M, m, h1, h2, h3, hD, hg, hd, hm => by omega
  | f + 1, k, l2, D, M, m, h1, h2, h3, hD, hg, hd, hm => by
    obtain ⟨m, rfl⟩ : ∃ m', m = m' + 3 := ⟨m - 3, by omega⟩
    unfold pSky
    by_cases h0 : tkK (tks b n) k = 0
    · rw [q_15_29_at37, if_pos (show (l2 : Int) < 700 by omega), if_pos hg.2.2.1, c_kd (d := d + 52) hg.1, cI_I, if_pos (show (tkK (tks b n) k : Int) = 0 by omega), if_pos h0]
      refine ⟨M, _, rfl, sf.rf, fun g p z => (by cases z), fun D' z => ?_⟩
      cases z
      exact ⟨hg.2.2.1, hd, hg.2.1, hg.2.2.2⟩
    · obtain ⟨M1, a1, a2, a3⟩ := c_body (X := X) (d := d) (m := m + 2) hT hV hg hd hD h0 (show l2 < 700 by omega)
      have hflt : ∀ (g p : Nat) (M2 : rM), CF b n g p M2 → kb X (d + 53) 15 (m + 1) 37 [some (rv 29), none, some (iv ((l2 + 1 : Nat) : Int))] [] M2 = oI (M2.2.1 29 2) M2 := fun g p M2 hc => by
        rw [q_15_29_at37, if_pos (show ((l2 + 1 : Nat) : Int) < 700 by omega), if_neg (CF_ne hc)]
      rw [a1, if_neg h0, q_15_29_at194]
      cases e : pBody (tks b n) (tkK (tks b n) k) k D with
      | inl x =>
        have hc := a3.1 x.1 x.2 e
        rw [c_23F (X := X) (d := d + 44) hc 59, cV_V, wr_succ (by omega), hflt x.1 x.2 M1 hc]
        exact ⟨M1, _, rfl, a2, CEn_F hc⟩
      | inr y =>
        obtain ⟨k1, D1⟩ := y
        obtain ⟨g1, g2⟩ := a3.2 k1 D1 e
        obtain ⟨o1, o2, o3⟩ := pBody_ok hT hV hD h0 e
        obtain ⟨M2, b1, b2, b3⟩ := c_23 (X := X) (d := d + 44) hT g1 (rul_len o1.2.1) 59
        replace b1 : fn X (d + 53) 23 [rv 29, iv 59] M1 = oV M2 := b1
        rw [b1, cV_V, wr_succ (by omega)]
        rw [show pEnd (tks b n) (.inr (k1, D1)) = (if tkK (tks b n) k1 = 59 then .inr (k1 + 1, D1) else .inl (1, k1)) from rfl]
        by_cases e5 : tkK (tks b n) k1 = 59
        · rw [if_pos e5] at b2 ⊢
          dsimp only
          have hk1 : k1 < 700 := hT k1 (by omega)
          obtain ⟨M3, v, c1, c2, c3⟩ := c_lines hT hV f (k1 + 1) (l2 + 1) D1 M2 (m + 1) (by omega) (by omega) (by omega) o1 b2 (CDr_9 g2 b3) (by omega)
          exact ⟨M3, v, c1, a2.tr ((b3.mo Pz_9).tr c2), c3⟩
        · rw [if_neg e5] at b2 ⊢
          rw [hflt 1 k1 M2 b2]
          dsimp only
          exact ⟨M2, _, rfl, a2.tr (b3.mo Pz_9), CEn_F b2⟩
/-- an empty sky -/
def D00 : DF := (((0, 0, 0, 0), (fun _ _ => 0), (fun _ _ => 0), (fun _ _ => 0), (fun _ => 0), 0, []), none)
theorem D00_ok : DFo D00 := ⟨⟨by decide, by decide, by decide, by decide, fun c hc => absurd hc (Nat.not_lt_zero _), fun c hc => absurd hc (Nat.not_lt_zero _), fun c hc => absurd hc (Nat.not_lt_zero _), fun c hc => absurd hc (Nat.not_lt_zero _), by decide⟩, Or.inl rfl, fun v z => (by cases z), Nat.zero_le _⟩
theorem c_text (hb : TB b n M) (h1 : M.2.1 17 2 = 6) (h2 : M.2.1 19 2 = 8) (h3 : M.2.1 21 2 = 6) (h4 : M.2.1 23 2 = 8) : ∃ M' v, fn X (d + 54) 15 [rv 29, iv (n : Int)] M = oI v M' ∧ sf Pz M M' ∧ CEn b n (pSky (tks b n) 701 0 D00) v M' := by
  have hT : Tok (tks b n) := tks_Tok hb.1
  have hV : TokV (tks b n) := tks_TokV
  have hn := hb.1
  obtain ⟨Ma, ea⟩ : ∃ Ma, puI (puI (puI (puI M 29 2 0) 29 3 (-1)) 29 4 0) 29 5 0 = Ma := ⟨_, rfl⟩
  have sa : sf Pz M Ma := by rw [← ea]; exact (((sf.rf.pu rfl _).pu rfl _).pu rfl _).pu rfl _
  obtain ⟨Mb, eb⟩ : ∃ Mb, puI (puI (puI (puI (puI (puI (puI Ma 17 3 0) 19 3 0) 21 3 0) 23 3 0) 25 3 0) 16 5 50) 16 6 0 = Mb := ⟨_, rfl⟩
  have sb : sf Pz Ma Mb := by rw [← eb]; exact ((((((sf.rf.pu rfl _).pu rfl _).pu rfl _).pu rfl _).pu rfl _).pu rfl _).pu rfl _
  obtain ⟨Mc, ec⟩ : ∃ Mc, puI (puI Mb 30 1 (n : Int)) 30 3 0 = Mc := ⟨_, rfl⟩
  have sc : sf Pz Mb Mc := by rw [← ec]; exact (sf.rf.pu rfl _).pu rfl _
  have s3 := sa.tr (sb.tr sc)
  obtain ⟨M1, a1, a2, a3⟩ := c_step (X := X) (d := d + 44) (b := b) (n := n) (M := Mc) (k := 0) (hb.sf s3 (fun _ => rfl)) (by rw [← ec, puI_nj (by omega), puI_eq]) (by rw [← ec, puI_eq]; rfl)
  have c29 : ∀ j, M1.2.1 29 j = Ma.2.1 29 j := fun j => by
    rw [(a3.2 29 j rfl).1, ← ec, puI_ne (by omega), puI_ne (by omega), ← eb, puI_ne (by omega), puI_ne (by omega), puI_ne (by omega), puI_ne (by omega), puI_ne (by omega), puI_ne (by omega), puI_ne (by omega)]
  have cT : ∀ k j, k ≠ 30 → M1.2.1 k j = Mb.2.1 k j := fun k j hk => by
    have : P30 k j = false := by
      unfold P30
      rw [beq_false_of_ne hk]
      rfl
    rw [(a3.2 k j this).1, ← ec, puI_ne hk, puI_ne hk]
  have tb : ∀ (T A w cap : Nat) (f : Nat → Nat → Nat), (T = 17 ∧ cap = 6) ∨ (T = 19 ∧ cap = 8) ∨ (T = 21 ∧ cap = 6) ∨ (T = 23 ∧ cap = 8) → Tb T A w cap 0 f M1 := by
    intro T A w cap f hT'
    refine ⟨?_, ?_, fun c j hc => absurd hc (Nat.not_lt_zero _)⟩
    · rw [cT T 3 (by omega), ← eb]
      rcases hT' with ⟨rfl, rfl⟩ | ⟨rfl, rfl⟩ | ⟨rfl, rfl⟩ | ⟨rfl, rfl⟩
      · rw [puI_ne (by omega), puI_ne (by omega), puI_ne (by omega), puI_ne (by omega), puI_ne (by omega), puI_ne (by omega), puI_eq] <;> rfl
      · rw [puI_ne (by omega), puI_ne (by omega), puI_ne (by omega), puI_ne (by omega), puI_ne (by omega), puI_eq] <;> rfl
      · rw [puI_ne (by omega), puI_ne (by omega), puI_ne (by omega), puI_ne (by omega), puI_eq] <;> rfl
      · rw [puI_ne (by omega), puI_ne (by omega), puI_ne (by omega), puI_eq] <;> rfl
    · rw [cT T 2 (by omega)]
      rcases hT' with ⟨rfl, rfl⟩ | ⟨rfl, rfl⟩ | ⟨rfl, rfl⟩ | ⟨rfl, rfl⟩
      · rw [((sa.tr sb).2 17 2 rfl).1]; exact h1
      · rw [((sa.tr sb).2 19 2 rfl).1]; exact h2
      · rw [((sa.tr sb).2 21 2 rfl).1]; exact h3
      · rw [((sa.tr sb).2 23 2 rfl).1]; exact h4
  have hd : CDr D00 M1 := by
    refine ⟨tb 17 18 5 6 _ (by omega), tb 19 20 6 8 _ (by omega), tb 21 22 2 6 _ (by omega), tb 23 24 1 8 _ (by omega), ?_, ?_, ?_, ?_⟩
    · rw [cT 16 5 (by omega), ← eb, puI_nj (by omega), puI_eq] <;> rfl
    · rw [cT 16 6 (by omega), ← eb, puI_eq] <;> rfl
    · rw [c29 4, ← ea, puI_nj (by omega), puI_eq] <;> rfl
    · rw [c29 5, ← ea, puI_eq] <;> rfl
  have hg : CGd b n 0 (rul D00.1) M1 := by
    refine ⟨a2, ⟨?_, fun i hi => (by cases hi)⟩, ?_, ?_⟩
    · rw [cT 25 3 (by omega), ← eb, puI_ne (by omega), puI_ne (by omega), puI_eq] <;> rfl
    · rw [c29 2, ← ea, puI_nj (by omega), puI_nj (by omega), puI_nj (by omega), puI_eq]
    · rw [c29 3, ← ea, puI_nj (by omega), puI_nj (by omega), puI_eq]
  have hF := FU_lt (k := 2000) (by omega)
  obtain ⟨M2, v, b1, b2, b3⟩ := c_lines (X := X) (d := d) hT hV 701 0 0 D00 M1 FU (by omega) (by omega) (by omega) D00_ok hg hd (by omega)
  replace b1 : kb X (d + 53) 15 FU 37 [some (rv 29), none, some (iv 0)] [] M1 = oI v M2 := b1
  refine ⟨M2, v, ?_, s3.tr ((a3.mo (Pz_of (fun k j e => ?_))).tr b2), b3⟩
  · rw [q_15_29, ea, q_64_16, q_119_17 (d := d + 51), cV_V, q_119_19 (d := d + 51), cV_V, q_119_21 (d := d + 51), cV_V, q_119_23 (d := d + 51), cV_V, q_44_25 (d := d + 51), cV_V, cV_V, eb, q_124_30, show max 0 (min (n : Int) 700) = (n : Int) by omega, ec, a1, cV_V, cV_V, b1]
  · unfold P30 at e
    rw [Bool.and_eq_true, beq_iff_eq] at e
    omega
end C89c

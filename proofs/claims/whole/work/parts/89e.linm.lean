/-! ===== the model reads a text ===== -/
section C89e
variable {X : Nat × (Nat → Int32)} {d : Nat} {b : Nat → Nat} {n : Nat} {M M' : rM} {D : DF} {k : Nat}
def crd (r : List Int) : List Int := if r = [] then [] else encs r ++ [0]
/-- the model's draft -/
def MD (D : DF) (M : rM) : Prop := (M.2.1 59 33 = (nC D.1 : Int) ∧ ∀ c, c < nC D.1 → M.2.1 75 c = (cre D.1 c 0 : Int) ∧ M.2.1 87 (3 + c) = (cre D.1 c 1 : Int) ∧ M.2.1 87 (9 + c) = (cre D.1 c 2 : Int) ∧ M.2.1 76 c = (cre D.1 c 3 : Int) ∧ M.2.1 77 c = (cre D.1 c 4 : Int) ∧ M.2.1 87 (15 + c) = 0 ∧ M.2.1 87 (21 + c) = 0) ∧
  (M.2.1 59 34 = (nT D.1 : Int) ∧ ∀ c, c < nT D.1 → M.2.1 78 c = (tri D.1 c 0 : Int) ∧ M.2.1 79 c = (tri D.1 c 1 : Int) ∧ M.2.1 80 c = (tri D.1 c 2 : Int) ∧ M.2.1 81 c = (tri D.1 c 3 : Int) ∧ M.2.1 82 c = (tri D.1 c 4 : Int) ∧ M.2.1 83 c = (tri D.1 c 5 : Int)) ∧
  (M.2.1 59 35 = (nH D.1 : Int) ∧ ∀ c, c < nH D.1 → M.2.1 84 c = (hun D.1 c 0 : Int) ∧ M.2.1 85 c = (hun D.1 c 1 : Int)) ∧
  (M.2.1 59 36 = (nL D.1 : Int) ∧ ∀ c, c < nL D.1 → M.2.1 86 c = (tal D.1 c : Int)) ∧
  (M.2.1 59 37 = (match D.2 with
    | none => -1
    | some v => (v : Int)) ∧ M.2.1 59 38 = (if riv D.1 = 0 then -1 else (riv D.1 : Int)) ∧ M.2.1 59 39 = (if rul D.1 = [] then -1 else 0) ∧ OU (crd (rul D.1)) M ∧ M.2.1 87 1 = 0 ∧ M.2.1 87 2 = -1)
theorem MDa {Q : Nat → Nat → Bool} (h : MD D M) (g : sf Q M M') (hc : Q 59 33 = false) (hq : ∀ c, c < nC D.1 → Q 75 c = false ∧ Q 76 c = false ∧ Q 77 c = false ∧ Q 87 (3 + c) = false ∧ Q 87 (9 + c) = false ∧ Q 87 (15 + c) = false ∧ Q 87 (21 + c) = false) : M'.2.1 59 33 = (nC D.1 : Int) ∧ ∀ c, c < nC D.1 → M'.2.1 75 c = (cre D.1 c 0 : Int) ∧ M'.2.1 87 (3 + c) = (cre D.1 c 1 : Int) ∧ M'.2.1 87 (9 + c) = (cre D.1 c 2 : Int) ∧ M'.2.1 76 c = (cre D.1 c 3 : Int) ∧ M'.2.1 77 c = (cre D.1 c 4 : Int) ∧ M'.2.1 87 (15 + c) = 0 ∧ M'.2.1 87 (21 + c) = 0 := by
  refine ⟨by rw [(g.2 59 33 hc).1]; exact h.1.1, fun c z => ?_⟩
  obtain ⟨q1, q2, q3, q4, q5, q6, q7⟩ := hq c z
  rw [(g.2 75 c q1).1, (g.2 76 c q2).1, (g.2 77 c q3).1, (g.2 87 _ q4).1, (g.2 87 _ q5).1, (g.2 87 _ q6).1, (g.2 87 _ q7).1]
  exact h.1.2 c z
theorem MDb {Q : Nat → Nat → Bool} (h : MD D M) (g : sf Q M M') (hc : Q 59 34 = false) (hq : ∀ c, c < nT D.1 → Q 78 c = false ∧ Q 79 c = false ∧ Q 80 c = false ∧ Q 81 c = false ∧ Q 82 c = false ∧ Q 83 c = false) : M'.2.1 59 34 = (nT D.1 : Int) ∧ ∀ c, c < nT D.1 → M'.2.1 78 c = (tri D.1 c 0 : Int) ∧ M'.2.1 79 c = (tri D.1 c 1 : Int) ∧ M'.2.1 80 c = (tri D.1 c 2 : Int) ∧ M'.2.1 81 c = (tri D.1 c 3 : Int) ∧ M'.2.1 82 c = (tri D.1 c 4 : Int) ∧ M'.2.1 83 c = (tri D.1 c 5 : Int) := by
  refine ⟨by rw [(g.2 59 34 hc).1]; exact h.2.1.1, fun c z => ?_⟩
  obtain ⟨q1, q2, q3, q4, q5, q6⟩ := hq c z
  rw [(g.2 78 c q1).1, (g.2 79 c q2).1, (g.2 80 c q3).1, (g.2 81 c q4).1, (g.2 82 c q5).1, (g.2 83 c q6).1]
  exact h.2.1.2 c z
theorem MDc {Q : Nat → Nat → Bool} (h : MD D M) (g : sf Q M M') (hc : Q 59 35 = false) (hq : ∀ c, c < nH D.1 → Q 84 c = false ∧ Q 85 c = false) : M'.2.1 59 35 = (nH D.1 : Int) ∧ ∀ c, c < nH D.1 → M'.2.1 84 c = (hun D.1 c 0 : Int) ∧ M'.2.1 85 c = (hun D.1 c 1 : Int) := by
  refine ⟨by rw [(g.2 59 35 hc).1]; exact h.2.2.1.1, fun c z => ?_⟩
  obtain ⟨q1, q2⟩ := hq c z
  rw [(g.2 84 c q1).1, (g.2 85 c q2).1]
  exact h.2.2.1.2 c z
theorem MDd {Q : Nat → Nat → Bool} (h : MD D M) (g : sf Q M M') (hc : Q 59 36 = false) (hq : ∀ c, c < nL D.1 → Q 86 c = false) : M'.2.1 59 36 = (nL D.1 : Int) ∧ ∀ c, c < nL D.1 → M'.2.1 86 c = (tal D.1 c : Int) := by
  refine ⟨by rw [(g.2 59 36 hc).1]; exact h.2.2.2.1.1, fun c z => ?_⟩
  rw [(g.2 86 c (hq c z)).1]
  exact h.2.2.2.1.2 c z
theorem MDe {Q : Nat → Nat → Bool} (h : MD D M) (g : sf Q M M') (h1 : Q 59 37 = false) (h2 : Q 59 38 = false) (h3 : Q 59 39 = false) (h4 : Q 59 40 = false) (h5 : ∀ j, Q 88 j = false) (h6 : Q 87 1 = false) (h7 : Q 87 2 = false) : M'.2.1 59 37 = (match D.2 with
    | none => -1
    | some v => (v : Int)) ∧ M'.2.1 59 38 = (if riv D.1 = 0 then -1 else (riv D.1 : Int)) ∧ M'.2.1 59 39 = (if rul D.1 = [] then -1 else 0) ∧ OU (crd (rul D.1)) M' ∧ M'.2.1 87 1 = 0 ∧ M'.2.1 87 2 = -1 := by
  obtain ⟨a1, a2, a3, a4, a5, a6⟩ := h.2.2.2.2
  exact ⟨by rw [(g.2 59 37 h1).1]; exact a1, by rw [(g.2 59 38 h2).1]; exact a2, by rw [(g.2 59 39 h3).1]; exact a3, OU_sf a4 g h4 h5, by rw [(g.2 87 1 h6).1]; exact a5, by rw [(g.2 87 2 h7).1]; exact a6⟩
theorem MD_6 (h : MD D M) (g : sf P6 M M') : MD D M' := ⟨MDa h g rfl (fun c _ => ⟨rfl, rfl, rfl, rfl, rfl, rfl, rfl⟩), MDb h g rfl (fun c _ => ⟨rfl, rfl, rfl, rfl, rfl, rfl⟩), MDc h g rfl (fun c _ => ⟨rfl, rfl⟩), MDd h g rfl (fun c _ => rfl), MDe h g rfl rfl rfl rfl (fun _ => rfl) rfl rfl⟩
/-- cells that the reading may change -/
def Pm (k j : Nat) : Bool := decide ((75 ≤ k ∧ k ≤ 90) ∨ (k = 59 ∧ (j = 22 ∨ j = 23 ∨ (26 ≤ j ∧ j ≤ 42))))
theorem Pm_6 : ∀ k j, Pm k j = false → P6 k j = false := fun k j z => fal_of (by omega) z
theorem Pm_q {c lo hi R : Nat} (hc : 33 ≤ c ∧ c ≤ 39) (h : 75 ≤ lo ∧ hi ≤ 87) : ∀ k j, Pm k j = false → Pq c lo hi R k j = false := fun k j z => fal_of (by omega) z
theorem Pm_q1 {R : Nat} : ∀ k j, Pm k j = false → Pq1 R k j = false := fun k j z => fal_of (by omega) z
theorem Pm_x : ∀ k j, Pm k j = false → Px k j = false := fun k j z => by
  cases e : Px k j with
  | false => rfl
  | true =>
    unfold Px at e
    simp only [Bool.or_eq_true, Bool.and_eq_true, beq_iff_eq, decide_eq_true_eq] at e
    exact absurd (show (75 ≤ k ∧ k ≤ 90) ∨ (k = 59 ∧ (j = 22 ∨ j = 23 ∨ (26 ≤ j ∧ j ≤ 42))) by omega) (decide_eq_false_iff_not.1 z)
def Pxb (k j : Nat) : Bool := Px k j || (k == 59 && j == 39)
theorem Pxb_x : ∀ k j, Pxb k j = false → Px k j = false := fun k j z => by
  unfold Pxb at z
  rw [Bool.or_eq_false_iff] at z
  exact z.1
theorem Pm_xb : ∀ k j, Pm k j = false → Pxb k j = false := fun k j z => by
  cases e : Pxb k j with
  | false => rfl
  | true =>
    unfold Pxb Px at e
    simp only [Bool.or_eq_true, Bool.and_eq_true, beq_iff_eq, decide_eq_true_eq] at e
    exact absurd (show (75 ≤ k ∧ k ≤ 90) ∨ (k = 59 ∧ (j = 22 ∨ j = 23 ∨ (26 ≤ j ∧ j ≤ 42))) by omega) (decide_eq_false_iff_not.1 z)
def Mo (b : Nat → Nat) (n : Nat) (y : LZ2) (M : rM) : Prop := (∀ f p, y = .inl (f, p) → MF b n f p M) ∧ ∀ k D, y = .inr (k, D) → MG b n k M ∧ MD D M
theorem Mo_l {f p : Nat} (h : MF b n f p M) : Mo b n (.inl (f, p)) M := ⟨fun f' k' z => by cases z; exact h, fun k' r' z => (by cases z)⟩
theorem Mo_row {y : (Nat × Nat) ⊕ (Nat × List Nat)} {f : List Nat → DF} (h1 : ∀ g p, y = .inl (g, p) → MF b n g p M) (h2 : ∀ k l, y = .inr (k, l) → MG b n k M ∧ MD (f l) M) : Mo b n (lz1 f y) M := by
  cases y with
  | inl x => exact Mo_l (h1 x.1 x.2 rfl)
  | inr z =>
    obtain ⟨k, l⟩ := z
    refine ⟨fun f' k' z => (by cases z), fun k' r' z => ?_⟩
    cases z
    exact h2 k l rfl
theorem knw_l (q : Nat) : (knw q = 6 ↔ q = 101) ∧ (knw q = 7 ↔ q = 102) ∧ (knw q = 8 ↔ q = 103) ∧ (knw q = 9 ↔ q = 104) ∧ (knw q = 10 ↔ q = 105) ∧ (knw q = 11 ↔ q = 106) ∧ (knw q = 12 ↔ q = 107) := by
  by_cases h1 : 101 ≤ q ∧ q ≤ 116
  · obtain rfl | rfl | rfl | rfl | rfl | rfl | rfl | rfl | rfl | rfl | rfl | rfl | rfl | rfl | rfl | rfl : q = 101 ∨ q = 102 ∨ q = 103 ∨ q = 104 ∨ q = 105 ∨ q = 106 ∨ q = 107 ∨ q = 108 ∨ q = 109 ∨ q = 110 ∨ q = 111 ∨ q = 112 ∨ q = 113 ∨ q = 114 ∨ q = 115 ∨ q = 116 := by omega
    all_goals decide
  · unfold knw
    rw [if_neg h1]
    omega
theorem m_beg (h : MG b n k M) : ∃ M', fn X (d + 3) 239 [rv 59, iv 0, iv 0] M = oI 1 M' ∧ MG b n (k + 1) M' ∧ sf P6 M M' := by
  obtain ⟨M1, a1, a2, a3⟩ := MG_go (X := X) (d := d) h
  rw [q_239_59, if_pos rfl, if_pos rfl, m_good (X := X) (d := d + 1) h.2.1, cI_I, if_neg (by decide), a1, cV_V]
  exact ⟨M1, rfl, a2, a3⟩
theorem m_beg2 (h : MG b n k M) : ∃ M', fn X (d + 3) 239 [rv 59, iv 1, iv 0] M = oI 0 M' ∧ MF b n 2 k M' ∧ sf P6 M M' := by
  obtain ⟨M1, a1, a2, a3⟩ := MG_wrong (X := X) (d := d + 1) h 2 2 rfl (by decide)
  rw [q_239_59, if_neg (by decide), a1, cV_V, if_pos rfl, m_bad (X := X) (d := d + 1) (MF_ne a2), cI_I, if_pos rfl]
  exact ⟨M1, rfl, a2, a3⟩
theorem m_beg5 (h : MG b n k M) : ∃ M', fn X (d + 3) 239 [rv 59, iv 0, iv 1] M = oI 0 M' ∧ MF b n 5 k M' ∧ sf P6 M M' := by
  obtain ⟨M1, a1, a2, a3⟩ := MG_wrong (X := X) (d := d + 1) h 5 5 rfl (by decide)
  rw [q_239_59, if_pos rfl, if_neg (by decide), a1, cV_V, m_bad (X := X) (d := d + 1) (MF_ne a2), cI_I, if_pos rfl]
  exact ⟨M1, rfl, a2, a3⟩
/-- a line's end -/
theorem m_end {m : Nat} {y : LZ2} (h : Mo b n y M) : ∃ M', kb X (d + 3) 243 (m + 1) 305 [some (rv 59), none] [] M = oV M' ∧ sf P6 M M' ∧ Mo b n (pEnd (tks b n) y) M' := by
  rw [q_243_59_at305]
  cases y with
  | inl x =>
    have hf := h.1 x.1 x.2 rfl
    have e : ∃ v, fn X (d + 3) 225 [rv 59, iv 59] M = oI v M := by
      rw [q_225_59]
      by_cases c : M.2.1 59 27 = 3
      · rw [if_pos c]
        by_cases c2 : M.2.1 59 31 = 59
        · rw [if_pos c2]; exact ⟨_, rfl⟩
        · rw [if_neg c2]; exact ⟨_, rfl⟩
      · rw [if_neg c]; exact ⟨_, rfl⟩
    obtain ⟨v, e⟩ := e
    rw [e, cI_I, q_226_59, m_bad (X := X) (d := d + 1) (MF_ne hf), cI_I, if_pos rfl, cV_V]
    exact ⟨M, rfl, sf.rf, Mo_l hf⟩
  | inr y =>
    obtain ⟨k, D⟩ := y
    obtain ⟨hg, hd⟩ := h.2 k D rfl
    rw [show pEnd (tks b n) (.inr (k, D)) = (if tkK (tks b n) k = 59 then .inr (k + 1, D) else .inl (1, k)) from rfl]
    by_cases c : tkK (tks b n) k = 59
    · obtain ⟨M1, a1, a2, a3⟩ := MG_go (X := X) (d := d) hg
      rw [if_pos c, m_sigT (X := X) (d := d + 2) (c := 59) hg.1 59 rfl (by omega) (by omega) c, cI_I, q_226_59, m_good (X := X) (d := d + 1) hg.2.1, cI_I, if_neg (by decide), if_neg (by decide), a1, cV_V, cV_V]
      refine ⟨M1, rfl, a3, fun f' k' z => (by cases z), fun k' r' z => ?_⟩
      cases z
      exact ⟨a2, MD_6 hd a3⟩
    · obtain ⟨M1, a1, a2, a3⟩ := MG_wrong (X := X) (d := d + 1) hg 1 1 rfl (by decide)
      rw [if_neg c, m_sigF (X := X) (d := d + 2) (c := 59) hg.1 59 rfl c, cI_I, q_226_59, m_good (X := X) (d := d + 1) hg.2.1, cI_I, if_neg (by decide), if_pos rfl, a1, cV_V, cV_V]
      exact ⟨M1, rfl, a3, Mo_l a2⟩
/-- from a line's body to its end -/
theorem m_fin {y : LZ2} {M1 : rM} (s : sf Pm M M1) (h : Mo b n y M1) : ∃ M', kb X (d + 6) 243 FU 305 [some (rv 59), none] [] M1 = oV M' ∧ sf Pm M M' ∧ Mo b n (pEnd (tks b n) y) M' := by
  obtain ⟨m', hm⟩ : ∃ m', FU = m' + 1 := ⟨FU - 1, by have := FU_lt (k := 10) (by omega); omega⟩
  rw [hm]
  obtain ⟨M2, a1, a2, a3⟩ := m_end (X := X) (d := d + 3) (m := m') h
  exact ⟨M2, a1, s.tr (a2.mo Pm_6), a3⟩
theorem m_line (hT : Tok (tks b n)) (hV : TokV (tks b n)) (hg : MG b n k M) (hd : MD D M) (hD : DFo D) (h0 : tkK (tks b n) k ≠ 0) : ∃ M', fn X (d + 7) 243 [rv 59] M = oV M' ∧ sf Pm M M' ∧ Mo b n (pEnd (tks b n) (pBody (tks b n) (tkK (tks b n) k) k D)) M' := by
  have hk7 : k < 700 := hT k h0
  have hkn := knw_l (tkK (tks b n) k)
  rw [q_243_59, m_known (X := X) (d := d + 3) hg.1, cI_I]
  obtain ⟨Mb, b1, b2, b3⟩ := m_beg (X := X) (d := d + 3) hg
  have hdb := MD_6 hd b3
  have sb : sf Pm M Mb := b3.mo Pm_6
  by_cases q1 : tkK (tks b n) k = 101
  · have e : pBody (tks b n) (tkK (tks b n) k) k D = (if nC D.1 = 6 then .inl (2, k) else lz1 (aC D) (pNums (tks b n) [60, 63, 9, 99, 9] (k + 1))) := by unfold pBody; rw [if_pos q1]
    rw [e, if_pos (hkn.1.2 q1), hd.1.1]
    by_cases c : nC D.1 = 6
    · obtain ⟨M1, a1, a2, a3⟩ := m_beg2 (X := X) (d := d + 3) hg
      rw [if_pos (show (nC D.1 : Int) = 6 by omega), if_pos c, a1, cI_I, if_pos rfl]
      exact m_fin (a3.mo Pm_6) (Mo_l a2)
    · have hle := hD.1.1
      obtain ⟨M1, a1, a2, a3, a4⟩ := m_240 (X := X) (d := d + 2) b2 hdb.1.1 (show nC D.1 < 6 by omega)
      rw [if_neg (show ¬ (nC D.1 : Int) = 6 by omega), if_neg c, b1, cI_I, if_neg (by decide), a1, cV_V]
      refine m_fin (sb.tr (a2.mo Pm_q1)) (Mo_row a3 (fun k' l z => ?_))
      obtain ⟨g0, g1, g2, g3, g4, g5, g6, g7, g8⟩ := a4 k' l z
      refine ⟨g0, ⟨g1, fun c' hc' => ?_⟩, MDb (D := D) hdb a2 rfl (fun c _ => ⟨rfl, rfl, rfl, rfl, rfl, rfl⟩), MDc (D := D) hdb a2 rfl (fun c _ => ⟨rfl, rfl⟩), MDd (D := D) hdb a2 rfl (fun c _ => rfl), MDe (D := D) hdb a2 rfl rfl rfl rfl (fun _ => rfl) (decide_eq_false (by omega)) (decide_eq_false (by omega))⟩
      replace hc' : c' < nC D.1 + 1 := hc'
      show M1.2.1 75 c' = ((if c' = nC D.1 then l.getD 0 0 else cre D.1 c' 0 : Nat) : Int) ∧ M1.2.1 87 (3 + c') = ((if c' = nC D.1 then l.getD 1 0 else cre D.1 c' 1 : Nat) : Int) ∧ M1.2.1 87 (9 + c') = ((if c' = nC D.1 then l.getD 2 0 else cre D.1 c' 2 : Nat) : Int) ∧ M1.2.1 76 c' = ((if c' = nC D.1 then l.getD 3 0 else cre D.1 c' 3 : Nat) : Int) ∧ M1.2.1 77 c' = ((if c' = nC D.1 then l.getD 4 0 else cre D.1 c' 4 : Nat) : Int) ∧ M1.2.1 87 (15 + c') = 0 ∧ M1.2.1 87 (21 + c') = 0
      by_cases ec : c' = nC D.1
      · rw [if_pos ec, if_pos ec, if_pos ec, if_pos ec, if_pos ec, ec]
        exact ⟨g2, g3, g4, g5, g6, g7, g8⟩
      · rw [if_neg ec, if_neg ec, if_neg ec, if_neg ec, if_neg ec]
        have hb := hdb.1.2 c' (by omega)
        rw [(a2.2 75 c' (decide_eq_false (by omega))).1, (a2.2 76 c' (decide_eq_false (by omega))).1, (a2.2 77 c' (decide_eq_false (by omega))).1, (a2.2 87 (3 + c') (decide_eq_false (by omega))).1, (a2.2 87 (9 + c') (decide_eq_false (by omega))).1, (a2.2 87 (15 + c') (decide_eq_false (by omega))).1, (a2.2 87 (21 + c') (decide_eq_false (by omega))).1]
        exact hb
  rw [if_neg (fun z => q1 (hkn.1.1 z))]
  by_cases q2 : tkK (tks b n) k = 102
  · have e : pBody (tks b n) (tkK (tks b n) k) k D = (if nT D.1 = 8 then .inl (2, k) else lz1 (aQ D) (pNums (tks b n) [63, 63, 63, 63, 20, 20] (k + 1))) := by unfold pBody; rw [if_neg q1, if_pos q2]
    rw [e, if_pos (hkn.2.1.2 q2), hd.2.1.1]
    by_cases c : nT D.1 = 8
    · obtain ⟨M1, a1, a2, a3⟩ := m_beg2 (X := X) (d := d + 3) hg
      rw [if_pos (show (nT D.1 : Int) = 8 by omega), if_pos c, a1, cI_I, if_pos rfl]
      exact m_fin (a3.mo Pm_6) (Mo_l a2)
    · have hle := hD.1.2.1
      obtain ⟨M1, a1, a2, a3, a4⟩ := m_241 (X := X) (d := d + 2) b2 hdb.2.1.1 (show nT D.1 < 8 by omega)
      rw [if_neg (show ¬ (nT D.1 : Int) = 8 by omega), if_neg c, b1, cI_I, if_neg (by decide), a1, cV_V]
      refine m_fin (sb.tr (a2.mo (Pm_q (by omega) (by omega)))) (Mo_row a3 (fun k' l z => ?_))
      obtain ⟨g0, g1, g2, g3, g4, g5, g6, g7⟩ := a4 k' l z
      refine ⟨g0, MDa (D := D) hdb a2 rfl (fun c _ => ⟨rfl, rfl, rfl, rfl, rfl, rfl, rfl⟩), ⟨g1, fun c' hc' => ?_⟩, MDc (D := D) hdb a2 rfl (fun c _ => ⟨rfl, rfl⟩), MDd (D := D) hdb a2 rfl (fun c _ => rfl), MDe (D := D) hdb a2 rfl rfl rfl rfl (fun _ => rfl) rfl rfl⟩
      replace hc' : c' < nT D.1 + 1 := hc'
      show M1.2.1 78 c' = ((if c' = nT D.1 then l.getD 0 0 else tri D.1 c' 0 : Nat) : Int) ∧ M1.2.1 79 c' = ((if c' = nT D.1 then l.getD 1 0 else tri D.1 c' 1 : Nat) : Int) ∧ M1.2.1 80 c' = ((if c' = nT D.1 then l.getD 2 0 else tri D.1 c' 2 : Nat) : Int) ∧ M1.2.1 81 c' = ((if c' = nT D.1 then l.getD 3 0 else tri D.1 c' 3 : Nat) : Int) ∧ M1.2.1 82 c' = ((if c' = nT D.1 then l.getD 4 0 else tri D.1 c' 4 : Nat) : Int) ∧ M1.2.1 83 c' = ((if c' = nT D.1 then l.getD 5 0 else tri D.1 c' 5 : Nat) : Int)
      by_cases ec : c' = nT D.1
      · rw [if_pos ec, if_pos ec, if_pos ec, if_pos ec, if_pos ec, if_pos ec, ec]
        exact ⟨g2, g3, g4, g5, g6, g7⟩
      · rw [if_neg ec, if_neg ec, if_neg ec, if_neg ec, if_neg ec, if_neg ec]
        have hb := hdb.2.1.2 c' (by omega)
        rw [(a2.2 78 c' (decide_eq_false (by omega))).1, (a2.2 79 c' (decide_eq_false (by omega))).1, (a2.2 80 c' (decide_eq_false (by omega))).1, (a2.2 81 c' (decide_eq_false (by omega))).1, (a2.2 82 c' (decide_eq_false (by omega))).1, (a2.2 83 c' (decide_eq_false (by omega))).1]
        exact hb
  rw [if_neg (fun z => q2 (hkn.2.1.1 z))]
  by_cases q3 : tkK (tks b n) k = 103
  · have e : pBody (tks b n) (tkK (tks b n) k) k D = (if nH D.1 = 6 then .inl (2, k) else lz1 (aH D) (pNums (tks b n) [60, 999] (k + 1))) := by unfold pBody; rw [if_neg q1, if_neg q2, if_pos q3]
    rw [e, if_pos (hkn.2.2.1.2 q3), hd.2.2.1.1]
    by_cases c : nH D.1 = 6
    · obtain ⟨M1, a1, a2, a3⟩ := m_beg2 (X := X) (d := d + 3) hg
      rw [if_pos (show (nH D.1 : Int) = 6 by omega), if_pos c, a1, cI_I, if_pos rfl]
      exact m_fin (a3.mo Pm_6) (Mo_l a2)
    · have hle := hD.1.2.2.1
      obtain ⟨M1, a1, a2, a3, a4⟩ := m_242 (X := X) (d := d + 2) b2 hdb.2.2.1.1 (show nH D.1 < 6 by omega)
      rw [if_neg (show ¬ (nH D.1 : Int) = 6 by omega), if_neg c, b1, cI_I, if_neg (by decide), a1, cV_V]
      refine m_fin (sb.tr (a2.mo (Pm_q (by omega) (by omega)))) (Mo_row a3 (fun k' l z => ?_))
      obtain ⟨g0, g1, g2, g3⟩ := a4 k' l z
      refine ⟨g0, MDa (D := D) hdb a2 rfl (fun c _ => ⟨rfl, rfl, rfl, rfl, rfl, rfl, rfl⟩), MDb (D := D) hdb a2 rfl (fun c _ => ⟨rfl, rfl, rfl, rfl, rfl, rfl⟩), ⟨g1, fun c' hc' => ?_⟩, MDd (D := D) hdb a2 rfl (fun c _ => rfl), MDe (D := D) hdb a2 rfl rfl rfl rfl (fun _ => rfl) rfl rfl⟩
      replace hc' : c' < nH D.1 + 1 := hc'
      show M1.2.1 84 c' = ((if c' = nH D.1 then l.getD 0 0 else hun D.1 c' 0 : Nat) : Int) ∧ M1.2.1 85 c' = ((if c' = nH D.1 then l.getD 1 0 else hun D.1 c' 1 : Nat) : Int)
      by_cases ec : c' = nH D.1
      · rw [if_pos ec, if_pos ec, ec]
        exact ⟨g2, g3⟩
      · rw [if_neg ec, if_neg ec]
        have hb := hdb.2.2.1.2 c' (by omega)
        rw [(a2.2 84 c' (decide_eq_false (by omega))).1, (a2.2 85 c' (decide_eq_false (by omega))).1]
        exact hb
  rw [if_neg (fun z => q3 (hkn.2.2.1.1 z))]
  by_cases q4 : tkK (tks b n) k = 104
  · have e : pBody (tks b n) (tkK (tks b n) k) k D = (if nL D.1 = 8 then .inl (2, k) else lz1 (aL D) (pNums (tks b n) [1023] (k + 1))) := by unfold pBody; rw [if_neg q1, if_neg q2, if_neg q3, if_pos q4]
    obtain ⟨m', hm⟩ : ∃ m', FU = m' + 2 := ⟨FU - 2, by have := FU_lt (k := 10) (by omega); omega⟩
    rw [e, if_pos (hkn.2.2.2.1.2 q4), hd.2.2.2.1.1, hm]
    by_cases c : nL D.1 = 8
    · obtain ⟨M1, a1, a2, a3⟩ := m_beg2 (X := X) (d := d + 3) hg
      rw [if_pos (show (nL D.1 : Int) = 8 by omega), if_pos c, q_243_59_at131, a1, cI_I, if_pos rfl]
      obtain ⟨M2, c1, c2, c3⟩ := m_end (X := X) (d := d + 3) (m := m') (Mo_l a2)
      exact ⟨M2, c1, (a3.mo Pm_6).tr (c2.mo Pm_6), c3⟩
    · have hle := hD.1.2.2.2.1
      obtain ⟨M1, a1, a2, a3, a4⟩ := m_tale (X := X) (d := d + 3) b2 hdb.2.2.2.1.1 (show nL D.1 < 8 by omega) (fun M => kb X (d + 6) 243 (m' + 1) 305 [some (rv 59), none] [] M)
      rw [if_neg (show ¬ (nL D.1 : Int) = 8 by omega), if_neg c, q_243_59_at131, b1, cI_I, if_neg (by decide), a1]
      obtain ⟨M2, c1, c2, c3⟩ := m_end (X := X) (d := d + 3) (m := m') (y := lz1 (aL D) (pNums (tks b n) [1023] (k + 1))) (M := M1) (Mo_row a3 (fun k' l z => by
        obtain ⟨g0, g1, g2⟩ := a4 k' l z
        refine ⟨g0, MDa (D := D) hdb a2 rfl (fun c _ => ⟨rfl, rfl, rfl, rfl, rfl, rfl, rfl⟩), MDb (D := D) hdb a2 rfl (fun c _ => ⟨rfl, rfl, rfl, rfl, rfl, rfl⟩), MDc (D := D) hdb a2 rfl (fun c _ => ⟨rfl, rfl⟩), ⟨g1, fun c' hc' => ?_⟩, MDe (D := D) hdb a2 rfl rfl rfl rfl (fun _ => rfl) rfl rfl⟩
        replace hc' : c' < nL D.1 + 1 := hc'
        show M1.2.1 86 c' = ((if c' = nL D.1 then l.getD 0 0 else tal D.1 c' : Nat) : Int)
        by_cases ec : c' = nL D.1
        · rw [if_pos ec, ec]
          exact g2
        · rw [if_neg ec, (a2.2 86 c' (decide_eq_false (by omega))).1]
          exact hdb.2.2.2.1.2 c' (by omega)))
      exact ⟨M2, c1, (sb.tr (a2.mo (Pm_q (by omega) (by omega)))).tr (c2.mo Pm_6), c3⟩
  rw [if_neg (fun z => q4 (hkn.2.2.2.1.1 z))]
  by_cases q5 : tkK (tks b n) k = 105
  · have e : pBody (tks b n) (tkK (tks b n) k) k D = (if D.2.isSome = true then .inl (5, k) else lz2 (k + 2) (aN D) (pNum (tks b n) 0 999 (k + 1))) := by unfold pBody; rw [if_neg q1, if_neg q2, if_neg q3, if_neg q4, if_pos q5]
    rw [e, if_pos (hkn.2.2.2.2.1.2 q5), hd.2.2.2.2.1]
    obtain ⟨S, o⟩ := D
    cases o with
    | some w =>
      obtain ⟨M1, a1, a2, a3⟩ := m_beg5 (X := X) (d := d + 3) hg
      dsimp only
      rw [if_neg (show ¬ (w : Int) = -1 by omega), if_pos (show (some w).isSome = true from rfl), a1, cI_I, if_pos rfl]
      exact m_fin (a3.mo Pm_6) (Mo_l a2)
    | none =>
      obtain ⟨M1, v, a1, a2, a3, a4⟩ := m_num (X := X) (d := d + 3) 0 999 (Mz_r b2)
      dsimp only
      rw [if_pos rfl, if_neg (show ¬ (none : Option Nat).isSome = true by decide), b1, cI_I, if_neg (by decide), a1, cI_I]
      have s1 : sf (Pc 59 37) M1 (puI M1 59 37 v) := sf.rf.pu rfl _
      have s2 : sf (Pq 37 76 75 0) Mb (puI M1 59 37 v) := (a2.mo Pq_6).pu rfl _
      refine m_fin (sb.tr (s2.mo (Pm_q (by omega) (by omega)))) ?_
      cases en : pNum (tks b n) 0 999 (k + 1) with
      | inl x =>
        have ex : nx (tks b n) 0 999 (.inr (k + 1)) = .inl x := by
          unfold nx
          dsimp only
          rw [en]
        exact Mo_l (MF_sf (a3.1 x.1 x.2 ex) s1 rfl rfl)
      | inr w =>
        have ex : nx (tks b n) 0 999 (.inr (k + 1)) = .inr (k + 1 + 1) := by
          unfold nx
          dsimp only
          rw [en]
        refine ⟨fun f' k' z => (by cases z), fun k' D' z => ?_⟩
        cases z
        have hw : v = (w : Int) := by
          have h9 := a4 _ ex
          rw [show k + 1 + 1 - 1 = k + 1 by omega] at h9
          rw [h9, ← (pNum_ok en).2.1]
        have he := MDe (D := (S, none)) hdb a2 rfl rfl rfl rfl (fun _ => rfl) rfl rfl
        refine ⟨MG_sf (a3.2 _ ex) s1 (fun _ => rfl) (r8 (by decide)) rfl rfl, MDa (D := (S, none)) hdb s2 rfl (fun c _ => ⟨rfl, rfl, rfl, rfl, rfl, rfl, rfl⟩), MDb (D := (S, none)) hdb s2 rfl (fun c _ => ⟨rfl, rfl, rfl, rfl, rfl, rfl⟩), MDc (D := (S, none)) hdb s2 rfl (fun c _ => ⟨rfl, rfl⟩), MDd (D := (S, none)) hdb s2 rfl (fun c _ => rfl), ?_, ?_, ?_, OU_sf he.2.2.2.1 s1 rfl (fun _ => rfl), ?_, ?_⟩
        · rw [puI_eq]; exact hw
        · rw [puI_nj (by omega)]; exact he.2.1
        · rw [puI_nj (by omega)]; exact he.2.2.1
        · rw [puI_ne (by omega)]; exact he.2.2.2.2.1
        · rw [puI_ne (by omega)]; exact he.2.2.2.2.2
  rw [if_neg (fun z => q5 (hkn.2.2.2.2.1.1 z))]
  by_cases q6 : tkK (tks b n) k = 106
  · have e : pBody (tks b n) (tkK (tks b n) k) k D = (if riv D.1 ≠ 0 then .inl (5, k) else lz2 (k + 2) (aV D) (pNum (tks b n) 1 30 (k + 1))) := by unfold pBody; rw [if_neg q1, if_neg q2, if_neg q3, if_neg q4, if_neg q5, if_pos q6]
    rw [e, if_pos (hkn.2.2.2.2.2.1.2 q6), hd.2.2.2.2.2.1]
    by_cases c : riv D.1 = 0
    · obtain ⟨M1, v, a1, a2, a3, a4⟩ := m_num (X := X) (d := d + 3) 1 30 (Mz_r b2)
      rw [if_pos c, if_pos rfl, if_neg (show ¬ riv D.1 ≠ 0 from fun z => z c), b1, cI_I, if_neg (by decide), a1, cI_I]
      have s1 : sf (Pc 59 38) M1 (puI M1 59 38 v) := sf.rf.pu rfl _
      have s2 : sf (Pq 38 76 75 0) Mb (puI M1 59 38 v) := (a2.mo Pq_6).pu rfl _
      refine m_fin (sb.tr (s2.mo (Pm_q (by omega) (by omega)))) ?_
      cases en : pNum (tks b n) 1 30 (k + 1) with
      | inl x =>
        have ex : nx (tks b n) 1 30 (.inr (k + 1)) = .inl x := by
          unfold nx
          dsimp only
          rw [en]
        exact Mo_l (MF_sf (a3.1 x.1 x.2 ex) s1 rfl rfl)
      | inr w =>
        have ex : nx (tks b n) 1 30 (.inr (k + 1)) = .inr (k + 1 + 1) := by
          unfold nx
          dsimp only
          rw [en]
        refine ⟨fun f' k' z => (by cases z), fun k' D' z => ?_⟩
        cases z
        have hw : v = (w : Int) := by
          have h9 := a4 _ ex
          rw [show k + 1 + 1 - 1 = k + 1 by omega] at h9
          rw [h9, ← (pNum_ok en).2.1]
        have hw1 := (pNum_ok en).2.2.1
        have he := MDe (D := D) hdb a2 rfl rfl rfl rfl (fun _ => rfl) rfl rfl
        refine ⟨MG_sf (a3.2 _ ex) s1 (fun _ => rfl) (r8 (by decide)) rfl rfl, MDa (D := D) hdb s2 rfl (fun c _ => ⟨rfl, rfl, rfl, rfl, rfl, rfl, rfl⟩), MDb (D := D) hdb s2 rfl (fun c _ => ⟨rfl, rfl, rfl, rfl, rfl, rfl⟩), MDc (D := D) hdb s2 rfl (fun c _ => ⟨rfl, rfl⟩), MDd (D := D) hdb s2 rfl (fun c _ => rfl), ?_, ?_, ?_, OU_sf he.2.2.2.1 s1 rfl (fun _ => rfl), ?_, ?_⟩
        · rw [puI_nj (by omega)]; exact he.1
        · show (puI M1 59 38 v).2.1 59 38 = (if w = 0 then -1 else (w : Int))
          rw [puI_eq, if_neg (by omega)]; exact hw
        · rw [puI_nj (by omega)]; exact he.2.2.1
        · rw [puI_ne (by omega)]; exact he.2.2.2.2.1
        · rw [puI_ne (by omega)]; exact he.2.2.2.2.2
    · obtain ⟨M1, a1, a2, a3⟩ := m_beg5 (X := X) (d := d + 3) hg
      rw [if_neg c, if_neg (show ¬ (riv D.1 : Int) = -1 by omega), if_pos c, a1, cI_I, if_pos rfl]
      exact m_fin (a3.mo Pm_6) (Mo_l a2)
  rw [if_neg (fun z => q6 (hkn.2.2.2.2.2.1.1 z))]
  by_cases q7 : tkK (tks b n) k = 107
  · have e : pBody (tks b n) (tkK (tks b n) k) k D = (if rul D.1 ≠ [] then .inl (5, k) else lz3 (aU D) (pE (tks b n) 6 (k + 1) [])) := by unfold pBody; rw [if_neg q1, if_neg q2, if_neg q3, if_neg q4, if_neg q5, if_neg q6, if_pos q7]
    rw [e, if_pos (hkn.2.2.2.2.2.2.2 q7), hd.2.2.2.2.2.2.1]
    by_cases c : rul D.1 = []
    · have h40 : Mb.2.1 59 40 = 0 := by
        have := hdb.2.2.2.2.2.2.2.1.1
        rw [c] at this
        exact this
      have s1 : sf (Pc 59 39) Mb (puI Mb 59 39 0) := sf.rf.pu rfl _
      have hg1 := MG_sf b2 s1 (fun _ => rfl) (r8 (by decide)) rfl rfl
      have hx : ∃ x g, ex (tks b n) g (some (true, 0), k + 1, [], [], [false]) = some x ∧ (∀ y, pE (tks b n) 6 (k + 1) [] = .inl y → x = .inl y) ∧ ∀ k' r', pE (tks b n) 6 (k + 1) [] = .inr (k', r') → x = .inr (k', encs r' ++ [0]) := by
        obtain ⟨p1, p2⟩ := pE_fin hT (k + 1) []
        cases ep : pE (tks b n) 6 (k + 1) [] with
        | inl y =>
          obtain ⟨g, hgx⟩ := p1 y ep
          exact ⟨_, g, hgx, fun y' z => (by cases z; rfl), fun k' r' z => (by cases z)⟩
        | inr y =>
          obtain ⟨k2, r2⟩ := y
          obtain ⟨nw, g, e1, hgx⟩ := p2 k2 r2 ep
          refine ⟨_, g, hgx, fun y' z => (by cases z), fun k' r' z => ?_⟩
          cases z
          rw [e1, List.nil_append]
      obtain ⟨x, g, hx1, hx2, hx3⟩ := hx
      obtain ⟨M1, a1, a2, a3⟩ := m_expr (X := X) (d := d) hT hx1 hg1.1 hg1.2.1 (by rw [puI_nj (by omega)]; exact h40) hg1.2.2 (by omega) (by omega)
      rw [if_pos c, if_pos rfl, if_neg (show ¬ rul D.1 ≠ [] from fun z => z c), b1, cI_I, if_neg (by decide), h40, a1, cV_V]
      have s0 : sf Pxb Mb (puI Mb 59 39 0) := sf.rf.pu rfl _
      have sX : sf Pxb Mb M1 := s0.tr (a2.mo Pxb_x)
      have s2 : sf Pm Mb M1 := sX.mo Pm_xb
      refine m_fin (sb.tr s2) ?_
      cases ep : pE (tks b n) 6 (k + 1) [] with
      | inl y =>
        obtain ⟨w1, w2, w3⟩ := a3.1 y.1 y.2 (hx2 y ep)
        exact Mo_l ⟨w1, w2, w3⟩
      | inr y =>
        obtain ⟨k2, r2⟩ := y
        obtain ⟨w1, w2, w3, w4⟩ := a3.2 k2 _ (hx3 k2 r2 ep)
        have hne : r2 ≠ [] := (pE_wr hT hV ep).2.1
        refine ⟨fun f' k' z => (by cases z), fun k' D' z => ?_⟩
        cases z
        have he := hdb.2.2.2.2
        refine ⟨⟨w1, w2, w4⟩, MDa (D := D) hdb sX rfl (fun c _ => ⟨rfl, rfl, rfl, rfl, rfl, rfl, rfl⟩), MDb (D := D) hdb sX rfl (fun c _ => ⟨rfl, rfl, rfl, rfl, rfl, rfl⟩), MDc (D := D) hdb sX rfl (fun c _ => ⟨rfl, rfl⟩), MDd (D := D) hdb sX rfl (fun c _ => rfl), ?_, ?_, ?_, ?_, ?_, ?_⟩
        · rw [(sX.2 59 37 rfl).1]; exact he.1
        · rw [(sX.2 59 38 rfl).1]; exact he.2.1
        · show M1.2.1 59 39 = (if r2 = [] then -1 else 0)
          rw [if_neg hne, (a2.2 59 39 rfl).1]
          exact puI_eq _ _ _ _
        · show OU (if r2 = [] then [] else encs r2 ++ [0]) M1
          rw [if_neg hne]
          exact w3
        · rw [(sX.2 87 1 rfl).1]; exact he.2.2.2.2.1
        · rw [(sX.2 87 2 rfl).1]; exact he.2.2.2.2.2
    · obtain ⟨M1, a1, a2, a3⟩ := m_beg5 (X := X) (d := d + 3) hg
      rw [if_neg c, if_neg (show ¬ (0 : Int) = -1 by decide), if_pos c, a1, cI_I, if_pos rfl]
      exact m_fin (a3.mo Pm_6) (Mo_l a2)
  rw [if_neg (fun z => q7 (hkn.2.2.2.2.2.2.1 z))]
  have e : pBody (tks b n) (tkK (tks b n) k) k D = .inl (1, k) := by unfold pBody; rw [if_neg q1, if_neg q2, if_neg q3, if_neg q4, if_neg q5, if_neg q6, if_neg q7]
  obtain ⟨M1, a1, a2, a3⟩ := MG_wrong (X := X) (d := d + 5) hg 1 1 rfl (by decide)
  rw [e, a1, cV_V]
  exact m_fin (a3.mo Pm_6) (Mo_l a2)
end C89e

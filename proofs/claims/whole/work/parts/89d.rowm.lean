/-! ===== the model reads rows (printed by wip/whole/gen89d.py) ===== -/
section C89d
variable {X : Nat × (Nat → Int32)} {d : Nat} {b : Nat → Nat} {n : Nat} {M M' : rM} {k : Nat}
def P6 (k j : Nat) : Bool := decide (k = 59 ∧ (j = 22 ∨ j = 23 ∨ (26 ≤ j ∧ j ≤ 32)))
def Pq (c lo hi R k j : Nat) : Bool := decide ((k = 59 ∧ (j = 22 ∨ j = 23 ∨ (26 ≤ j ∧ j ≤ 32) ∨ j = c)) ∨ (lo ≤ k ∧ k ≤ hi ∧ j = R))
def Pq1 (R k j : Nat) : Bool := decide ((k = 59 ∧ (j = 22 ∨ j = 23 ∨ (26 ≤ j ∧ j ≤ 32) ∨ j = 33)) ∨ (75 ≤ k ∧ k ≤ 77 ∧ j = R) ∨ (k = 87 ∧ (j = 3 + R ∨ j = 9 + R ∨ j = 15 + R ∨ j = 21 + R)))
theorem fal_of {p q : Prop} [Decidable p] [Decidable q] (h : q → p) (z : decide p = false) : decide q = false := decide_eq_false (fun y => (decide_eq_false_iff_not.1 z) (h y))
theorem Pq_6 {c lo hi R : Nat} : ∀ k j, Pq c lo hi R k j = false → P6 k j = false := fun k j z => fal_of (by omega) z
theorem Pq1_6 {R : Nat} : ∀ k j, Pq1 R k j = false → P6 k j = false := fun k j z => fal_of (by omega) z
theorem P6_9 : ∀ k j, P6 k j = false → P59 k j = false := fun k j z => by
  cases e : P59 k j with
  | false => rfl
  | true =>
    unfold P59 at e
    rw [Bool.and_eq_true, beq_iff_eq, decide_eq_true_eq] at e
    exact absurd (show k = 59 ∧ (j = 22 ∨ j = 23 ∨ (26 ≤ j ∧ j ≤ 32)) by omega) (decide_eq_false_iff_not.1 z)
def MG (b : Nat → Nat) (n k : Nat) (M : rM) : Prop := MT b n k M ∧ M.2.1 59 22 = 0 ∧ M.2.1 59 23 = -1
def MF (b : Nat → Nat) (n f p : Nat) (M : rM) : Prop := f ≠ 0 ∧ M.2.1 59 22 = (f : Int) ∧ M.2.1 59 23 = (tZ b n p : Int)
theorem MG_sf {Q : Nat → Nat → Bool} (h : MG b n k M) (g : sf Q M M') (hq : ∀ j, Q 73 j = false) (hr : ∀ j, 25 ≤ j → j ≤ 32 → Q 59 j = false) (h2 : Q 59 22 = false) (h3 : Q 59 23 = false) : MG b n k M' := ⟨MT_sf h.1 g hq hr, by rw [(g.2 59 22 h2).1]; exact h.2.1, by rw [(g.2 59 23 h3).1]; exact h.2.2⟩
theorem MF_sf {Q : Nat → Nat → Bool} {f p : Nat} (h : MF b n f p M) (g : sf Q M M') (h2 : Q 59 22 = false) (h3 : Q 59 23 = false) : MF b n f p M' := ⟨h.1, by rw [(g.2 59 22 h2).1]; exact h.2.1, by rw [(g.2 59 23 h3).1]; exact h.2.2⟩
theorem MF_ne {f p : Nat} (h : MF b n f p M) : M.2.1 59 22 ≠ 0 := by
  rw [h.2.1]
  have := h.1
  omega
abbrev YZ : Type := (Nat × Nat) ⊕ Nat
def nx (t : TS) (lo hi : Int) : YZ → YZ
  | .inl x => .inl x
  | .inr k => match pNum t lo hi k with
    | .inl x => .inl x
    | .inr _ => .inr (k + 1)
def chn (t : TS) : List Nat → YZ → YZ
  | [], y => y
  | h :: hs, y => chn t hs (nx t 0 (h : Int) y)
def Mz (b : Nat → Nat) (n : Nat) (y : YZ) (M : rM) : Prop := (∀ f p, y = .inl (f, p) → MF b n f p M) ∧ ∀ k, y = .inr k → MG b n k M
theorem Mz_r (h : MG b n k M) : Mz b n (.inr k) M := ⟨fun f p z => (by cases z), fun k' z => by cases z; exact h⟩
theorem Mz_l {f p : Nat} (h : MF b n f p M) : Mz b n (.inl (f, p)) M := ⟨fun f' p' z => by cases z; exact h, fun k' z => (by cases z)⟩
theorem Mz_pu {y : YZ} (h : Mz b n y M) {a : Nat} (ha : 74 ≤ a) (j : Nat) (v : Int) : Mz b n y (puI M a j v) := by
  have hs : sf (Po a) M (puI M a j v) := sf.rf.pu (show Po a a j = true from beq_self_eq_true a) _
  have hn : ∀ k i, k < 74 → Po a k i = false := fun k i hk => beq_false_of_ne (by omega)
  exact ⟨fun f p z => MF_sf (h.1 f p z) hs (hn _ _ (by omega)) (hn _ _ (by omega)), fun k z => MG_sf (h.2 k z) hs (fun j => hn _ _ (by omega)) (fun j _ _ => hn _ _ (by omega)) (hn _ _ (by omega)) (hn _ _ (by omega))⟩
theorem chn_l {t : TS} : ∀ (hs : List Nat) (x : Nat × Nat), chn t hs (.inl x) = .inl x
  | [], x => rfl
  | h :: hs, x => chn_l hs x
theorem nx_r {t : TS} {lo hi : Int} {y : YZ} {k' : Nat} (h : nx t lo hi y = .inr k') : ∃ k, y = .inr k ∧ k' = k + 1 := by
  cases y with
  | inl x => cases h
  | inr k =>
    unfold nx at h
    dsimp only at h
    cases e : pNum t lo hi k with
    | inl x =>
      rw [e] at h
      cases h
    | inr v =>
      rw [e] at h
      cases h
      exact ⟨k, rfl, rfl⟩
theorem pn_ch {t : TS} : ∀ (hs : List Nat) (k : Nat), (∀ x, pNums t hs k = .inl x → chn t hs (.inr k) = .inl x) ∧ ∀ k' l, pNums t hs k = .inr (k', l) → chn t hs (.inr k) = .inr k' ∧ k' = k + hs.length ∧ ∀ i, i < hs.length → l.getD i 0 = tkV t (k + i)
  | [], k => ⟨fun x z => (by cases z), fun k' l z => by cases z; exact ⟨rfl, rfl, fun i hi => (by cases hi)⟩⟩
  | h :: hs, k => by
    unfold pNums
    show (∀ x, _ → chn t hs (nx t 0 (h : Int) (.inr k)) = _) ∧ ∀ k' l, _ → chn t hs (nx t 0 (h : Int) (.inr k)) = _ ∧ _
    unfold nx
    dsimp only
    cases e : pNum t 0 (h : Int) k with
    | inl x =>
      dsimp only
      refine ⟨fun x' z => ?_, fun k' l z => (by cases z)⟩
      cases z
      exact chn_l hs x
    | inr v =>
      dsimp only
      obtain ⟨i1, i2⟩ := pn_ch (t := t) hs (k + 1)
      cases e2 : pNums t hs (k + 1) with
      | inl x =>
        dsimp only
        refine ⟨fun x' z => ?_, fun k' l z => (by cases z)⟩
        cases z
        exact i1 x e2
      | inr y =>
        obtain ⟨k2, l2⟩ := y
        dsimp only
        refine ⟨fun x' z => (by cases z), fun k' l z => ?_⟩
        cases z
        obtain ⟨j1, j2, j3⟩ := i2 k2 l2 e2
        refine ⟨j1, by rw [List.length_cons]; omega, fun i hi => ?_⟩
        cases i with
        | zero => exact (pNum_ok e).2.1
        | succ i =>
          rw [List.length_cons] at hi
          rw [List.getD_cons_succ, j3 i (by omega), show k + 1 + i = k + (i + 1) by omega]
theorem MG_wrong (h : MG b n k M) (a : Int) (f : Nat) (ha : a = (f : Int)) (hf : f ≠ 0) : ∃ M', fn X (d + 1) 223 [rv 59, iv a] M = oV M' ∧ MF b n f k M' ∧ sf P6 M M' := by
  have hs : sf P6 M (puI (puI M 59 22 a) 59 23 (M.2.1 59 28)) := (sf.rf.pu rfl _).pu rfl _
  refine ⟨_, ?_, ⟨hf, ?_, ?_⟩, hs⟩
  · rw [q_223_59, if_pos h.2.1]
  · rw [puI_nj (by omega), puI_eq, ha]
  · rw [puI_eq]; exact h.1.2.1
theorem MG_go (h : MG b n k M) : ∃ M', fn X (d + 2) 219 [rv 59] M = oV M' ∧ MG b n (k + 1) M' ∧ sf P6 M M' := by
  obtain ⟨M', a1, a2, a3⟩ := MT_goes (X := X) (d := d) h.1
  exact ⟨M', a1, ⟨a2, by rw [(a3.2 59 22 rfl).1]; exact h.2.1, by rw [(a3.2 59 23 rfl).1]; exact h.2.2⟩, a3.mo P6_9⟩
theorem m_num (lo hi : Int) {y : YZ} (h : Mz b n y M) : ∃ M' v, fn X (d + 3) 227 [rv 59, iv lo, iv hi] M = oI v M' ∧ sf P6 M M' ∧ Mz b n (nx (tks b n) lo hi y) M' ∧ ∀ k', nx (tks b n) lo hi y = .inr k' → v = (tkV (tks b n) (k' - 1) : Int) := by
  rw [q_227_59]
  cases y with
  | inl x =>
    rw [m_bad (X := X) (d := d + 1) (MF_ne (h.1 x.1 x.2 rfl)), cI_I, if_pos rfl]
    exact ⟨M, 0, rfl, sf.rf, h, fun k' z => (by cases z)⟩
  | inr k =>
    have hg := h.2 k rfl
    have hs := hg.1.2.2.2.1
    rw [m_good (X := X) (d := d + 1) hg.2.1, cI_I, if_neg (by decide)]
    unfold nx
    dsimp only
    unfold pNum
    by_cases h2 : tkK (tks b n) k = 2
    · have hs2 : M.2.1 59 27 = 2 := by rw [hs, h2]; rfl
      have hD := hg.1.2.2.2.2.1
      have hv := hg.1.2.2.2.2.2.1 h2
      rw [if_pos hs2, if_pos h2, hD, hv]
      have h49 : ∃ M' v, kb X (d + 2) 227 FU 49 [some (rv 59), none, none, none] [] M = oI v M' ∧ sf P6 M M' ∧ MF b n 2 k M' := by
        obtain ⟨M1, a1, a2, a3⟩ := MG_wrong (X := X) (d := d + 1) hg 2 2 rfl (by decide)
        obtain ⟨m', hm⟩ : ∃ m', FU = m' + 1 := ⟨FU - 1, by have := FU_lt (k := 10) (by omega); omega⟩
        rw [hm, q_227_59_at49, a1, cV_V, m_bad (X := X) (d := d + 1) (MF_ne a2), cI_I, if_pos rfl]
        exact ⟨M1, _, rfl, a3, a2⟩
      by_cases c : 4 < tkD (tks b n) k ∨ (tkV (tks b n) k : Int) < lo ∨ hi < (tkV (tks b n) k : Int)
      · obtain ⟨M1, v, a1, a2, a3⟩ := h49
        rw [if_pos c, a1]
        dsimp only
        refine ⟨M1, v, ?_, a2, Mz_l a3, fun k' z => (by cases z)⟩
        by_cases c1 : 4 < (tkD (tks b n) k : Int)
        · rw [if_pos c1]
        rw [if_neg c1]
        by_cases c2 : (tkV (tks b n) k : Int) < lo
        · rw [if_pos c2]
        rw [if_neg c2, if_pos (show hi < (tkV (tks b n) k : Int) by omega)]
      · obtain ⟨M1, a1, a2, a3⟩ := MG_go (X := X) (d := d) hg
        rw [if_neg c, if_neg (show ¬ 4 < (tkD (tks b n) k : Int) by omega), if_neg (show ¬ (tkV (tks b n) k : Int) < lo by omega), if_neg (show ¬ hi < (tkV (tks b n) k : Int) by omega), m_good (X := X) (d := d + 1) hg.2.1, cI_I, if_neg (by decide), a1, cV_V]
        dsimp only
        refine ⟨M1, _, rfl, a3, Mz_r a2, fun k' z => ?_⟩
        cases z
        rfl
    · have n2 : M.2.1 59 27 ≠ 2 := fun z => h2 (srt_2 (by omega))
      obtain ⟨M1, a1, a2, a3⟩ := MG_wrong (X := X) (d := d + 1) hg 1 1 rfl (by decide)
      rw [if_neg n2, if_neg h2, a1, cV_V, m_bad (X := X) (d := d + 1) (MF_ne a2), cI_I, if_pos rfl]
      dsimp only
      exact ⟨M1, _, rfl, a3, Mz_l a2, fun k' z => (by cases z)⟩
theorem m_240 (hz : MG b n k M) {R : Nat} (hc : M.2.1 59 33 = (R : Int)) (hR : R < 6) : ∃ M', fn X (d + 4) 240 [rv 59] M = oV M' ∧ sf (Pq1 R) M M' ∧ (∀ f p, pNums (tks b n) [60, 63, 9, 99, 9] k = .inl (f, p) → MF b n f p M') ∧ ∀ k' l, pNums (tks b n) [60, 63, 9, 99, 9] k = .inr (k', l) → MG b n k' M' ∧ M'.2.1 59 33 = ((R + 1 : Nat) : Int) ∧ M'.2.1 75 R = (l.getD 0 0 : Int) ∧ M'.2.1 87 (3 + R) = (l.getD 1 0 : Int) ∧ M'.2.1 87 (9 + R) = (l.getD 2 0 : Int) ∧ M'.2.1 76 R = (l.getD 3 0 : Int) ∧ M'.2.1 77 R = (l.getD 4 0 : Int) ∧ M'.2.1 87 (15 + R) = 0 ∧ M'.2.1 87 (21 + R) = 0 := by
  have z0 : Mz b n (.inr k) M := Mz_r hz
  obtain ⟨N1, v1, e1, f1, y1, w1⟩ := m_num (X := X) (d := d) 0 60 z0
  have s1 : sf (Pq1 R) M (puI N1 75 R v1) := (f1.mo Pq1_6).pu (decide_eq_true (by omega)) _
  have z1 := Mz_pu y1 (a := 75) (by omega) R v1
  obtain ⟨N2, v2, e2, f2, y2, w2⟩ := m_num (X := X) (d := d) 0 63 z1
  have s2 : sf (Pq1 R) M (puI N2 87 (3 + R) v2) := (s1.tr (f2.mo Pq1_6)).pu (decide_eq_true (by omega)) _
  have z2 := Mz_pu y2 (a := 87) (by omega) (3 + R) v2
  obtain ⟨N3, v3, e3, f3, y3, w3⟩ := m_num (X := X) (d := d) 0 9 z2
  have s3 : sf (Pq1 R) M (puI N3 87 (9 + R) v3) := (s2.tr (f3.mo Pq1_6)).pu (decide_eq_true (by omega)) _
  have z3 := Mz_pu y3 (a := 87) (by omega) (9 + R) v3
  obtain ⟨N4, v4, e4, f4, y4, w4⟩ := m_num (X := X) (d := d) 0 99 z3
  have s4 : sf (Pq1 R) M (puI N4 76 R v4) := (s3.tr (f4.mo Pq1_6)).pu (decide_eq_true (by omega)) _
  have z4 := Mz_pu y4 (a := 76) (by omega) R v4
  obtain ⟨N5, v5, e5, f5, y5, w5⟩ := m_num (X := X) (d := d) 0 9 z4
  have s5 : sf (Pq1 R) M (puI N5 77 R v5) := (s4.tr (f5.mo Pq1_6)).pu (decide_eq_true (by omega)) _
  have z5 := Mz_pu y5 (a := 77) (by omega) R v5
  have s6 : sf (Pq1 R) M (puI (puI N5 77 R v5) 87 (15 + R) 0) := s5.pu (decide_eq_true (by omega)) _
  have z6 := Mz_pu z5 (a := 87) (by omega) (15 + R) 0
  have s7 : sf (Pq1 R) M (puI (puI (puI N5 77 R v5) 87 (15 + R) 0) 87 (21 + R) 0) := s6.pu (decide_eq_true (by omega)) _
  have z7 := Mz_pu z6 (a := 87) (by omega) (21 + R) 0
  have hch := pn_ch (t := tks b n) [60, 63, 9, 99, 9] k
  have hY : chn (tks b n) [60, 63, 9, 99, 9] (.inr k) = (nx (tks b n) 0 9 (nx (tks b n) 0 99 (nx (tks b n) 0 9 (nx (tks b n) 0 63 (nx (tks b n) 0 60 (.inr k)))))) := rfl
  rw [hY] at hch
  rw [q_240_59, hc, Int.toNat_natCast, show wr (3 + (R : Int)) = ((3 + R : Nat) : Int) by rw [wri (by omega) (by omega)]; omega, Int.toNat_natCast, show wr (9 + (R : Int)) = ((9 + R : Nat) : Int) by rw [wri (by omega) (by omega)]; omega, Int.toNat_natCast, show wr (15 + (R : Int)) = ((15 + R : Nat) : Int) by rw [wri (by omega) (by omega)]; omega, Int.toNat_natCast, show wr (21 + (R : Int)) = ((21 + R : Nat) : Int) by rw [wri (by omega) (by omega)]; omega, Int.toNat_natCast, e1, cI_I, gdx (by omega) (by omega), e2, cI_I, gdx (by omega) (by omega), e3, cI_I, gdx (by omega) (by omega), e4, cI_I, gdx (by omega) (by omega), e5, cI_I, gdx (by omega) (by omega), gdx (by omega) (by omega), gdx (by omega) (by omega)]
  cases e : (nx (tks b n) 0 9 (nx (tks b n) 0 99 (nx (tks b n) 0 9 (nx (tks b n) 0 63 (nx (tks b n) 0 60 (.inr k)))))) with
  | inl x =>
    rw [e] at z7 hch
    have hm := z7.1 x.1 x.2 rfl
    rw [m_bad (X := X) (d := d + 2) (MF_ne hm), cI_I, if_pos rfl]
    refine ⟨_, rfl, s7, fun f p z => ?_, fun k' l z => ?_⟩
    · have := hch.1 _ z
      cases this
      exact hm
    · have := (hch.2 _ _ z).1
      cases this
  | inr q =>
    have eq0 := e
    rw [e] at z7 hch
    have hm := z7.2 q rfl
    have hS : sf (Pq1 R) M (puI (puI (puI N5 77 R v5) 87 (15 + R) 0) 87 (21 + R) 0) := s7
    have hcc : (puI (puI (puI N5 77 R v5) 87 (15 + R) 0) 87 (21 + R) 0).2.1 59 33 = (R : Int) := by
      rw [puI_ne (by omega), puI_ne (by omega), puI_ne (by omega), (f5.2 59 33 rfl).1, puI_ne (by omega), (f4.2 59 33 rfl).1, puI_ne (by omega), (f3.2 59 33 rfl).1, puI_ne (by omega), (f2.2 59 33 rfl).1, puI_ne (by omega), (f1.2 59 33 rfl).1]
      exact hc
    rw [m_good (X := X) (d := d + 2) hm.2.1, cI_I, if_neg (by decide), hcc, wr_succ (by omega)]
    have sE : sf (Pq1 R) M (puI (puI (puI (puI N5 77 R v5) 87 (15 + R) 0) 87 (21 + R) 0) 59 33 ((R + 1 : Nat) : Int)) := hS.pu (decide_eq_true (by omega)) _
    have sG : sf (Pc 59 33) (puI (puI (puI N5 77 R v5) 87 (15 + R) 0) 87 (21 + R) 0) (puI (puI (puI (puI N5 77 R v5) 87 (15 + R) 0) 87 (21 + R) 0) 59 33 ((R + 1 : Nat) : Int)) := sf.rf.pu rfl _
    refine ⟨_, rfl, sE, fun f p z => ?_, fun k' l z => ?_⟩
    · have := hch.1 _ z
      cases this
    · obtain ⟨c1, c2, c3⟩ := hch.2 _ _ z
      have c9 : q = k' := Sum.inr.inj c1
      subst c9
      have u5 := w5 _ eq0
      obtain ⟨q4, g4, h4⟩ := nx_r eq0
      have u4 := w4 _ g4
      obtain ⟨q3, g3, h3⟩ := nx_r g4
      have u3 := w3 _ g3
      obtain ⟨q2, g2, h2⟩ := nx_r g3
      have u2 := w2 _ g2
      obtain ⟨q1, g1, h1⟩ := nx_r g2
      have u1 := w1 _ g1
      rw [show [60, 63, 9, 99, 9].length = 5 from rfl] at c2 c3
      have t1 : v1 = (l.getD 0 0 : Int) := by rw [c3 0 (by omega), u1, show q1 - 1 = k + 0 by omega]
      have t2 : v2 = (l.getD 1 0 : Int) := by rw [c3 1 (by omega), u2, show q2 - 1 = k + 1 by omega]
      have t3 : v3 = (l.getD 2 0 : Int) := by rw [c3 2 (by omega), u3, show q3 - 1 = k + 2 by omega]
      have t4 : v4 = (l.getD 3 0 : Int) := by rw [c3 3 (by omega), u4, show q4 - 1 = k + 3 by omega]
      have t5 : v5 = (l.getD 4 0 : Int) := by rw [c3 4 (by omega), u5, show q - 1 = k + 4 by omega]
      refine ⟨MG_sf hm sG (fun _ => rfl) (r8 (by decide)) rfl rfl, puI_eq _ _ _ _, ?_, ?_, ?_, ?_, ?_, ?_, ?_⟩
      · rw [puI_ne (by omega), puI_ne (by omega), puI_ne (by omega), puI_ne (by omega), (f5.2 75 R rfl).1, puI_ne (by omega), (f4.2 75 R rfl).1, puI_ne (by omega), (f3.2 75 R rfl).1, puI_ne (by omega), (f2.2 75 R rfl).1, puI_eq]; exact t1
      · rw [puI_ne (by omega), puI_nj (by omega), puI_nj (by omega), puI_ne (by omega), (f5.2 87 (3 + R) rfl).1, puI_ne (by omega), (f4.2 87 (3 + R) rfl).1, puI_nj (by omega), (f3.2 87 (3 + R) rfl).1, puI_eq]; exact t2
      · rw [puI_ne (by omega), puI_nj (by omega), puI_nj (by omega), puI_ne (by omega), (f5.2 87 (9 + R) rfl).1, puI_ne (by omega), (f4.2 87 (9 + R) rfl).1, puI_eq]; exact t3
      · rw [puI_ne (by omega), puI_ne (by omega), puI_ne (by omega), puI_ne (by omega), (f5.2 76 R rfl).1, puI_eq]; exact t4
      · rw [puI_ne (by omega), puI_ne (by omega), puI_ne (by omega), puI_eq]; exact t5
      · rw [puI_ne (by omega), puI_nj (by omega), puI_eq]
      · rw [puI_ne (by omega), puI_eq]
theorem m_241 (hz : MG b n k M) {R : Nat} (hc : M.2.1 59 34 = (R : Int)) (hR : R < 8) : ∃ M', fn X (d + 4) 241 [rv 59] M = oV M' ∧ sf (Pq 34 78 83 R) M M' ∧ (∀ f p, pNums (tks b n) [63, 63, 63, 63, 20, 20] k = .inl (f, p) → MF b n f p M') ∧ ∀ k' l, pNums (tks b n) [63, 63, 63, 63, 20, 20] k = .inr (k', l) → MG b n k' M' ∧ M'.2.1 59 34 = ((R + 1 : Nat) : Int) ∧ M'.2.1 78 R = (l.getD 0 0 : Int) ∧ M'.2.1 79 R = (l.getD 1 0 : Int) ∧ M'.2.1 80 R = (l.getD 2 0 : Int) ∧ M'.2.1 81 R = (l.getD 3 0 : Int) ∧ M'.2.1 82 R = (l.getD 4 0 : Int) ∧ M'.2.1 83 R = (l.getD 5 0 : Int) := by
  have z0 : Mz b n (.inr k) M := Mz_r hz
  obtain ⟨N1, v1, e1, f1, y1, w1⟩ := m_num (X := X) (d := d) 0 63 z0
  have s1 : sf (Pq 34 78 83 R) M (puI N1 78 R v1) := (f1.mo Pq_6).pu (decide_eq_true (by omega)) _
  have z1 := Mz_pu y1 (a := 78) (by omega) R v1
  obtain ⟨N2, v2, e2, f2, y2, w2⟩ := m_num (X := X) (d := d) 0 63 z1
  have s2 : sf (Pq 34 78 83 R) M (puI N2 79 R v2) := (s1.tr (f2.mo Pq_6)).pu (decide_eq_true (by omega)) _
  have z2 := Mz_pu y2 (a := 79) (by omega) R v2
  obtain ⟨N3, v3, e3, f3, y3, w3⟩ := m_num (X := X) (d := d) 0 63 z2
  have s3 : sf (Pq 34 78 83 R) M (puI N3 80 R v3) := (s2.tr (f3.mo Pq_6)).pu (decide_eq_true (by omega)) _
  have z3 := Mz_pu y3 (a := 80) (by omega) R v3
  obtain ⟨N4, v4, e4, f4, y4, w4⟩ := m_num (X := X) (d := d) 0 63 z3
  have s4 : sf (Pq 34 78 83 R) M (puI N4 81 R v4) := (s3.tr (f4.mo Pq_6)).pu (decide_eq_true (by omega)) _
  have z4 := Mz_pu y4 (a := 81) (by omega) R v4
  obtain ⟨N5, v5, e5, f5, y5, w5⟩ := m_num (X := X) (d := d) 0 20 z4
  have s5 : sf (Pq 34 78 83 R) M (puI N5 82 R v5) := (s4.tr (f5.mo Pq_6)).pu (decide_eq_true (by omega)) _
  have z5 := Mz_pu y5 (a := 82) (by omega) R v5
  obtain ⟨N6, v6, e6, f6, y6, w6⟩ := m_num (X := X) (d := d) 0 20 z5
  have s6 : sf (Pq 34 78 83 R) M (puI N6 83 R v6) := (s5.tr (f6.mo Pq_6)).pu (decide_eq_true (by omega)) _
  have z6 := Mz_pu y6 (a := 83) (by omega) R v6
  have hch := pn_ch (t := tks b n) [63, 63, 63, 63, 20, 20] k
  have hY : chn (tks b n) [63, 63, 63, 63, 20, 20] (.inr k) = (nx (tks b n) 0 20 (nx (tks b n) 0 20 (nx (tks b n) 0 63 (nx (tks b n) 0 63 (nx (tks b n) 0 63 (nx (tks b n) 0 63 (.inr k))))))) := rfl
  rw [hY] at hch
  rw [q_241_59, hc, Int.toNat_natCast, e1, cI_I, gdx (by omega) (by omega), e2, cI_I, gdx (by omega) (by omega), e3, cI_I, gdx (by omega) (by omega), e4, cI_I, gdx (by omega) (by omega), e5, cI_I, gdx (by omega) (by omega), e6, cI_I, gdx (by omega) (by omega)]
  cases e : (nx (tks b n) 0 20 (nx (tks b n) 0 20 (nx (tks b n) 0 63 (nx (tks b n) 0 63 (nx (tks b n) 0 63 (nx (tks b n) 0 63 (.inr k))))))) with
  | inl x =>
    rw [e] at z6 hch
    have hm := z6.1 x.1 x.2 rfl
    rw [m_bad (X := X) (d := d + 2) (MF_ne hm), cI_I, if_pos rfl]
    refine ⟨_, rfl, s6, fun f p z => ?_, fun k' l z => ?_⟩
    · have := hch.1 _ z
      cases this
      exact hm
    · have := (hch.2 _ _ z).1
      cases this
  | inr q =>
    have eq0 := e
    rw [e] at z6 hch
    have hm := z6.2 q rfl
    have hS : sf (Pq 34 78 83 R) M (puI N6 83 R v6) := s6
    have hcc : (puI N6 83 R v6).2.1 59 34 = (R : Int) := by
      rw [puI_ne (by omega), (f6.2 59 34 rfl).1, puI_ne (by omega), (f5.2 59 34 rfl).1, puI_ne (by omega), (f4.2 59 34 rfl).1, puI_ne (by omega), (f3.2 59 34 rfl).1, puI_ne (by omega), (f2.2 59 34 rfl).1, puI_ne (by omega), (f1.2 59 34 rfl).1]
      exact hc
    rw [m_good (X := X) (d := d + 2) hm.2.1, cI_I, if_neg (by decide), hcc, wr_succ (by omega)]
    have sE : sf (Pq 34 78 83 R) M (puI (puI N6 83 R v6) 59 34 ((R + 1 : Nat) : Int)) := hS.pu (decide_eq_true (by omega)) _
    have sG : sf (Pc 59 34) (puI N6 83 R v6) (puI (puI N6 83 R v6) 59 34 ((R + 1 : Nat) : Int)) := sf.rf.pu rfl _
    refine ⟨_, rfl, sE, fun f p z => ?_, fun k' l z => ?_⟩
    · have := hch.1 _ z
      cases this
    · obtain ⟨c1, c2, c3⟩ := hch.2 _ _ z
      have c9 : q = k' := Sum.inr.inj c1
      subst c9
      have u6 := w6 _ eq0
      obtain ⟨q5, g5, h5⟩ := nx_r eq0
      have u5 := w5 _ g5
      obtain ⟨q4, g4, h4⟩ := nx_r g5
      have u4 := w4 _ g4
      obtain ⟨q3, g3, h3⟩ := nx_r g4
      have u3 := w3 _ g3
      obtain ⟨q2, g2, h2⟩ := nx_r g3
      have u2 := w2 _ g2
      obtain ⟨q1, g1, h1⟩ := nx_r g2
      have u1 := w1 _ g1
      rw [show [63, 63, 63, 63, 20, 20].length = 6 from rfl] at c2 c3
      have t1 : v1 = (l.getD 0 0 : Int) := by rw [c3 0 (by omega), u1, show q1 - 1 = k + 0 by omega]
      have t2 : v2 = (l.getD 1 0 : Int) := by rw [c3 1 (by omega), u2, show q2 - 1 = k + 1 by omega]
      have t3 : v3 = (l.getD 2 0 : Int) := by rw [c3 2 (by omega), u3, show q3 - 1 = k + 2 by omega]
      have t4 : v4 = (l.getD 3 0 : Int) := by rw [c3 3 (by omega), u4, show q4 - 1 = k + 3 by omega]
      have t5 : v5 = (l.getD 4 0 : Int) := by rw [c3 4 (by omega), u5, show q5 - 1 = k + 4 by omega]
      have t6 : v6 = (l.getD 5 0 : Int) := by rw [c3 5 (by omega), u6, show q - 1 = k + 5 by omega]
      refine ⟨MG_sf hm sG (fun _ => rfl) (r8 (by decide)) rfl rfl, puI_eq _ _ _ _, ?_, ?_, ?_, ?_, ?_, ?_⟩
      · rw [puI_ne (by omega), puI_ne (by omega), (f6.2 78 R rfl).1, puI_ne (by omega), (f5.2 78 R rfl).1, puI_ne (by omega), (f4.2 78 R rfl).1, puI_ne (by omega), (f3.2 78 R rfl).1, puI_ne (by omega), (f2.2 78 R rfl).1, puI_eq]; exact t1
      · rw [puI_ne (by omega), puI_ne (by omega), (f6.2 79 R rfl).1, puI_ne (by omega), (f5.2 79 R rfl).1, puI_ne (by omega), (f4.2 79 R rfl).1, puI_ne (by omega), (f3.2 79 R rfl).1, puI_eq]; exact t2
      · rw [puI_ne (by omega), puI_ne (by omega), (f6.2 80 R rfl).1, puI_ne (by omega), (f5.2 80 R rfl).1, puI_ne (by omega), (f4.2 80 R rfl).1, puI_eq]; exact t3
      · rw [puI_ne (by omega), puI_ne (by omega), (f6.2 81 R rfl).1, puI_ne (by omega), (f5.2 81 R rfl).1, puI_eq]; exact t4
      · rw [puI_ne (by omega), puI_ne (by omega), (f6.2 82 R rfl).1, puI_eq]; exact t5
      · rw [puI_ne (by omega), puI_eq]; exact t6
theorem m_242 (hz : MG b n k M) {R : Nat} (hc : M.2.1 59 35 = (R : Int)) (hR : R < 6) : ∃ M', fn X (d + 4) 242 [rv 59] M = oV M' ∧ sf (Pq 35 84 85 R) M M' ∧ (∀ f p, pNums (tks b n) [60, 999] k = .inl (f, p) → MF b n f p M') ∧ ∀ k' l, pNums (tks b n) [60, 999] k = .inr (k', l) → MG b n k' M' ∧ M'.2.1 59 35 = ((R + 1 : Nat) : Int) ∧ M'.2.1 84 R = (l.getD 0 0 : Int) ∧ M'.2.1 85 R = (l.getD 1 0 : Int) := by
  have z0 : Mz b n (.inr k) M := Mz_r hz
  obtain ⟨N1, v1, e1, f1, y1, w1⟩ := m_num (X := X) (d := d) 0 60 z0
  have s1 : sf (Pq 35 84 85 R) M (puI N1 84 R v1) := (f1.mo Pq_6).pu (decide_eq_true (by omega)) _
  have z1 := Mz_pu y1 (a := 84) (by omega) R v1
  obtain ⟨N2, v2, e2, f2, y2, w2⟩ := m_num (X := X) (d := d) 0 999 z1
  have s2 : sf (Pq 35 84 85 R) M (puI N2 85 R v2) := (s1.tr (f2.mo Pq_6)).pu (decide_eq_true (by omega)) _
  have z2 := Mz_pu y2 (a := 85) (by omega) R v2
  have hc1 : N1.2.1 59 35 = (R : Int) := by rw [(f1.2 59 35 rfl).1]; exact hc
  have hch := pn_ch (t := tks b n) [60, 999] k
  have hY : chn (tks b n) [60, 999] (.inr k) = (nx (tks b n) 0 999 (nx (tks b n) 0 60 (.inr k))) := rfl
  rw [hY] at hch
  rw [q_242_59, hc, Int.toNat_natCast, e1, cI_I, hc1, Int.toNat_natCast, gdx (by omega) (by omega), e2, cI_I, gdx (by omega) (by omega)]
  cases e : (nx (tks b n) 0 999 (nx (tks b n) 0 60 (.inr k))) with
  | inl x =>
    rw [e] at z2 hch
    have hm := z2.1 x.1 x.2 rfl
    rw [m_bad (X := X) (d := d + 2) (MF_ne hm), cI_I, if_pos rfl]
    refine ⟨_, rfl, s2, fun f p z => ?_, fun k' l z => ?_⟩
    · have := hch.1 _ z
      cases this
      exact hm
    · have := (hch.2 _ _ z).1
      cases this
  | inr q =>
    have eq0 := e
    rw [e] at z2 hch
    have hm := z2.2 q rfl
    have hS : sf (Pq 35 84 85 R) M (puI N2 85 R v2) := s2
    have hcc : (puI N2 85 R v2).2.1 59 35 = (R : Int) := by
      rw [puI_ne (by omega), (f2.2 59 35 rfl).1, puI_ne (by omega), (f1.2 59 35 rfl).1]
      exact hc
    rw [m_good (X := X) (d := d + 2) hm.2.1, cI_I, if_neg (by decide), hcc, wr_succ (by omega)]
    have sE : sf (Pq 35 84 85 R) M (puI (puI N2 85 R v2) 59 35 ((R + 1 : Nat) : Int)) := hS.pu (decide_eq_true (by omega)) _
    have sG : sf (Pc 59 35) (puI N2 85 R v2) (puI (puI N2 85 R v2) 59 35 ((R + 1 : Nat) : Int)) := sf.rf.pu rfl _
    refine ⟨_, rfl, sE, fun f p z => ?_, fun k' l z => ?_⟩
    · have := hch.1 _ z
      cases this
    · obtain ⟨c1, c2, c3⟩ := hch.2 _ _ z
      have c9 : q = k' := Sum.inr.inj c1
      subst c9
      have u2 := w2 _ eq0
      obtain ⟨q1, g1, h1⟩ := nx_r eq0
      have u1 := w1 _ g1
      rw [show [60, 999].length = 2 from rfl] at c2 c3
      have t1 : v1 = (l.getD 0 0 : Int) := by rw [c3 0 (by omega), u1, show q1 - 1 = k + 0 by omega]
      have t2 : v2 = (l.getD 1 0 : Int) := by rw [c3 1 (by omega), u2, show q - 1 = k + 1 by omega]
      refine ⟨MG_sf hm sG (fun _ => rfl) (r8 (by decide)) rfl rfl, puI_eq _ _ _ _, ?_, ?_⟩
      · rw [puI_ne (by omega), puI_ne (by omega), (f2.2 84 R rfl).1, puI_eq]; exact t1
      · rw [puI_ne (by omega), puI_eq]; exact t2
theorem m_tale (hz : MG b n k M) {R : Nat} (hc : M.2.1 59 36 = (R : Int)) (hR : R < 8) (Kt : rM → Option rO) : ∃ M', cI (fn X (d + 3) 227 [rv 59, iv 0, iv 1023] M) (fun x4 M3 => gd (0 ≤ M.2.1 59 36 ∧ M.2.1 59 36 < 8) (cI (fn X (d + 3) 224 [rv 59] (puI M3 86 ((M.2.1 59 36).toNat) x4)) (fun x6 M5 => if x6 = 0 then Kt M5 else Kt (puI M5 59 36 (wr ((M5.2.1 59 36) + 1)))))) = Kt M' ∧ sf (Pq 36 86 86 R) M M' ∧ (∀ f p, pNums (tks b n) [1023] k = .inl (f, p) → MF b n f p M') ∧ ∀ k' l, pNums (tks b n) [1023] k = .inr (k', l) → MG b n k' M' ∧ M'.2.1 59 36 = ((R + 1 : Nat) : Int) ∧ M'.2.1 86 R = (l.getD 0 0 : Int) := by
  have z0 : Mz b n (.inr k) M := Mz_r hz
  obtain ⟨N1, v1, e1, f1, y1, w1⟩ := m_num (X := X) (d := d) 0 1023 z0
  have s1 : sf (Pq 36 86 86 R) M (puI N1 86 R v1) := (f1.mo Pq_6).pu (decide_eq_true (by omega)) _
  have z1 := Mz_pu y1 (a := 86) (by omega) R v1
  have hch := pn_ch (t := tks b n) [1023] k
  have hY : chn (tks b n) [1023] (.inr k) = (nx (tks b n) 0 1023 (.inr k)) := rfl
  rw [hY] at hch
  rw [hc, Int.toNat_natCast, e1, cI_I, gdx (by omega) (by omega)]
  cases e : (nx (tks b n) 0 1023 (.inr k)) with
  | inl x =>
    rw [e] at z1 hch
    have hm := z1.1 x.1 x.2 rfl
    rw [m_bad (X := X) (d := d + 2) (MF_ne hm), cI_I, if_pos rfl]
    refine ⟨_, rfl, s1, fun f p z => ?_, fun k' l z => ?_⟩
    · have := hch.1 _ z
      cases this
      exact hm
    · have := (hch.2 _ _ z).1
      cases this
  | inr q =>
    have eq0 := e
    rw [e] at z1 hch
    have hm := z1.2 q rfl
    have hS : sf (Pq 36 86 86 R) M (puI N1 86 R v1) := s1
    have hcc : (puI N1 86 R v1).2.1 59 36 = (R : Int) := by
      rw [puI_ne (by omega), (f1.2 59 36 rfl).1]
      exact hc
    rw [m_good (X := X) (d := d + 2) hm.2.1, cI_I, if_neg (by decide), hcc, wr_succ (by omega)]
    have sE : sf (Pq 36 86 86 R) M (puI (puI N1 86 R v1) 59 36 ((R + 1 : Nat) : Int)) := hS.pu (decide_eq_true (by omega)) _
    have sG : sf (Pc 59 36) (puI N1 86 R v1) (puI (puI N1 86 R v1) 59 36 ((R + 1 : Nat) : Int)) := sf.rf.pu rfl _
    refine ⟨_, rfl, sE, fun f p z => ?_, fun k' l z => ?_⟩
    · have := hch.1 _ z
      cases this
    · obtain ⟨c1, c2, c3⟩ := hch.2 _ _ z
      have c9 : q = k' := Sum.inr.inj c1
      subst c9
      have u1 := w1 _ eq0
      rw [show [1023].length = 1 from rfl] at c2 c3
      have t1 : v1 = (l.getD 0 0 : Int) := by rw [c3 0 (by omega), u1, show q - 1 = k + 0 by omega]
      refine ⟨MG_sf hm sG (fun _ => rfl) (r8 (by decide)) rfl rfl, puI_eq _ _ _ _, ?_⟩
      · rw [puI_ne (by omega), puI_eq]; exact t1
end C89d

/-! ===== the class reads a row of a table (printed by wip/whole/gen89b.py) ===== -/
section C89b
variable {X : Nat × (Nat → Int32)} {d : Nat} {b : Nat → Nat} {n : Nat} {M M' : rM}
def Pt (T A : Nat) (k j : Nat) : Bool := P9 k j || (k == T && j == 3) || k == A
def Po (a : Nat) (k _j : Nat) : Bool := k == a
theorem Pt_9 {T A : Nat} : ∀ k j, Pt T A k j = false → P9 k j = false := fun k j h => by
  unfold Pt at h
  rw [Bool.or_eq_false_iff, Bool.or_eq_false_iff] at h
  exact h.1.1
theorem CGd_sf {Q : Nat → Nat → Bool} {k : Nat} {r : List Int} (h : CGd b n k r M) (f : sf Q M M') (h1 : ∀ j, Q 1 j = false) (h2 : ∀ j, Q 30 j = false) (h3 : Q 25 3 = false) (h4 : ∀ j, Q 26 j = false) (h5 : Q 29 2 = false) (h6 : Q 29 3 = false) : CGd b n k r M' :=
  ⟨CT_sf h.1 f h1 h2, ⟨by rw [(f.2 25 3 h3).1]; exact h.2.1.1, fun i hi => by rw [(f.2 26 i (h4 i)).1]; exact h.2.1.2 i hi⟩, by rw [(f.2 29 2 h5).1]; exact h.2.2.1, by rw [(f.2 29 3 h6).1]; exact h.2.2.2⟩
theorem CF_sf {Q : Nat → Nat → Bool} {k g : Nat} (h : CF b n g k M) (f : sf Q M M') (h1 : ∀ j, Q 1 j = false) (h2 : ∀ j, Q 30 j = false) (h3 : Q 25 3 = false) (h5 : Q 29 2 = false) (h6 : Q 29 3 = false) : CF b n g k M' := by
  obtain ⟨a1, a2, a3, a4, z, a5, a6⟩ := h
  exact ⟨CT_sf a1 f h1 h2, by rw [(f.2 29 2 h5).1]; exact a2, by rw [(f.2 29 3 h6).1]; exact a3, a4, z, by rw [(f.2 25 3 h3).1]; exact a5, a6⟩
def Tb (T A w cap cnt : Nat) (f : Nat → Nat → Nat) (M : rM) : Prop := M.2.1 T 3 = (cnt : Int) ∧ M.2.1 T 2 = (cap : Int) ∧ ∀ c j, c < cnt → j < w → M.2.1 A (w * c + j) = (f c j : Int)
theorem Tb_sf {T A w cap cnt : Nat} {f : Nat → Nat → Nat} {Q : Nat → Nat → Bool} (h : Tb T A w cap cnt f M) (g : sf Q M M') (h3 : Q T 3 = false) (h2 : Q T 2 = false) (h4 : ∀ j, Q A j = false) : Tb T A w cap cnt f M' :=
  ⟨by rw [(g.2 T 3 h3).1]; exact h.1, by rw [(g.2 T 2 h2).1]; exact h.2.1, fun c j hc hj => by rw [(g.2 A _ (h4 _)).1]; exact h.2.2 c j hc hj⟩
theorem rowF17 {R : Nat} (hR : R < 6) {f p m : Nat} (h : CF b n f p M) (h3 : M.2.1 17 3 = (R : Int)) (h2 : M.2.1 17 2 = 6) (l2 : Int) : ∃ M', kb X (d + 10) 18 (m + 1) 22 [some (rv 29), some (rv 17), some (iv l2)] [] M = oV M' ∧ sf (Pt 17 18) M M' ∧ CF b n f p M' := by
  have hs : sf (Po 17) M (puI M 17 3 ((R + 1 : Nat) : Int)) := sf.rf.pu rfl _
  have hs2 : sf (Pt 17 18) M (puI M 17 3 ((R + 1 : Nat) : Int)) := sf.rf.pu rfl _
  refine ⟨puI M 17 3 ((R + 1 : Nat) : Int), ?_, hs2, CF_sf h hs (fun _ => rfl) (fun _ => rfl) rfl rfl rfl⟩
  rw [q_18_29_17_at22, q_113_17 (d := d + 9), cI_I]
  have e1 : fn X (d + 10) 121 [rv 17] M = oV (puI M 17 3 ((R + 1 : Nat) : Int)) := by
    rw [q_121_17, h3, h2, if_pos (by omega), wr_succ (by omega)]
  rw [e1, cV_V, if_neg (CF_ne h)]
  by_cases z : l2 < 5
  · rw [if_pos z]
  · rw [if_neg z]
theorem rowL17 {r : List Int} (hr : r.length ≤ 700) {R : Nat} (hR : R < 6) : ∀ (hs : List Nat) (j k m : Nat) (M : rM), j + hs.length = 5 → (∀ i, i < hs.length → ((sa_lim.getD 0 []).getD (j + i) 0).toInt = (hs.getD i 0 : Int)) → CGd b n k r M → M.2.1 17 3 = (R : Int) → M.2.1 17 2 = 6 → hs.length < m → ∃ M', kb X (d + 10) 18 m 22 [some (rv 29), some (rv 17), some (iv (j : Int))] [] M = oV M' ∧ sf (Pt 17 18) M M' ∧ (∀ f p, pNums (tks b n) hs k = .inl (f, p) → CF b n f p M') ∧ (∀ k' l, pNums (tks b n) hs k = .inr (k', l) → CGd b n k' r M' ∧ M'.2.1 17 3 = ((R + 1 : Nat) : Int) ∧ (∀ i, i < 5 * R + j → M'.2.1 18 i = M.2.1 18 i) ∧ ∀ i, i < hs.length → M'.2.1 18 (5 * R + j + i) = (l.getD i 0 : Int))
  | [], j, k, m, M, hj, hlim, hg, h3, h2, hm => by
    obtain ⟨m', rfl⟩ : ∃ m', m = m' + 1 := ⟨m - 1, by omega⟩
    rw [List.length_nil] at hj
    have hs : sf (Po 17) M (puI M 17 3 ((R + 1 : Nat) : Int)) := sf.rf.pu rfl _
    have hs2 : sf (Pt 17 18) M (puI M 17 3 ((R + 1 : Nat) : Int)) := sf.rf.pu rfl _
    refine ⟨puI M 17 3 ((R + 1 : Nat) : Int), ?_, hs2, fun f p z => (by cases z), fun k' l z => ?_⟩
    · rw [q_18_29_17_at22, q_113_17 (d := d + 9), cI_I, if_neg (by omega), q_121_17, h3, h2, if_pos (by omega), wr_succ (by omega), cV_V]
    · cases z
      exact ⟨CGd_sf hg hs (fun _ => rfl) (fun _ => rfl) rfl (fun _ => rfl) rfl rfl, puI_eq _ _ _ _, fun i _ => puI_ne (by omega), fun i hi => (by cases hi)⟩
  | a :: hs, j, k, m, M, hj, hlim, hg, h3, h2, hm => by
    obtain ⟨m', rfl⟩ : ∃ m', m = m' + 1 := ⟨m - 1, by omega⟩
    rw [List.length_cons] at hj hm
    have hl0 : ((sa_lim.getD 0 []).getD j 0).toInt = (a : Int) := hlim 0 (by rw [List.length_cons]; omega)
    obtain ⟨M1, a1, a2, a3⟩ := c_22 (X := X) (d := d + 1) hg hr 0 (a : Int)
    have e3 : M1.2.1 17 3 = (R : Int) := by rw [(a3.2 17 3 rfl).1]; exact h3
    have e2 : M1.2.1 17 2 = 6 := by rw [(a3.2 17 2 rfl).1]; exact h2
    have ix : wr (wr ((R : Int) * 5) + (j : Int)) = ((5 * R + j : Nat) : Int) := by
      rw [wri (x := (R : Int) * 5) (by omega) (by omega), wri (by omega) (by omega)]
      omega
    have a9 : sf (Pt 17 18) M M1 := a3.mo Pt_9
    rw [q_18_29_17_at22, q_113_17 (d := d + 9), cI_I, if_pos (by omega), if_pos hg.2.2.1, q_114_17, gdx (by omega) (by omega), Int.toNat_natCast, hl0, cI_I, a1, cI_I, q_120_17, e3, e2, if_pos (by omega), ix, gdx (by omega) (by omega), Int.toNat_natCast, cV_V, wr_succ (by omega)]
    unfold pNums
    cases e : pNum (tks b n) 0 (a : Int) k with
    | inl x =>
      rw [e] at a2
      dsimp only at a2 ⊢
      have hs1 : sf (Po 18) M1 (puI M1 18 (5 * R + j) 0) := sf.rf.pu rfl _
      have hs2 : sf (Pt 17 18) M1 (puI M1 18 (5 * R + j) 0) := sf.rf.pu (by first | rfl | (unfold Pt; rw [beq_self_eq_true, Bool.or_true])) _
      obtain ⟨m'', rfl⟩ : ∃ m'', m' = m'' + 1 := ⟨m' - 1, by omega⟩
      obtain ⟨M3, c1, c2, c3⟩ := rowF17 (X := X) (d := d) (m := m'') hR (CF_sf a2 hs1 (fun _ => rfl) (fun _ => rfl) rfl rfl rfl) (by rw [puI_ne (by omega)]; exact e3) (by rw [puI_ne (by omega)]; exact e2) ((j + 1 : Nat) : Int)
      refine ⟨M3, c1, a9.tr (hs2.tr c2), fun f p z => ?_, fun k' l z => (by cases z)⟩
      cases z
      exact c3
    | inr v =>
      rw [e] at a2
      dsimp only at a2 ⊢
      have hs1 : sf (Po 18) M1 (puI M1 18 (5 * R + j) (v : Int)) := sf.rf.pu rfl _
      have hs2 : sf (Pt 17 18) M1 (puI M1 18 (5 * R + j) (v : Int)) := sf.rf.pu (by first | rfl | (unfold Pt; rw [beq_self_eq_true, Bool.or_true])) _
      obtain ⟨M3, c1, c2, c3, c4⟩ := rowL17 hr hR hs (j + 1) (k + 1) m' (puI M1 18 (5 * R + j) (v : Int)) (by omega) (fun i hi => by
        have := hlim (i + 1) (by rw [List.length_cons]; omega)
        rw [List.getD_cons_succ, show j + (i + 1) = j + 1 + i by omega] at this
        exact this) (CGd_sf a2 hs1 (fun _ => rfl) (fun _ => rfl) rfl (fun _ => rfl) rfl rfl) (by rw [puI_ne (by omega)]; exact e3) (by rw [puI_ne (by omega)]; exact e2) (by omega)
      refine ⟨M3, c1, a9.tr (hs2.tr c2), fun f p z => ?_, fun k' l z => ?_⟩
      · cases e5 : pNums (tks b n) hs (k + 1) with
        | inl y =>
          rw [e5] at z
          cases z
          exact c3 _ _ e5
        | inr y =>
          rw [e5] at z
          cases z
      · cases e5 : pNums (tks b n) hs (k + 1) with
        | inl y =>
          rw [e5] at z
          cases z
        | inr y =>
          obtain ⟨k2, l2⟩ := y
          rw [e5] at z
          cases z
          obtain ⟨g1, g2, g3, g4⟩ := c4 _ _ e5
          refine ⟨g1, g2, fun i hi => ?_, fun i hi => ?_⟩
          · rw [g3 i (by omega), puI_nj (by omega), (a3.2 18 i rfl).1]
          · cases i with
            | zero =>
              show M3.2.1 18 (5 * R + j) = (v : Int)
              rw [g3 _ (by omega)]
              exact puI_eq _ _ _ _
            | succ i =>
              rw [List.length_cons] at hi
              have := g4 i (by omega)
              rw [List.getD_cons_succ, show 5 * R + j + (i + 1) = 5 * R + (j + 1) + i by omega]
              exact this
/-- a row of the table 17 -/
theorem c_18_17 {k : Nat} {r : List Int} (hr : r.length ≤ 700) {R : Nat} {g : Nat → Nat → Nat} (hg : CGd b n k r M) (ht : Tb 17 18 5 6 R g M) (hR : R ≤ 6) : ∃ M', fn X (d + 11) 18 [rv 29, rv 17] M = oV M' ∧ sf (Pt 17 18) M M' ∧ (R = 6 → CF b n 2 k M') ∧ (R ≠ 6 → (∀ f p, pNums (tks b n) [60, 63, 9, 99, 9] (k + 1) = .inl (f, p) → CF b n f p M') ∧ ∀ k' l, pNums (tks b n) [60, 63, 9, 99, 9] (k + 1) = .inr (k', l) → CGd b n k' r M' ∧ Tb 17 18 5 6 (R + 1) (rw1 g R l) M') := by
  have h2 : M.2.1 17 2 = 6 := ht.2.1
  rw [q_18_29_17, q_115_17, ht.1, h2]
  by_cases e : R = 6
  · obtain ⟨M1, a1, a2, a3⟩ := c_ref (X := X) (d := d + 8) hg hr (f := 2) (by omega)
    replace a1 : fn X (d + 10) 17 [rv 29, iv 2] M = oV M1 := a1
    rw [if_neg (by omega), cI_I, if_neg (by decide), a1, cV_V]
    exact ⟨M1, rfl, a3.mo Pt_9, fun _ => a2, fun z => absurd e z⟩
  · obtain ⟨M1, a1, a2, a3⟩ := c_go (X := X) (d := d + 2) hg
    obtain ⟨M2, b1, b2, b3, b4⟩ := rowL17 (X := X) (d := d) hr (show R < 6 by omega) [60, 63, 9, 99, 9] 0 (k + 1) FU M1 rfl (by decide +kernel) a2 (by rw [(a3.2 17 3 rfl).1]; exact ht.1) (by rw [(a3.2 17 2 rfl).1]; exact h2) (by have := FU_lt (k := 10) (by omega); show 5 < FU; omega)
    replace b1 : kb X (d + 10) 18 FU 22 [some (rv 29), some (rv 17), some (iv 0)] [] M1 = oV M2 := b1
    rw [if_pos (by omega), cI_I, if_pos rfl, a1, cV_V, b1]
    refine ⟨M2, rfl, (a3.mo Pt_9).tr b2, fun z => absurd z e, fun _ => ⟨b3, fun k' l z => ?_⟩⟩
    obtain ⟨g1, g2, g3, g4⟩ := b4 k' l z
    refine ⟨g1, g2, ?_, fun c j hc hj => ?_⟩
    · rw [(b2.2 17 2 rfl).1, (a3.2 17 2 rfl).1]
      exact h2
    · unfold rw1
      by_cases ec : c = R
      · rw [if_pos ec]
        have := g4 j hj
        rw [show 5 * c + j = 5 * R + 0 + j by omega]
        exact this
      · rw [if_neg ec, g3 _ (by omega), (a3.2 18 _ rfl).1]
        exact ht.2.2 c j (by omega) hj
theorem rowF19 {R : Nat} (hR : R < 8) {f p m : Nat} (h : CF b n f p M) (h3 : M.2.1 19 3 = (R : Int)) (h2 : M.2.1 19 2 = 8) (l2 : Int) : ∃ M', kb X (d + 10) 18 (m + 1) 22 [some (rv 29), some (rv 19), some (iv l2)] [] M = oV M' ∧ sf (Pt 19 20) M M' ∧ CF b n f p M' := by
  have hs : sf (Po 19) M (puI M 19 3 ((R + 1 : Nat) : Int)) := sf.rf.pu rfl _
  have hs2 : sf (Pt 19 20) M (puI M 19 3 ((R + 1 : Nat) : Int)) := sf.rf.pu rfl _
  refine ⟨puI M 19 3 ((R + 1 : Nat) : Int), ?_, hs2, CF_sf h hs (fun _ => rfl) (fun _ => rfl) rfl rfl rfl⟩
  rw [q_18_29_19_at22, q_113_19 (d := d + 9), cI_I]
  have e1 : fn X (d + 10) 121 [rv 19] M = oV (puI M 19 3 ((R + 1 : Nat) : Int)) := by
    rw [q_121_19, h3, h2, if_pos (by omega), wr_succ (by omega)]
  rw [e1, cV_V, if_neg (CF_ne h)]
  by_cases z : l2 < 6
  · rw [if_pos z]
  · rw [if_neg z]
theorem rowL19 {r : List Int} (hr : r.length ≤ 700) {R : Nat} (hR : R < 8) : ∀ (hs : List Nat) (j k m : Nat) (M : rM), j + hs.length = 6 → (∀ i, i < hs.length → ((sa_lim.getD 1 []).getD (j + i) 0).toInt = (hs.getD i 0 : Int)) → CGd b n k r M → M.2.1 19 3 = (R : Int) → M.2.1 19 2 = 8 → hs.length < m → ∃ M', kb X (d + 10) 18 m 22 [some (rv 29), some (rv 19), some (iv (j : Int))] [] M = oV M' ∧ sf (Pt 19 20) M M' ∧ (∀ f p, pNums (tks b n) hs k = .inl (f, p) → CF b n f p M') ∧ (∀ k' l, pNums (tks b n) hs k = .inr (k', l) → CGd b n k' r M' ∧ M'.2.1 19 3 = ((R + 1 : Nat) : Int) ∧ (∀ i, i < 6 * R + j → M'.2.1 20 i = M.2.1 20 i) ∧ ∀ i, i < hs.length → M'.2.1 20 (6 * R + j + i) = (l.getD i 0 : Int))
  | [], j, k, m, M, hj, hlim, hg, h3, h2, hm => by
    obtain ⟨m', rfl⟩ : ∃ m', m = m' + 1 := ⟨m - 1, by omega⟩
    rw [List.length_nil] at hj
    have hs : sf (Po 19) M (puI M 19 3 ((R + 1 : Nat) : Int)) := sf.rf.pu rfl _
    have hs2 : sf (Pt 19 20) M (puI M 19 3 ((R + 1 : Nat) : Int)) := sf.rf.pu rfl _
    refine ⟨puI M 19 3 ((R + 1 : Nat) : Int), ?_, hs2, fun f p z => (by cases z), fun k' l z => ?_⟩
    · rw [q_18_29_19_at22, q_113_19 (d := d + 9), cI_I, if_neg (by omega), q_121_19, h3, h2, if_pos (by omega), wr_succ (by omega), cV_V]
    · cases z
      exact ⟨CGd_sf hg hs (fun _ => rfl) (fun _ => rfl) rfl (fun _ => rfl) rfl rfl, puI_eq _ _ _ _, fun i _ => puI_ne (by omega), fun i hi => (by cases hi)⟩
  | a :: hs, j, k, m, M, hj, hlim, hg, h3, h2, hm => by
    obtain ⟨m', rfl⟩ : ∃ m', m = m' + 1 := ⟨m - 1, by omega⟩
    rw [List.length_cons] at hj hm
    have hl0 : ((sa_lim.getD 1 []).getD j 0).toInt = (a : Int) := hlim 0 (by rw [List.length_cons]; omega)
    obtain ⟨M1, a1, a2, a3⟩ := c_22 (X := X) (d := d + 1) hg hr 0 (a : Int)
    have e3 : M1.2.1 19 3 = (R : Int) := by rw [(a3.2 19 3 rfl).1]; exact h3
    have e2 : M1.2.1 19 2 = 8 := by rw [(a3.2 19 2 rfl).1]; exact h2
    have ix : wr (wr ((R : Int) * 6) + (j : Int)) = ((6 * R + j : Nat) : Int) := by
      rw [wri (x := (R : Int) * 6) (by omega) (by omega), wri (by omega) (by omega)]
      omega
    have a9 : sf (Pt 19 20) M M1 := a3.mo Pt_9
    rw [q_18_29_19_at22, q_113_19 (d := d + 9), cI_I, if_pos (by omega), if_pos hg.2.2.1, q_114_19, gdx (by omega) (by omega), Int.toNat_natCast, hl0, cI_I, a1, cI_I, q_120_19, e3, e2, if_pos (by omega), ix, gdx (by omega) (by omega), Int.toNat_natCast, cV_V, wr_succ (by omega)]
    unfold pNums
    cases e : pNum (tks b n) 0 (a : Int) k with
    | inl x =>
      rw [e] at a2
      dsimp only at a2 ⊢
      have hs1 : sf (Po 20) M1 (puI M1 20 (6 * R + j) 0) := sf.rf.pu rfl _
      have hs2 : sf (Pt 19 20) M1 (puI M1 20 (6 * R + j) 0) := sf.rf.pu (by first | rfl | (unfold Pt; rw [beq_self_eq_true, Bool.or_true])) _
      obtain ⟨m'', rfl⟩ : ∃ m'', m' = m'' + 1 := ⟨m' - 1, by omega⟩
      obtain ⟨M3, c1, c2, c3⟩ := rowF19 (X := X) (d := d) (m := m'') hR (CF_sf a2 hs1 (fun _ => rfl) (fun _ => rfl) rfl rfl rfl) (by rw [puI_ne (by omega)]; exact e3) (by rw [puI_ne (by omega)]; exact e2) ((j + 1 : Nat) : Int)
      refine ⟨M3, c1, a9.tr (hs2.tr c2), fun f p z => ?_, fun k' l z => (by cases z)⟩
      cases z
      exact c3
    | inr v =>
      rw [e] at a2
      dsimp only at a2 ⊢
      have hs1 : sf (Po 20) M1 (puI M1 20 (6 * R + j) (v : Int)) := sf.rf.pu rfl _
      have hs2 : sf (Pt 19 20) M1 (puI M1 20 (6 * R + j) (v : Int)) := sf.rf.pu (by first | rfl | (unfold Pt; rw [beq_self_eq_true, Bool.or_true])) _
      obtain ⟨M3, c1, c2, c3, c4⟩ := rowL19 hr hR hs (j + 1) (k + 1) m' (puI M1 20 (6 * R + j) (v : Int)) (by omega) (fun i hi => by
        have := hlim (i + 1) (by rw [List.length_cons]; omega)
        rw [List.getD_cons_succ, show j + (i + 1) = j + 1 + i by omega] at this
        exact this) (CGd_sf a2 hs1 (fun _ => rfl) (fun _ => rfl) rfl (fun _ => rfl) rfl rfl) (by rw [puI_ne (by omega)]; exact e3) (by rw [puI_ne (by omega)]; exact e2) (by omega)
      refine ⟨M3, c1, a9.tr (hs2.tr c2), fun f p z => ?_, fun k' l z => ?_⟩
      · cases e5 : pNums (tks b n) hs (k + 1) with
        | inl y =>
          rw [e5] at z
          cases z
          exact c3 _ _ e5
        | inr y =>
          rw [e5] at z
          cases z
      · cases e5 : pNums (tks b n) hs (k + 1) with
        | inl y =>
          rw [e5] at z
          cases z
        | inr y =>
          obtain ⟨k2, l2⟩ := y
          rw [e5] at z
          cases z
          obtain ⟨g1, g2, g3, g4⟩ := c4 _ _ e5
          refine ⟨g1, g2, fun i hi => ?_, fun i hi => ?_⟩
          · rw [g3 i (by omega), puI_nj (by omega), (a3.2 20 i rfl).1]
          · cases i with
            | zero =>
              show M3.2.1 20 (6 * R + j) = (v : Int)
              rw [g3 _ (by omega)]
              exact puI_eq _ _ _ _
            | succ i =>
              rw [List.length_cons] at hi
              have := g4 i (by omega)
              rw [List.getD_cons_succ, show 6 * R + j + (i + 1) = 6 * R + (j + 1) + i by omega]
              exact this
/-- a row of the table 19 -/
theorem c_18_19 {k : Nat} {r : List Int} (hr : r.length ≤ 700) {R : Nat} {g : Nat → Nat → Nat} (hg : CGd b n k r M) (ht : Tb 19 20 6 8 R g M) (hR : R ≤ 8) : ∃ M', fn X (d + 11) 18 [rv 29, rv 19] M = oV M' ∧ sf (Pt 19 20) M M' ∧ (R = 8 → CF b n 2 k M') ∧ (R ≠ 8 → (∀ f p, pNums (tks b n) [63, 63, 63, 63, 20, 20] (k + 1) = .inl (f, p) → CF b n f p M') ∧ ∀ k' l, pNums (tks b n) [63, 63, 63, 63, 20, 20] (k + 1) = .inr (k', l) → CGd b n k' r M' ∧ Tb 19 20 6 8 (R + 1) (rw1 g R l) M') := by
  have h2 : M.2.1 19 2 = 8 := ht.2.1
  rw [q_18_29_19, q_115_19, ht.1, h2]
  by_cases e : R = 8
  · obtain ⟨M1, a1, a2, a3⟩ := c_ref (X := X) (d := d + 8) hg hr (f := 2) (by omega)
    replace a1 : fn X (d + 10) 17 [rv 29, iv 2] M = oV M1 := a1
    rw [if_neg (by omega), cI_I, if_neg (by decide), a1, cV_V]
    exact ⟨M1, rfl, a3.mo Pt_9, fun _ => a2, fun z => absurd e z⟩
  · obtain ⟨M1, a1, a2, a3⟩ := c_go (X := X) (d := d + 2) hg
    obtain ⟨M2, b1, b2, b3, b4⟩ := rowL19 (X := X) (d := d) hr (show R < 8 by omega) [63, 63, 63, 63, 20, 20] 0 (k + 1) FU M1 rfl (by decide +kernel) a2 (by rw [(a3.2 19 3 rfl).1]; exact ht.1) (by rw [(a3.2 19 2 rfl).1]; exact h2) (by have := FU_lt (k := 10) (by omega); show 6 < FU; omega)
    replace b1 : kb X (d + 10) 18 FU 22 [some (rv 29), some (rv 19), some (iv 0)] [] M1 = oV M2 := b1
    rw [if_pos (by omega), cI_I, if_pos rfl, a1, cV_V, b1]
    refine ⟨M2, rfl, (a3.mo Pt_9).tr b2, fun z => absurd z e, fun _ => ⟨b3, fun k' l z => ?_⟩⟩
    obtain ⟨g1, g2, g3, g4⟩ := b4 k' l z
    refine ⟨g1, g2, ?_, fun c j hc hj => ?_⟩
    · rw [(b2.2 19 2 rfl).1, (a3.2 19 2 rfl).1]
      exact h2
    · unfold rw1
      by_cases ec : c = R
      · rw [if_pos ec]
        have := g4 j hj
        rw [show 6 * c + j = 6 * R + 0 + j by omega]
        exact this
      · rw [if_neg ec, g3 _ (by omega), (a3.2 20 _ rfl).1]
        exact ht.2.2 c j (by omega) hj
theorem rowF21 {R : Nat} (hR : R < 6) {f p m : Nat} (h : CF b n f p M) (h3 : M.2.1 21 3 = (R : Int)) (h2 : M.2.1 21 2 = 6) (l2 : Int) : ∃ M', kb X (d + 10) 18 (m + 1) 22 [some (rv 29), some (rv 21), some (iv l2)] [] M = oV M' ∧ sf (Pt 21 22) M M' ∧ CF b n f p M' := by
  have hs : sf (Po 21) M (puI M 21 3 ((R + 1 : Nat) : Int)) := sf.rf.pu rfl _
  have hs2 : sf (Pt 21 22) M (puI M 21 3 ((R + 1 : Nat) : Int)) := sf.rf.pu rfl _
  refine ⟨puI M 21 3 ((R + 1 : Nat) : Int), ?_, hs2, CF_sf h hs (fun _ => rfl) (fun _ => rfl) rfl rfl rfl⟩
  rw [q_18_29_21_at22, q_113_21 (d := d + 9), cI_I]
  have e1 : fn X (d + 10) 121 [rv 21] M = oV (puI M 21 3 ((R + 1 : Nat) : Int)) := by
    rw [q_121_21, h3, h2, if_pos (by omega), wr_succ (by omega)]
  rw [e1, cV_V, if_neg (CF_ne h)]
  by_cases z : l2 < 2
  · rw [if_pos z]
  · rw [if_neg z]
theorem rowL21 {r : List Int} (hr : r.length ≤ 700) {R : Nat} (hR : R < 6) : ∀ (hs : List Nat) (j k m : Nat) (M : rM), j + hs.length = 2 → (∀ i, i < hs.length → ((sa_lim.getD 2 []).getD (j + i) 0).toInt = (hs.getD i 0 : Int)) → CGd b n k r M → M.2.1 21 3 = (R : Int) → M.2.1 21 2 = 6 → hs.length < m → ∃ M', kb X (d + 10) 18 m 22 [some (rv 29), some (rv 21), some (iv (j : Int))] [] M = oV M' ∧ sf (Pt 21 22) M M' ∧ (∀ f p, pNums (tks b n) hs k = .inl (f, p) → CF b n f p M') ∧ (∀ k' l, pNums (tks b n) hs k = .inr (k', l) → CGd b n k' r M' ∧ M'.2.1 21 3 = ((R + 1 : Nat) : Int) ∧ (∀ i, i < 2 * R + j → M'.2.1 22 i = M.2.1 22 i) ∧ ∀ i, i < hs.length → M'.2.1 22 (2 * R + j + i) = (l.getD i 0 : Int))
  | [], j, k, m, M, hj, hlim, hg, h3, h2, hm => by
    obtain ⟨m', rfl⟩ : ∃ m', m = m' + 1 := ⟨m - 1, by omega⟩
    rw [List.length_nil] at hj
    have hs : sf (Po 21) M (puI M 21 3 ((R + 1 : Nat) : Int)) := sf.rf.pu rfl _
    have hs2 : sf (Pt 21 22) M (puI M 21 3 ((R + 1 : Nat) : Int)) := sf.rf.pu rfl _
    refine ⟨puI M 21 3 ((R + 1 : Nat) : Int), ?_, hs2, fun f p z => (by cases z), fun k' l z => ?_⟩
    · rw [q_18_29_21_at22, q_113_21 (d := d + 9), cI_I, if_neg (by omega), q_121_21, h3, h2, if_pos (by omega), wr_succ (by omega), cV_V]
    · cases z
      exact ⟨CGd_sf hg hs (fun _ => rfl) (fun _ => rfl) rfl (fun _ => rfl) rfl rfl, puI_eq _ _ _ _, fun i _ => puI_ne (by omega), fun i hi => (by cases hi)⟩
  | a :: hs, j, k, m, M, hj, hlim, hg, h3, h2, hm => by
    obtain ⟨m', rfl⟩ : ∃ m', m = m' + 1 := ⟨m - 1, by omega⟩
    rw [List.length_cons] at hj hm
    have hl0 : ((sa_lim.getD 2 []).getD j 0).toInt = (a : Int) := hlim 0 (by rw [List.length_cons]; omega)
    obtain ⟨M1, a1, a2, a3⟩ := c_22 (X := X) (d := d + 1) hg hr 0 (a : Int)
    have e3 : M1.2.1 21 3 = (R : Int) := by rw [(a3.2 21 3 rfl).1]; exact h3
    have e2 : M1.2.1 21 2 = 6 := by rw [(a3.2 21 2 rfl).1]; exact h2
    have ix : wr (wr ((R : Int) * 2) + (j : Int)) = ((2 * R + j : Nat) : Int) := by
      rw [wri (x := (R : Int) * 2) (by omega) (by omega), wri (by omega) (by omega)]
      omega
    have a9 : sf (Pt 21 22) M M1 := a3.mo Pt_9
    rw [q_18_29_21_at22, q_113_21 (d := d + 9), cI_I, if_pos (by omega), if_pos hg.2.2.1, q_114_21, gdx (by omega) (by omega), Int.toNat_natCast, hl0, cI_I, a1, cI_I, q_120_21, e3, e2, if_pos (by omega), ix, gdx (by omega) (by omega), Int.toNat_natCast, cV_V, wr_succ (by omega)]
    unfold pNums
    cases e : pNum (tks b n) 0 (a : Int) k with
    | inl x =>
      rw [e] at a2
      dsimp only at a2 ⊢
      have hs1 : sf (Po 22) M1 (puI M1 22 (2 * R + j) 0) := sf.rf.pu rfl _
      have hs2 : sf (Pt 21 22) M1 (puI M1 22 (2 * R + j) 0) := sf.rf.pu (by first | rfl | (unfold Pt; rw [beq_self_eq_true, Bool.or_true])) _
      obtain ⟨m'', rfl⟩ : ∃ m'', m' = m'' + 1 := ⟨m' - 1, by omega⟩
      obtain ⟨M3, c1, c2, c3⟩ := rowF21 (X := X) (d := d) (m := m'') hR (CF_sf a2 hs1 (fun _ => rfl) (fun _ => rfl) rfl rfl rfl) (by rw [puI_ne (by omega)]; exact e3) (by rw [puI_ne (by omega)]; exact e2) ((j + 1 : Nat) : Int)
      refine ⟨M3, c1, a9.tr (hs2.tr c2), fun f p z => ?_, fun k' l z => (by cases z)⟩
      cases z
      exact c3
    | inr v =>
      rw [e] at a2
      dsimp only at a2 ⊢
      have hs1 : sf (Po 22) M1 (puI M1 22 (2 * R + j) (v : Int)) := sf.rf.pu rfl _
      have hs2 : sf (Pt 21 22) M1 (puI M1 22 (2 * R + j) (v : Int)) := sf.rf.pu (by first | rfl | (unfold Pt; rw [beq_self_eq_true, Bool.or_true])) _
      obtain ⟨M3, c1, c2, c3, c4⟩ := rowL21 hr hR hs (j + 1) (k + 1) m' (puI M1 22 (2 * R + j) (v : Int)) (by omega) (fun i hi => by
        have := hlim (i + 1) (by rw [List.length_cons]; omega)
        rw [List.getD_cons_succ, show j + (i + 1) = j + 1 + i by omega] at this
        exact this) (CGd_sf a2 hs1 (fun _ => rfl) (fun _ => rfl) rfl (fun _ => rfl) rfl rfl) (by rw [puI_ne (by omega)]; exact e3) (by rw [puI_ne (by omega)]; exact e2) (by omega)
      refine ⟨M3, c1, a9.tr (hs2.tr c2), fun f p z => ?_, fun k' l z => ?_⟩
      · cases e5 : pNums (tks b n) hs (k + 1) with
        | inl y =>
          rw [e5] at z
          cases z
          exact c3 _ _ e5
        | inr y =>
          rw [e5] at z
          cases z
      · cases e5 : pNums (tks b n) hs (k + 1) with
        | inl y =>
          rw [e5] at z
          cases z
        | inr y =>
          obtain ⟨k2, l2⟩ := y
          rw [e5] at z
          cases z
          obtain ⟨g1, g2, g3, g4⟩ := c4 _ _ e5
          refine ⟨g1, g2, fun i hi => ?_, fun i hi => ?_⟩
          · rw [g3 i (by omega), puI_nj (by omega), (a3.2 22 i rfl).1]
          · cases i with
            | zero =>
              show M3.2.1 22 (2 * R + j) = (v : Int)
              rw [g3 _ (by omega)]
              exact puI_eq _ _ _ _
            | succ i =>
              rw [List.length_cons] at hi
              have := g4 i (by omega)
              rw [List.getD_cons_succ, show 2 * R + j + (i + 1) = 2 * R + (j + 1) + i by omega]
              exact this
/-- a row of the table 21 -/
theorem c_18_21 {k : Nat} {r : List Int} (hr : r.length ≤ 700) {R : Nat} {g : Nat → Nat → Nat} (hg : CGd b n k r M) (ht : Tb 21 22 2 6 R g M) (hR : R ≤ 6) : ∃ M', fn X (d + 11) 18 [rv 29, rv 21] M = oV M' ∧ sf (Pt 21 22) M M' ∧ (R = 6 → CF b n 2 k M') ∧ (R ≠ 6 → (∀ f p, pNums (tks b n) [60, 999] (k + 1) = .inl (f, p) → CF b n f p M') ∧ ∀ k' l, pNums (tks b n) [60, 999] (k + 1) = .inr (k', l) → CGd b n k' r M' ∧ Tb 21 22 2 6 (R + 1) (rw1 g R l) M') := by
  have h2 : M.2.1 21 2 = 6 := ht.2.1
  rw [q_18_29_21, q_115_21, ht.1, h2]
  by_cases e : R = 6
  · obtain ⟨M1, a1, a2, a3⟩ := c_ref (X := X) (d := d + 8) hg hr (f := 2) (by omega)
    replace a1 : fn X (d + 10) 17 [rv 29, iv 2] M = oV M1 := a1
    rw [if_neg (by omega), cI_I, if_neg (by decide), a1, cV_V]
    exact ⟨M1, rfl, a3.mo Pt_9, fun _ => a2, fun z => absurd e z⟩
  · obtain ⟨M1, a1, a2, a3⟩ := c_go (X := X) (d := d + 2) hg
    obtain ⟨M2, b1, b2, b3, b4⟩ := rowL21 (X := X) (d := d) hr (show R < 6 by omega) [60, 999] 0 (k + 1) FU M1 rfl (by decide +kernel) a2 (by rw [(a3.2 21 3 rfl).1]; exact ht.1) (by rw [(a3.2 21 2 rfl).1]; exact h2) (by have := FU_lt (k := 10) (by omega); show 2 < FU; omega)
    replace b1 : kb X (d + 10) 18 FU 22 [some (rv 29), some (rv 21), some (iv 0)] [] M1 = oV M2 := b1
    rw [if_pos (by omega), cI_I, if_pos rfl, a1, cV_V, b1]
    refine ⟨M2, rfl, (a3.mo Pt_9).tr b2, fun z => absurd z e, fun _ => ⟨b3, fun k' l z => ?_⟩⟩
    obtain ⟨g1, g2, g3, g4⟩ := b4 k' l z
    refine ⟨g1, g2, ?_, fun c j hc hj => ?_⟩
    · rw [(b2.2 21 2 rfl).1, (a3.2 21 2 rfl).1]
      exact h2
    · unfold rw1
      by_cases ec : c = R
      · rw [if_pos ec]
        have := g4 j hj
        rw [show 2 * c + j = 2 * R + 0 + j by omega]
        exact this
      · rw [if_neg ec, g3 _ (by omega), (a3.2 22 _ rfl).1]
        exact ht.2.2 c j (by omega) hj
theorem rowF23 {R : Nat} (hR : R < 8) {f p m : Nat} (h : CF b n f p M) (h3 : M.2.1 23 3 = (R : Int)) (h2 : M.2.1 23 2 = 8) (l2 : Int) : ∃ M', kb X (d + 10) 18 (m + 1) 22 [some (rv 29), some (rv 23), some (iv l2)] [] M = oV M' ∧ sf (Pt 23 24) M M' ∧ CF b n f p M' := by
  have hs : sf (Po 23) M (puI M 23 3 ((R + 1 : Nat) : Int)) := sf.rf.pu rfl _
  have hs2 : sf (Pt 23 24) M (puI M 23 3 ((R + 1 : Nat) : Int)) := sf.rf.pu rfl _
  refine ⟨puI M 23 3 ((R + 1 : Nat) : Int), ?_, hs2, CF_sf h hs (fun _ => rfl) (fun _ => rfl) rfl rfl rfl⟩
  rw [q_18_29_23_at22, q_113_23 (d := d + 9), cI_I]
  have e1 : fn X (d + 10) 121 [rv 23] M = oV (puI M 23 3 ((R + 1 : Nat) : Int)) := by
    rw [q_121_23, h3, h2, if_pos (by omega), wr_succ (by omega)]
  rw [e1, cV_V, if_neg (CF_ne h)]
  by_cases z : l2 < 1
  · rw [if_pos z]
  · rw [if_neg z]
theorem rowL23 {r : List Int} (hr : r.length ≤ 700) {R : Nat} (hR : R < 8) : ∀ (hs : List Nat) (j k m : Nat) (M : rM), j + hs.length = 1 → (∀ i, i < hs.length → ((sa_lim.getD 3 []).getD (j + i) 0).toInt = (hs.getD i 0 : Int)) → CGd b n k r M → M.2.1 23 3 = (R : Int) → M.2.1 23 2 = 8 → hs.length < m → ∃ M', kb X (d + 10) 18 m 22 [some (rv 29), some (rv 23), some (iv (j : Int))] [] M = oV M' ∧ sf (Pt 23 24) M M' ∧ (∀ f p, pNums (tks b n) hs k = .inl (f, p) → CF b n f p M') ∧ (∀ k' l, pNums (tks b n) hs k = .inr (k', l) → CGd b n k' r M' ∧ M'.2.1 23 3 = ((R + 1 : Nat) : Int) ∧ (∀ i, i < 1 * R + j → M'.2.1 24 i = M.2.1 24 i) ∧ ∀ i, i < hs.length → M'.2.1 24 (1 * R + j + i) = (l.getD i 0 : Int))
  | [], j, k, m, M, hj, hlim, hg, h3, h2, hm => by
    obtain ⟨m', rfl⟩ : ∃ m', m = m' + 1 := ⟨m - 1, by omega⟩
    rw [List.length_nil] at hj
    have hs : sf (Po 23) M (puI M 23 3 ((R + 1 : Nat) : Int)) := sf.rf.pu rfl _
    have hs2 : sf (Pt 23 24) M (puI M 23 3 ((R + 1 : Nat) : Int)) := sf.rf.pu rfl _
    refine ⟨puI M 23 3 ((R + 1 : Nat) : Int), ?_, hs2, fun f p z => (by cases z), fun k' l z => ?_⟩
    · rw [q_18_29_23_at22, q_113_23 (d := d + 9), cI_I, if_neg (by omega), q_121_23, h3, h2, if_pos (by omega), wr_succ (by omega), cV_V]
    · cases z
      exact ⟨CGd_sf hg hs (fun _ => rfl) (fun _ => rfl) rfl (fun _ => rfl) rfl rfl, puI_eq _ _ _ _, fun i _ => puI_ne (by omega), fun i hi => (by cases hi)⟩
  | a :: hs, j, k, m, M, hj, hlim, hg, h3, h2, hm => by
    obtain ⟨m', rfl⟩ : ∃ m', m = m' + 1 := ⟨m - 1, by omega⟩
    rw [List.length_cons] at hj hm
    have hl0 : ((sa_lim.getD 3 []).getD j 0).toInt = (a : Int) := hlim 0 (by rw [List.length_cons]; omega)
    obtain ⟨M1, a1, a2, a3⟩ := c_22 (X := X) (d := d + 1) hg hr 0 (a : Int)
    have e3 : M1.2.1 23 3 = (R : Int) := by rw [(a3.2 23 3 rfl).1]; exact h3
    have e2 : M1.2.1 23 2 = 8 := by rw [(a3.2 23 2 rfl).1]; exact h2
    have ix : wr (wr ((R : Int) * 1) + (j : Int)) = ((1 * R + j : Nat) : Int) := by
      rw [wri (x := (R : Int) * 1) (by omega) (by omega), wri (by omega) (by omega)]
      omega
    have a9 : sf (Pt 23 24) M M1 := a3.mo Pt_9
    rw [q_18_29_23_at22, q_113_23 (d := d + 9), cI_I, if_pos (by omega), if_pos hg.2.2.1, q_114_23, gdx (by omega) (by omega), Int.toNat_natCast, hl0, cI_I, a1, cI_I, q_120_23, e3, e2, if_pos (by omega), ix, gdx (by omega) (by omega), Int.toNat_natCast, cV_V, wr_succ (by omega)]
    unfold pNums
    cases e : pNum (tks b n) 0 (a : Int) k with
    | inl x =>
      rw [e] at a2
      dsimp only at a2 ⊢
      have hs1 : sf (Po 24) M1 (puI M1 24 (1 * R + j) 0) := sf.rf.pu rfl _
      have hs2 : sf (Pt 23 24) M1 (puI M1 24 (1 * R + j) 0) := sf.rf.pu (by first | rfl | (unfold Pt; rw [beq_self_eq_true, Bool.or_true])) _
      obtain ⟨m'', rfl⟩ : ∃ m'', m' = m'' + 1 := ⟨m' - 1, by omega⟩
      obtain ⟨M3, c1, c2, c3⟩ := rowF23 (X := X) (d := d) (m := m'') hR (CF_sf a2 hs1 (fun _ => rfl) (fun _ => rfl) rfl rfl rfl) (by rw [puI_ne (by omega)]; exact e3) (by rw [puI_ne (by omega)]; exact e2) ((j + 1 : Nat) : Int)
      refine ⟨M3, c1, a9.tr (hs2.tr c2), fun f p z => ?_, fun k' l z => (by cases z)⟩
      cases z
      exact c3
    | inr v =>
      rw [e] at a2
      dsimp only at a2 ⊢
      have hs1 : sf (Po 24) M1 (puI M1 24 (1 * R + j) (v : Int)) := sf.rf.pu rfl _
      have hs2 : sf (Pt 23 24) M1 (puI M1 24 (1 * R + j) (v : Int)) := sf.rf.pu (by first | rfl | (unfold Pt; rw [beq_self_eq_true, Bool.or_true])) _
      obtain ⟨M3, c1, c2, c3, c4⟩ := rowL23 hr hR hs (j + 1) (k + 1) m' (puI M1 24 (1 * R + j) (v : Int)) (by omega) (fun i hi => by
        have := hlim (i + 1) (by rw [List.length_cons]; omega)
        rw [List.getD_cons_succ, show j + (i + 1) = j + 1 + i by omega] at this
        exact this) (CGd_sf a2 hs1 (fun _ => rfl) (fun _ => rfl) rfl (fun _ => rfl) rfl rfl) (by rw [puI_ne (by omega)]; exact e3) (by rw [puI_ne (by omega)]; exact e2) (by omega)
      refine ⟨M3, c1, a9.tr (hs2.tr c2), fun f p z => ?_, fun k' l z => ?_⟩
      · cases e5 : pNums (tks b n) hs (k + 1) with
        | inl y =>
          rw [e5] at z
          cases z
          exact c3 _ _ e5
        | inr y =>
          rw [e5] at z
          cases z
      · cases e5 : pNums (tks b n) hs (k + 1) with
        | inl y =>
          rw [e5] at z
          cases z
        | inr y =>
          obtain ⟨k2, l2⟩ := y
          rw [e5] at z
          cases z
          obtain ⟨g1, g2, g3, g4⟩ := c4 _ _ e5
          refine ⟨g1, g2, fun i hi => ?_, fun i hi => ?_⟩
          · rw [g3 i (by omega), puI_nj (by omega), (a3.2 24 i rfl).1]
          · cases i with
            | zero =>
              show M3.2.1 24 (1 * R + j) = (v : Int)
              rw [g3 _ (by omega)]
              exact puI_eq _ _ _ _
            | succ i =>
              rw [List.length_cons] at hi
              have := g4 i (by omega)
              rw [List.getD_cons_succ, show 1 * R + j + (i + 1) = 1 * R + (j + 1) + i by omega]
              exact this
/-- a row of the table 23 -/
theorem c_18_23 {k : Nat} {r : List Int} (hr : r.length ≤ 700) {R : Nat} {g : Nat → Nat → Nat} (hg : CGd b n k r M) (ht : Tb 23 24 1 8 R g M) (hR : R ≤ 8) : ∃ M', fn X (d + 11) 18 [rv 29, rv 23] M = oV M' ∧ sf (Pt 23 24) M M' ∧ (R = 8 → CF b n 2 k M') ∧ (R ≠ 8 → (∀ f p, pNums (tks b n) [1023] (k + 1) = .inl (f, p) → CF b n f p M') ∧ ∀ k' l, pNums (tks b n) [1023] (k + 1) = .inr (k', l) → CGd b n k' r M' ∧ Tb 23 24 1 8 (R + 1) (rw1 g R l) M') := by
  have h2 : M.2.1 23 2 = 8 := ht.2.1
  rw [q_18_29_23, q_115_23, ht.1, h2]
  by_cases e : R = 8
  · obtain ⟨M1, a1, a2, a3⟩ := c_ref (X := X) (d := d + 8) hg hr (f := 2) (by omega)
    replace a1 : fn X (d + 10) 17 [rv 29, iv 2] M = oV M1 := a1
    rw [if_neg (by omega), cI_I, if_neg (by decide), a1, cV_V]
    exact ⟨M1, rfl, a3.mo Pt_9, fun _ => a2, fun z => absurd e z⟩
  · obtain ⟨M1, a1, a2, a3⟩ := c_go (X := X) (d := d + 2) hg
    obtain ⟨M2, b1, b2, b3, b4⟩ := rowL23 (X := X) (d := d) hr (show R < 8 by omega) [1023] 0 (k + 1) FU M1 rfl (by decide +kernel) a2 (by rw [(a3.2 23 3 rfl).1]; exact ht.1) (by rw [(a3.2 23 2 rfl).1]; exact h2) (by have := FU_lt (k := 10) (by omega); show 1 < FU; omega)
    replace b1 : kb X (d + 10) 18 FU 22 [some (rv 29), some (rv 23), some (iv 0)] [] M1 = oV M2 := b1
    rw [if_pos (by omega), cI_I, if_pos rfl, a1, cV_V, b1]
    refine ⟨M2, rfl, (a3.mo Pt_9).tr b2, fun z => absurd z e, fun _ => ⟨b3, fun k' l z => ?_⟩⟩
    obtain ⟨g1, g2, g3, g4⟩ := b4 k' l z
    refine ⟨g1, g2, ?_, fun c j hc hj => ?_⟩
    · rw [(b2.2 23 2 rfl).1, (a3.2 23 2 rfl).1]
      exact h2
    · unfold rw1
      by_cases ec : c = R
      · rw [if_pos ec]
        have := g4 j hj
        rw [show 1 * c + j = 1 * R + 0 + j by omega]
        exact this
      · rw [if_neg ec, g3 _ (by omega), (a3.2 24 _ rfl).1]
        exact ht.2.2 c j (by omega) hj
end C89b

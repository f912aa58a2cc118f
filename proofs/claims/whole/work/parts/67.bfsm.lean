/-! ===== the search, on the model's side ===== -/
def PB (k j : Nat) : Bool := k == 93 || k == 94 || (decide (95 ≤ k) && decide (k ≤ 101)) || (k == 59 && ((decide (71 ≤ j) && decide (j ≤ 73)) || (decide (82 ≤ j) && decide (j ≤ 84))))
theorem eM_B : ∀ k j, eM k j = true → PB k j = false := by
  intro k j z
  unfold eM at z
  unfold PB
  simp only [Bool.or_eq_true, Bool.and_eq_true, beq_iff_eq, decide_eq_true_eq] at z
  simp only [Bool.or_eq_false_iff, Bool.and_eq_false_iff, beq_eq_false_iff_ne, decide_eq_false_iff_not]
  omega
theorem kM_B {M M' : rM} (f : sf PB M M') : kM M M' := kM.sf f (fun k j hk => by
  unfold PB
  simp only [Bool.or_eq_false_iff, Bool.and_eq_false_iff, beq_eq_false_iff_ne, decide_eq_false_iff_not]
  omega)
theorem PB_P : ∀ k j, PB k j = false → P9394 k j = false := by
  intro k j z
  unfold PB at z
  unfold P9394
  simp only [Bool.or_eq_false_iff] at z
  rw [z.1.1.1, z.1.1.2]
  rfl
theorem PB_t {k : Nat} (h1 : 95 ≤ k) (h2 : k ≤ 101) (j : Nat) : PB k j = true := by
  unfold PB
  simp [h1, h2]
/-- how a place was come to -/
def mre (Q : List QE) (i : Nat) (f y : Int) : Prop := (qa Q i).2.2 = [] ∨ ∃ k t : Nat, k < i ∧ t < 8 ∧ f = (pl (qa Q k) : Int) ∧ y = (t : Int) ∧ (qa Q i).2.2 = (qa Q k).2.2 ++ [t]
def MQu (Q : List QE) (M : rM) : Prop := M.2.1 59 71 = (Q.length : Int) ∧ (∀ i, i < Q.length → M.2.1 95 i = (pl (qa Q i) : Int) ∧ M.2.1 98 (pl (qa Q i)) = ((qa Q i).2.2.length : Int) ∧ mre Q i (M.2.1 96 (pl (qa Q i))) (M.2.1 97 (pl (qa Q i)))) ∧ ∀ b c, b ≤ 63 → c ≤ 60 → M.2.1 101 (61 * b + c) = b01 (hasQ Q b c)
theorem mre.ext {Q R : List QE} {i : Nat} {f y : Int} (h : mre Q i f y) (hi : i < Q.length) (e : ext Q R) : mre R i f y := by
  rcases h with h | ⟨k, t, h1, h2, h3, h4, h5⟩
  · exact Or.inl (by rw [e.2 i hi]; exact h)
  · exact Or.inr ⟨k, t, h1, h2, by rw [e.2 k (by omega)]; exact h3, h4, by rw [e.2 i hi, e.2 k (by omega)]; exact h5⟩
section C67
variable {X : Nat × (Nat → Int32)} {d n : Nat} {M M1 M2 M' : rM} {A A' : AS} {S : SK} {W V : WD} {cr wa h : Nat} {s : BS} {Q : List QE}
theorem MQu.fr (hq : MQu Q M) (e0 : M'.2.1 59 71 = M.2.1 59 71) (e : ∀ k, 95 ≤ k → k ≤ 101 → k ≠ 99 → k ≠ 100 → M'.2.1 k = M.2.1 k) : MQu Q M' := by
  unfold MQu
  rw [e0, e 95 (by omega) (by omega) (by omega) (by omega), e 96 (by omega) (by omega) (by omega) (by omega), e 97 (by omega) (by omega) (by omega) (by omega), e 98 (by omega) (by omega) (by omega) (by omega), e 101 (by omega) (by omega) (by omega) (by omega)]
  exact hq
theorem m_place (b c : Nat) (hb : b ≤ 63) (hc : c ≤ 60) : fn X (d + 1) 274 [iv (b : Int), iv (c : Int)] M = oI ((61 * b + c : Nat) : Int) M := by
  rw [q_274, wri (x := 61 * (b : Int)) (by omega) (by omega), wri (by omega) (by omega)]
  congr 1
/-- what 'comes' lays -/
theorem m_lay (hI : QI Q) (hq : MQu Q M) {b c : Nat} (hb : b ≤ 63) (hc : c ≤ 60) (hx : hasQ Q b c = false) {r : List Nat} {f y : Int} (hr : r = [] ∨ ∃ k t : Nat, k < Q.length ∧ t < 8 ∧ f = (pl (qa Q k) : Int) ∧ y = (t : Int) ∧ r = (qa Q k).2.2 ++ [t]) : MQu (Q ++ [(b, c, r)]) (puI (puI (puI (puI (puI (puI M 101 (61 * b + c) 1) 95 Q.length ((61 * b + c : Nat) : Int)) 96 (61 * b + c) f) 97 (61 * b + c) y) 98 (61 * b + c) (r.length : Int)) 59 71 ((Q.length + 1 : Nat) : Int)) ∧ sf PB M (puI (puI (puI (puI (puI (puI M 101 (61 * b + c) 1) 95 Q.length ((61 * b + c : Nat) : Int)) 96 (61 * b + c) f) 97 (61 * b + c) y) 98 (61 * b + c) (r.length : Int)) 59 71 ((Q.length + 1 : Nat) : Int)) := by
  obtain ⟨q0, q1, q2⟩ := hq
  have fr : sf PB M (puI (puI (puI (puI (puI (puI M 101 (61 * b + c) 1) 95 Q.length ((61 * b + c : Nat) : Int)) 96 (61 * b + c) f) 97 (61 * b + c) y) 98 (61 * b + c) (r.length : Int)) 59 71 ((Q.length + 1 : Nat) : Int)) := (((((sf.rf.pu (PB_t (by omega) (by omega) _) _).pu (PB_t (by omega) (by omega) _) _).pu (PB_t (by omega) (by omega) _) _).pu (PB_t (by omega) (by omega) _) _).pu (PB_t (by omega) (by omega) _) _).pu (by decide) _
  have r71 : (puI (puI (puI (puI (puI (puI M 101 (61 * b + c) 1) 95 Q.length ((61 * b + c : Nat) : Int)) 96 (61 * b + c) f) 97 (61 * b + c) y) 98 (61 * b + c) (r.length : Int)) 59 71 ((Q.length + 1 : Nat) : Int)).2.1 59 71 = ((Q.length + 1 : Nat) : Int) := puI_eq _ _ _ _
  have r95 : ∀ j, (puI (puI (puI (puI (puI (puI M 101 (61 * b + c) 1) 95 Q.length ((61 * b + c : Nat) : Int)) 96 (61 * b + c) f) 97 (61 * b + c) y) 98 (61 * b + c) (r.length : Int)) 59 71 ((Q.length + 1 : Nat) : Int)).2.1 95 j = if j = Q.length then ((61 * b + c : Nat) : Int) else M.2.1 95 j := fun j => by
    rw [puI_ne (show (95 : Nat) ≠ 59 by omega), puI_ne (show (95 : Nat) ≠ 98 by omega), puI_ne (show (95 : Nat) ≠ 97 by omega), puI_ne (show (95 : Nat) ≠ 96 by omega), puI_at, if_pos rfl, puI_ne (show (95 : Nat) ≠ 101 by omega)]
  have r96 : ∀ j, (puI (puI (puI (puI (puI (puI M 101 (61 * b + c) 1) 95 Q.length ((61 * b + c : Nat) : Int)) 96 (61 * b + c) f) 97 (61 * b + c) y) 98 (61 * b + c) (r.length : Int)) 59 71 ((Q.length + 1 : Nat) : Int)).2.1 96 j = if j = 61 * b + c then f else M.2.1 96 j := fun j => by
    rw [puI_ne (show (96 : Nat) ≠ 59 by omega), puI_ne (show (96 : Nat) ≠ 98 by omega), puI_ne (show (96 : Nat) ≠ 97 by omega), puI_at, if_pos rfl, puI_ne (show (96 : Nat) ≠ 95 by omega), puI_ne (show (96 : Nat) ≠ 101 by omega)]
  have r97 : ∀ j, (puI (puI (puI (puI (puI (puI M 101 (61 * b + c) 1) 95 Q.length ((61 * b + c : Nat) : Int)) 96 (61 * b + c) f) 97 (61 * b + c) y) 98 (61 * b + c) (r.length : Int)) 59 71 ((Q.length + 1 : Nat) : Int)).2.1 97 j = if j = 61 * b + c then y else M.2.1 97 j := fun j => by
    rw [puI_ne (show (97 : Nat) ≠ 59 by omega), puI_ne (show (97 : Nat) ≠ 98 by omega), puI_at, if_pos rfl, puI_ne (show (97 : Nat) ≠ 96 by omega), puI_ne (show (97 : Nat) ≠ 95 by omega), puI_ne (show (97 : Nat) ≠ 101 by omega)]
  have r98 : ∀ j, (puI (puI (puI (puI (puI (puI M 101 (61 * b + c) 1) 95 Q.length ((61 * b + c : Nat) : Int)) 96 (61 * b + c) f) 97 (61 * b + c) y) 98 (61 * b + c) (r.length : Int)) 59 71 ((Q.length + 1 : Nat) : Int)).2.1 98 j = if j = 61 * b + c then (r.length : Int) else M.2.1 98 j := fun j => by
    rw [puI_ne (show (98 : Nat) ≠ 59 by omega), puI_at, if_pos rfl, puI_ne (show (98 : Nat) ≠ 97 by omega), puI_ne (show (98 : Nat) ≠ 96 by omega), puI_ne (show (98 : Nat) ≠ 95 by omega), puI_ne (show (98 : Nat) ≠ 101 by omega)]
  have r101 : ∀ j, (puI (puI (puI (puI (puI (puI M 101 (61 * b + c) 1) 95 Q.length ((61 * b + c : Nat) : Int)) 96 (61 * b + c) f) 97 (61 * b + c) y) 98 (61 * b + c) (r.length : Int)) 59 71 ((Q.length + 1 : Nat) : Int)).2.1 101 j = if j = 61 * b + c then 1 else M.2.1 101 j := fun j => by
    rw [puI_ne (show (101 : Nat) ≠ 59 by omega), puI_ne (show (101 : Nat) ≠ 98 by omega), puI_ne (show (101 : Nat) ≠ 97 by omega), puI_ne (show (101 : Nat) ≠ 96 by omega), puI_ne (show (101 : Nat) ≠ 95 by omega), puI_at, if_pos rfl]
  generalize puI (puI (puI (puI (puI (puI M 101 (61 * b + c) 1) 95 Q.length ((61 * b + c : Nat) : Int)) 96 (61 * b + c) f) 97 (61 * b + c) y) 98 (61 * b + c) (r.length : Int)) 59 71 ((Q.length + 1 : Nat) : Int) = MM at *
  have ll : (Q ++ [(b, c, r)]).length = Q.length + 1 := by rw [List.length_append]; rfl
  have ex : ext Q (Q ++ [(b, c, r)]) := ⟨by omega, fun k hk => qa_app hk⟩
  refine ⟨⟨by rw [ll, r71], fun i hi => ?_, fun b' c' z1 z2 => ?_⟩, fr⟩
  · by_cases e : i = Q.length
    · subst e
      rw [qa_end, r95, r96, r97, r98, show pl (b, c, r) = 61 * b + c from rfl, if_pos rfl, if_pos rfl, if_pos rfl, if_pos rfl]
      refine ⟨rfl, rfl, ?_⟩
      rcases hr with hr | ⟨k, t, h1, h2, h3, h4, h5⟩
      · exact Or.inl (by rw [qa_end]; exact hr)
      · exact Or.inr ⟨k, t, h1, h2, by rw [qa_app h1]; exact h3, h4, by rw [qa_end, qa_app h1]; exact h5⟩
    · have hi' : i < Q.length := by omega
      have hn : pl (qa Q i) ≠ 61 * b + c := fun z => by
        obtain ⟨e1, e2⟩ := pl_inj (f := (b, c, r)) (hI.1 i hi').2.1 hc z
        rw [has_iff.2 ⟨i, hi', e1, e2⟩] at hx
        cases hx
      obtain ⟨g1, g2, g3⟩ := q1 i hi'
      rw [qa_app hi', r95, r96, r97, r98, if_neg e, if_neg hn, if_neg hn, if_neg hn]
      exact ⟨g1, g2, g3.ext hi' ex⟩
  · have ea : hasQ (Q ++ [(b, c, r)]) b' c' = (hasQ Q b' c' || (b == b' && c == c')) := by
      unfold hasQ
      rw [List.any_append]
      simp
    rw [ea, r101]
    by_cases e : b' = b ∧ c' = c
    · rw [e.1, e.2, if_pos rfl]
      simp [b01]
    · rw [if_neg (by omega), q2 b' c' z1 z2]
      have : (b == b' && c == c') = false := by
        rw [Bool.and_eq_false_iff, beq_eq_false_iff_ne, beq_eq_false_iff_ne]
        omega
      rw [this, Bool.or_false]
theorem m_comes (hI : QI Q) (hq : MQu Q M) {b c : Nat} (hb : b ≤ 63) (hc : c ≤ 60) {k t : Nat} (hk : k < Q.length) (ht : t < 8) : ∃ M', fn X (d + 1) 275 [rv 59, iv ((61 * b + c : Nat) : Int), iv (pl (qa Q k) : Int), iv (t : Int)] M = oV M' ∧ MQu (vis Q b c ((qa Q k).2.2 ++ [t])) M' ∧ sf PB M M' := by
  have hp : pl (qa Q k) < 3904 := by
    have := hI.1 k hk
    unfold pl
    omega
  have hle := hI.le
  have hrl := (hI.1 k hk).2.2
  rw [q_275_59, gdx (by omega) (by omega), Int.toNat_natCast, hq.2.2 b c hb hc]
  unfold vis
  cases hx : hasQ Q b c with
  | true =>
    rw [if_neg (by simp [b01]), if_pos rfl]
    exact ⟨M, rfl, hq, sf.rf⟩
  | false =>
    have hlt := hI.lt hb hc hx
    obtain ⟨z1, z2⟩ := m_lay (f := (pl (qa Q k) : Int)) (y := (t : Int)) hI hq hb hc hx (r := (qa Q k).2.2 ++ [t]) (Or.inr ⟨k, t, hk, ht, rfl, rfl, rfl⟩)
    have el : (((qa Q k).2.2 ++ [t]).length : Int) = (((qa Q k).2.2.length + 1 : Nat) : Int) := by
      rw [List.length_append]
      rfl
    rw [el] at z1 z2
    rw [if_pos (show b01 false = 0 from rfl), if_neg (show ¬ false = true by simp), hq.1, gdx (by omega) (by omega), gdx (by omega) (by omega), gdx (by omega) (by omega), gdx (by omega) (by omega), if_neg (by omega), gdx (by omega) (by omega), gdx (by omega) (by omega), Int.toNat_natCast, Int.toNat_natCast, (hq.2.1 k hk).2.1, wr_succ (by omega), wr_succ (by omega)]
    exact ⟨_, rfl, z1, z2⟩
theorem m_starts (hF : WF S) (hV : WW S W) (hW : MW 91 0 (nC S) W M) (hcr : cr < nC S) : ∃ M', fn X (d + 2) 276 [rv 59, iv (cr : Int)] M = oV M' ∧ MQu [(W (3 + cr), W (15 + cr), [])] M' ∧ sf PB M M' := by
  have h6 := hF.1
  obtain ⟨vb, -, vc, -⟩ := hV.2.2 cr hcr
  rw [q_276_59]
  refine loop_st (σ := rM) (fun c M1 => (∀ j, j < c → M1.2.1 101 j = 0) ∧ sf PB M M1) (fun m c M1 => kb X (d + 1) 276 m 2 [some (rv 59), some (iv (cr : Int)), some (iv (c : Int))] [] M1) (fun r => ∃ M', r = oV M' ∧ MQu [(W (3 + cr), W (15 + cr), [])] M' ∧ sf PB M M') 3904 ?_ ?_ 3904 0 FU M (by omega) (FU_lt (by omega)) ⟨fun j hj => by omega, sf.rf⟩
  · rintro m c M1 hc ⟨i1, i2⟩
    left
    rw [q_276_59_at2, if_pos (by omega), gdx (by omega) (by omega), Int.toNat_natCast, wr_succ (by omega)]
    refine ⟨_, rfl, fun j hj => ?_, i2.pu (PB_t (by omega) (by omega) _) _⟩
    by_cases e : j = c
    · rw [e, puI_eq]
    · rw [puI_nj e]
      exact i1 j (by omega)
  · rintro m M1 ⟨i1, i2⟩
    have i3 : wr (3 + (cr : Int)) = ((0 + (3 + cr) : Nat) : Int) := by
      rw [wri (by omega) (by omega)]
      omega
    have i15 : wr (15 + (cr : Int)) = ((0 + (15 + cr) : Nat) : Int) := by
      rw [wri (by omega) (by omega)]
      omega
    have hW1 : MW 91 0 (nC S) W M1 := hW.fr (fun j _ _ => (i2.2 91 j (by simp [PB])).1)
    rw [q_276_59_at2, if_neg (by omega), i3, i15, gdx (by omega) (by omega), gdx (by omega) (by omega), Int.toNat_natCast, Int.toNat_natCast, hW1.b0 hcr h6, hW1.b2 hcr h6, m_place _ _ vb vc, cI_I]
    have hq : MQu [] (puI M1 59 71 0) := ⟨puI_eq _ _ _ _, fun i hi => absurd hi (Nat.not_lt_zero i), fun b c z1 z2 => by
      rw [puI_ne (by omega), i1 _ (by omega)]
      rfl⟩
    obtain ⟨z1, z2⟩ := m_lay (Q := []) (f := -1) (y := -1) (r := []) ⟨fun i hi => absurd hi (Nat.not_lt_zero i), fun i j hi => absurd hi (Nat.not_lt_zero i)⟩ hq vb vc rfl (Or.inl rfl)
    have z1 : MQu [(W (3 + cr), W (15 + cr), [])] (puI (puI (puI (puI (puI (puI (puI M1 59 71 0) 101 (61 * W (3 + cr) + W (15 + cr)) 1) 95 0 ((61 * W (3 + cr) + W (15 + cr) : Nat) : Int)) 96 (61 * W (3 + cr) + W (15 + cr)) (-1)) 97 (61 * W (3 + cr) + W (15 + cr)) (-1)) 98 (61 * W (3 + cr) + W (15 + cr)) 0) 59 71 1) := z1
    have z2 : sf PB (puI M1 59 71 0) (puI (puI (puI (puI (puI (puI (puI M1 59 71 0) 101 (61 * W (3 + cr) + W (15 + cr)) 1) 95 0 ((61 * W (3 + cr) + W (15 + cr) : Nat) : Int)) 96 (61 * W (3 + cr) + W (15 + cr)) (-1)) 97 (61 * W (3 + cr) + W (15 + cr)) (-1)) 98 (61 * W (3 + cr) + W (15 + cr)) 0) 59 71 1) := z2
    have e101 : (puI M1 59 71 0).2.1 101 (61 * W (3 + cr) + W (15 + cr)) = 0 := by
      rw [puI_ne (by omega), i1 _ (by omega)]
    rw [q_275_59, gdx (by omega) (by omega), Int.toNat_natCast, if_pos e101, gdx (by omega) (by omega), puI_eq, gdx (by omega) (by omega), gdx (by omega) (by omega), gdx (by omega) (by omega), if_pos rfl, gdx (by omega) (by omega), wri (x := 0 + 1) (by omega) (by omega), cV_V]
    exact ⟨_, rfl, z1, (i2.pu (by decide) _).tr z2⟩
theorem m_rowL (hq : MQu Q M) (hI : QI Q) {p : Int} : ∀ (j k : Nat) (M1 : rM) (f : Nat), k < Q.length → (qa Q k).2.2.length = j → (∀ a, a ≠ 100 → M1.2.1 a = M.2.1 a) → j < f → ∃ M2, kb X d 277 f 26 [some (rv 59), none, none, some (iv p), some (iv (pl (qa Q k) : Int)), some (iv ((j : Int) - 1))] [] M1 = oI p M2 ∧ (∀ i, i < j → M2.2.1 100 i = ((qa Q k).2.2.getD i 0 : Int)) ∧ (∀ i, j ≤ i → M2.2.1 100 i = M1.2.1 100 i) ∧ (∀ a, a ≠ 100 → M2.2.1 a = M.2.1 a) ∧ M2.2.2 = M1.2.2 ∧ M2.1 = M1.1
  | 0, k, M1, f, hk, hj, he, hf => by
    obtain ⟨f, rfl⟩ : ∃ g, f = g + 1 := ⟨f - 1, by omega⟩
    rw [q_277_59_at26, if_pos (by omega)]
    exact ⟨M1, rfl, fun i hi => by omega, fun i _ => rfl, he, rfl, rfl⟩
  | j + 1, k, M1, f, hk, hj, he, hf => by
    obtain ⟨f, rfl⟩ : ∃ g, f = g + 1 := ⟨f - 1, by omega⟩
    have hp : pl (qa Q k) < 3904 := by
      have := hI.1 k hk
      unfold pl
      omega
    have hle := hI.le
    have hrl := (hI.1 k hk).2.2
    rcases (hq.2.1 k hk).2.2 with hr | ⟨k', t, h1, h2, h3, h4, h5⟩
    · rw [hr] at hj
      cases hj
    · have hjl : (qa Q k').2.2.length = j := by
        rw [h5, List.length_append] at hj
        exact Nat.succ.inj hj
      have ej : (((j + 1 : Nat) : Int) - 1) = (j : Int) := by omega
      have ew : wr ((j : Int) + (-1)) = (j : Int) - 1 := wri (by omega) (by omega)
      rw [q_277_59_at26, ej, if_neg (by omega), gdx (by omega) (by omega), gdx (by omega) (by omega), gdx (by omega) (by omega), Int.toNat_natCast, Int.toNat_natCast, he 96 (by omega), he 97 (by omega), h3, h4, ew]
      obtain ⟨M2, g1, g2, g3, g4, g5, g6⟩ := m_rowL hq hI (p := p) j k' (puI M1 100 j (t : Int)) f (by omega) hjl (fun a ha => (puI_k ha).trans (he a ha)) (by omega)
      refine ⟨M2, g1, fun i hi => ?_, fun i hi => ?_, g4, g5, g6⟩
      · rw [h5]
        by_cases e : i = j
        · rw [e, g3 j (Nat.le_refl _), puI_eq, ← hjl, getD_ra]
        · rw [g2 i (by omega), getD_la (by omega)]
      · rw [g3 i (by omega), puI_nj (by omega)]
theorem m_laysRow (hq : MQu Q M) (hI : QI Q) {k t : Nat} (hk : k < Q.length) : ∃ M', fn X (d + 1) 277 [rv 59, iv (pl (qa Q k) : Int), iv (t : Int)] M = oI (((qa Q k).2.2 ++ [t]).length : Int) M' ∧ (∀ i, i < ((qa Q k).2.2 ++ [t]).length → M'.2.1 100 i = (((qa Q k).2.2 ++ [t]).getD i 0 : Int)) ∧ sf PB M M' := by
  have hp : pl (qa Q k) < 3904 := by
    have := hI.1 k hk
    unfold pl
    omega
  have hle := hI.le
  have hrl := (hI.1 k hk).2.2
  have el : (((qa Q k).2.2 ++ [t]).length : Int) = ((qa Q k).2.2.length : Int) + 1 := by
    rw [List.length_append]
    rfl
  have e1 : wr (((qa Q k).2.2.length : Int) + 1) = ((qa Q k).2.2.length : Int) + 1 := wri (by omega) (by omega)
  have e2 : wr ((((qa Q k).2.2.length : Int) + 1) - 1) = ((qa Q k).2.2.length : Int) := by
    rw [wri (by omega) (by omega)]
    omega
  have e3 : wr ((((qa Q k).2.2.length : Int) + 1) - 2) = ((qa Q k).2.2.length : Int) - 1 := by
    rw [wri (by omega) (by omega)]
    omega
  rw [q_277_59, gdx (by omega) (by omega), Int.toNat_natCast, (hq.2.1 k hk).2.1, e1, e2, e3, gdx (by omega) (by omega), Int.toNat_natCast, el]
  obtain ⟨M2, g1, g2, g3, g4, g5, g6⟩ := m_rowL (X := X) (d := d) hq hI (p := ((qa Q k).2.2.length : Int) + 1) _ k (puI M 100 (qa Q k).2.2.length (t : Int)) FU hk rfl (fun a ha => puI_k ha) (FU_lt (by omega))
  refine ⟨M2, g1, fun i hi => ?_, g6, fun a b z => ⟨?_, by rw [g5]; rfl⟩⟩
  · by_cases e : i = (qa Q k).2.2.length
    · rw [e, g3 _ (Nat.le_refl _), puI_eq, getD_ra]
    · rw [List.length_append] at hi
      have hi : i < (qa Q k).2.2.length + 1 := hi
      rw [g2 i (by omega), getD_la (by omega)]
  · rw [g4 a (fun e => by rw [e, PB_t (by omega) (by omega)] at z; cases z)]
theorem MS.sf {Q : Nat → Nat → Bool} (h : MS S M) (f : sf Q M M') (hq : ∀ k j, eM k j = true → Q k j = false) : MS S M' := h.fr (fun k h1 h2 => by
  funext j
  exact (f.2 k j (hq k j (by simp [eM]; omega))).1) (fun j h1 h2 => (f.2 59 j (hq 59 j (by simp [eM]; omega))).1)
theorem MW.sf {Q : Nat → Nat → Bool} {m : Nat} (h : MW 91 0 m W M) (f : sf Q M M') (hq : ∀ k j, eM k j = true → Q k j = false) : MW 91 0 m W M' := h.fr (fun j _ hj => (f.2 91 j (hq 91 j (by simp [eM]; omega))).1)
theorem pl_dm (e : QE) (h1 : e.1 ≤ 63) (h2 : e.2.1 ≤ 60) : idv (pl e : Int) 61 = (e.1 : Int) ∧ irm (pl e : Int) 61 = (e.2.1 : Int) := by
  have a1 : idv (pl e : Int) ((61 : Nat) : Int) = _ := idv_nat (a := pl e) (b := 61) (by unfold pl; omega) (by omega)
  have a2 : irm (pl e : Int) ((61 : Nat) : Int) = _ := irm_nat (a := pl e) (b := 61) (by unfold pl; omega) (by omega)
  refine ⟨a1.trans ?_, a2.trans ?_⟩
  · congr 1
    unfold pl
    omega
  · congr 1
    unfold pl
    omega
/-- the tricks from one place -/
theorem m_fewT (hS : MS S M) (hF : WF S) (hR : WR S) (hW : MW 91 0 (nC S) W M) (hcr : cr < nC S) (hh : h ≤ 1000) (hI : BI s) {k : Nat} (hk : k < s.1.length) : ∀ (j t g : Nat) (M1 : rM), t + j = nT S → MQu (stT S cr (W (9 + cr)) h k t s).1 M1 → (stT S cr (W (9 + cr)) h k t s).2.1 = none → sf PB M M1 →
    (∃ M2, kb X (d + 4) 278 (g + j + 1) 26 [some (rv 59), some (iv (cr : Int)), some (iv (h : Int)), some (iv (k : Int)), some (iv (pl (qa s.1 k) : Int)), some (iv (t : Int)), none, none] [] M1 = kb X (d + 4) 278 g 7 [some (rv 59), some (iv (cr : Int)), some (iv (h : Int)), some (iv ((k + 1 : Nat) : Int)), none, none, none, none] [] M2 ∧ MQu (stT S cr (W (9 + cr)) h k (nT S) s).1 M2 ∧ (stT S cr (W (9 + cr)) h k (nT S) s).2.1 = none ∧ sf PB M M2) ∨
    (∃ M2 r, kb X (d + 4) 278 (g + j + 1) 26 [some (rv 59), some (iv (cr : Int)), some (iv (h : Int)), some (iv (k : Int)), some (iv (pl (qa s.1 k) : Int)), some (iv (t : Int)), none, none] [] M1 = oI (r.length : Int) M2 ∧ (stT S cr (W (9 + cr)) h k (nT S) s).2.1 = some r ∧ (∀ i, i < r.length → M2.2.1 100 i = (r.getD i 0 : Int)) ∧ sf PB M M2)
  | 0, t, g, M1, ht, hq, hg, hf => by
    have hS1 := hS.sf hf eM_B
    have hle := hI.1.le
    have : t = nT S := by omega
    subst this
    left
    rw [show g + 0 + 1 = g + 1 from rfl, q_278_59_at26, hS1.2.1, if_neg (by omega), wr_succ (by omega)]
    exact ⟨M1, rfl, hq, hg, hf⟩
  | j + 1, t, g, M1, ht, hq, hg, hf => by
    have h6 := hF.1
    have h8 := hF.2.1
    have hS1 := hS.sf hf eM_B
    have hW1 := hW.sf hf eM_B
    have htl : t < nT S := by omega
    obtain ⟨q1, q2, q3⟩ := hI.1.1 k hk
    obtain ⟨ed, em⟩ := pl_dm (qa s.1 k) q1 q2
    have hI1 : BI (stT S cr (W (9 + cr)) h k t s) := stT_BI hF hI hk t (by omega)
    have hx := stT_ext (S := S) (cr := cr) (wa := W (9 + cr)) (h := h) (k := k) (s := s) t
    have hk1 : k < (stT S cr (W (9 + cr)) h k t s).1.length := Nat.lt_of_lt_of_le hk hx.1
    have hqa := hx.2 k hk
    have es : stT S cr (W (9 + cr)) h k (t + 1) s = st1 S cr (W (9 + cr)) h k t (stT S cr (W (9 + cr)) h k t s) := rfl
    have ih := m_fewT hS hF hR hW hcr hh hI hk j (t + 1) g
    rw [es] at ih
    have end2 : ∀ r, (st1 S cr (W (9 + cr)) h k t (stT S cr (W (9 + cr)) h k t s)).2.1 = some r → (stT S cr (W (9 + cr)) h k (nT S) s).2.1 = some r := fun r hr => stT_goal2 (t := t + 1) (by omega) hr
    have i9 : wr (9 + (cr : Int)) = ((0 + (9 + cr) : Nat) : Int) := by
      rw [wri (by omega) (by omega)]
      omega
    rw [show g + (j + 1) + 1 = (g + j + 1) + 1 by omega, q_278_59_at26, hS1.2.1, if_pos (by omega), ed, em, m_works hS1 hF htl q1, cI_I, wr_succ (by omega)]
    generalize stT S cr (W (9 + cr)) h k t s = s1 at *
    unfold st1 at ih end2
    rw [hqa] at ih end2
    generalize he : qa s.1 k = e at *
    by_cases hw : wk S t e.1 = true
    · rw [if_pos hw] at ih end2
      have hb := bb_le hF htl q1
      have hcb := cb_le (S := S) (t := t) (h := h) q2
      obtain ⟨M4, k1, k2⟩ := m_bound (X := X) (d := d + 1) hS1 hF hR (c := cr) (wary := W (9 + cr)) (b := bb S t e.1) (cord := cb S t e.2.1 h) (h := h) hcr hb
      have f4 := hf.tr (k2.mo PB_P)
      have hq4 : MQu s1.1 M4 := hq.fr ((k2.2 59 71 (by decide)).1) (fun a z1 z2 _ _ => by
        funext b
        exact (k2.2 a b (by simp [P9394]; omega)).1)
      rw [if_neg (by rw [b01_0, hw]; simp), m_bb hS1 hF htl q1, cI_I, m_cb hS1 hF htl q2 hh, cI_I, i9, gdx (by omega) (by omega), Int.toNat_natCast, hW1.b1 hcr h6, k1, cI_I]
      by_cases hd : bd S cr (W (9 + cr)) (bb S t e.1) (cb S t e.2.1 h) h = true
      · rw [if_pos hd] at end2
        right
        rw [hg] at end2
        obtain ⟨M5, l1, l2, l3⟩ := m_laysRow (X := X) (d := d + 3) (t := t) hq4 hI1.1 hk1
        rw [hqa] at l1 l2
        rw [if_neg (by rw [b01_0, hd]; simp), l1, cI_I]
        refine ⟨M5, e.2.2 ++ [t], rfl, end2 _ ?_, l2, f4.tr l3⟩
        dsimp only
        rw [if_pos hd]
        rfl
      · rw [if_neg hd, if_neg hd] at ih
        obtain ⟨M5, l1, l2, l3⟩ := m_comes (X := X) (d := d + 3) hI1.1 hq4 hb hcb hk1 (t := t) (by omega)
        rw [hqa] at l1 l2
        rw [if_pos (by rw [b01_0]; simpa using hd), m_place _ _ hb hcb, cI_I, l1, cV_V]
        exact ih M5 (by omega) l2 hg (f4.tr l3)
    · rw [if_neg hw] at ih
      rw [if_pos (by rw [b01_0]; simpa using hw)]
      exact ih M1 (by omega) hq hg hf
theorem m_fewest (hS : MS S M) (hF : WF S) (hR : WR S) (hW : MW 91 0 (nC S) W M) (hV : WW S W) (hcr : cr < nC S) (hh : h ≤ 1000) : ∃ M', fn X (d + 5) 278 [rv 59, iv (cr : Int), iv (h : Int)] M = oI (match (stF S cr (W (9 + cr)) h (W (3 + cr)) (W (15 + cr))).2.1 with
    | none => 99999
    | some r => (r.length : Int)) M' ∧ (∀ r, (stF S cr (W (9 + cr)) h (W (3 + cr)) (W (15 + cr))).2.1 = some r → ∀ i, i < r.length → M'.2.1 100 i = (r.getD i 0 : Int)) ∧ sf PB M M' := by
  obtain ⟨vb, -, vc, -⟩ := hV.2.2 cr hcr
  obtain ⟨M1, a1, a2, a3⟩ := m_starts (X := X) (d := d + 2) hF hV hW hcr
  have h8 := hF.2.1
  rw [q_278_59, a1, cV_V]
  generalize hb0 : W (3 + cr) = b0 at *
  generalize hc0 : W (15 + cr) = c0 at *
  refine loop_st (σ := rM) (fun k M2 => MQu (stH S cr (W (9 + cr)) h b0 c0 k).1 M2 ∧ (stH S cr (W (9 + cr)) h b0 c0 k).2.1 = none ∧ sf PB M M2) (fun m k M2 => kb X (d + 4) 278 (m * (nT S + 2) + (FU - 3905 * (nT S + 2))) 7 [some (rv 59), some (iv (cr : Int)), some (iv (h : Int)), some (iv (k : Int)), none, none, none, none] [] M2) (fun z => ∃ M', z = oI (match (stF S cr (W (9 + cr)) h b0 c0).2.1 with
    | none => 99999
    | some r => (r.length : Int)) M' ∧ (∀ r, (stF S cr (W (9 + cr)) h b0 c0).2.1 = some r → ∀ i, i < r.length → M'.2.1 100 i = (r.getD i 0 : Int)) ∧ sf PB M M') 3904 ?_ ?_ 3904 0 3905 M1 (by omega) (by omega) ⟨a2, rfl, a3⟩ |> fun z => by
    have e : 3905 * (nT S + 2) + (FU - 3905 * (nT S + 2)) = FU := by
      have := FU_ge
      have h2 : 3905 * (nT S + 2) ≤ 3905 * 10 := Nat.mul_le_mul_left _ (by omega)
      omega
    rw [e] at z
    exact z
  · rintro m k M2 hk ⟨i1, i2, i3⟩
    have hB := stH_BI (S := S) (cr := cr) (wa := W (9 + cr)) (h := h) hF vb vc k
    have ef : (m + 1) * (nT S + 2) + (FU - 3905 * (nT S + 2)) = ((m * (nT S + 2) + (FU - 3905 * (nT S + 2))) + nT S + 1) + 1 := by
      rw [Nat.add_mul]
      omega
    rw [ef, q_278_59_at7, i1.1]
    by_cases hl : k < (stH S cr (W (9 + cr)) h b0 c0 k).1.length
    · rw [if_pos (by omega), gdx (by omega) (by omega), Int.toNat_natCast, (i1.2.1 k hl).1]
      rcases m_fewT (X := X) (d := d) (s := stH S cr (W (9 + cr)) h b0 c0 k) hS hF hR hW hcr hh hB hl (nT S) 0 (m * (nT S + 2) + (FU - 3905 * (nT S + 2))) M2 (by omega) i1 i2 i3 with ⟨M3, g1, g2, g3, g4⟩ | ⟨M3, r, g1, g2, g3, g4⟩
      · left
        rw [stH_s hl]
        exact ⟨M3, g1, g2, g3, g4⟩
      · right
        have hg : (stH S cr (W (9 + cr)) h b0 c0 (k + 1)).2.1 = some r := by
          rw [stH_s hl]
          exact g2
        have hg := stH_goal2 hg (by omega)
        refine ⟨M3, ?_, fun r' hr' i hi => ?_, g4⟩
        · rw [hg]
          exact g1
        · rw [hg] at hr'
          have hr' := Option.some.inj hr'
          subst hr'
          exact g3 i hi
    · right
      have hg : (stF S cr (W (9 + cr)) h b0 c0).2.1 = none := by
        rw [stH_end (k := k) (by omega) (by omega)]
        exact i2
      rw [if_neg (by omega)]
      refine ⟨M2, by rw [hg], fun r' hr' => ?_, i3⟩
      rw [hg] at hr'
      cases hr'
  · rintro m M2 ⟨i1, i2, i3⟩
    have hB := (stH_BI (S := S) (cr := cr) (wa := W (9 + cr)) (h := h) hF vb vc 3904).1.le
    have ef : (m + 1) * (nT S + 2) + (FU - 3905 * (nT S + 2)) = ((m * (nT S + 2) + (FU - 3905 * (nT S + 2))) + nT S + 1) + 1 := by
      rw [Nat.add_mul]
      omega
    rw [ef, q_278_59_at7, i1.1, if_neg (by omega), stF_df]
    refine ⟨M2, by rw [i2], fun r' hr' => ?_, i3⟩
    rw [i2] at hr'
    cases hr'
end C67

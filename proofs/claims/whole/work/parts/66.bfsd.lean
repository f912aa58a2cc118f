/-! ===== the search, on the class's side: from place to place ===== -/
section C66
variable {X : Nat × (Nat → Int32)} {d n : Nat} {M M1 M2 M' : rM} {A A' : AS} {S : SK} {W V : WD} {cr wa h : Nat} {s : BS}
theorem CQ.mv (hq : CQ S cr wa h s M) (hc : cach S cr wa h M') (e1 : M'.2.1 41 = M.2.1 41) (e2 : M'.2.1 42 = M.2.1 42) (e3 : M'.2.1 43 = M.2.1 43) (e4 : M'.2.2 41 = M.2.2 41) (e5 : M'.2.2 45 = M.2.2 45) : CQ S cr wa h s M' := by
  obtain ⟨q0, q1, q2, q3, q4, q5, q6, q7⟩ := hq
  unfold CQ
  rw [e1, e2, e3, e4, e5]
  exact ⟨q0, hc, q2, q3, q4, q5, q6, q7⟩
theorem CQ.wr (hq : CQ S cr wa h s M) {w b : Nat} (hb : b ≤ 63) : CQ S cr wa h (s.1, s.2.1, w, b :: s.2.2.2) (puJ (puI M 41 16 (w : Int)) 41 15 (M.2.2 41 15 ||| jshl (Int64.ofNat 1) (b : Int))) := by
  obtain ⟨q0, q1, q2, q3, q4, q5, q6, q7⟩ := hq
  have r41 : ∀ j, j ≠ 16 → (puJ (puI M 41 16 (w : Int)) 41 15 (M.2.2 41 15 ||| jshl (Int64.ofNat 1) (b : Int))).2.1 41 j = M.2.1 41 j := fun j hj => (puI_nj hj : (puI M 41 16 (w : Int)).2.1 41 j = M.2.1 41 j)
  have rk : ∀ k, k ≠ 41 → (puJ (puI M 41 16 (w : Int)) 41 15 (M.2.2 41 15 ||| jshl (Int64.ofNat 1) (b : Int))).2.1 k = M.2.1 k := fun k hk => (puI_k hk : (puI M 41 16 (w : Int)).2.1 k = M.2.1 k)
  have rJ : ∀ k, k ≠ 41 → (puJ (puI M 41 16 (w : Int)) 41 15 (M.2.2 41 15 ||| jshl (Int64.ofNat 1) (b : Int))).2.2 k = M.2.2 k := fun k hk => by
    funext j
    exact puJ_ne hk
  have r15 : (puJ (puI M 41 16 (w : Int)) 41 15 (M.2.2 41 15 ||| jshl (Int64.ofNat 1) (b : Int))).2.2 41 15 = M.2.2 41 15 ||| jshl (Int64.ofNat 1) (b : Int) := puJ_eq _ _ _ _
  have r16 : (puJ (puI M 41 16 (w : Int)) 41 15 (M.2.2 41 15 ||| jshl (Int64.ofNat 1) (b : Int))).2.1 41 16 = (w : Int) := puI_eq M 41 16 (w : Int)
  generalize puJ (puI M 41 16 (w : Int)) 41 15 (M.2.2 41 15 ||| jshl (Int64.ofNat 1) (b : Int)) = MM at *
  refine ⟨?_, ?_, ?_, ?_, ?_, ?_, ?_, ?_⟩
  · rw [r41 8 (by omega), r41 9 (by omega), r41 10 (by omega)]
    exact q0
  · intro m c z1 z2 b' z3 z4
    rw [rJ 48 (by omega), rJ 47 (by omega)]
    exact q1 m c z1 z2 b' z3 z4
  · rw [r41 13 (by omega)]
    exact q2
  · rw [r41 14 (by omega)]
    exact q3
  · exact r16
  · intro i hi
    rw [r15, tb_set (by omega) hi, q5 i hi]
    by_cases e : i = b
    · simp [e]
    · simp [e]
  · intro i hi
    rw [rk 42 (by omega), rk 43 (by omega)]
    exact q6 i hi
  · intro b' c z1 z2
    rw [rJ 45 (by omega)]
    exact q7 b' c z1 z2
theorem CQ.gl (hq : CQ S cr wa h s M) {l : Int} {r : List Nat} (hl : rep s.1 s.1.length l r) : CQ S cr wa h (s.1, some r, s.2.2) (puI M 41 14 l) := by
  obtain ⟨q0, q1, q2, q3, q4, q5, q6, q7⟩ := hq
  have r41 : ∀ j, j ≠ 14 → (puI M 41 14 l).2.1 41 j = M.2.1 41 j := fun j hj => puI_nj hj
  have rk : ∀ k, k ≠ 41 → (puI M 41 14 l).2.1 k = M.2.1 k := fun k hk => puI_k hk
  have r14 : (puI M 41 14 l).2.1 41 14 = l := puI_eq _ _ _ _
  refine ⟨?_, q1, ?_, ?_, ?_, q5, ?_, q7⟩
  · rw [r41 8 (by omega), r41 9 (by omega), r41 10 (by omega)]
    exact q0
  · rw [r41 13 (by omega)]
    exact q2
  · rw [r14]
    exact hl
  · rw [r41 16 (by omega)]
    exact q4
  · intro i hi
    rw [rk 42 (by omega), rk 43 (by omega)]
    exact q6 i hi
theorem rep_none {Q : List QE} {l : Int} {m : Nat} (hr : rep Q m l []) : l = -1 := by
  rcases hr with ⟨-, h⟩ | ⟨k, t, -, -, -, h⟩
  · exact h
  · have := congrArg List.length h
    rw [List.length_append] at this
    exact absurd this (by simp)
theorem rep_some {Q : List QE} {l : Int} {m : Nat} {r : List Nat} (hr : rep Q m l r) (hn : r ≠ []) : ∃ k t : Nat, k < m ∧ t < 8 ∧ l = ((8 * k + t : Nat) : Int) ∧ r = (qa Q k).2.2 ++ [t] := by
  rcases hr with ⟨h, -⟩ | h
  · exact absurd h hn
  · exact h
theorem c_goOn (hS : CS S M) (hF : WF S) (hR : WR S) (hcr : cr < nC S) (hq : CQ S cr wa h s M) (hI : BI s) (hh : h ≤ 1000) {k : Nat} (hk : k < s.1.length) : ∃ M', fn X (d + 4) 57 [rv 41, iv (k : Int)] M = oV M' ∧ CQ S cr wa h (stT S cr wa h k (nT S) s) M' ∧ sf PQ M M' := by
  have hl := hI.1.le
  have h8 := hF.2.1
  obtain ⟨q1, q2, q3⟩ := hI.1.1 k hk
  have hc := (hq.2.2.2.2.2.2.1 k hk).1
  rw [q_57_41, gdx (by omega) (by omega), gdx (by omega) (by omega), Int.toNat_natCast, hc]
  have e1 := irm_nat (a := 64 * (qa s.1 k).2.1 + (qa s.1 k).1) (b := 64) (by omega) (by omega)
  have e2 := idv_nat (a := 64 * (qa s.1 k).2.1 + (qa s.1 k).1) (b := 64) (by omega) (by omega)
  rw [show (64 * (qa s.1 k).2.1 + (qa s.1 k).1) % 64 = (qa s.1 k).1 by omega] at e1
  rw [show (64 * (qa s.1 k).2.1 + (qa s.1 k).1) / 64 = (qa s.1 k).2.1 by omega] at e2
  erw [e1, e2]
  refine loop_st (σ := rM) (fun t M1 => CQ S cr wa h (stT S cr wa h k t s) M1 ∧ sf PQ M M1) (fun m t M1 => kb X (d + 3) 57 m 23 [some (rv 41), some (iv (k : Int)), some (iv ((qa s.1 k).1 : Int)), some (iv ((qa s.1 k).2.1 : Int)), some (iv (t : Int)), none, none] [] M1) (fun r => ∃ M', r = oV M' ∧ CQ S cr wa h (stT S cr wa h k (nT S) s) M' ∧ sf PQ M M') (nT S) ?_ ?_ (nT S) 0 FU M (by omega) (FU_lt (by omega)) ⟨hq, sf.rf⟩
  · rintro m t M1 ht ⟨i1, i2⟩
    left
    have hS1 := hS.sf i2 PQ_lo
    have hI1 : BI (stT S cr wa h k t s) := stT_BI hF hI hk t (by omega)
    have hx := stT_ext (S := S) (cr := cr) (wa := wa) (h := h) (k := k) (s := s) t
    have hk1 : k < (stT S cr wa h k t s).1.length := Nat.lt_of_lt_of_le hk hx.1
    have hqa := hx.2 k hk
    rw [q_57_41_at23, q_112_6, cI_I, hS1.2.1, if_pos (by omega), c_works hS1 hF ht q1, cI_I, wr_succ (by omega)]
    show ∃ M', _ = _ ∧ CQ S cr wa h (st1 S cr wa h k t (stT S cr wa h k t s)) M' ∧ _
    generalize stT S cr wa h k t s = s1 at *
    unfold st1
    rw [hqa]
    generalize qa s.1 k = e at *
    by_cases hw : wk S t e.1 = true
    · rw [if_neg (by rw [b01_0, hw]; simp), if_pos hw]
      have hb := bb_le hF ht q1
      have hcb := cb_le (S := S) (t := t) (h := h) q2
      have w8 := hI1.2.1
      have o1 := i1.2.2.2.2.1
      rw [o1, set_or (by omega) (by omega)]
      have hS2 : CS S (puI M1 41 16 ((s1.2.2.1 ||| 2 ^ t : Nat) : Int)) := hS1.pu (by omega) _ _
      rw [c_bb hS2 hF ht q1, cI_I, puI_nj (show (9 : Nat) ≠ 16 by omega), i1.1.2.1, c_cb hS2 hF ht q2 hh, cI_I]
      have i3 := i1.wr (w := s1.2.2.1 ||| 2 ^ t) hb
      have f3 : sf PQ M (puJ (puI M1 41 16 ((s1.2.2.1 ||| 2 ^ t : Nat) : Int)) 41 15 (M1.2.2 41 15 ||| jshl (Int64.ofNat 1) (bb S t e.1 : Int))) := (i2.pu (k := 41) (by simp [PQ]) _).pj (k := 41) (by simp [PQ]) _
      have hS3 : CS S (puJ (puI M1 41 16 ((s1.2.2.1 ||| 2 ^ t : Nat) : Int)) 41 15 (M1.2.2 41 15 ||| jshl (Int64.ofNat 1) (bb S t e.1 : Int))) := hS.sf f3 PQ_lo
      show ∃ M', cI (fn X (d + 3) 58 [rv 41, iv (bb S t e.1 : Int), iv (cb S t e.2.1 h : Int)] (puJ (puI M1 41 16 ((s1.2.2.1 ||| 2 ^ t : Nat) : Int)) 41 15 (M1.2.2 41 15 ||| jshl (Int64.ofNat 1) (bb S t e.1 : Int)))) _ = _ ∧ _
      generalize puJ (puI M1 41 16 ((s1.2.2.1 ||| 2 ^ t : Nat) : Int)) 41 15 (M1.2.2 41 15 ||| jshl (Int64.ofNat 1) (bb S t e.1 : Int)) = M3 at *
      obtain ⟨M4, k1, k2, k3, k4, k5, k6, -, k7, k8, -⟩ := c_isB (X := X) (d := d) hS3 hF hR i3.1 i3.2.1 hcr hb hcb
      have i4 := i3.mv k2 k4 k5 k6 k7 k8
      have f4 := f3.tr k3
      have el : wr (wr ((k : Int) * 8) + (t : Int)) = ((8 * k + t : Nat) : Int) := by
        rw [wri (x := (k : Int) * 8) (by omega) (by omega), wri (by omega) (by omega)]
        omega
      have hrep : rep s1.1 s1.1.length ((8 * k + t : Nat) : Int) (e.2.2 ++ [t]) := Or.inr ⟨k, t, hk1, by omega, rfl, by rw [hqa]⟩
      rw [k1, cI_I, el]
      by_cases hd : bd S cr wa (bb S t e.1) (cb S t e.2.1 h) h = true
      · rw [if_neg (by rw [b01_0, hd]; simp), if_pos hd, if_pos hd]
        have g4 := i4.2.2.2.1
        dsimp only at g4
        cases hg : s1.2.1 with
        | none =>
          rw [hg] at g4
          rw [if_pos (rep_none g4)]
          exact ⟨_, rfl, i4.gl hrep, f4.pu (k := 41) (by simp [PQ]) _⟩
        | some r =>
          rw [hg] at g4
          obtain ⟨k', t', -, -, z, -⟩ := rep_some g4 (hI1.2.2.2.1 r hg).1
          rw [if_neg (by omega)]
          refine ⟨M4, rfl, ?_, f4⟩
          have : (some ((some r).getD (e.2.2 ++ [t])) : Option (List Nat)) = s1.2.1 := by rw [hg]; rfl
          rw [this]
          exact i4
      · rw [if_pos (by rw [b01_0]; simpa using hd), if_neg hd, if_neg hd]
        obtain ⟨M5, v1, v2, v3⟩ := c_visit (X := X) (d := d + 2) i4 hI1.1 hb hcb hrep
        rw [v1, cV_V]
        exact ⟨M5, rfl, v2, f4.tr v3⟩
    · rw [if_pos (by rw [b01_0]; simpa using hw), if_neg hw]
      exact ⟨M1, rfl, i1, i2⟩
  · rintro m M1 ⟨i1, i2⟩
    have hS1 := hS.sf i2 PQ_lo
    rw [q_57_41_at23, q_112_6, cI_I, hS1.2.1, if_neg (by omega)]
    exact ⟨M1, rfl, i1, i2⟩
theorem c_zero45 : ∃ M', fn X (d + 1) 353 [rv 45, jv (Int64.ofNat 0)] M = oV M' ∧ (∀ j, j < 61 → M'.2.2 45 j = Int64.ofNat 0) ∧ M'.2.1 = M.2.1 ∧ (∀ k, k ≠ 45 → M'.2.2 k = M.2.2 k) ∧ M'.1 = M.1 := by
  rw [q_353_45]
  refine loop_st (σ := rM) (fun c M1 => (∀ j, j < c → M1.2.2 45 j = Int64.ofNat 0) ∧ M1.2.1 = M.2.1 ∧ (∀ k, k ≠ 45 → M1.2.2 k = M.2.2 k) ∧ M1.1 = M.1) (fun m c M1 => kb X d 353 m 6 [some (rv 45), some (jv (Int64.ofNat 0)), none, some (iv (c : Int)), some (iv 61)] [] M1) (fun r => ∃ M', r = oV M' ∧ (∀ j, j < 61 → M'.2.2 45 j = Int64.ofNat 0) ∧ M'.2.1 = M.2.1 ∧ (∀ k, k ≠ 45 → M'.2.2 k = M.2.2 k) ∧ M'.1 = M.1) 61 ?_ ?_ 61 0 FU M (by omega) (FU_lt (by omega)) ⟨fun j hj => by omega, rfl, fun _ _ => rfl, rfl⟩
  · rintro m c M1 hc ⟨i1, i2, i3, i4⟩
    left
    rw [q_353_45_at6, if_pos (by omega), gdx (by omega) (by omega), Int.toNat_natCast, wr_succ (by omega)]
    refine ⟨_, rfl, fun j hj => ?_, i2, fun k hk => ?_, i4⟩
    · by_cases e : j = c
      · rw [e, puJ_eq]
      · rw [puJ_nj e]
        exact i1 j (by omega)
    · rw [← i3 k hk]
      funext j
      exact puJ_ne hk
  · rintro m M1 ⟨i1, i2, i3, i4⟩
    rw [q_353_45_at6, if_neg (by omega)]
    exact ⟨M1, rfl, i1, i2, i3, i4⟩
theorem c_zero46 : ∃ M', fn X (d + 1) 353 [rv 46, jv (Int64.ofNat 0)] M = oV M' ∧ (∀ j, j < 61 → M'.2.2 46 j = Int64.ofNat 0) ∧ M'.2.1 = M.2.1 ∧ (∀ k, k ≠ 46 → M'.2.2 k = M.2.2 k) ∧ M'.1 = M.1 := by
  rw [q_353_46]
  refine loop_st (σ := rM) (fun c M1 => (∀ j, j < c → M1.2.2 46 j = Int64.ofNat 0) ∧ M1.2.1 = M.2.1 ∧ (∀ k, k ≠ 46 → M1.2.2 k = M.2.2 k) ∧ M1.1 = M.1) (fun m c M1 => kb X d 353 m 6 [some (rv 46), some (jv (Int64.ofNat 0)), none, some (iv (c : Int)), some (iv 61)] [] M1) (fun r => ∃ M', r = oV M' ∧ (∀ j, j < 61 → M'.2.2 46 j = Int64.ofNat 0) ∧ M'.2.1 = M.2.1 ∧ (∀ k, k ≠ 46 → M'.2.2 k = M.2.2 k) ∧ M'.1 = M.1) 61 ?_ ?_ 61 0 FU M (by omega) (FU_lt (by omega)) ⟨fun j hj => by omega, rfl, fun _ _ => rfl, rfl⟩
  · rintro m c M1 hc ⟨i1, i2, i3, i4⟩
    left
    rw [q_353_46_at6, if_pos (by omega), gdx (by omega) (by omega), Int.toNat_natCast, wr_succ (by omega)]
    refine ⟨_, rfl, fun j hj => ?_, i2, fun k hk => ?_, i4⟩
    · by_cases e : j = c
      · rw [e, puJ_eq]
      · rw [puJ_nj e]
        exact i1 j (by omega)
    · rw [← i3 k hk]
      funext j
      exact puJ_ne hk
  · rintro m M1 ⟨i1, i2, i3, i4⟩
    rw [q_353_46_at6, if_neg (by omega)]
    exact ⟨M1, rfl, i1, i2, i3, i4⟩
theorem c_zero47 : ∃ M', fn X (d + 1) 353 [rv 47, jv (Int64.ofNat 0)] M = oV M' ∧ (∀ j, j < 7 → M'.2.2 47 j = Int64.ofNat 0) ∧ M'.2.1 = M.2.1 ∧ (∀ k, k ≠ 47 → M'.2.2 k = M.2.2 k) ∧ M'.1 = M.1 := by
  rw [q_353_47]
  refine loop_st (σ := rM) (fun c M1 => (∀ j, j < c → M1.2.2 47 j = Int64.ofNat 0) ∧ M1.2.1 = M.2.1 ∧ (∀ k, k ≠ 47 → M1.2.2 k = M.2.2 k) ∧ M1.1 = M.1) (fun m c M1 => kb X d 353 m 6 [some (rv 47), some (jv (Int64.ofNat 0)), none, some (iv (c : Int)), some (iv 7)] [] M1) (fun r => ∃ M', r = oV M' ∧ (∀ j, j < 7 → M'.2.2 47 j = Int64.ofNat 0) ∧ M'.2.1 = M.2.1 ∧ (∀ k, k ≠ 47 → M'.2.2 k = M.2.2 k) ∧ M'.1 = M.1) 7 ?_ ?_ 7 0 FU M (by omega) (FU_lt (by omega)) ⟨fun j hj => by omega, rfl, fun _ _ => rfl, rfl⟩
  · rintro m c M1 hc ⟨i1, i2, i3, i4⟩
    left
    rw [q_353_47_at6, if_pos (by omega), gdx (by omega) (by omega), Int.toNat_natCast, wr_succ (by omega)]
    refine ⟨_, rfl, fun j hj => ?_, i2, fun k hk => ?_, i4⟩
    · by_cases e : j = c
      · rw [e, puJ_eq]
      · rw [puJ_nj e]
        exact i1 j (by omega)
    · rw [← i3 k hk]
      funext j
      exact puJ_ne hk
  · rintro m M1 ⟨i1, i2, i3, i4⟩
    rw [q_353_47_at6, if_neg (by omega)]
    exact ⟨M1, rfl, i1, i2, i3, i4⟩
theorem c_zero48 : ∃ M', fn X (d + 1) 353 [rv 48, jv (Int64.ofNat 0)] M = oV M' ∧ (∀ j, j < 7 → M'.2.2 48 j = Int64.ofNat 0) ∧ M'.2.1 = M.2.1 ∧ (∀ k, k ≠ 48 → M'.2.2 k = M.2.2 k) ∧ M'.1 = M.1 := by
  rw [q_353_48]
  refine loop_st (σ := rM) (fun c M1 => (∀ j, j < c → M1.2.2 48 j = Int64.ofNat 0) ∧ M1.2.1 = M.2.1 ∧ (∀ k, k ≠ 48 → M1.2.2 k = M.2.2 k) ∧ M1.1 = M.1) (fun m c M1 => kb X d 353 m 6 [some (rv 48), some (jv (Int64.ofNat 0)), none, some (iv (c : Int)), some (iv 7)] [] M1) (fun r => ∃ M', r = oV M' ∧ (∀ j, j < 7 → M'.2.2 48 j = Int64.ofNat 0) ∧ M'.2.1 = M.2.1 ∧ (∀ k, k ≠ 48 → M'.2.2 k = M.2.2 k) ∧ M'.1 = M.1) 7 ?_ ?_ 7 0 FU M (by omega) (FU_lt (by omega)) ⟨fun j hj => by omega, rfl, fun _ _ => rfl, rfl⟩
  · rintro m c M1 hc ⟨i1, i2, i3, i4⟩
    left
    rw [q_353_48_at6, if_pos (by omega), gdx (by omega) (by omega), Int.toNat_natCast, wr_succ (by omega)]
    refine ⟨_, rfl, fun j hj => ?_, i2, fun k hk => ?_, i4⟩
    · by_cases e : j = c
      · rw [e, puJ_eq]
      · rw [puJ_nj e]
        exact i1 j (by omega)
    · rw [← i3 k hk]
      funext j
      exact puJ_ne hk
  · rintro m M1 ⟨i1, i2, i3, i4⟩
    rw [q_353_48_at6, if_neg (by omega)]
    exact ⟨M1, rfl, i1, i2, i3, i4⟩
/-- where a search starts -/
def SA (S : SK) (cr wa h b0 c0 : Nat) (M : rM) : Prop := (M.2.1 41 8 = (cr : Int) ∧ M.2.1 41 9 = (h : Int) ∧ M.2.1 41 10 = (wa : Int)) ∧ M.2.1 41 11 = (b0 : Int) ∧ M.2.1 41 12 = (c0 : Int) ∧ cach S cr wa h M
theorem CW.pq {m : Nat} (hW : CW (34 + 1) 0 m W M) (j : Nat) (x : Int) : CW (34 + 1) 0 m W (puI M 41 j x) := hW.fr (puI_k (by omega))
theorem c_startAt (hF : WF S) (hW : CW (34 + 1) 0 (nC S) W M) (hcr : cr < nC S) : ∃ M', fn X (d + 2) 49 [rv 41, rv 34, iv (cr : Int), iv (h : Int)] M = oV M' ∧ SA S cr (W (9 + cr)) h (W (3 + cr)) (W (15 + cr)) M' ∧ sf PQ M M' := by
  have p : ∀ j, PQ 41 j = true := fun j => by simp [PQ]
  have f1 : sf PQ M (puI (puI (puI (puI (puI M 41 8 (cr : Int)) 41 9 (h : Int)) 41 10 (W (9 + cr) : Int)) 41 11 (W (3 + cr) : Int)) 41 12 (W (15 + cr) : Int)) := ((((sf.rf.pu (p 8) _).pu (p 9) _).pu (p 10) _).pu (p 11) _).pu (p 12) _
  have g8 : (puI (puI (puI (puI (puI M 41 8 (cr : Int)) 41 9 (h : Int)) 41 10 (W (9 + cr) : Int)) 41 11 (W (3 + cr) : Int)) 41 12 (W (15 + cr) : Int)).2.1 41 8 = (cr : Int) := by
    rw [puI_nj (by omega), puI_nj (by omega), puI_nj (by omega), puI_nj (by omega), puI_eq]
  have g9 : (puI (puI (puI (puI (puI M 41 8 (cr : Int)) 41 9 (h : Int)) 41 10 (W (9 + cr) : Int)) 41 11 (W (3 + cr) : Int)) 41 12 (W (15 + cr) : Int)).2.1 41 9 = (h : Int) := by
    rw [puI_nj (by omega), puI_nj (by omega), puI_nj (by omega), puI_eq]
  have g10 : (puI (puI (puI (puI (puI M 41 8 (cr : Int)) 41 9 (h : Int)) 41 10 (W (9 + cr) : Int)) 41 11 (W (3 + cr) : Int)) 41 12 (W (15 + cr) : Int)).2.1 41 10 = (W (9 + cr) : Int) := by
    rw [puI_nj (by omega), puI_nj (by omega), puI_eq]
  have g11 : (puI (puI (puI (puI (puI M 41 8 (cr : Int)) 41 9 (h : Int)) 41 10 (W (9 + cr) : Int)) 41 11 (W (3 + cr) : Int)) 41 12 (W (15 + cr) : Int)).2.1 41 11 = (W (3 + cr) : Int) := by
    rw [puI_nj (by omega), puI_eq]
  have g12 : (puI (puI (puI (puI (puI M 41 8 (cr : Int)) 41 9 (h : Int)) 41 10 (W (9 + cr) : Int)) 41 11 (W (3 + cr) : Int)) 41 12 (W (15 + cr) : Int)).2.1 41 12 = (W (15 + cr) : Int) := puI_eq _ _ _ _
  rw [q_49_41_34, c_war hs34 hF ((hW.pq _ _).pq _ _) hcr, cI_I, c_bel hs34 hF (((hW.pq _ _).pq _ _).pq _ _) hcr, cI_I, c_crd hs34 hF ((((hW.pq _ _).pq _ _).pq _ _).pq _ _) hcr, cI_I]
  generalize puI (puI (puI (puI (puI M 41 8 (cr : Int)) 41 9 (h : Int)) 41 10 (W (9 + cr) : Int)) 41 11 (W (3 + cr) : Int)) 41 12 (W (15 + cr) : Int) = M1 at *
  obtain ⟨M2, a1, a2, a3, a4, a5⟩ := c_zero47 (X := X) (d := d) (M := M1)
  obtain ⟨M3, b1, b2, b3, b4, b5⟩ := c_zero48 (X := X) (d := d) (M := M2)
  rw [a1, cV_V, b1, cV_V]
  have ei : M3.2.1 = M1.2.1 := b3.trans a3
  refine ⟨M3, rfl, ⟨by rw [ei, g8, g9, g10]; exact ⟨rfl, rfl, rfl⟩, by rw [ei, g11], by rw [ei, g12], fun m c z1 z2 b z3 z4 => ?_⟩, b5.trans (a5.trans f1.1), fun k j z => ⟨by rw [ei]; exact (f1.2 k j z).1, ?_⟩⟩
  · rw [b2 m (by omega), b4 47 (by omega), a2 m (by omega), tb_0]
    rfl
  · have n8 : k ≠ 48 := fun e => by rw [e] at z; exact absurd z (by simp [PQ])
    have n7 : k ≠ 47 := fun e => by rw [e] at z; exact absurd z (by simp [PQ])
    rw [b4 k n8, a4 k n7]
    exact (f1.2 k j z).2
theorem c_begin {b0 c0 : Nat} (hb : b0 ≤ 63) (hc : c0 ≤ 60) (ha : SA S cr wa h b0 c0 M) : ∃ M', fn X (d + 2) 55 [rv 41] M = oV M' ∧ CQ S cr wa h (stH S cr wa h b0 c0 0) M' ∧ sf PQ M M' := by
  obtain ⟨M1, a1, a2, a3, a4, a5⟩ := c_zero45 (X := X) (d := d) (M := M)
  have p : ∀ j, PQ 41 j = true := fun j => by simp [PQ]
  have f0 : sf PQ M M1 := ⟨a5, fun k j z => ⟨by rw [a3], by rw [a4 k (fun e => by rw [e] at z; exact absurd z (by simp [PQ]))]⟩⟩
  have f1 : sf PQ M (puJ (puI (puI (puI M1 41 13 0) 41 14 (-1)) 41 16 0) 41 15 (jshl (Int64.ofNat 1) (b0 : Int))) := (((f0.pu (p 13) _).pu (p 14) _).pu (p 16) _).pj (p 15) _
  have r41 : ∀ j, j ≠ 13 → j ≠ 14 → j ≠ 16 → (puJ (puI (puI (puI M1 41 13 0) 41 14 (-1)) 41 16 0) 41 15 (jshl (Int64.ofNat 1) (b0 : Int))).2.1 41 j = M.2.1 41 j := fun j z1 z2 z3 => by
    show (puI (puI (puI M1 41 13 0) 41 14 (-1)) 41 16 0).2.1 41 j = _
    rw [puI_nj z3, puI_nj z2, puI_nj z1, a3]
  have r13 : (puJ (puI (puI (puI M1 41 13 0) 41 14 (-1)) 41 16 0) 41 15 (jshl (Int64.ofNat 1) (b0 : Int))).2.1 41 13 = 0 := by
    show (puI (puI (puI M1 41 13 0) 41 14 (-1)) 41 16 0).2.1 41 13 = _
    rw [puI_nj (by omega), puI_nj (by omega), puI_eq]
  have r14 : (puJ (puI (puI (puI M1 41 13 0) 41 14 (-1)) 41 16 0) 41 15 (jshl (Int64.ofNat 1) (b0 : Int))).2.1 41 14 = -1 := by
    show (puI (puI (puI M1 41 13 0) 41 14 (-1)) 41 16 0).2.1 41 14 = _
    rw [puI_nj (by omega), puI_eq]
  have r16 : (puJ (puI (puI (puI M1 41 13 0) 41 14 (-1)) 41 16 0) 41 15 (jshl (Int64.ofNat 1) (b0 : Int))).2.1 41 16 = 0 := puI_eq (puI (puI M1 41 13 0) 41 14 (-1)) 41 16 0
  have r15 : (puJ (puI (puI (puI M1 41 13 0) 41 14 (-1)) 41 16 0) 41 15 (jshl (Int64.ofNat 1) (b0 : Int))).2.2 41 15 = jshl (Int64.ofNat 1) (b0 : Int) := puJ_eq _ _ _ _
  have rJ : ∀ k, k ≠ 41 → (puJ (puI (puI (puI M1 41 13 0) 41 14 (-1)) 41 16 0) 41 15 (jshl (Int64.ofNat 1) (b0 : Int))).2.2 k = M1.2.2 k := fun k hk => by
    funext j
    exact puJ_ne hk
  obtain ⟨s0, s1, s2, s3⟩ := ha
  rw [q_55_41, a1, cV_V, a3, s1, s2]
  generalize puJ (puI (puI (puI M1 41 13 0) 41 14 (-1)) 41 16 0) 41 15 (jshl (Int64.ofNat 1) (b0 : Int)) = MM at *
  have hq : CQ S cr wa h ([], none, 0, [b0]) MM := by
    refine ⟨?_, ?_, r13, Or.inl ⟨rfl, r14⟩, r16, fun i hi => ?_, fun i hi => absurd hi (Nat.not_lt_zero i), fun b c z1 z2 => ?_⟩
    · rw [r41 8 (by omega) (by omega) (by omega), r41 9 (by omega) (by omega) (by omega), r41 10 (by omega) (by omega) (by omega)]
      exact s0
    · intro m c z1 z2 b z3 z4
      rw [rJ 48 (by omega), rJ 47 (by omega), a4 48 (by omega), a4 47 (by omega)]
      exact s3 m c z1 z2 b z3 z4
    · rw [r15, tb_bit (by omega) hi]
      by_cases e : i = b0
      · simp [e]
      · simp [e]
    · rw [rJ 45 (by omega), a2 c (by omega), tb_0]
      rfl
  obtain ⟨M5, v1, v2, v3⟩ := c_visit (X := X) (d := d) hq ⟨fun i hi => absurd hi (Nat.not_lt_zero i), fun i j hi => absurd hi (Nat.not_lt_zero i)⟩ hb hc (l := -1) (r := []) (Or.inl ⟨rfl, rfl⟩)
  rw [v1, cV_V]
  exact ⟨M5, rfl, v2, f1.tr v3⟩
theorem stH_s {b0 c0 k : Nat} (hk : k < (stH S cr wa h b0 c0 k).1.length) : stH S cr wa h b0 c0 (k + 1) = stT S cr wa h k (nT S) (stH S cr wa h b0 c0 k) := by
  show (if k < (stH S cr wa h b0 c0 k).1.length then stT S cr wa h k (nT S) (stH S cr wa h b0 c0 k) else stH S cr wa h b0 c0 k) = _
  rw [if_pos hk]
theorem c_spread (hS : CS S M) (hF : WF S) (hR : WR S) (hcr : cr < nC S) (hh : h ≤ 1000) {b0 c0 : Nat} (hb : b0 ≤ 63) (hc : c0 ≤ 60) (ha : SA S cr wa h b0 c0 M) : ∃ M', fn X (d + 5) 50 [rv 41] M = oV M' ∧ CQ S cr wa h (stF S cr wa h b0 c0) M' ∧ sf PQ M M' := by
  obtain ⟨M1, a1, a2, a3⟩ := c_begin (X := X) (d := d + 2) hb hc ha
  rw [q_50_41, a1, cV_V]
  refine loop_st (σ := rM) (fun k M2 => CQ S cr wa h (stH S cr wa h b0 c0 k) M2 ∧ sf PQ M M2) (fun m k M2 => kb X (d + 4) 50 m 6 [some (rv 41), some (iv (k : Int))] [] M2) (fun r => ∃ M', r = oV M' ∧ CQ S cr wa h (stF S cr wa h b0 c0) M' ∧ sf PQ M M') 3904 ?_ ?_ 3904 0 FU M1 (by omega) (FU_lt (by omega)) ⟨a2, a3⟩
  · rintro m k M2 hk ⟨i1, i2⟩
    have hB := stH_BI (S := S) (cr := cr) (wa := wa) (h := h) hF hb hc k
    rw [q_50_41_at6, i1.2.2.1]
    by_cases hl : k < (stH S cr wa h b0 c0 k).1.length
    · left
      obtain ⟨M3, g1, g2, g3⟩ := c_goOn (X := X) (d := d) (hS.sf i2 PQ_lo) hF hR hcr i1 hB hh hl
      rw [if_pos (by omega), if_pos (by omega), g1, cV_V, wr_succ (by omega), stH_s hl]
      exact ⟨M3, rfl, g2, i2.tr g3⟩
    · right
      rw [if_neg (by omega), stH_end (k := k) (by omega) (by omega)]
      exact ⟨M2, rfl, i1, i2⟩
  · rintro m M2 ⟨i1, i2⟩
    have hB := (stH_BI (S := S) (cr := cr) (wa := wa) (h := h) hF hb hc 3904).1.le
    rw [q_50_41_at6, i1.2.2.1, if_neg (by omega), stF_df]
    exact ⟨M2, rfl, i1, i2⟩
theorem c_tries (hq : CQ S cr wa h s M) (hl : s.1.length ≤ 3904) : ∀ (p m : Nat) (l : Int) (r : List Nat) (a f : Nat), r.length = p → m ≤ s.1.length → rep s.1 m l r → a + p ≤ 3904 → p < f → kb X d 51 f 47 [some (rv 41), some (iv (a : Int)), some (iv l)] [] M = oI ((a + p : Nat) : Int) M
  | 0, m, l, r, a, f, hp, hm, hr, h1, h2 => by
    obtain ⟨f, rfl⟩ : ∃ g, f = g + 1 := ⟨f - 1, by omega⟩
    have : r = [] := List.length_eq_zero_iff.1 hp
    subst this
    rw [q_51_41_at47, if_pos (rep_none hr)]
    rfl
  | p + 1, m, l, r, a, f, hp, hm, hr, h1, h2 => by
    obtain ⟨f, rfl⟩ : ∃ g, f = g + 1 := ⟨f - 1, by omega⟩
    have hn : r ≠ [] := fun e => by rw [e] at hp; cases hp
    obtain ⟨k, t, k1, k2, k3, k4⟩ := rep_some hr hn
    have hg := (hq.2.2.2.2.2.2.1 k (by omega)).2
    have e3 : ishr l 3 = (k : Int) := by
      have := ishr_nat (a := 8 * k + t) (k := 3) (by omega) (by omega)
      rw [k3]
      refine Eq.trans this ?_
      congr 1
      omega
    have hpl : (qa s.1 k).2.2.length = p := by
      rw [k4, List.length_append] at hp
      exact Nat.succ.inj hp
    rw [q_51_41_at47, if_neg (by omega), if_pos (by omega), e3, gdx (by omega) (by omega), Int.toNat_natCast, wr_succ (by omega)]
    rw [c_tries hq hl p k _ _ (a + 1) f hpl (by omega) hg (by omega) (by omega)]
    congr 2
    omega
theorem c_fewest (hS : CS S M) (hF : WF S) (hR : WR S) (hcr : cr < nC S) (hh : h ≤ 1000) {b0 c0 : Nat} (hb : b0 ≤ 63) (hc : c0 ≤ 60) (ha : SA S cr wa h b0 c0 M) : ∃ M' s', fn X (d + 5) 51 [rv 41] M = oI ((((stF S cr wa h b0 c0).2.1.getD []).length : Nat) : Int) M' ∧ CQ S cr wa h s' M' ∧ s'.2.1 = (stF S cr wa h b0 c0).2.1 ∧ BI s' ∧ sf PQ M M' := by
  obtain ⟨M1, a1, a2, a3⟩ := c_begin (X := X) (d := d + 2) hb hc ha
  rw [q_51_41, a1, cV_V]
  have fin : ∀ (k f : Nat) (M2 : rM), k ≤ 3904 → CQ S cr wa h (stH S cr wa h b0 c0 k) M2 → sf PQ M M2 → (stH S cr wa h b0 c0 k).2.1 = (stF S cr wa h b0 c0).2.1 → 3905 ≤ f → ∃ M' s', kb X (d + 4) 51 f 47 [some (rv 41), some (iv 0), some (iv (M2.2.1 41 14))] [] M2 = oI ((((stF S cr wa h b0 c0).2.1.getD []).length : Nat) : Int) M' ∧ CQ S cr wa h s' M' ∧ s'.2.1 = (stF S cr wa h b0 c0).2.1 ∧ BI s' ∧ sf PQ M M' := by
    intro k f M2 hk i1 i2 hg hf
    have hB := stH_BI (S := S) (cr := cr) (wa := wa) (h := h) hF hb hc k
    have hle := hB.1.le
    have hr := i1.2.2.2.1
    have hlr : ((stH S cr wa h b0 c0 k).2.1.getD []).length ≤ 3904 := by
      cases hx : (stH S cr wa h b0 c0 k).2.1 with
      | none => exact Nat.zero_le _
      | some r =>
        have := (hB.2.2.2.1 r hx).2.1
        show r.length ≤ 3904
        omega
    have := c_tries (X := X) (d := d + 4) i1 hle _ _ _ _ 0 f rfl (Nat.le_refl _) hr (by omega) (by omega)
    rw [Nat.zero_add, hg] at this
    exact ⟨M2, _, this, i1, hg, hB, i2⟩
  refine loop_st (σ := rM) (fun k M2 => CQ S cr wa h (stH S cr wa h b0 c0 k) M2 ∧ sf PQ M M2) (fun m k M2 => kb X (d + 4) 51 (m + 3905) 6 [some (rv 41), some (iv (k : Int)), none] [] M2) (fun r => ∃ M' s', r = oI ((((stF S cr wa h b0 c0).2.1.getD []).length : Nat) : Int) M' ∧ CQ S cr wa h s' M' ∧ s'.2.1 = (stF S cr wa h b0 c0).2.1 ∧ BI s' ∧ sf PQ M M') 3904 ?_ ?_ 3904 0 (FU - 3905) M1 (by omega) (by have := FU_ge; omega) ⟨a2, a3⟩ |> fun z => by
    rw [show FU - 3905 + 3905 = FU by have := FU_ge; omega] at z
    exact z
  · rintro m k M2 hk ⟨i1, i2⟩
    have hB := stH_BI (S := S) (cr := cr) (wa := wa) (h := h) hF hb hc k
    rw [show m + 1 + 3905 = (m + 3905) + 1 by omega, q_51_41_at6, i1.2.2.1]
    by_cases hl : k < (stH S cr wa h b0 c0 k).1.length
    · rw [if_pos (by omega), if_pos (by omega)]
      have hr := i1.2.2.2.1
      cases hx : (stH S cr wa h b0 c0 k).2.1 with
      | none =>
        left
        rw [hx] at hr
        obtain ⟨M3, g1, g2, g3⟩ := c_goOn (X := X) (d := d) (hS.sf i2 PQ_lo) hF hR hcr i1 hB hh hl
        rw [if_pos (rep_none hr), g1, cV_V, wr_succ (by omega), stH_s hl]
        exact ⟨M3, rfl, g2, i2.tr g3⟩
      | some r =>
        right
        rw [hx] at hr
        obtain ⟨k', t', -, -, z, -⟩ := rep_some hr (hB.2.2.2.1 r hx).1
        rw [if_neg (by omega)]
        exact fin k _ M2 (by omega) i1 i2 (by rw [hx, stH_goal2 hx (by omega)]) (by omega)
    · right
      rw [if_neg (by omega)]
      exact fin k _ M2 (by omega) i1 i2 (by rw [stH_end (k := k) (by omega) (by omega)]) (by omega)
  · rintro m M2 ⟨i1, i2⟩
    have hB := (stH_BI (S := S) (cr := cr) (wa := wa) (h := h) hF hb hc 3904).1.le
    rw [show m + 1 + 3905 = (m + 3905) + 1 by omega, q_51_41_at6, i1.2.2.1, if_neg (by omega)]
    exact fin 3904 _ M2 (by omega) i1 i2 (by rw [stF_df]) (by omega)
theorem getD_la {r : List Nat} {t i : Nat} (h : i < r.length) : (r ++ [t]).getD i 0 = r.getD i 0 := by
  rw [List.getD_eq_getElem?_getD, List.getElem?_append_left h, List.getD_eq_getElem?_getD]
theorem getD_ra {r : List Nat} {t : Nat} : (r ++ [t]).getD r.length 0 = t := by
  rw [List.getD_eq_getElem?_getD, List.getElem?_append_right (Nat.le_refl _), Nat.sub_self]
  rfl
theorem c_trOf (hq : CQ S cr wa h s M) (hl : s.1.length ≤ 3904) (i : Nat) : ∀ (j m : Nat) (l : Int) (r : List Nat) (f : Nat), r.length = i + 1 + j → m ≤ s.1.length → rep s.1 m l r → i + j ≤ 3904 → j < f → kb X d 52 f 10 [some (rv 41), some (iv (i : Int)), none, some (iv l), some (iv ((i + j : Nat) : Int))] [] M = oI (r.getD i 0 : Int) M
  | 0, m, l, r, f, hp, hm, hr, h1, h2 => by
    obtain ⟨f, rfl⟩ : ∃ g, f = g + 1 := ⟨f - 1, by omega⟩
    have hn : r ≠ [] := fun e => by rw [e] at hp; cases hp
    obtain ⟨k, t, k1, k2, k3, k4⟩ := rep_some hr hn
    have e : iand l 7 = (t : Int) := by
      have := iand_nat (a := 8 * k + t) (b := 7) (by omega) (by omega)
      rw [show (7 : Nat) = 2 ^ 3 - 1 by decide, Nat.and_two_pow_sub_one_eq_mod] at this
      rw [k3]
      refine Eq.trans this ?_
      congr 1
      omega
    have hi : (qa s.1 k).2.2.length = i := by
      rw [k4, List.length_append] at hp
      exact Nat.succ.inj hp
    rw [q_52_41_at10, if_neg (by omega), e, k4, ← hi, getD_ra]
  | j + 1, m, l, r, f, hp, hm, hr, h1, h2 => by
    obtain ⟨f, rfl⟩ : ∃ g, f = g + 1 := ⟨f - 1, by omega⟩
    have hn : r ≠ [] := fun e => by rw [e] at hp; cases hp
    obtain ⟨k, t, k1, k2, k3, k4⟩ := rep_some hr hn
    have hg := (hq.2.2.2.2.2.2.1 k (by omega)).2
    have e3 : ishr l 3 = (k : Int) := by
      have := ishr_nat (a := 8 * k + t) (k := 3) (by omega) (by omega)
      rw [k3]
      refine Eq.trans this ?_
      congr 1
      omega
    have hpl : (qa s.1 k).2.2.length = i + 1 + j := by
      rw [k4, List.length_append] at hp
      exact Nat.succ.inj hp
    have ew : wr (((i + (j + 1) : Nat) : Int) + (-1)) = ((i + j : Nat) : Int) := by
      rw [wri (by omega) (by omega)]
      omega
    rw [q_52_41_at10, if_pos (by omega), if_neg (by omega), e3, gdx (by omega) (by omega), Int.toNat_natCast, ew, c_trOf hq hl i j k _ _ f hpl (by omega) hg (by omega) (by omega), k4, getD_la (by omega)]
theorem c_trickOf (hq : CQ S cr wa h s M) (hI : BI s) {r : List Nat} (hg : s.2.1 = some r) {i : Nat} (hi : i < r.length) : fn X (d + 1) 52 [rv 41, iv (i : Int), iv (r.length : Int)] M = oI (r.getD i 0 : Int) M := by
  have hle := hI.1.le
  have hr := hq.2.2.2.1
  rw [hg] at hr
  have h1 := (hI.2.2.2.1 r hg).2.1
  have e : wr ((r.length : Int) - 1) = ((i + (r.length - 1 - i) : Nat) : Int) := by
    rw [wri (by omega) (by omega)]
    omega
  rw [q_52_41, e]
  exact c_trOf (X := X) (d := d) hq hle i (r.length - 1 - i) _ _ r FU (by omega) (Nat.le_refl _) hr (by omega) (FU_lt (by omega))
end C66

/-! ===== the search, on the class's side ===== -/
theorem puJ_at (M : rM) (k j : Nat) (x : Int64) (a b : Nat) : (puJ M k j x).2.2 a b = if a = k then (if b = j then x else M.2.2 k b) else M.2.2 a b := by
  show va_up M.2.2 k (va_up (M.2.2 k) j x) a b = _
  unfold va_up
  by_cases h : a = k
  · simp only [if_pos h]
  · simp only [if_neg h]
theorem puJ_eq (M : rM) (k j : Nat) (x : Int64) : (puJ M k j x).2.2 k j = x := by rw [puJ_at, if_pos rfl, if_pos rfl]
theorem puJ_ne {M : rM} {k j : Nat} {x : Int64} {a b : Nat} (h : a ≠ k) : (puJ M k j x).2.2 a b = M.2.2 a b := by rw [puJ_at, if_neg h]
theorem puJ_nj {M : rM} {k j : Nat} {x : Int64} {b : Nat} (h : b ≠ j) : (puJ M k j x).2.2 k b = M.2.2 k b := by rw [puJ_at, if_pos rfl, if_neg h]
theorem sf.pj {P : Nat → Nat → Bool} {M M1 : rM} (h : sf P M M1) {k j : Nat} (hp : P k j = true) (x : Int64) : sf P M (puJ M1 k j x) := by
  refine ⟨h.1, fun a b z => ⟨(h.2 a b z).1, ?_⟩⟩
  rw [puJ_at]
  by_cases h1 : a = k
  · by_cases h2 : b = j
    · subst h1; subst h2
      rw [hp] at z
      cases z
    · rw [if_pos h1, if_neg h2, ← h1]
      exact (h.2 a b z).2
  · rw [if_neg h1]
    exact (h.2 a b z).2
theorem tb_test2 {v : Int64} {b : Nat} (hb : b < 64) : jcmp (v &&& jshl (Int64.ofNat 1) (b : Int)) (Int64.ofNat 0) = 0 ↔ tb v b = false := by
  rw [jcmp_eq]
  constructor
  · intro h
    have := congrArg (fun z => tb z b) h
    rw [tb_and, tb_bit hb hb, tb_0] at this
    simpa using this
  · intro h
    apply tb_ne
    intro i hi
    rw [tb_and, tb_bit hb hi, tb_0]
    by_cases e : i = b
    · rw [e, h]
      rfl
    · simp [e]
theorem tb_set {v : Int64} {b i : Nat} (hb : b < 64) (hi : i < 64) : tb (v ||| jshl (Int64.ofNat 1) (b : Int)) i = (tb v i || decide (i = b)) := by
  rw [tb_or, tb_bit hb hi]
theorem pc6 : ∀ b, b < 64 → pc b ≤ 6 := by decide +kernel
def PQ (k _j : Nat) : Bool := k == 14 || k == 15 || (decide (41 ≤ k) && decide (k ≤ 48))
theorem CS.sf {S : SK} {M M' : rM} {Q : Nat → Nat → Bool} (h : CS S M) (f : sf Q M M') (hq : ∀ k j, 3 ≤ k → k ≤ 13 → Q k j = false) : CS S M' := h.fr (fun k h1 h2 => by
  funext j
  exact (f.2 k j (hq k j h1 h2)).1)
theorem PQ_lo : ∀ k j, 3 ≤ k → k ≤ 13 → PQ k j = false := by
  intro k j h1 h2
  unfold PQ
  simp only [Bool.or_eq_false_iff, Bool.and_eq_false_iff, beq_eq_false_iff_ne, decide_eq_false_iff_not]
  omega
theorem eC_Q : ∀ k j, eC k j = true → PQ k j = false := by
  intro k j z
  unfold eC at z
  unfold PQ
  simp only [Bool.or_eq_true, Bool.and_eq_true, beq_iff_eq, decide_eq_true_eq] at z
  simp only [Bool.or_eq_false_iff, Bool.and_eq_false_iff, beq_eq_false_iff_ne, decide_eq_false_iff_not]
  omega
theorem kC_Q {M M' : rM} (f : sf PQ M M') : kC M M' := kC.sf f (fun k j hk => by
  unfold PQ
  simp only [Bool.or_eq_false_iff, Bool.and_eq_false_iff, beq_eq_false_iff_ne, decide_eq_false_iff_not]
  omega)
theorem PQ_P : ∀ k j, PQ k j = false → P1415 k j = false := by
  intro k j z
  unfold PQ at z
  unfold P1415
  simp only [Bool.or_eq_false_iff] at z
  rw [z.1.1, z.1.2]
  rfl
/-- a link stands for a row -/
def rep (Q : List QE) (n : Nat) (l : Int) (r : List Nat) : Prop := (r = [] ∧ l = -1) ∨ ∃ k t : Nat, k < n ∧ t < 8 ∧ l = ((8 * k + t : Nat) : Int) ∧ r = (qa Q k).2.2 ++ [t]
theorem rep.ext {Q R : List QE} {n m : Nat} {l : Int} {r : List Nat} (h : rep Q n l r) (hn : n ≤ Q.length) (hm : n ≤ m) (e : ext Q R) : rep R m l r := by
  rcases h with h | ⟨k, t, h1, h2, h3, h4⟩
  · exact Or.inl h
  · exact Or.inr ⟨k, t, by omega, h2, h3, by rw [e.2 k (by omega)]; exact h4⟩
section C65
variable (S : SK) (cr wa h : Nat)
def cach (M : rM) : Prop := ∀ m c, m ≤ 6 → c ≤ 60 → ∀ b, b ≤ 63 → pc b = m → tb (M.2.2 48 m) c = (tb (M.2.2 47 m) c && bd S cr wa b c h)
def CQ (s : BS) (M : rM) : Prop := (M.2.1 41 8 = (cr : Int) ∧ M.2.1 41 9 = (h : Int) ∧ M.2.1 41 10 = (wa : Int)) ∧ cach S cr wa h M ∧ M.2.1 41 13 = (s.1.length : Int) ∧ rep s.1 s.1.length (M.2.1 41 14) (s.2.1.getD []) ∧ M.2.1 41 16 = (s.2.2.1 : Int) ∧ (∀ i, i < 64 → tb (M.2.2 41 15) i = decide (i ∈ s.2.2.2)) ∧ (∀ i, i < s.1.length → M.2.1 42 i = ((64 * (qa s.1 i).2.1 + (qa s.1 i).1 : Nat) : Int) ∧ rep s.1 i (M.2.1 43 i) (qa s.1 i).2.2) ∧ ∀ b c, b ≤ 63 → c ≤ 60 → tb (M.2.2 45 c) b = hasQ s.1 b c
end C65
section C65b
variable {X : Nat × (Nat → Int32)} {d n : Nat} {M M1 M2 M' : rM} {A A' : AS} {S : SK} {W V : WD} {cr wa h : Nat} {s : BS}
theorem bd_pc {b b' c : Nat} (e : pc b = pc b') : bd S cr wa b c h = bd S cr wa b' c h := by
  unfold bd valsR
  rw [e]
theorem c_isB (hS : CS S M) (hF : WF S) (hR : WR S) (h0 : M.2.1 41 8 = (cr : Int) ∧ M.2.1 41 9 = (h : Int) ∧ M.2.1 41 10 = (wa : Int)) (hc0 : cach S cr wa h M) (hcr : cr < nC S) {b c : Nat} (hb : b ≤ 63) (hc : c ≤ 60) : ∃ M', fn X (d + 3) 58 [rv 41, iv (b : Int), iv (c : Int)] M = oI (b01 (bd S cr wa b c h)) M' ∧ cach S cr wa h M' ∧ sf PQ M M' ∧ M'.2.1 41 = M.2.1 41 ∧ M'.2.1 42 = M.2.1 42 ∧ M'.2.1 43 = M.2.1 43 ∧ M'.2.1 44 = M.2.1 44 ∧ M'.2.2 41 = M.2.2 41 ∧ M'.2.2 45 = M.2.2 45 ∧ M'.2.2 46 = M.2.2 46 := by
  have h6 := pc6 b (by omega)
  obtain ⟨m, hm⟩ : ∃ m, FU = m + 1 := ⟨FU - 1, by have := FU_ge; omega⟩
  rw [q_58_41, c_bc (by omega), cI_I, gdx (by omega) (by omega), Int.toNat_natCast]
  by_cases ha : tb (M.2.2 47 (pc b)) c = true
  · rw [if_neg (fun z => by rw [tb_test2 (by omega), ha] at z; cases z), hm, q_58_41_at70, gdx (by omega) (by omega), Int.toNat_natCast]
    refine ⟨M, ?_, hc0, sf.rf, rfl, rfl, rfl, rfl, rfl, rfl, rfl⟩
    have e := hc0 (pc b) c h6 hc b hb rfl
    rw [ha, Bool.true_and] at e
    cases hx : bd S cr wa b c h with
    | false =>
      rw [hx] at e
      rw [if_pos ((tb_test2 (by omega)).2 e)]
      rfl
    | true =>
      rw [hx] at e
      rw [if_neg (fun z => by rw [tb_test2 (by omega), e] at z; cases z)]
      rfl
  · have ha : tb (M.2.2 47 (pc b)) c = false := by simpa using ha
    have e0 : tb (M.2.2 48 (pc b)) c = false := by
      rw [hc0 (pc b) c h6 hc b hb rfl, ha]
      rfl
    rw [if_pos ((tb_test2 (by omega)).2 ha), gdx (by omega) (by omega), gdx (by omega) (by omega), h0.1, h0.2.1, h0.2.2]
    obtain ⟨M4, k1, k2⟩ := c_binds (X := X) (d := d) (M := puJ M 47 (pc b) (M.2.2 47 (pc b) ||| jshl (Int64.ofNat 1) (c : Int))) (S := S) hS hF hR (c := cr) (wary := wa) (b := b) (cord := c) (h := h) hcr hb
    have fq : sf PQ M M4 := (sf.rf.pj (k := 47) (by simp [PQ]) _).tr (k2.mo PQ_P)
    have o : ∀ k, k ≠ 14 → k ≠ 15 → M4.2.1 k = M.2.1 k ∧ M4.2.2 k = (puJ M 47 (pc b) (M.2.2 47 (pc b) ||| jshl (Int64.ofNat 1) (c : Int))).2.2 k := fun k z1 z2 => ⟨by
      funext j
      exact (k2.2 k j (by simp [P1415, z1, z2])).1, by
      funext j
      exact (k2.2 k j (by simp [P1415, z1, z2])).2⟩
    have p47 : ∀ k, k ≠ 47 → (puJ M 47 (pc b) (M.2.2 47 (pc b) ||| jshl (Int64.ofNat 1) (c : Int))).2.2 k = M.2.2 k := fun k hk => by
      funext j
      exact puJ_ne hk
    rw [k1, cI_I, hm]
    cases hx : bd S cr wa b c h with
    | false =>
      rw [if_pos (show b01 false = 0 from rfl), q_58_41_at70, gdx (by omega) (by omega), Int.toNat_natCast, (o 48 (by omega) (by omega)).2, p47 48 (by omega), if_pos ((tb_test2 (by omega)).2 e0)]
      refine ⟨M4, rfl, fun m' c' hm' hc' b' hb' e' => ?_, fq, (o 41 (by omega) (by omega)).1, (o 42 (by omega) (by omega)).1, (o 43 (by omega) (by omega)).1, (o 44 (by omega) (by omega)).1, ?_, ?_, ?_⟩
      · rw [(o 48 (by omega) (by omega)).2, p47 48 (by omega), (o 47 (by omega) (by omega)).2]
        by_cases e1 : m' = pc b
        · subst e1
          rw [puJ_eq, tb_set (by omega) (by omega), hc0 (pc b) c' h6 hc' b' hb' e']
          by_cases e2 : c' = c
          · subst e2
            rw [ha, bd_pc e', hx]
            simp
          · simp [e2]
        · rw [puJ_nj e1]
          exact hc0 m' c' hm' hc' b' hb' e'
      · rw [(o 41 (by omega) (by omega)).2, p47 41 (by omega)]
      · rw [(o 45 (by omega) (by omega)).2, p47 45 (by omega)]
      · rw [(o 46 (by omega) (by omega)).2, p47 46 (by omega)]
    | true =>
      have q8 : ∀ k, k ≠ 48 → (puJ M4 48 (pc b) (M4.2.2 48 (pc b) ||| jshl (Int64.ofNat 1) (c : Int))).2.2 k = M4.2.2 k := fun k hk => by
        funext j
        exact puJ_ne hk
      rw [if_neg (show ¬ b01 true = 0 by decide), gdx (by omega) (by omega), gdx (by omega) (by omega), q_58_41_at70, gdx (by omega) (by omega), Int.toNat_natCast, puJ_eq, if_neg (fun z => by
        rw [tb_test2 (by omega), tb_set (by omega) (by omega)] at z
        simp at z)]
      refine ⟨_, rfl, fun m' c' hm' hc' b' hb' e' => ?_, fq.pj (k := 48) (by simp [PQ]) _, (o 41 (by omega) (by omega)).1, (o 42 (by omega) (by omega)).1, (o 43 (by omega) (by omega)).1, (o 44 (by omega) (by omega)).1, ?_, ?_, ?_⟩
      · rw [q8 47 (by omega), (o 47 (by omega) (by omega)).2]
        by_cases e1 : m' = pc b
        · subst e1
          rw [puJ_eq, puJ_eq, tb_set (by omega) (by omega), tb_set (by omega) (by omega), (o 48 (by omega) (by omega)).2, p47 48 (by omega), hc0 (pc b) c' h6 hc' b' hb' e']
          by_cases e2 : c' = c
          · subst e2
            rw [ha, bd_pc e', hx]
            simp
          · simp [e2]
        · rw [puJ_nj e1, puJ_nj e1, (o 48 (by omega) (by omega)).2, p47 48 (by omega)]
          exact hc0 m' c' hm' hc' b' hb' e'
      · rw [q8 41 (by omega), (o 41 (by omega) (by omega)).2, p47 41 (by omega)]
      · rw [q8 45 (by omega), (o 45 (by omega) (by omega)).2, p47 45 (by omega)]
      · rw [q8 46 (by omega), (o 46 (by omega) (by omega)).2, p47 46 (by omega)]
/-- a place is visited -/
theorem c_visit (hq : CQ S cr wa h s M) (hI : QI s.1) {b c : Nat} (hb : b ≤ 63) (hc : c ≤ 60) {l : Int} {r : List Nat} (hl : rep s.1 s.1.length l r) : ∃ M', fn X (d + 1) 56 [rv 41, iv (b : Int), iv (c : Int), iv l] M = oV M' ∧ CQ S cr wa h (vis s.1 b c r, s.2) M' ∧ sf PQ M M' := by
  obtain ⟨q0, q1, q2, q3, q4, q5, q6, q7⟩ := hq
  have hw := q7 b c hb hc
  rw [q_56_41, gdx (by omega) (by omega), Int.toNat_natCast]
  unfold vis
  by_cases hx : hasQ s.1 b c = true
  · rw [if_neg (fun z => by rw [tb_test (by omega), hw, hx] at z; cases z), if_pos hx]
    exact ⟨M, rfl, ⟨q0, q1, q2, q3, q4, q5, q6, q7⟩, sf.rf⟩
  · have hx0 : hasQ s.1 b c = false := by simpa using hx
    have hlt := hI.lt hb hc hx0
    have e1 : wr (wr ((c : Int) * 64) + (b : Int)) = ((64 * c + b : Nat) : Int) := by
      rw [wri (x := (c : Int) * 64) (by omega) (by omega), wri (by omega) (by omega)]
      omega
    rw [if_pos ((tb_test (by omega)).2 (hw.trans hx0)), q2, if_pos (by omega), gdx (by omega) (by omega), gdx (by omega) (by omega), gdx (by omega) (by omega), gdx (by omega) (by omega), Int.toNat_natCast, if_neg hx, e1, wr_succ (by omega)]
    have ll : (s.1 ++ [(b, c, r)]).length = s.1.length + 1 := by rw [List.length_append]; rfl
    have ex : ext s.1 (s.1 ++ [(b, c, r)]) := ⟨by omega, fun k hk => qa_app hk⟩
    have fr : sf PQ M (puI (puI (puI (puJ M 45 c (M.2.2 45 c ||| jshl (Int64.ofNat 1) (b : Int))) 42 s.1.length ((64 * c + b : Nat) : Int)) 43 s.1.length l) 41 13 ((s.1.length + 1 : Nat) : Int)) := (((sf.rf.pj (k := 45) (by simp [PQ]) _).pu (k := 42) (by simp [PQ]) _).pu (k := 43) (by simp [PQ]) _).pu (k := 41) (by simp [PQ]) _
    have r41 : ∀ j, j ≠ 13 → (puI (puI (puI (puJ M 45 c (M.2.2 45 c ||| jshl (Int64.ofNat 1) (b : Int))) 42 s.1.length ((64 * c + b : Nat) : Int)) 43 s.1.length l) 41 13 ((s.1.length + 1 : Nat) : Int)).2.1 41 j = M.2.1 41 j := fun j hj => by
      rw [puI_nj hj, puI_ne (show (41 : Nat) ≠ 43 by omega), puI_ne (show (41 : Nat) ≠ 42 by omega)]
      rfl
    have r13 : (puI (puI (puI (puJ M 45 c (M.2.2 45 c ||| jshl (Int64.ofNat 1) (b : Int))) 42 s.1.length ((64 * c + b : Nat) : Int)) 43 s.1.length l) 41 13 ((s.1.length + 1 : Nat) : Int)).2.1 41 13 = ((s.1.length + 1 : Nat) : Int) := puI_eq _ _ _ _
    have r42 : ∀ j, (puI (puI (puI (puJ M 45 c (M.2.2 45 c ||| jshl (Int64.ofNat 1) (b : Int))) 42 s.1.length ((64 * c + b : Nat) : Int)) 43 s.1.length l) 41 13 ((s.1.length + 1 : Nat) : Int)).2.1 42 j = if j = s.1.length then ((64 * c + b : Nat) : Int) else M.2.1 42 j := fun j => by
      rw [puI_ne (show (42 : Nat) ≠ 41 by omega), puI_ne (show (42 : Nat) ≠ 43 by omega), puI_at, if_pos rfl]
      rfl
    have r43 : ∀ j, (puI (puI (puI (puJ M 45 c (M.2.2 45 c ||| jshl (Int64.ofNat 1) (b : Int))) 42 s.1.length ((64 * c + b : Nat) : Int)) 43 s.1.length l) 41 13 ((s.1.length + 1 : Nat) : Int)).2.1 43 j = if j = s.1.length then l else M.2.1 43 j := fun j => by
      rw [puI_ne (show (43 : Nat) ≠ 41 by omega), puI_at, if_pos rfl, puI_ne (show (43 : Nat) ≠ 42 by omega)]
      rfl
    have rJ : ∀ k, k ≠ 45 → (puI (puI (puI (puJ M 45 c (M.2.2 45 c ||| jshl (Int64.ofNat 1) (b : Int))) 42 s.1.length ((64 * c + b : Nat) : Int)) 43 s.1.length l) 41 13 ((s.1.length + 1 : Nat) : Int)).2.2 k = M.2.2 k := fun k hk => by
      show (puJ M 45 c (M.2.2 45 c ||| jshl (Int64.ofNat 1) (b : Int))).2.2 k = _
      funext j
      exact puJ_ne hk
    have r45 : ∀ j, (puI (puI (puI (puJ M 45 c (M.2.2 45 c ||| jshl (Int64.ofNat 1) (b : Int))) 42 s.1.length ((64 * c + b : Nat) : Int)) 43 s.1.length l) 41 13 ((s.1.length + 1 : Nat) : Int)).2.2 45 j = if j = c then M.2.2 45 c ||| jshl (Int64.ofNat 1) (b : Int) else M.2.2 45 j := fun j => by
      show (puJ M 45 c (M.2.2 45 c ||| jshl (Int64.ofNat 1) (b : Int))).2.2 45 j = _
      rw [puJ_at, if_pos rfl]
    generalize puI (puI (puI (puJ M 45 c (M.2.2 45 c ||| jshl (Int64.ofNat 1) (b : Int))) 42 s.1.length ((64 * c + b : Nat) : Int)) 43 s.1.length l) 41 13 ((s.1.length + 1 : Nat) : Int) = MM at *
    refine ⟨MM, rfl, ⟨?_, ?_, ?_, ?_, ?_, ?_, ?_, ?_⟩, fr⟩
    · rw [r41 8 (by omega), r41 9 (by omega), r41 10 (by omega)]
      exact q0
    · intro m' c' z1 z2 b' z3 z4
      rw [rJ 48 (by omega), rJ 47 (by omega)]
      exact q1 m' c' z1 z2 b' z3 z4
    · dsimp only
      rw [ll, r13]
    · dsimp only
      rw [r41 14 (by omega)]
      exact q3.ext (Nat.le_refl _) (by omega) ex
    · rw [r41 16 (by omega)]
      exact q4
    · intro i hi
      rw [rJ 41 (by omega)]
      exact q5 i hi
    · intro i hi
      dsimp only at hi ⊢
      rw [r42, r43]
      by_cases e : i = s.1.length
      · rw [if_pos e, if_pos e, e, qa_end]
        exact ⟨rfl, hl.ext (Nat.le_refl _) (Nat.le_refl _) ex⟩
      · have hi' : i < s.1.length := by omega
        obtain ⟨g1, g2⟩ := q6 i hi'
        rw [if_neg e, if_neg e, qa_app hi']
        exact ⟨g1, g2.ext (by omega) (Nat.le_refl _) ex⟩
    · intro b' c' z1 z2
      dsimp only
      have ea : hasQ (s.1 ++ [(b, c, r)]) b' c' = (hasQ s.1 b' c' || (b == b' && c == c')) := by
        unfold hasQ
        rw [List.any_append]
        simp
      rw [ea, r45]
      by_cases e : c' = c
      · rw [if_pos e, ← e, tb_set (by omega) (by omega), q7 b' c' z1 z2]
        simp only [beq_self_eq_true, Bool.and_true]
        congr 1
        by_cases e2 : b' = b
        · simp [e2]
        · simp [e2, Ne.symm e2]
      · rw [if_neg e, q7 b' c' z1 z2]
        simp [Ne.symm e]
end C65b

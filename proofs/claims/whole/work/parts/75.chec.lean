/-! ===== cheapest, on the class's side ===== -/
def CL (z : DS) (M : rM) : Prop := ∀ b c, b ≤ 63 → c ≤ 60 → tb (M.2.2 45 c) b = z.1 b c ∧ tb (M.2.2 46 c) b = z.2.1 b c ∧ (z.1 b c = true → M.2.1 44 (64 * c + b) = (z.2.2 b c : Int))
theorem tb_not {v : Int64} {b i : Nat} (hb : b < 64) (hi : i < 64) : tb (v &&& (jshl (Int64.ofNat 1) (b : Int) ^^^ (-1 : Int64))) i = (tb v i && !decide (i = b)) := by
  rw [tb_and]
  congr 1
  have e : tb (jshl (Int64.ofNat 1) (b : Int) ^^^ (-1 : Int64)) i = (tb (jshl (Int64.ofNat 1) (b : Int)) i ^^ tb (-1 : Int64) i) := by
    unfold tb
    rw [Int64.toBitVec_xor, BitVec.getLsbD_xor]
  have e1 : tb (-1 : Int64) i = true := by
    have : ∀ i, i < 64 → tb (-1 : Int64) i = true := by decide +kernel
    exact this i hi
  rw [e, e1, tb_bit hb hi]
  cases decide (i = b) <;> rfl
theorem jc0 {v : Int64} : jcmp v (Int64.ofNat 0) = 0 ↔ ∀ b, b ≤ 63 → tb v b = false := by
  rw [jcmp_eq]
  constructor
  · rintro rfl b hb
    exact tb_0 b
  · intro h
    apply tb_ne
    intro i hi
    rw [h i (by omega), tb_0]
section C75
variable {X : Nat × (Nat → Int32)} {d n : Nat} {M M1 M2 M' : rM} {A A' : AS} {S : SK} {W V : WD} {cr wa h b0 c0 : Nat} {z : DS} {o : Option Nat}
/-- what the reckoning needs of the search's own cells -/
def CG (S : SK) (cr wa h : Nat) (M : rM) : Prop := (M.2.1 41 8 = (cr : Int) ∧ M.2.1 41 9 = (h : Int) ∧ M.2.1 41 10 = (wa : Int)) ∧ cach S cr wa h M
theorem ix64 {b c : Nat} (hb : b ≤ 63) (hc : c ≤ 60) : wr (wr ((c : Int) * 64) + (b : Int)) = ((64 * c + b : Nat) : Int) := by
  rw [wri (x := (c : Int) * 64) (by omega) (by omega), wri (by omega) (by omega)]
  omega
theorem c_improve (hz : CL z M) {b c k : Nat} (hb : b ≤ 63) (hc : c ≤ 60) : ∃ M', fn X (d + 1) 62 [rv 41, iv (b : Int), iv (c : Int), iv (k : Int)] M = oV M' ∧ CL (imp z b c k) M' ∧ (CG S cr wa h M → CG S cr wa h M') ∧ M'.2.1 41 = M.2.1 41 ∧ sf PQ M M' := by
  have put : CL (u2 z.1 b c true, u2 z.2.1 b c true, u2 z.2.2 b c k) (puI (puJ (puJ M 45 c (M.2.2 45 c ||| jshl (Int64.ofNat 1) (b : Int))) 46 c (M.2.2 46 c ||| jshl (Int64.ofNat 1) (b : Int))) 44 (64 * c + b) (k : Int)) := by
    intro b' c' h1 h2
    obtain ⟨g1, g2, g3⟩ := hz b' c' h1 h2
    have a45 : (puI (puJ (puJ M 45 c (M.2.2 45 c ||| jshl (Int64.ofNat 1) (b : Int))) 46 c (M.2.2 46 c ||| jshl (Int64.ofNat 1) (b : Int))) 44 (64 * c + b) (k : Int)).2.2 45 c' = if c' = c then M.2.2 45 c ||| jshl (Int64.ofNat 1) (b : Int) else M.2.2 45 c' := by
      show (puJ (puJ M 45 c (M.2.2 45 c ||| jshl (Int64.ofNat 1) (b : Int))) 46 c (M.2.2 46 c ||| jshl (Int64.ofNat 1) (b : Int))).2.2 45 c' = _
      rw [puJ_ne (by omega), puJ_at, if_pos rfl]
    have a46 : (puI (puJ (puJ M 45 c (M.2.2 45 c ||| jshl (Int64.ofNat 1) (b : Int))) 46 c (M.2.2 46 c ||| jshl (Int64.ofNat 1) (b : Int))) 44 (64 * c + b) (k : Int)).2.2 46 c' = if c' = c then M.2.2 46 c ||| jshl (Int64.ofNat 1) (b : Int) else M.2.2 46 c' := by
      show (puJ (puJ M 45 c (M.2.2 45 c ||| jshl (Int64.ofNat 1) (b : Int))) 46 c (M.2.2 46 c ||| jshl (Int64.ofNat 1) (b : Int))).2.2 46 c' = _
      rw [puJ_at, if_pos rfl, puJ_ne (by omega)]
    have a44 : (puI (puJ (puJ M 45 c (M.2.2 45 c ||| jshl (Int64.ofNat 1) (b : Int))) 46 c (M.2.2 46 c ||| jshl (Int64.ofNat 1) (b : Int))) 44 (64 * c + b) (k : Int)).2.1 44 (64 * c' + b') = if 64 * c' + b' = 64 * c + b then (k : Int) else M.2.1 44 (64 * c' + b') := by
      rw [puI_at, if_pos rfl]
      rfl
    rw [a45, a46, a44]
    dsimp only
    by_cases e : b' = b ∧ c' = c
    · obtain ⟨rfl, rfl⟩ := e
      rw [if_pos rfl, if_pos rfl, if_pos rfl, tb_set (by omega) (by omega), tb_set (by omega) (by omega), u2_eq, u2_eq, u2_eq]
      exact ⟨by simp, by simp, fun _ => rfl⟩
    · rw [u2_ne e, u2_ne e, u2_ne e, if_neg (show ¬ 64 * c' + b' = 64 * c + b from fun q => e ⟨by omega, by omega⟩)]
      by_cases ec : c' = c
      · subst ec
        have eb : ¬ b' = b := fun q => e ⟨q, rfl⟩
        rw [if_pos rfl, if_pos rfl, tb_set (by omega) (by omega), tb_set (by omega) (by omega), g1, g2]
        exact ⟨by simp [eb], by simp [eb], g3⟩
      · rw [if_neg ec, if_neg ec]
        exact ⟨g1, g2, g3⟩
  have fr : sf PQ M (puI (puJ (puJ M 45 c (M.2.2 45 c ||| jshl (Int64.ofNat 1) (b : Int))) 46 c (M.2.2 46 c ||| jshl (Int64.ofNat 1) (b : Int))) 44 (64 * c + b) (k : Int)) := ((sf.rf.pj (k := 45) (by simp [PQ]) _).pj (k := 46) (by simp [PQ]) _).pu (k := 44) (by simp [PQ]) _
  have e41 : (puI (puJ (puJ M 45 c (M.2.2 45 c ||| jshl (Int64.ofNat 1) (b : Int))) 46 c (M.2.2 46 c ||| jshl (Int64.ofNat 1) (b : Int))) 44 (64 * c + b) (k : Int)).2.1 41 = M.2.1 41 := by
    rw [puI_k (by omega)]
    rfl
  have eJ : ∀ a, a ≠ 45 → a ≠ 46 → (puI (puJ (puJ M 45 c (M.2.2 45 c ||| jshl (Int64.ofNat 1) (b : Int))) 46 c (M.2.2 46 c ||| jshl (Int64.ofNat 1) (b : Int))) 44 (64 * c + b) (k : Int)).2.2 a = M.2.2 a := fun a h1 h2 => by
    show (puJ (puJ M 45 c (M.2.2 45 c ||| jshl (Int64.ofNat 1) (b : Int))) 46 c (M.2.2 46 c ||| jshl (Int64.ofNat 1) (b : Int))).2.2 a = _
    funext j
    rw [puJ_ne h2, puJ_ne h1]
  have cg : CG S cr wa h M → CG S cr wa h (puI (puJ (puJ M 45 c (M.2.2 45 c ||| jshl (Int64.ofNat 1) (b : Int))) 46 c (M.2.2 46 c ||| jshl (Int64.ofNat 1) (b : Int))) 44 (64 * c + b) (k : Int)) := fun g => ⟨by rw [e41]; exact g.1, fun m c' z1 z2 b' z3 z4 => by
    rw [eJ 48 (by omega) (by omega), eJ 47 (by omega) (by omega)]
    exact g.2 m c' z1 z2 b' z3 z4⟩
  obtain ⟨g1, g2, g3⟩ := hz b c hb hc
  rw [q_62_41, ix64 hb hc, Int.toNat_natCast, Int.toNat_natCast, gdx (by omega) (by omega)]
  unfold imp
  by_cases hs : z.1 b c = true
  · rw [if_neg (fun q => by rw [tb_test2 (by omega), g1, hs] at q; cases q), gdx (by omega) (by omega), g3 hs]
    by_cases hk : z.2.2 b c ≤ k
    · rw [if_neg (by omega), if_pos ⟨hs, hk⟩]
      exact ⟨M, rfl, hz, fun g => g, rfl, sf.rf⟩
    · rw [if_pos (by omega), if_neg (fun q => hk q.2), gdx (by omega) (by omega), gdx (by omega) (by omega), gdx (by omega) (by omega), gdx (by omega) (by omega), gdx (by omega) (by omega)]
      exact ⟨_, rfl, put, cg, e41, fr⟩
  · rw [if_pos ((tb_test2 (by omega)).2 (by rw [g1]; simpa using hs)), if_neg (fun q => hs q.1), gdx (by omega) (by omega), gdx (by omega) (by omega), gdx (by omega) (by omega), gdx (by omega) (by omega), gdx (by omega) (by omega)]
    exact ⟨_, rfl, put, cg, e41, fr⟩
noncomputable def pfT (S : SK) (cr wa h b c p : Nat) : Nat → DS × Option Nat → DS × Option Nat
  | 0, s => s
  | t + 1, s => pf1 S cr wa h b c p t (pfT S cr wa h b c p t s)
theorem pfT_ok (hF : WF S) {E b c p : Nat} {Z : List Nat} {s : DS × Option Nat} (hb : b ≤ 63) (hc : c ≤ 60) (hl : LI S cr wa h b0 c0 E b c 0 s.1 s.2) (hz : LZ c p Z s.1) (h1 : s.1.1 b c = true) (h2 : s.1.2.1 b c = false) (h3 : s.1.2.2 b c = p) (hp : p + 20 ≤ 20 * E) : ∀ t, t ≤ nT S →
    LI S cr wa h b0 c0 E b c t (pfT S cr wa h b c p t s).1 (pfT S cr wa h b c p t s).2 ∧ LZ c p Z (pfT S cr wa h b c p t s).1 ∧ (pfT S cr wa h b c p t s).1.1 b c = true ∧ (pfT S cr wa h b c p t s).1.2.1 b c = false ∧ (pfT S cr wa h b c p t s).1.2.2 b c = p
  | 0, _ => ⟨hl, hz, h1, h2, h3⟩
  | t + 1, ht => by
    obtain ⟨a1, a2, a3, a4, a5⟩ := pfT_ok hF hb hc hl hz h1 h2 h3 hp t (by omega)
    exact pf1_ok hF hb hc (by omega) a1 a2 a3 a4 a5 hp
theorem bmin_i {o : Option Nat} {k : Nat} {X' : Type} {f : Int → X'} : (if bI o = -1 then f (k : Int) else if (k : Int) < bI o then f (k : Int) else f (bI o)) = f (bI (bmin o k)) := by
  cases o with
  | none =>
    rw [if_pos (show bI none = -1 from rfl)]
    rfl
  | some m =>
    have e : bI (some m) = (m : Int) := rfl
    rw [e, if_neg (by omega)]
    unfold bmin
    by_cases hl : k < m
    · rw [if_pos (by omega)]
      dsimp only
      rw [if_pos hl]
      rfl
    · rw [if_neg (by omega)]
      dsimp only
      rw [if_neg hl]
      rfl
theorem c_payF (hS : CS S M) (hF : WF S) (hR : WR S) (hcr : cr < nC S) (hh : h ≤ 1000) {b c p : Nat} (hb : b ≤ 63) (hc : c ≤ 60) (hpb : p ≤ 100000) (hz : CL z M) (hsn : z.1 b c = true) (hco : z.2.2 b c = p) (hg : CG S cr wa h M) : ∃ M', fn X (d + 4) 61 [rv 41, iv (b : Int), iv (c : Int), iv (bI o)] M = oI (bI (pfT S cr wa h b c p (nT S) (z, o)).2) M' ∧ CL (pfT S cr wa h b c p (nT S) (z, o)).1 M' ∧ CG S cr wa h M' ∧ sf PQ M M' := by
  have h8 := hF.2.1
  rw [q_61_41, ix64 hb hc, gdx (by omega) (by omega), Int.toNat_natCast, (hz b c hb hc).2.2 hsn, hco]
  refine loop_st (σ := rM) (fun t M1 => CL (pfT S cr wa h b c p t (z, o)).1 M1 ∧ CG S cr wa h M1 ∧ sf PQ M M1) (fun m t M1 => kb X (d + 3) 61 m 19 [some (rv 41), some (iv (b : Int)), some (iv (c : Int)), none, some (iv (bI (pfT S cr wa h b c p t (z, o)).2)), some (iv (p : Int)), some (iv (t : Int)), none, none, none] [] M1) (fun r => ∃ M', r = oI (bI (pfT S cr wa h b c p (nT S) (z, o)).2) M' ∧ CL (pfT S cr wa h b c p (nT S) (z, o)).1 M' ∧ CG S cr wa h M' ∧ sf PQ M M') (nT S) ?_ ?_ (nT S) 0 FU M (by omega) (FU_lt (by omega)) ⟨hz, hg, sf.rf⟩
  · rintro m t M1 ht ⟨i1, i2, i3⟩
    left
    have hS1 := hS.sf i3 PQ_lo
    have hct := (hF.2.2.2.2.2.1 t ht).2.2.2.2.2
    have g5 := c_get6 (X := X) (d := d + 2) hS1 hF ht (j := 5) (by omega)
    have g5 : fn X (d + 3) 118 [rv 6, iv (t : Int), iv 5] M1 = _ := g5
    rw [q_61_41_at19, q_112_6, cI_I, hS1.2.1, if_pos (by omega), c_works hS1 hF ht hb, cI_I, wr_succ (by omega)]
    show ∃ s', _ = kb X (d + 3) 61 m 19 [some (rv 41), some (iv (b : Int)), some (iv (c : Int)), none, some (iv (bI (pf1 S cr wa h b c p t (pfT S cr wa h b c p t (z, o))).2)), some (iv (p : Int)), some (iv ((t + 1 : Nat) : Int)), none, none, none] [] s' ∧ CL (pf1 S cr wa h b c p t (pfT S cr wa h b c p t (z, o))).1 s' ∧ _
    generalize pfT S cr wa h b c p t (z, o) = s at *
    unfold pf1
    by_cases hw : wk S t b = true
    · have hbb := bb_le hF ht hb
      have hcb := cb_le (S := S) (t := t) (h := h) hc
      rw [if_neg (by rw [b01_0, hw]; simp), if_pos hw, g5, cI_I, c_bb hS1 hF ht hb, cI_I, i2.1.2.1, c_cb hS1 hF ht hc hh, cI_I]
      obtain ⟨M4, k1, k2, k3, k4, k5, k6, k7, k8, k9, k10⟩ := c_isB (X := X) (d := d) hS1 hF hR i2.1 i2.2 hcr hbb hcb
      have i4 : CG S cr wa h M4 := ⟨by rw [k4]; exact i2.1, k2⟩
      have z4 : CL s.1 M4 := fun b' c' x1 x2 => by
        rw [k9, k10, k7]
        exact i1 b' c' x1 x2
      rw [k1, cI_I, wri (x := (p : Int) + _) (by omega) (by omega), ← Int.natCast_add]
      by_cases hd : bd S cr wa (bb S t b) (cb S t c h) h = true
      · rw [if_neg (by rw [b01_0, hd]; simp), if_pos hd]
        refine ⟨M4, ?_, z4, i4, i3.tr k3⟩
        exact bmin_i (o := s.2) (k := p + tri S t 5) (f := fun v => kb X (d + 3) 61 m 19 [some (rv 41), some (iv (b : Int)), some (iv (c : Int)), none, some (iv v), some (iv (p : Int)), some (iv ((t + 1 : Nat) : Int)), none, none, none] [] M4)
      · rw [if_pos (by rw [b01_0]; simpa using hd), if_neg hd]
        obtain ⟨M5, v1, v2, v3, v4, v5⟩ := c_improve (X := X) (d := d + 2) (S := S) (cr := cr) (wa := wa) (h := h) z4 (k := p + tri S t 5) hbb hcb
        rw [v1, cV_V]
        exact ⟨M5, rfl, v2, v3 i4, (i3.tr k3).tr v5⟩
    · rw [if_pos (by rw [b01_0]; simpa using hw), if_neg hw]
      exact ⟨M1, rfl, i1, i2, i3⟩
  · rintro m M1 ⟨i1, i2, i3⟩
    have hS1 := hS.sf i3 PQ_lo
    rw [q_61_41_at19, q_112_6, cI_I, hS1.2.1, if_neg (by omega)]
    exact ⟨M1, rfl, i1, i2, i3⟩
/-- the cheapest of those that wait at a cord -/
theorem c_pick (hz : CL z M) {c : Nat} (hc : c ≤ 60) (hbd : ∀ b, b ≤ 63 → z.2.1 b c = true → z.1 b c = true ∧ z.2.2 b c ≤ 100000) (hex : ∃ b : Nat, b ≤ 63 ∧ z.2.1 b c = true) : ∃ b : Nat, b ≤ 63 ∧ fn X (d + 1) 60 [rv 41, iv (c : Int)] M = oI (b : Int) M ∧ z.2.1 b c = true ∧ ∀ b', b' ≤ 63 → z.2.1 b' c = true → z.2.2 b c ≤ z.2.2 b' c := by
  rw [q_60_41]
  have main := loop_g (σ := Int) (fun i s => (s = -1 ∧ ∀ b', b' < i → z.2.1 b' c = false) ∨ ∃ b : Nat, b < i ∧ s = (b : Int) ∧ z.2.1 b c = true ∧ ∀ b', b' < i → z.2.1 b' c = true → z.2.2 b c ≤ z.2.2 b' c) (fun m i s => kb X d 60 m 4 [some (rv 41), some (iv (c : Int)), some (iv s), some (iv (i : Int)), none] [] M) (fun r => ∃ b : Nat, b ≤ 63 ∧ r = oI (b : Int) M ∧ z.2.1 b c = true ∧ ∀ b', b' ≤ 63 → z.2.1 b' c = true → z.2.2 b c ≤ z.2.2 b' c) 64 2 ?_ ?_ 64 0 FU (-1) (by omega) (by have := FU_ge; omega) (Or.inl ⟨rfl, fun b' hb' => by omega⟩)
  · exact main
  · intro m i s hi hs
    left
    show ∃ g' s', m ≤ g' ∧ kb X d 60 (m + 1 + 1) 4 [some (rv 41), some (iv (c : Int)), some (iv s), some (iv (i : Int)), none] [] M = kb X d 60 g' 4 [some (rv 41), some (iv (c : Int)), some (iv s'), some (iv ((i + 1 : Nat) : Int)), none] [] M ∧ ((s' = -1 ∧ ∀ b', b' < i + 1 → z.2.1 b' c = false) ∨ ∃ b : Nat, b < i + 1 ∧ s' = (b : Int) ∧ z.2.1 b c = true ∧ ∀ b', b' < i + 1 → z.2.1 b' c = true → z.2.2 b c ≤ z.2.2 b' c)
    obtain ⟨g1, g2, g3⟩ := hz i c (by omega) hc
    rw [q_60_41_at4, if_pos (by omega), gdx (by omega) (by omega), Int.toNat_natCast]
    by_cases ho : z.2.1 i c = true
    · obtain ⟨a1, a2⟩ := hbd i (by omega) ho
      rw [if_neg (fun q => by rw [tb_test (by omega), g2, ho] at q; cases q), q_60_41_at30, if_neg (by decide), wr_succ (by omega)]
      rcases hs with ⟨rfl, hn⟩ | ⟨b, hb, rfl, hb1, hb2⟩
      · rw [if_pos rfl]
        refine ⟨m, (i : Int), Nat.le_refl _, rfl, Or.inr ⟨i, by omega, rfl, ho, fun b' hb' hq => ?_⟩⟩
        by_cases e : b' = i
        · rw [e]
          exact Nat.le_refl _
        · rw [hn b' (by omega)] at hq
          cases hq
      · rw [if_neg (by omega), ix64 (b := i) (by omega) hc, ix64 (b := b) (by omega) hc, gdx (by omega) (by omega), gdx (by omega) (by omega), Int.toNat_natCast, Int.toNat_natCast, g3 a1, (hz b c (by omega) hc).2.2 (hbd b (by omega) hb1).1]
        by_cases hl : z.2.2 i c < z.2.2 b c
        · rw [if_pos (by omega)]
          refine ⟨m, (i : Int), Nat.le_refl _, rfl, Or.inr ⟨i, by omega, rfl, ho, fun b' hb' hq => ?_⟩⟩
          by_cases e : b' = i
          · rw [e]
            exact Nat.le_refl _
          · have := hb2 b' (by omega) hq
            omega
        · rw [if_neg (by omega)]
          refine ⟨m, (b : Int), Nat.le_refl _, rfl, Or.inr ⟨b, by omega, rfl, hb1, fun b' hb' hq => ?_⟩⟩
          by_cases e : b' = i
          · rw [e]
            omega
          · exact hb2 b' (by omega) hq
    · have ho : z.2.1 i c = false := by simpa using ho
      rw [if_pos ((tb_test (by omega)).2 (g2.trans ho)), q_60_41_at30, if_pos rfl, wr_succ (by omega)]
      refine ⟨m, s, Nat.le_refl _, rfl, ?_⟩
      rcases hs with ⟨e, hn⟩ | ⟨b, hb, e, hb1, hb2⟩
      · refine Or.inl ⟨e, fun b' hb' => ?_⟩
        by_cases e : b' = i
        · rw [e]
          exact ho
        · exact hn b' (by omega)
      · refine Or.inr ⟨b, by omega, e, hb1, fun b' hb' hq => ?_⟩
        by_cases e : b' = i
        · rw [e, ho] at hq
          cases hq
        · exact hb2 b' (by omega) hq
  · intro m s hs
    show ∃ b : Nat, b ≤ 63 ∧ kb X d 60 (m + 1) 4 [some (rv 41), some (iv (c : Int)), some (iv s), some (iv ((64 : Nat) : Int)), none] [] M = oI (b : Int) M ∧ z.2.1 b c = true ∧ ∀ b', b' ≤ 63 → z.2.1 b' c = true → z.2.2 b c ≤ z.2.2 b' c
    rw [q_60_41_at4, if_neg (by omega)]
    rcases hs with ⟨e, hn⟩ | ⟨b, hb, e, hb1, hb2⟩
    · obtain ⟨b, x1, x2⟩ := hex
      rw [hn b (by omega)] at x2
      cases x2
    · have em : max 0 s = (b : Int) := by omega
      rw [em]
      exact ⟨b, by omega, rfl, hb1, fun b' hb' => hb2 b' (by omega)⟩
/-- numbers below 64, no two alike, 64 of them: all -/
theorem all64 {Z : List Nat} (hn : Z.Nodup) (hb : ∀ x ∈ Z, x ≤ 63) (hl : Z.length = 64) {b : Nat} (h : b ≤ 63) : b ∈ Z := by
  apply Classical.byContradiction
  intro hx
  have hp := pigeon 64 65 (fun i => if i = 64 then b else Z.getD i 0) (fun i hi => by
    by_cases e : i = 64
    · rw [if_pos e]
      omega
    · rw [if_neg e]
      have hm : Z.getD i 0 ∈ Z := by
        rw [List.getD_eq_getElem?_getD, List.getElem?_eq_getElem (by omega)]
        exact List.getElem_mem _
      have := hb _ hm
      omega) (fun i j hi hj e => by
    by_cases e1 : i = 64
    · by_cases e2 : j = 64
      · omega
      · exfalso
        rw [if_pos e1, if_neg e2] at e
        have hm : Z.getD j 0 ∈ Z := by
          rw [List.getD_eq_getElem?_getD, List.getElem?_eq_getElem (by omega)]
          exact List.getElem_mem _
        rw [← e] at hm
        exact hx hm
    · by_cases e2 : j = 64
      · exfalso
        rw [if_neg e1, if_pos e2] at e
        have hm : Z.getD i 0 ∈ Z := by
          rw [List.getD_eq_getElem?_getD, List.getElem?_eq_getElem (by omega)]
          exact List.getElem_mem _
        rw [e] at hm
        exact hx hm
      · rw [if_neg e1, if_neg e2] at e
        exact (List.getD_inj (by omega) (by omega) hn).1 e)
  omega
theorem LI.weak {E E' xb xc : Nat} (hl : LI S cr wa h b0 c0 E xb xc (nT S) z o) (hE : E ≤ E') {b c : Nat} (hb : b ≤ 63) (hc : c ≤ 60) : LI S cr wa h b0 c0 E' b c 0 (z.1, u2 z.2.1 b c false, z.2.2) o := by
  obtain ⟨lA, lB, lC, lD, lE, lE2⟩ := hl
  refine ⟨fun b' c' x1 x2 x3 => ?_, fun b' c' x1 x2 x3 => ?_, fun k hk => ?_, fun b' c' x1 x2 x3 x4 t x5 x6 x7 => ?_, lE, lE2⟩
  · obtain ⟨y1, y2⟩ := lA b' c' x1 x2 x3
    exact ⟨y1, by dsimp only; omega⟩
  · dsimp only at x3 ⊢
    by_cases e : b' = b ∧ c' = c
    · rw [e.1, e.2, u2_eq] at x3
      cases x3
    · rw [u2_ne e] at x3
      exact lB b' c' x1 x2 x3
  · obtain ⟨y1, y2⟩ := lC k hk
    exact ⟨y1, by omega⟩
  · dsimp only at x3 x4 ⊢
    have e : ¬ (b' = b ∧ c' = c) := fun e => x7 ⟨e.1, e.2, Nat.zero_le _⟩
    rw [u2_ne e] at x4
    exact lD b' c' x1 x2 x3 x4 t x5 x6 (fun q => by omega)
theorem c_level (hS : CS S M) (hF : WF S) (hR : WR S) (hcr : cr < nC S) (hh : h ≤ 1000) {c : Nat} (hc0 : c0 ≤ c) (hc : c ≤ 60) : ∀ (j' j g E xb xc p : Nat) (M1 : rM) (z : DS) (o : Option Nat) (Z : List Nat), j + j' = 64 → Z.length = j → Z.Nodup → (∀ x ∈ Z, x ≤ 63) → LZ c p Z z → LI S cr wa h b0 c0 E xb xc (nT S) z o → CL z M1 → CG S cr wa h M1 → E ≤ 64 * (c - c0) + j → sf PQ M M1 → ∃ M2 z2 o2 E2 xb2 xc2 g', kb X (d + 4) 59 (g + j' + 1) 44 [some (rv 41), some (iv (bI o)), some (iv (c : Int)), some (iv (j : Int)), none] [] M1 = kb X (d + 4) 59 g' 36 [some (rv 41), some (iv (bI o2)), some (iv ((c + 1 : Nat) : Int)), none, none] [] M2 ∧ g ≤ g' ∧ LI S cr wa h b0 c0 E2 xb2 xc2 (nT S) z2 o2 ∧ CL z2 M2 ∧ CG S cr wa h M2 ∧ (∀ b' c', b' ≤ 63 → c' < c + 1 → z2.2.1 b' c' = false) ∧ E2 ≤ 64 * (c - c0) + 64 ∧ sf PQ M M2
  | 0, j, g, E, xb, xc, p, M1, z, o, Z, hj, hl, hn, hb, hz, hi, hcl, hcg, hE, hf => by
    rw [show g + 0 + 1 = g + 1 from rfl, q_59_41_at44, if_neg (by omega), wr_succ (by omega)]
    refine ⟨M1, z, o, E, xb, xc, g, rfl, Nat.le_refl _, hi, hcl, hcg, fun b' c' x1 x2 => ?_, by omega, hf⟩
    by_cases e : c' = c
    · rw [e]
      exact (hz.2.1 b' (all64 hn hb (by omega) x1)).2.1
    · exact hz.1 b' c' x1 (by omega)
  | j' + 1, j, g, E, xb, xc, p, M1, z, o, Z, hj, hl, hn, hb, hz, hi, hcl, hcg, hE, hf => by
    rw [show g + (j' + 1) + 1 = (g + j' + 1) + 1 by omega, q_59_41_at44, if_pos (by omega), gdx (by omega) (by omega), Int.toNat_natCast]
    by_cases hx : ∀ b, b ≤ 63 → z.2.1 b c = false
    · rw [if_pos (jc0.2 (fun b hb' => ((hcl b c hb' hc).2.1).trans (hx b hb'))), wr_succ (by omega)]
      refine ⟨M1, z, o, E, xb, xc, g + j' + 1, rfl, by omega, hi, hcl, hcg, fun b' c' x1 x2 => ?_, by omega, hf⟩
      by_cases e : c' = c
      · rw [e]
        exact hx b' x1
      · exact hz.1 b' c' x1 (by omega)
    · have hex : ∃ b, b ≤ 63 ∧ z.2.1 b c = true := by
        apply Classical.byContradiction
        intro hy
        exact hx (fun b hb' => by
          cases hq : z.2.1 b c with
          | false => rfl
          | true => exact absurd ⟨b, hb', hq⟩ hy)
      have hE2 : E ≤ 3903 := by omega
      obtain ⟨b, p1, p2, p3, p4⟩ := c_pick (X := X) (d := d + 3) hcl hc (fun b hb' hq => by
        have h1 := hi.2.1 b c hb' hc hq
        have h2 := (hi.1 b c hb' hc h1).2
        exact ⟨h1, by omega⟩) hex
      have psn := hi.2.1 b c p1 hc p3
      have pco := (hi.1 b c p1 hc psn).2
      have zcl : CL (z.1, u2 z.2.1 b c false, z.2.2) (puJ M1 46 c (M1.2.2 46 c &&& (jshl (Int64.ofNat 1) (b : Int) ^^^ (-1 : Int64)))) := by
        intro b' c' x1 x2
        obtain ⟨g1, g2, g3⟩ := hcl b' c' x1 x2
        dsimp only
        rw [puJ_ne (show (45 : Nat) ≠ 46 by omega)]
        refine ⟨g1, ?_, g3⟩
        by_cases ec : c' = c
        · subst ec
          rw [puJ_eq, tb_not (by omega) (by omega), g2]
          by_cases eb : b' = b
          · subst eb
            rw [u2_eq]
            simp
          · rw [u2_ne (fun q => eb q.1)]
            simp [eb]
        · rw [puJ_nj ec, u2_ne (fun q => ec q.2)]
          exact g2
      have zcg : CG S cr wa h (puJ M1 46 c (M1.2.2 46 c &&& (jshl (Int64.ofNat 1) (b : Int) ^^^ (-1 : Int64)))) := ⟨hcg.1, fun m c' z1 z2 b' z3 z4 => by
        rw [puJ_ne (show (48 : Nat) ≠ 46 by omega), puJ_ne (show (47 : Nat) ≠ 46 by omega)]
        exact hcg.2 m c' z1 z2 b' z3 z4⟩
      have zf : sf PQ M (puJ M1 46 c (M1.2.2 46 c &&& (jshl (Int64.ofNat 1) (b : Int) ^^^ (-1 : Int64)))) := hf.pj (k := 46) (by simp [PQ]) _
      have zli : LI S cr wa h b0 c0 (E + 1) b c 0 (z.1, u2 z.2.1 b c false, z.2.2) o := hi.weak (by omega) p1 hc
      have zlz : LZ c (z.2.2 b c) Z (z.1, u2 z.2.1 b c false, z.2.2) := by
        refine ⟨fun b' c' x1 x2 => ?_, fun x hx' => ?_, fun b' x1 x2 => ?_⟩
        · dsimp only
          rw [u2_ne (fun q => by omega)]
          exact hz.1 b' c' x1 x2
        · obtain ⟨y1, y2, y3⟩ := hz.2.1 x hx'
          have := hz.2.2 b p1 p3
          have hne : x ≠ b := fun q => by
            rw [q, p3] at y2
            cases y2
          dsimp only
          rw [u2_ne (fun q => hne q.1)]
          exact ⟨y1, y2, by omega⟩
        · dsimp only at x2 ⊢
          by_cases e : b' = b
          · rw [e]
            exact Nat.le_refl _
          · rw [u2_ne (fun q => e q.1)] at x2
            exact p4 b' x1 x2
      have hnb : b ∉ Z := fun q => by
        have := (hz.2.1 b q).2.1
        rw [p3] at this
        cases this
      rw [if_neg (fun q => by
        have := jc0.1 q b p1
        rw [(hcl b c p1 hc).2.1, p3] at this
        cases this), p2, cI_I, gdx (by omega) (by omega), gdx (by omega) (by omega)]
      generalize puJ M1 46 c (M1.2.2 46 c &&& (jshl (Int64.ofNat 1) (b : Int) ^^^ (-1 : Int64))) = M3 at *
      obtain ⟨M4, k1, k2, k3, k4⟩ := c_payF (X := X) (d := d) (o := o) (hS.sf zf PQ_lo) hF hR hcr hh p1 hc (p := z.2.2 b c) (by omega) zcl psn rfl zcg
      obtain ⟨t1, t2, t3, t4, t5⟩ := pfT_ok hF (s := ((z.1, u2 z.2.1 b c false, z.2.2), o)) p1 hc zli zlz psn u2_eq rfl (by omega) (nT S) (Nat.le_refl _)
      rw [k1, cI_I, wr_succ (by omega)]
      exact c_level hS hF hR hcr hh hc0 hc j' (j + 1) g (E + 1) b c (z.2.2 b c) M4 _ _ (b :: Z) (by omega) (by rw [List.length_cons, hl]) (List.nodup_cons.2 ⟨hnb, hn⟩) (fun x hx' => by
        rcases List.mem_cons.1 hx' with rfl | hx'
        · exact p1
        · exact hb x hx') ⟨t2.1, fun x hx' => by
        rcases List.mem_cons.1 hx' with rfl | hx'
        · exact ⟨t3, t4, by rw [t5]; exact Nat.le_refl _⟩
        · exact t2.2.1 x hx', t2.2.2⟩ t1 k2 k3 (by omega) (zf.tr k4)
def z00 : DS := (fun _ _ => false, fun _ _ => false, fun _ _ => 0)
theorem c_least (hS : CS S M) (hF : WF S) (hR : WR S) (hcr : cr < nC S) (hh : h ≤ 1000) (hb : b0 ≤ 63) (hc : c0 ≤ 60) (ha : SA S cr wa h b0 c0 M) : ∃ M' v, fn X (d + 5) 59 [rv 41] M = oI v M' ∧ CSp S cr wa h b0 c0 v ∧ sf PQ M M' := by
  obtain ⟨M1, a1, a2, a3, a4, a5⟩ := c_zero45 (X := X) (d := d + 3) (M := M)
  obtain ⟨M2, e1, e2, e3, e4, e5⟩ := c_zero46 (X := X) (d := d + 3) (M := M1)
  obtain ⟨s0, s1, s2, s3⟩ := ha
  have ei : M2.2.1 = M.2.1 := e3.trans a3
  have eJ : ∀ k, k ≠ 45 → k ≠ 46 → M2.2.2 k = M.2.2 k := fun k h1 h2 => (e4 k h2).trans (a4 k h1)
  have f2 : sf PQ M M2 := ⟨e5.trans a5, fun k j q => ⟨by rw [ei], by rw [eJ k (fun e => by rw [e] at q; exact absurd q (by simp [PQ])) (fun e => by rw [e] at q; exact absurd q (by simp [PQ]))]⟩⟩
  have z0 : CL z00 M2 := fun b c x1 x2 => by
    rw [e4 45 (by omega), a2 c (by omega), e2 c (by omega), tb_0]
    exact ⟨rfl, rfl, fun q => by cases q⟩
  have g0 : CG S cr wa h M2 := ⟨by rw [ei]; exact s0, fun m c z1 z2 b z3 z4 => by
    rw [eJ 48 (by omega) (by omega), eJ 47 (by omega) (by omega)]
    exact s3 m c z1 z2 b z3 z4⟩
  obtain ⟨M3, k1, k2, k3, k4, k5⟩ := c_improve (X := X) (d := d + 3) (S := S) (cr := cr) (wa := wa) (h := h) z0 (k := 0) hb hc
  have k1 : fn X (d + 4) 62 [rv 41, iv (b0 : Int), iv (c0 : Int), iv 0] M2 = oV M3 := k1
  have ez : imp z00 b0 c0 0 = (u2 z00.1 b0 c0 true, u2 z00.2.1 b0 c0 true, u2 z00.2.2 b0 c0 0) := by
    unfold imp
    rw [if_neg (fun q => by cases q.1)]
  have li : LI S cr wa h b0 c0 0 0 0 (nT S) (imp z00 b0 c0 0) none := by
    rw [ez]
    refine ⟨fun b c x1 x2 x3 => ?_, fun b c x1 x2 x3 => ?_, fun k hk => (by cases hk), fun b c x1 x2 x3 x4 => ?_, u2_eq, u2_eq⟩
    · dsimp only at x3 ⊢
      by_cases e : b = b0 ∧ c = c0
      · rw [e.1, e.2, u2_eq]
        exact ⟨⟨[], rfl⟩, Nat.le_refl _⟩
      · rw [u2_ne e] at x3
        cases x3
    · dsimp only at x3 ⊢
      by_cases e : b = b0 ∧ c = c0
      · rw [e.1, e.2, u2_eq]
      · rw [u2_ne e] at x3
        cases x3
    · dsimp only at x3 x4
      by_cases e : b = b0 ∧ c = c0
      · rw [e.1, e.2, u2_eq] at x4
        cases x4
      · rw [u2_ne e] at x3
        cases x3
  have lo : ∀ b' c', b' ≤ 63 → c' < c0 → (imp z00 b0 c0 0).2.1 b' c' = false := fun b' c' _ x2 => by
    rw [ez]
    dsimp only
    rw [u2_ne (fun e => by omega)]
    rfl
  rw [q_59_41, a1, cV_V, e1, cV_V, ei, s1, s2, k1, cV_V, k4, ei, s2]
  refine loop_g (σ := rM × DS × Option Nat × Nat × Nat × Nat) (fun i s => LI S cr wa h b0 c0 s.2.2.2.1 s.2.2.2.2.1 s.2.2.2.2.2 (nT S) s.2.1 s.2.2.1 ∧ CL s.2.1 s.1 ∧ CG S cr wa h s.1 ∧ (∀ b' c', b' ≤ 63 → c' < c0 + i → s.2.1.2.1 b' c' = false) ∧ s.2.2.2.1 ≤ 64 * i ∧ sf PQ M s.1) (fun g i s => kb X (d + 4) 59 g 36 [some (rv 41), some (iv (bI s.2.2.1)), some (iv ((c0 + i : Nat) : Int)), none, none] [] s.1) (fun r => ∃ M' v, r = oI v M' ∧ CSp S cr wa h b0 c0 v ∧ sf PQ M M') (61 - c0) 66 ?_ ?_ (61 - c0) 0 FU (M3, imp z00 b0 c0 0, none, 0, 0, 0) (by omega) (by have := FU_ge; omega) ⟨li, k2, k3 g0, fun b' c' x1 x2 => lo b' c' x1 (by omega), Nat.le_refl _, f2.tr k5⟩
  · rintro g i ⟨N1, z, o, E, xb, xc⟩ hi ⟨i1, i2, i3, i4, i5, i6⟩
    left
    dsimp only at i1 i2 i3 i4 i5 i6 ⊢
    obtain ⟨N2, z2, o2, E2, xb2, xc2, g', l1, l2, l3, l4, l5, l6, l7, l8⟩ := c_level (X := X) (d := d) hS hF hR hcr hh (c := c0 + i) (by omega) (by omega) 64 0 g E xb xc 0 N1 z o [] (by omega) rfl List.nodup_nil (fun x hx => by cases hx) ⟨i4, fun x hx => (by cases hx), fun b' _ _ => Nat.zero_le _⟩ i1 i2 i3 (by omega) i6
    rw [show g + 66 = (g + 64 + 1) + 1 by omega, q_59_41_at36, if_pos (by omega)]
    refine ⟨g', (N2, z2, o2, E2, xb2, xc2), l2, l1, l3, l4, l5, fun b' c' x1 x2 => l6 b' c' x1 (by omega), by dsimp only; omega, l8⟩
  · rintro g ⟨N1, z, o, E, xb, xc⟩ ⟨i1, i2, i3, i4, i5, i6⟩
    dsimp only at i1 i2 i3 i4 i5 i6 ⊢
    rw [q_59_41_at36, if_neg (by omega)]
    exact ⟨N1, bI o, rfl, LI_end hF hb hc i1 (fun b c x1 x2 => i4 b c x1 (by omega)), i6⟩
noncomputable def cheV (A : AS) (a : Int) : Int := if aW A (21 + a.toNat) = 0 then cheS (aS A) a.toNat (aW A (9 + a.toNat)) (helpW (aS A) (aW A)) (aW A (3 + a.toNat)) (aW A (15 + a.toNat)) else -1
theorem c_cheapest (hA : OKA A) (h : CH A M) (a : Int) : wOut A (ans (0 ≤ a ∧ a < (nC (aS A) : Int)) 0).1 (cheV A a) M (fn X (d + 7) 331 [rv 0, iv a, rv 111] M) := by
  obtain ⟨hF, hR, hV, -⟩ := id hA
  rw [q_331_0_111, q_164_0, c_chkC h.1]
  unfold ans cheV
  by_cases hc : 0 ≤ a ∧ a < (nC (aS A) : Int)
  · obtain ⟨c, hcl, rfl⟩ := nat_of hc
    obtain ⟨vb, -, vc, -⟩ := hV.1.2.2 c hcl
    have hh := helpW_le (W := aW A) hF
    rw [if_pos hc, if_pos hc, cV_V, Int.toNat_natCast, c_isFree h.1 hF h.W hcl, cI_I]
    by_cases hf : aW A (21 + c) = 0
    · obtain ⟨M1, g1, g2, g3⟩ := c_startAt (X := X) (d := d + 3) (h := helpW (aS A) (aW A)) hF h.W hcl
      obtain ⟨M2, v, k1, k2, k3⟩ := c_least (X := X) (d := d) (h.1.sf g3 PQ_lo) hF hR hcl (by omega) vb vc g2
      have fr := g3.tr k3
      rw [if_pos hf, if_neg (show ¬ b01 (decide (aW A (21 + c) = 0)) = 0 by rw [b01_0]; simp [hf]), c_help hs34 h.1 hF h.W, cI_I, g1, cV_V, k1, cI_I, ← cheS_eq _ _ _ _ _ _ k2]
      exact w_ok (M1 := M2) rfl (h.sf fr eC_Q) (kC_Q fr) fr.1
    · rw [if_neg hf, if_pos (show b01 (decide (aW A (21 + c) = 0)) = 0 by rw [b01_0]; simp [hf])]
      exact w_ok (M1 := M) rfl h kC.rf rfl
  · rw [if_neg hc, if_neg hc, cV_X]
    exact w_x (q := 0) (k := 1) (M1 := thr M) rfl rfl (by omega) h kC.rf rfl
end C75

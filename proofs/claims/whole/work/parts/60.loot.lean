/-! ===== prices: loot, toGuard ===== -/
def prS (S : SK) (p : Nat → Bool) : Nat → Nat
  | 0 => 0
  | c + 1 => prS S p c + (if p c then cre S c 3 else 0)
theorem prS_le {S : SK} (hF : WF S) (p : Nat → Bool) : ∀ n, n ≤ nC S → prS S p n ≤ 99 * n
  | 0, _ => by unfold prS; omega
  | n + 1, h => by
    have h1 := prS_le hF p n (by omega)
    have h2 := (hF.2.2.2.2.1 n (by omega)).2.2.2.1
    unfold prS
    split <;> omega
theorem prS_congr {S : SK} {p q : Nat → Bool} : ∀ {n : Nat}, (∀ c, c < n → p c = q c) → prS S p n = prS S q n
  | 0, _ => rfl
  | n + 1, h => by
    unfold prS
    rw [h n (by omega), prS_congr (fun c hc => h c (by omega))]
theorem prS_f {S : SK} {W : WD} {f : Nat} : prS S (fun c => (fates S W f).testBit c) (nC S) = prS S (fun c => W (21 + c) == f) (nC S) := prS_congr (fun c hc => by
  unfold fates
  rw [setN_bit]
  simp [hc])
section C60
variable {X : Nat × (Nat → Int32)} {d n : Nat} {M M1 M2 M' : rM} {A A' : AS} {S : SK} {W V : WD}
theorem c_price (hS : CS S M) (hF : WF S) {v : Nat} (hv : v < 2147483648) : fn X (d + 2) 75 [rv 3, iv (v : Int)] M = oI (prS S (fun c => v.testBit c) (nC S) : Int) M := by
  have h6 := hF.1
  rw [q_75_3]
  refine loop_up (P := fun n c => kb X (d + 1) 75 n 4 [some (rv 3), some (iv (v : Int)), some (iv ((prS S (fun c => v.testBit c) c : Nat) : Int)), some (iv (c : Int))] [] M) (nC S) ?_ ?_ (nC S) 0 FU (by omega) (FU_lt (by omega))
  · intro n c hc
    left
    have hl := prS_le hF (fun c => v.testBit c) c (by omega)
    have hl2 := prS_le hF (fun c => v.testBit c) (c + 1) (by omega)
    have g := c_get4 (X := X) (d := d) hS hF hc (j := 3) (by omega)
    have g : fn X (d + 1) 118 [rv 4, iv (c : Int), iv 3] M = oI (cre S c 3 : Int) M := g
    have h99 := (hF.2.2.2.2.1 c hc).2.2.2.1
    rw [q_75_3_at4, q_112_4, cI_I, hS.1, if_pos (by omega), bit_test hv (by omega), g, cI_I, wr_succ (by omega), wri (by omega) (by omega)]
    cases hb : v.testBit c with
    | false =>
      simp only [prS, hb]
      rfl
    | true =>
      simp only [prS, hb, if_pos]
      rw [if_neg n10, ← Int.natCast_add]
  · intro n
    rw [q_75_3_at4, q_112_4, cI_I, hS.1, if_neg (by omega)]
theorem fates_31 (hF : WF S) (f : Nat) : fates S W f < 2147483648 := by
  have h6 := hF.1
  have h : fates S W f < 2 ^ 31 := Nat.lt_trans (setN_lt _ _) (Nat.pow_lt_pow_right (by omega) (by omega))
  exact h
noncomputable def lotV (A : AS) (a : Int) : Int := (prS (aS A) (fun c => dayN (aS A) a.toNat (aW A) (21 + c) == 2) (nC (aS A)) : Int)
theorem c_loot (hA : OKA A) (h : CH A M) (a : Int) : wOut A (ans (0 ≤ a ∧ a ≤ 60) 0).1 (lotV A a) M (fn X (d + 8) 349 [rv 0, iv a, rv 111] M) := by
  rw [q_349_0_111, q_185_0, c_ahead]
  unfold ans
  by_cases hc : 0 ≤ a ∧ a ≤ 60
  · obtain ⟨m, hm, rfl⟩ := nat_le (n := 60) hc
    obtain ⟨M1, g1, g2, g3, g4⟩ := c_stolenF (X := X) (d := d) hA h hm
    rw [if_pos hc, if_pos hc, cV_V, g1, cI_I, c_price g2.1 hA.1 (fates_31 hA.1 _), cI_I, prS_f]
    exact w_ok (M1 := M1) rfl g2 g3 g4
  · rw [if_neg hc, if_neg hc, cV_X]
    exact w_x (q := 1) (k := 1) (M1 := thr M) rfl rfl (by omega) h kC.rf rfl
theorem m_loot (hA : OKA A) (h : MH A M) (a : Int) : mOut A (ans (0 ≤ a ∧ a ≤ 60) 0).1 (if 0 ≤ a ∧ a ≤ 60 then lotV A a else 0) M (fn X (d + 4) 317 [rv 59, iv a] M) := by
  obtain ⟨hF, hR, hV, hP, -⟩ := hA
  have h6 := hF.1
  obtain ⟨h0, z0, k0⟩ := m_0 h
  rw [q_317_59]
  generalize puI M 59 0 0 = M0 at *
  rw [m_within, cI_I]
  unfold ans
  by_cases hc : 0 ≤ a ∧ a ≤ 60
  · obtain ⟨m, hm, rfl⟩ := nat_le (n := 60) hc
    simp only [if_pos hc]
    obtain ⟨M1, g1, g2, g3⟩ := m_fork (X := X) (d := d + 2) h0.W
    have hg := h0.sf g3 eM_27
    obtain ⟨M2, f1, f2, f3⟩ := m_pass (X := X) (d := d) hF hg g2 hV.1 hm (by have := hV.2; omega)
    have hf := hg.sf f3 eM_27
    have b : kb X (d + 3) 317 FU 35 [some (rv 59), none, some (iv 0), some (iv 0)] [] M2 = oI (lotV A (m : Int)) M2 := by
      refine loop_up (P := fun n c => kb X (d + 3) 317 n 35 [some (rv 59), none, some (iv ((prS (aS A) (fun c => dayN (aS A) m (aW A) (21 + c) == 2) c : Nat) : Int)), some (iv (c : Int))] [] M2) (nC (aS A)) ?_ ?_ (nC (aS A)) 0 FU (by omega) (FU_lt (by omega))
      · intro n c hc
        left
        have hl := prS_le hF (fun c => dayN (aS A) m (aW A) (21 + c) == 2) c (by omega)
        have h99 := (hF.2.2.2.2.1 c hc).2.2.2.1
        have h61 := (hf.1.2.2.2.2.1 c hc).2.1
        have e : wr (48 + (c : Int)) = ((27 + (21 + c) : Nat) : Int) := by
          rw [wri (by omega) (by omega)]
          omega
        rw [q_317_59_at35, hf.1.1, if_pos (by omega), e, gdx (by omega) (by omega), Int.toNat_natCast, f2.b3 hc h6, gdx (by omega) (by omega), Int.toNat_natCast, h61, wr_succ (by omega), wri (x := _ + 0) (by omega) (by omega), wri (by omega) (by omega)]
        simp only [prS]
        by_cases hw : dayN (aS A) m (aW A) (21 + c) = 2
        · rw [if_pos (by omega), if_pos (by simpa using hw), ← Int.natCast_add]
        · rw [if_neg (by omega), if_neg (by simpa using hw), Int.add_zero]
          rfl
      · intro n
        rw [q_317_59_at35, hf.1.1, if_neg (by omega)]
        rfl
    rw [m_right1 z0, cI_I, if_neg n10, g1, cV_V, f1, cV_V, b]
    refine ⟨M2, rfl, ?_, hf, k0.tr ((kM_27 g3).tr (kM_27 f3))⟩
    rw [(f3.2 59 0 (by simp [PM])).1, (g3.2 59 0 (by simp [PM])).1, z0]
    rfl
  · simp only [if_neg hc]
    rw [m_right0 z0 (by omega), cI_I, if_pos (show (0 : Int) = 0 from rfl)]
    exact ⟨_, rfl, puI_eq _ _ _ _, h0.p0 1, k0.pu (by omega) _ _⟩
end C60

/-! ===== game, fooled, fault ===== -/
def gn (S : SK) (h g c m y : Nat) : Int := if m = 0 then 2 else if hun S h 0 < cre S c 0 then -5 else if y = 0 then (cre S c 3 : Int) else if hun S g 0 < cre S c 0 then (cre S c 3 : Int) else if hun S g 0 < hun S h 0 then (cre S c 3 : Int) - 10 else if hun S h 0 < hun S g 0 then -5 else 0
def rests (S : SK) (h g c k : Nat) : Bool := decide (gn S h g c (1 - k / 2) (k % 2) ≤ gn S h g c (k / 2) (k % 2)) && decide (gn S g h c (1 - k % 2) (k / 2) ≤ gn S g h c (k % 2) (k / 2))
def manyR (S : SK) (h g c : Nat) : Nat → Nat
  | 0 => 0
  | k + 1 => manyR S h g c k + if rests S h g c k then 1 else 0
def firR (S : SK) (h g c : Nat) : Nat → Option Nat
  | 0 => none
  | k + 1 => match firR S h g c k with
    | some z => some z
    | none => if rests S h g c k then some k else none
def coup (p : Option Nat) : Int := match p with
  | none => -1
  | some k => ((10 * (k / 2) + k % 2 : Nat) : Int)
theorem firR_st {S : SK} {h g c z : Nat} : ∀ {m n : Nat}, firR S h g c n = some z → n ≤ m → firR S h g c m = some z
  | 0, n, h1, h2 => by
    have : n = 0 := by omega
    subst this
    exact h1
  | m + 1, n, h1, h2 => by
    by_cases e : n = m + 1
    · rw [← e]
      exact h1
    · have := firR_st (m := m) h1 (by omega)
      unfold firR
      rw [this]
theorem manyR_le {S : SK} {h g c : Nat} : ∀ n, manyR S h g c n ≤ n
  | 0 => Nat.le_refl _
  | n + 1 => by
    have := manyR_le (S := S) (h := h) (g := g) (c := c) n
    unfold manyR
    split <;> omega
section C50
variable {X : Nat × (Nat → Int32)} {d : Nat} {M M1 M' : rM} {A A' : AS} {S : SK} {W : WD}
theorem c_gain (hS : CS S M) (hF : WF S) {h g c m y : Nat} (hh : h < nH S) (hg : g < nH S) (hc : c < nC S) : fn X (d + 2) 83 [rv 3, iv (h : Int), iv (g : Int), iv (c : Int), iv (m : Int), iv (y : Int)] M = oI (gn S h g c m y) M := by
  have e0 := c_get4 (X := X) (d := d) hS hF hc (j := 0) (by omega)
  have e3 := c_get4 (X := X) (d := d) hS hF hc (j := 3) (by omega)
  have eh := c_get8 (X := X) (d := d) hS hF hh (j := 0) (by omega)
  have eg := c_get8 (X := X) (d := d) hS hF hg (j := 0) (by omega)
  have hp := (hF.2.2.2.2.1 c hc).2.2.2.1
  rw [q_83_3]
  erw [e0]
  rw [cI_I]
  erw [e3]
  rw [cI_I]
  erw [eh]
  rw [cI_I]
  erw [eg]
  rw [cI_I]
  unfold gn
  by_cases a1 : m = 0
  · rw [if_pos (by omega), if_pos a1]
  · rw [if_neg (by omega), if_neg a1]
    by_cases a2 : hun S h 0 < cre S c 0
    · rw [if_pos (by omega), if_pos a2]
    · rw [if_neg (by omega), if_neg a2]
      by_cases a3 : y = 0
      · rw [if_pos (by omega), if_pos a3]
      · rw [if_neg (by omega), if_neg a3]
        by_cases a4 : hun S g 0 < cre S c 0
        · rw [if_pos (by omega), if_pos a4]
        · rw [if_neg (by omega), if_neg a4]
          by_cases a5 : hun S g 0 < hun S h 0
          · rw [if_neg (by omega), if_pos (by omega), if_pos a5, wri (by omega) (by omega)]
          · rw [if_neg a5]
            by_cases a6 : hun S h 0 < hun S g 0
            · rw [if_neg (by omega), if_neg (by omega), if_pos a6]
            · rw [if_pos (by omega), if_neg a6]
theorem m_gain (hS : MS S M) (hF : WF S) {h g c m y : Nat} (hh : h < nH S) (hg : g < nH S) (hc : c < nC S) : fn X (d + 1) 307 [rv 59, iv (h : Int), iv (g : Int), iv (c : Int), iv (m : Int), iv (y : Int)] M = oI (gn S h g c m y) M := by
  have h6 := hF.1
  have h7 := hF.2.2.1
  have hp := (hF.2.2.2.2.1 c hc).2.2.2.1
  obtain ⟨e0, e3, -⟩ := hS.2.2.2.2.1 c hc
  have eh := (hS.2.2.2.2.2.2.1 h hh).1
  have eg := (hS.2.2.2.2.2.2.1 g hg).1
  obtain ⟨n, hn⟩ : ∃ n, FU = n + 2 := ⟨FU - 2, by have := FU_ge; omega⟩
  have k20 : ∀ t : Int, kb X d 307 (n + 2) 20 [some (rv 59), some (iv (h : Int)), some (iv (g : Int)), some (iv (c : Int)), some (iv (m : Int)), some (iv (y : Int)), none, none] [iv t] M = kb X d 307 (n + 1) 42 [some (rv 59), some (iv (h : Int)), some (iv (g : Int)), some (iv (c : Int)), some (iv (m : Int)), some (iv (y : Int)), some (iv t), none] [iv (if hun S g 0 < cre S c 0 then 0 else 1)] M := by
    intro t
    rw [q_307_59_at20, gdx (by omega) (by omega), gdx (by omega) (by omega), Int.toNat_natCast, Int.toNat_natCast, eg, e0]
    by_cases a : hun S g 0 < cre S c 0
    · rw [if_pos (by omega), if_pos a]
    · rw [if_neg (by omega), if_neg a]
  rw [q_307_59, hn, k20, k20, gdx (by omega) (by omega), gdx (by omega) (by omega), Int.toNat_natCast, Int.toNat_natCast, eh, e0]
  simp only [q_307_59_at42, gdx (i := (h : Int)) (n := 6) (by omega) (by omega), gdx (i := (g : Int)) (n := 6) (by omega) (by omega), gdx (i := (c : Int)) (n := 6) (by omega) (by omega), Int.toNat_natCast, eh, eg, e3]
  unfold gn
  by_cases a1 : m = 0
  · simp [a1]
  · have b1 : ¬ (m : Int) = 0 := by omega
    by_cases a2 : hun S h 0 < cre S c 0
    · have b2 : (hun S h 0 : Int) < (cre S c 0 : Int) := by omega
      simp [a1, a2, b2]
    · have b2 : ¬ (hun S h 0 : Int) < (cre S c 0 : Int) := by omega
      by_cases a3 : y = 0
      · simp [a1, a2, b2, a3]
      · have b3 : ¬ (y : Int) = 0 := by omega
        by_cases a4 : hun S g 0 < cre S c 0
        · simp [a1, a2, b2, a3, a4]
        · by_cases a5 : hun S g 0 < hun S h 0
          · have b5 : (hun S g 0 : Int) < (hun S h 0 : Int) := by omega
            simp [a1, a2, b2, a3, a4, a5, b5]
            rw [wri (by omega) (by omega)]
          · have b5 : ¬ (hun S g 0 : Int) < (hun S h 0 : Int) := by omega
            by_cases a6 : hun S h 0 < hun S g 0
            · have b6 : (hun S h 0 : Int) < (hun S g 0 : Int) := by omega
              simp [a1, a2, b2, a3, a4, a5, b5, a6, b6]
            · have b6 : ¬ (hun S h 0 : Int) < (hun S g 0 : Int) := by omega
              simp [a1, a2, b2, a3, a4, a5, b5, a6, b6]
theorem k_div {k : Nat} (hk : k < 4) : ishr (k : Int) 1 = ((k / 2 : Nat) : Int) ∧ iand (k : Int) 1 = ((k % 2 : Nat) : Int) ∧ idv (k : Int) 2 = ((k / 2 : Nat) : Int) ∧ irm (k : Int) 2 = ((k % 2 : Nat) : Int) ∧ wr (1 - ((k / 2 : Nat) : Int)) = ((1 - k / 2 : Nat) : Int) ∧ wr (1 - ((k % 2 : Nat) : Int)) = ((1 - k % 2 : Nat) : Int) ∧ wr (wr (10 * ((k / 2 : Nat) : Int)) + ((k % 2 : Nat) : Int)) = ((10 * (k / 2) + k % 2 : Nat) : Int) := by
  have e1 := ishr_nat (a := k) (k := 1) (by omega) (by omega)
  have e2 := iand_nat (a := k) (b := 1) (by omega) (by omega)
  rw [Nat.and_one_is_mod] at e2
  have e3 := idv_nat (a := k) (b := 2) (by omega) (by omega)
  have e4 := irm_nat (a := k) (b := 2) (by omega) (by omega)
  refine ⟨e1, e2, e3, e4, ?_, ?_, ?_⟩
  · rw [wri (by omega) (by omega)]
    omega
  · rw [wri (by omega) (by omega)]
    omega
  · rw [wri (x := 10 * ((k / 2 : Nat) : Int)) (by omega) (by omega), wri (by omega) (by omega)]
    omega
theorem c_rests (hS : CS S M) (hF : WF S) {h g c k : Nat} (hk : k < 4) (hh : h < nH S) (hg : g < nH S) (hc : c < nC S) : fn X (d + 3) 82 [rv 3, iv (h : Int), iv (g : Int), iv (c : Int), iv ((k / 2 : Nat) : Int), iv ((k % 2 : Nat) : Int)] M = oI (b01 (rests S h g c k)) M := by
  obtain ⟨-, -, -, -, e5, e6, -⟩ := k_div hk
  rw [q_82_3, e5, e6, c_gain hS hF hh hg hc, cI_I, c_gain hS hF hh hg hc, cI_I, c_gain hS hF hg hh hc, cI_I, c_gain hS hF hg hh hc, cI_I]
  unfold rests
  by_cases a1 : gn S h g c (k / 2) (k % 2) < gn S h g c (1 - k / 2) (k % 2)
  · rw [if_pos a1, show decide (gn S h g c (1 - k / 2) (k % 2) ≤ gn S h g c (k / 2) (k % 2)) = false from decide_eq_false (by omega)]
    rfl
  · rw [if_neg a1, show decide (gn S h g c (1 - k / 2) (k % 2) ≤ gn S h g c (k / 2) (k % 2)) = true from decide_eq_true (by omega), Bool.true_and]
    by_cases a2 : gn S g h c (k % 2) (k / 2) < gn S g h c (1 - k % 2) (k / 2)
    · rw [if_pos a2, show decide (gn S g h c (1 - k % 2) (k / 2) ≤ gn S g h c (k % 2) (k / 2)) = false from decide_eq_false (by omega)]
      rfl
    · rw [if_neg a2, show decide (gn S g h c (1 - k % 2) (k / 2) ≤ gn S g h c (k % 2) (k / 2)) = true from decide_eq_true (by omega)]
      rfl
theorem c_many (hS : CS S M) (hF : WF S) {h g c : Nat} (hh : h < nH S) (hg : g < nH S) (hc : c < nC S) : fn X (d + 4) 80 [rv 3, iv (h : Int), iv (g : Int), iv (c : Int)] M = oI (manyR S h g c 4 : Int) M := by
  rw [q_80_3]
  refine loop_up (P := fun n k => kb X (d + 3) 80 n 6 [some (rv 3), some (iv (h : Int)), some (iv (g : Int)), some (iv (c : Int)), some (iv (manyR S h g c k : Int)), some (iv (k : Int))] [] M) 4 ?_ ?_ 4 0 FU (by omega) (FU_lt (by omega))
  · intro n k hk
    left
    obtain ⟨e1, e2, -⟩ := k_div hk
    have hm := manyR_le (S := S) (h := h) (g := g) (c := c) k
    rw [q_80_3_at6, if_pos (by omega), e1, e2, c_rests hS hF hk hh hg hc, cI_I, wr_succ (c := k) (by omega), wr_succ (c := manyR S h g c k) (by omega)]
    simp only [manyR]
    by_cases a : rests S h g c k = true
    · rw [if_neg (by rw [b01_0, a]; simp), if_pos a]
    · rw [if_pos (by rw [b01_0]; simpa using a), if_neg a]
      rfl
  · intro n
    rw [q_80_3_at6, if_neg (by omega)]
theorem c_first (hS : CS S M) (hF : WF S) {h g c : Nat} (hh : h < nH S) (hg : g < nH S) (hc : c < nC S) : fn X (d + 4) 81 [rv 3, iv (h : Int), iv (g : Int), iv (c : Int)] M = oI (coup (firR S h g c 4)) M := by
  rw [q_81_3]
  refine loop_st (σ := Unit) (fun k _ => firR S h g c k = none) (fun n k _ => kb X (d + 3) 81 n 3 [some (rv 3), some (iv (h : Int)), some (iv (g : Int)), some (iv (c : Int)), some (iv (k : Int))] [] M) (fun r => r = oI (coup (firR S h g c 4)) M) 4 ?_ ?_ 4 0 FU () (by omega) (FU_lt (by omega)) rfl
  · intro n k _ hk hi
    obtain ⟨e1, e2, -, -, -, -, e7⟩ := k_div hk
    rw [q_81_3_at3, if_pos (by omega), e1, e2, c_rests hS hF hk hh hg hc, cI_I, wr_succ (c := k) (by omega), e7]
    by_cases a : rests S h g c k = true
    · right
      have : firR S h g c (k + 1) = some k := by
        unfold firR
        rw [hi]
        simp [a]
      rw [if_neg (by rw [b01_0, a]; simp), firR_st this (by omega)]
      rfl
    · left
      rw [if_pos (by rw [b01_0]; simpa using a)]
      refine ⟨(), rfl, ?_⟩
      unfold firR
      rw [hi]
      simp [a]
  · intro n _ hi
    rw [q_81_3_at3, if_neg (by omega), hi]
    rfl
def gamV (S : SK) (h g c : Nat) (w : Int) : Int := if w = 0 then (manyR S h g c 4 : Int) else coup (firR S h g c 4)
def gamK (S : SK) (a b c w : Int) : Nat := if (0 ≤ a ∧ a < (nH S : Int)) ∧ (0 ≤ b ∧ b < (nH S : Int)) ∧ (0 ≤ c ∧ c < (nC S : Int)) ∧ (0 ≤ w ∧ w ≤ 1) then (if a = b then 2 else 0) else 1
theorem c_game (hA : OKA A) (hh : CH A M) (a b c w : Int) : wOut A (gamK (aS A) a b c w) (gamV (aS A) a.toNat b.toNat c.toNat w) M (fn X (d + 6) 344 [rv 0, iv a, iv b, iv c, iv w, rv 111] M) := by
  obtain ⟨hF, -⟩ := hA
  have hS := hh.1
  rw [q_344_0_111, q_179_0, c_chkH hS]
  unfold gamK
  have bad : wOut A 1 (gamV (aS A) a.toNat b.toNat c.toNat w) M (cIh (oX 0 (thr M)) (fun x2 M1 => oI 0 (puJ M1 111 0 (i2j x2))) (fun q4 M3 => if 0 = q4 then oI 1 M3 else if 1 = q4 then oI 2 M3 else none)) := w_x (q := 0) (k := 1) (M1 := thr M) rfl rfl (by omega) hh kC.rf rfl
  by_cases h1 : 0 ≤ a ∧ a < (nH (aS A) : Int)
  · rw [if_pos h1, cV_V, c_chkH hS]
    by_cases h2 : 0 ≤ b ∧ b < (nH (aS A) : Int)
    · rw [if_pos h2, cV_V, c_chkC hS]
      by_cases h3 : 0 ≤ c ∧ c < (nC (aS A) : Int)
      · rw [if_pos h3, cV_V, c_what]
        by_cases h4 : 0 ≤ w ∧ w ≤ 1
        · rw [if_pos h4, cV_V, if_pos (show _ ∧ _ from ⟨h1, h2, h3, h4⟩)]
          by_cases h5 : a = b
          · rw [if_pos h5, if_pos h5]
            exact w_x (q := 1) (k := 2) (M1 := thr M) rfl rfl (by omega) hh kC.rf rfl
          · rw [if_neg h5, if_neg h5]
            obtain ⟨x, hx, rfl⟩ := nat_of h1
            obtain ⟨y, hy, rfl⟩ := nat_of h2
            obtain ⟨z, hz, rfl⟩ := nat_of h3
            refine w_ok (M1 := M) ?_ hh kC.rf rfl
            rw [Int.toNat_natCast, Int.toNat_natCast, Int.toNat_natCast, c_many hS hF hx hy hz, cI_I, c_first hS hF hx hy hz, cI_I]
            unfold gamV
            by_cases h6 : w = 0
            · rw [if_pos h6, if_pos h6]
            · rw [if_neg h6, if_neg h6]
        · rw [if_neg h4, cV_X, if_neg (fun z => h4 z.2.2.2)]
          exact bad
      · rw [if_neg h3, cV_X, if_neg (fun z => h3 z.2.2.1)]
        exact bad
    · rw [if_neg h2, cV_X, if_neg (fun z => h2 z.2.1)]
      exact bad
  · rw [if_neg h1, cV_X, if_neg (fun z => h1 z.1)]
    exact bad
theorem m_game (hA : OKA A) (hh : MH A M) (a b c w : Int) : mOut A (gamK (aS A) a b c w) (if gamK (aS A) a b c w = 0 then gamV (aS A) a.toNat b.toNat c.toNat w else 0) M (fn X (d + 3) 308 [rv 59, iv a, iv b, iv c, iv w] M) := by
  obtain ⟨hF, -⟩ := hA
  obtain ⟨h0, z0, k0⟩ := m_0 hh
  obtain ⟨n, hn⟩ : ∃ n, FU = n + 10 := ⟨FU - 10, by have := FU_ge; omega⟩
  rw [q_308_59, hh.1.2.2.1, hn]
  generalize puI M 59 0 0 = M1 at *
  have hS := h0.1
  have bad : mOut A 1 0 M (kb X (d + 2) 308 (n + 10) 34 [some (rv 59), some (iv a), some (iv b), some (iv c), some (iv w), none, none, none, none, none] [rv 59] M1) := by
    rw [q_308_59_at34, q_308_59_at35, m_right0 z0 (by omega), cI_I, if_pos rfl]
    exact ⟨_, rfl, puI_eq _ _ _ _, h0.p0 1, k0.pu (by omega) _ _⟩
  unfold gamK
  by_cases h1 : 0 ≤ a ∧ a < (nH (aS A) : Int)
  · rw [if_neg (show ¬ a < 0 by omega), if_pos h1.2]
    by_cases h2 : 0 ≤ b ∧ b < (nH (aS A) : Int)
    · rw [if_neg (show ¬ b < 0 by omega), if_pos h2.2, q_308_59_at35, m_right1 z0, cI_I, if_neg n10, m_cre hS z0]
      by_cases h3 : 0 ≤ c ∧ c < (nC (aS A) : Int)
      · rw [if_pos h3, cI_I, if_neg n10, m_what z0]
        by_cases h4 : 0 ≤ w ∧ w ≤ 1
        · rw [if_pos h4, cI_I, if_neg n10]
          simp only [if_pos (show (0 ≤ a ∧ a < (nH (aS A) : Int)) ∧ (0 ≤ b ∧ b < (nH (aS A) : Int)) ∧ (0 ≤ c ∧ c < (nC (aS A) : Int)) ∧ (0 ≤ w ∧ w ≤ 1) from ⟨h1, h2, h3, h4⟩)]
          by_cases h5 : a = b
          · simp only [if_pos h5]
            rw [m_right0 z0 (by omega), cI_I, if_pos rfl]
            exact ⟨_, rfl, puI_eq _ _ _ _, h0.p0 2, k0.pu (by omega) _ _⟩
          · simp only [if_neg h5, if_true]
            obtain ⟨x, hx, rfl⟩ := nat_of h1
            obtain ⟨y, hy, rfl⟩ := nat_of h2
            obtain ⟨z, hz, rfl⟩ := nat_of h3
            rw [m_right1 z0, cI_I, if_neg n10, Int.toNat_natCast, Int.toNat_natCast, Int.toNat_natCast]
            refine ⟨M1, ?_, z0, h0, k0⟩
            refine loop_up (P := fun n k => kb X (d + 2) 308 n 89 [some (rv 59), some (iv (x : Int)), some (iv (y : Int)), some (iv (z : Int)), some (iv w), some (iv (manyR (aS A) x y z k : Int)), some (iv (coup (firR (aS A) x y z k))), some (iv (k : Int)), none, none] [] M1) (R := oI (gamV (aS A) x y z w) M1) 4 ?_ ?_ 4 0 (n + 9) (by omega) (by omega)
            · intro n k hk
              left
              obtain ⟨-, -, e3, e4, e5, e6, e7⟩ := k_div hk
              have hm := manyR_le (S := aS A) (h := x) (g := y) (c := z) k
              rw [q_308_59_at89, if_pos (by omega), e3, e4, e5, e6, e7, m_gain hS hF hx hy hz, cI_I, m_gain hS hF hx hy hz, cI_I, m_gain hS hF hy hx hz, cI_I, m_gain hS hF hy hx hz, cI_I, wr_succ (c := k) (by omega), wr_succ (c := manyR (aS A) x y z k) (by omega)]
              have hr : rests (aS A) x y z k = (decide (gn (aS A) x y z (1 - k / 2) (k % 2) ≤ gn (aS A) x y z (k / 2) (k % 2)) && decide (gn (aS A) y x z (1 - k % 2) (k / 2) ≤ gn (aS A) y x z (k % 2) (k / 2))) := rfl
              have no : rests (aS A) x y z k = false → manyR (aS A) x y z (k + 1) = manyR (aS A) x y z k ∧ firR (aS A) x y z (k + 1) = firR (aS A) x y z k := by
                intro hf
                refine ⟨by simp [manyR, hf], ?_⟩
                simp only [firR, hf]
                cases firR (aS A) x y z k <;> rfl
              by_cases a1 : gn (aS A) x y z (k / 2) (k % 2) < gn (aS A) x y z (1 - k / 2) (k % 2)
              · rw [show decide (gn (aS A) x y z (1 - k / 2) (k % 2) ≤ gn (aS A) x y z (k / 2) (k % 2)) = false from decide_eq_false (by omega), Bool.false_and] at hr
                rw [if_pos a1, (no hr).1, (no hr).2]
              · rw [show decide (gn (aS A) x y z (1 - k / 2) (k % 2) ≤ gn (aS A) x y z (k / 2) (k % 2)) = true from decide_eq_true (by omega), Bool.true_and] at hr
                rw [if_neg a1]
                by_cases a2 : gn (aS A) y x z (k % 2) (k / 2) < gn (aS A) y x z (1 - k % 2) (k / 2)
                · rw [show decide (gn (aS A) y x z (1 - k % 2) (k / 2) ≤ gn (aS A) y x z (k % 2) (k / 2)) = false from decide_eq_false (by omega)] at hr
                  rw [if_pos a2, (no hr).1, (no hr).2]
                · rw [show decide (gn (aS A) y x z (1 - k % 2) (k / 2) ≤ gn (aS A) y x z (k % 2) (k / 2)) = true from decide_eq_true (by omega)] at hr
                  rw [if_neg a2]
                  have hmn : manyR (aS A) x y z (k + 1) = manyR (aS A) x y z k + 1 := by simp [manyR, hr]
                  cases hf : firR (aS A) x y z k with
                  | none =>
                    have : firR (aS A) x y z (k + 1) = some k := by
                      unfold firR
                      rw [hf]
                      simp [hr]
                    rw [if_pos (show coup none = -1 from rfl), hmn, this]
                    rfl
                  | some q =>
                    have : firR (aS A) x y z (k + 1) = some q := by
                      unfold firR
                      rw [hf]
                    rw [if_neg (show ¬ coup (some q) = -1 by show ¬ ((10 * (q / 2) + q % 2 : Nat) : Int) = -1; omega), hmn, this]
            · intro n
              rw [q_308_59_at89, if_neg (by omega)]
              unfold gamV
              by_cases h6 : w = 0
              · rw [if_pos h6, if_pos h6]
              · rw [if_neg h6, if_neg h6]
        · simp only [if_neg (show ¬ ((0 ≤ a ∧ a < (nH (aS A) : Int)) ∧ (0 ≤ b ∧ b < (nH (aS A) : Int)) ∧ (0 ≤ c ∧ c < (nC (aS A) : Int)) ∧ (0 ≤ w ∧ w ≤ 1)) from fun z => h4 z.2.2.2)]
          rw [if_neg h4, cI_I, if_pos rfl, if_neg (by omega)]
          exact ⟨_, rfl, puI_eq _ _ _ _, h0.p0 1, k0.pu (by omega) _ _⟩
      · simp only [if_neg (show ¬ ((0 ≤ a ∧ a < (nH (aS A) : Int)) ∧ (0 ≤ b ∧ b < (nH (aS A) : Int)) ∧ (0 ≤ c ∧ c < (nC (aS A) : Int)) ∧ (0 ≤ w ∧ w ≤ 1)) from fun z => h3 z.2.2.1)]
        rw [if_neg h3, cI_I, if_pos rfl, if_neg (by omega)]
        exact ⟨_, rfl, puI_eq _ _ _ _, h0.p0 1, k0.pu (by omega) _ _⟩
    · have e : ∀ b1 b2 : Option rO, (if b < 0 then b1 else if b < (nH (aS A) : Int) then b2 else b1) = b1 := by
        intro b1 b2
        by_cases h1 : b < 0
        · rw [if_pos h1]
        · rw [if_neg h1, if_neg (fun z => h2 ⟨by omega, z⟩)]
      simp only [if_neg (show ¬ ((0 ≤ a ∧ a < (nH (aS A) : Int)) ∧ (0 ≤ b ∧ b < (nH (aS A) : Int)) ∧ (0 ≤ c ∧ c < (nC (aS A) : Int)) ∧ (0 ≤ w ∧ w ≤ 1)) from fun z => h2 z.2.1)]
      rw [e, if_neg (by omega)]
      exact bad
  · have e : ∀ b1 b2 : Option rO, (if a < 0 then b1 else if a < (nH (aS A) : Int) then b2 else b1) = b1 := by
      intro b1 b2
      by_cases h2 : a < 0
      · rw [if_pos h2]
      · rw [if_neg h2, if_neg (fun z => h1 ⟨by omega, z⟩)]
    simp only [if_neg (show ¬ ((0 ≤ a ∧ a < (nH (aS A) : Int)) ∧ (0 ≤ b ∧ b < (nH (aS A) : Int)) ∧ (0 ≤ c ∧ c < (nC (aS A) : Int)) ∧ (0 ≤ w ∧ w ≤ 1)) from fun z => h1 z.1)]
    rw [e, if_neg (by omega)]
    exact bad
/-! fooled -/
theorem c_fooled (hA : OKA A) (h : CH A M) (a : Int) : wOut A (ans (0 ≤ a ∧ a < (nT (aS A) : Int)) (fooN (aS A) (aW A) a.toNat)).1 (fooN (aS A) (aW A) a.toNat : Int) M (fn X (d + 5) 346 [rv 0, iv a, rv 111] M) := by
  obtain ⟨hF, -, hV, -⟩ := hA
  have hS := h.1
  have h6 := hF.1
  have hW := h.W
  rw [q_346_0_111, q_181_0, c_chkT hS]
  unfold ans
  by_cases hc : 0 ≤ a ∧ a < (nT (aS A) : Int)
  · obtain ⟨t, ht, rfl⟩ := nat_of hc
    simp only [if_pos hc]
    rw [cV_V, Int.toNat_natCast]
    refine w_ok (M1 := M) ?_ h kC.rf rfl
    refine loop_up (P := fun n c => kb X (d + 3) 181 n 9 [some (rv 0), some (iv (t : Int)), some (iv ((setN (fun c => decide (aW A (21 + c) = 0) && wk (aS A) t (aW A (3 + c))) c : Nat) : Int)), some (iv (c : Int))] [] M) (nC (aS A)) ?_ ?_ (nC (aS A)) 0 FU (by omega) (FU_lt (by omega))
    · intro n c hcl
      left
      have hx : setN (fun c => decide (aW A (21 + c) = 0) && wk (aS A) t (aW A (3 + c))) c < 2 ^ 31 := Nat.lt_trans (setN_lt _ c) (Nat.pow_lt_pow_right (by omega) (by omega))
      have hb := (hV.1.2.2 c hcl).1
      rw [q_181_0_at9, q_112_4, cI_I, hS.1, if_pos (by omega), c_isFree hS hF hW hcl, cI_I, c_bel hs34 hF hW hcl, cI_I, c_works hS hF ht hb, cI_I, wr_succ (by omega), set_or hx (by omega)]
      simp only [setN]
      by_cases h1 : aW A (21 + c) = 0
      · rw [if_neg (by rw [b01_0]; simp [h1])]
        by_cases h2 : wk (aS A) t (aW A (3 + c)) = true
        · rw [if_neg (by rw [b01_0, h2]; simp), if_pos (by simp [h1, h2])]
        · rw [if_pos (by rw [b01_0]; simpa using h2), if_neg (by simp [h2])]
      · rw [if_pos (by rw [b01_0]; simp [h1]), if_neg (by simp [h1])]
    · intro n
      rw [q_181_0_at9, q_112_4, cI_I, hS.1, if_neg (by omega)]
      rfl
  · simp only [if_neg hc]
    rw [cV_X]
    exact w_x (q := 0) (k := 1) (M1 := thr M) rfl rfl (by omega) h kC.rf rfl
theorem m_fooled (hA : OKA A) (h : MH A M) (a : Int) : mOut A (ans (0 ≤ a ∧ a < (nT (aS A) : Int)) (fooN (aS A) (aW A) a.toNat)).1 (ans (0 ≤ a ∧ a < (nT (aS A) : Int)) (fooN (aS A) (aW A) a.toNat)).2 M (fn X (d + 4) 312 [rv 59, iv a] M) := by
  obtain ⟨hF, -, hV, -⟩ := hA
  have h6 := hF.1
  have h8 := hF.2.1
  obtain ⟨h0, z0, k0⟩ := m_0 h
  rw [q_312_59]
  generalize puI M 59 0 0 = M1 at *
  have hS := h0.1
  have hW := h0.W
  rw [m_tri hS z0]
  unfold ans
  by_cases hc : 0 ≤ a ∧ a < (nT (aS A) : Int)
  · obtain ⟨t, ht, rfl⟩ := nat_of hc
    simp only [if_pos hc]
    rw [cI_I, if_neg n10, Int.toNat_natCast]
    refine ⟨M1, ?_, z0, h0, k0⟩
    refine loop_up (P := fun n c => kb X (d + 3) 312 n 19 [some (rv 59), some (iv (t : Int)), some (iv ((setN (fun c => decide (aW A (21 + c) = 0) && wk (aS A) t (aW A (3 + c))) c : Nat) : Int)), some (iv (c : Int))] [] M1) (nC (aS A)) ?_ ?_ (nC (aS A)) 0 FU (by omega) (FU_lt (by omega))
    · intro n c hcl
      left
      have hx : setN (fun c => decide (aW A (21 + c) = 0) && wk (aS A) t (aW A (3 + c))) c < 2 ^ 31 := Nat.lt_trans (setN_lt _ c) (Nat.pow_lt_pow_right (by omega) (by omega))
      have hk : (if aW A (21 + c) = 0 then keysS (aS A) (aW A (3 + c)) else 0) < 2147483648 := by
        split
        · have : keysS (aS A) (aW A (3 + c)) < 2 ^ 8 := Nat.lt_of_lt_of_le (setN_lt _ _) (Nat.pow_le_pow_right (by omega) h8)
          omega
        · omega
      have tb : (if aW A (21 + c) = 0 then keysS (aS A) (aW A (3 + c)) else 0).testBit t = (decide (aW A (21 + c) = 0) && wk (aS A) t (aW A (3 + c))) := by
        by_cases h1 : aW A (21 + c) = 0
        · rw [if_pos h1]
          unfold keysS
          rw [setN_bit]
          simp [h1, ht]
        · rw [if_neg h1]
          simp [h1]
      rw [q_312_59_at19, hS.1, if_pos (by omega), m_keys hS hF hW hV.1 hcl, cI_I, bit_test hk (by omega), tb, wr_succ (by omega)]
      simp only [setN]
      by_cases h2 : (decide (aW A (21 + c) = 0) && wk (aS A) t (aW A (3 + c))) = true
      · rw [if_pos h2, if_pos h2, set_or hx (by omega)]
      · have e0 : ishl 0 (c : Int) = 0 := by
          have := ishl_nat (a := 0) (k := c) (by omega) (by omega)
          rw [Nat.zero_mul] at this
          exact this
        rw [if_neg h2, if_neg h2, e0, ior_0 hx]
    · intro n
      rw [q_312_59_at19, hS.1, if_neg (by omega)]
      rfl
  · simp only [if_neg hc]
    rw [cI_I, if_pos rfl]
    exact ⟨_, rfl, puI_eq _ _ _ _, h0.p0 1, k0.pu (by omega) _ _⟩
/-! fault -/
theorem c_fault (h : CH A M) : fn X (d + 1) 153 [rv 0] M = oI (aF A) M := by
  rw [q_153_0, h.2.2.2.2.2.1]
theorem m_fault (h : MH A M) : ∃ M', fn X (d + 1) 245 [rv 59] M = oI (aF A) M' ∧ MH A M' ∧ kM M M' := by
  obtain ⟨h0, z0, k0⟩ := m_0 h
  refine ⟨_, ?_, h0, k0⟩
  rw [q_245_59, h.2.2.2.2.2.1]
end C50

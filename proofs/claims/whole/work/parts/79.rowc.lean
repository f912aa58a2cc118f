/-! ===== how, next: the class's side ===== -/
/-- beliefs that the first marks say were had, or weren't, behind a step -/
def mbN (K : List MK) (c k x : Nat) : Nat → Nat
  | 0 => 0
  | i + 1 => if (K.getD i K00).2.2.2 = x ∧ (K.getD i K00).1 = c ∧ (K.getD i K00).2.1 = k then mbN K c k x i ||| 2 ^ (K.getD i K00).2.2.1 else mbN K c k x i
theorem mbN_bit {K : List MK} {c k x j : Nat} : ∀ n, (mbN K c k x n).testBit j = true ↔ ∃ i, i < n ∧ (K.getD i K00).2.2.2 = x ∧ (K.getD i K00).1 = c ∧ (K.getD i K00).2.1 = k ∧ (K.getD i K00).2.2.1 = j
  | 0 => by
    unfold mbN
    rw [Nat.zero_testBit]
    exact ⟨fun h => (by cases h), fun ⟨i, h, _⟩ => absurd h (Nat.not_lt_zero i)⟩
  | n + 1 => by
    have ih := mbN_bit (K := K) (c := c) (k := k) (x := x) (j := j) n
    unfold mbN
    by_cases h : (K.getD n K00).2.2.2 = x ∧ (K.getD n K00).1 = c ∧ (K.getD n K00).2.1 = k
    · rw [if_pos h, Nat.testBit_or, Bool.or_eq_true, ih, Nat.testBit_two_pow, decide_eq_true_eq]
      constructor
      · rintro (⟨i, h1, h2⟩ | h1)
        · exact ⟨i, by omega, h2⟩
        · exact ⟨n, by omega, h.1, h.2.1, h.2.2, h1⟩
      · rintro ⟨i, h1, h2, h3, h4, h5⟩
        by_cases e : i = n
        · subst e
          exact Or.inr h5
        · exact Or.inl ⟨i, by omega, h2, h3, h4, h5⟩
    · rw [if_neg h, ih]
      constructor
      · rintro ⟨i, h1, h2⟩
        exact ⟨i, by omega, h2⟩
      · rintro ⟨i, h1, h2, h3, h4, h5⟩
        by_cases e : i = n
        · subst e
          exact absurd ⟨h2, h3, h4⟩ h
        · exact ⟨i, by omega, h2, h3, h4, h5⟩
theorem mbN_lt {K : List MK} {c k x : Nat} (hK : ∀ i, i < K.length → (K.getD i K00).2.2.1 < 6) : ∀ n, n ≤ K.length → mbN K c k x n < 64
  | 0, _ => by unfold mbN; omega
  | n + 1, hn => by
    have ih := mbN_lt (c := c) (k := k) (x := x) hK n (by omega)
    unfold mbN
    split
    · exact Nat.or_lt_two_pow (n := 6) ih (Nat.pow_lt_pow_right (by omega) (hK n (by omega)))
    · exact ih
theorem getK_mem {K : List MK} {i : Nat} (h : i < K.length) : K.getD i K00 ∈ K := by
  rw [List.getD_eq_getElem?_getD, List.getElem?_eq_getElem h]
  exact List.getElem_mem h
theorem okS_iff {K : List MK} {c k s : Nat} : okS K c k s = true ↔ ∀ i, i < K.length → (K.getD i K00).1 = c → (K.getD i K00).2.1 = k → s.testBit (K.getD i K00).2.2.1 = ((K.getD i K00).2.2.2 == 1) := by
  unfold okS
  rw [List.all_eq_true]
  constructor
  · intro h i hi h1 h2
    have := h _ (getK_mem hi)
    rw [h1, h2] at this
    simpa using this
  · intro h m hm
    obtain ⟨i, hi, rfl⟩ := List.getElem_of_mem hm
    have e : K.getD i K00 = K[i] := by
      rw [List.getD_eq_getElem?_getD, List.getElem?_eq_getElem hi]
      rfl
    have := h i hi
    rw [e] at this
    by_cases h1 : K[i].1 = c
    · by_cases h2 : K[i].2.1 = k
      · rw [this h1 h2]
        simp
      · simp [h2]
    · simp [h1]
theorem mt_ok {K : List MK} {c k s : Nat} (hK : ∀ i, i < K.length → (K.getD i K00).2.2.2 ≤ 1) : mtB (mbN K c k 1 K.length) (mbN K c k 0 K.length) s = okS K c k s := by
  have key : mtB (mbN K c k 1 K.length) (mbN K c k 0 K.length) s = true ↔ okS K c k s = true := by
    rw [okS_iff]
    unfold mtB
    rw [Bool.and_eq_true, beq_iff_eq, beq_iff_eq]
    constructor
    · rintro ⟨h1, h2⟩ i hi e1 e2
      have hx := hK i hi
      by_cases hx1 : (K.getD i K00).2.2.2 = 1
      · have hb : (mbN K c k 1 K.length).testBit (K.getD i K00).2.2.1 = true := (mbN_bit K.length).2 ⟨i, hi, hx1, e1, e2, rfl⟩
        have := congrArg (fun z => z.testBit (K.getD i K00).2.2.1) h1
        rw [Nat.testBit_and, hb, Bool.and_true] at this
        rw [this, hx1]
        rfl
      · have hx0 : (K.getD i K00).2.2.2 = 0 := by omega
        have hb : (mbN K c k 0 K.length).testBit (K.getD i K00).2.2.1 = true := (mbN_bit K.length).2 ⟨i, hi, hx0, e1, e2, rfl⟩
        have := congrArg (fun z => z.testBit (K.getD i K00).2.2.1) h2
        rw [Nat.testBit_and, hb, Bool.and_true, Nat.zero_testBit] at this
        rw [this, hx0]
        rfl
    · intro h
      refine ⟨?_, ?_⟩
      · apply Nat.eq_of_testBit_eq
        intro j
        rw [Nat.testBit_and]
        cases hb : (mbN K c k 1 K.length).testBit j with
        | false => simp
        | true =>
          obtain ⟨i, hi, x1, x2, x3, x4⟩ := (mbN_bit K.length).1 hb
          have := h i hi x2 x3
          rw [x4, x1] at this
          rw [this]
          rfl
      · apply Nat.eq_of_testBit_eq
        intro j
        rw [Nat.testBit_and, Nat.zero_testBit]
        cases hb : (mbN K c k 0 K.length).testBit j with
        | false => simp
        | true =>
          obtain ⟨i, hi, x1, x2, x3, x4⟩ := (mbN_bit K.length).1 hb
          have := h i hi x2 x3
          rw [x4, x1] at this
          rw [this]
          rfl
  cases h1 : mtB (mbN K c k 1 K.length) (mbN K c k 0 K.length) s with
  | true => exact (key.1 h1).symm
  | false =>
    cases h2 : okS K c k s with
    | false => rfl
    | true =>
      rw [key.2 h2] at h1
      cases h1
def PW (k j : Nat) : Bool := (k == 53 && (j == 4 || j == 5)) || k == 54 || k == 55
theorem eC_W : ∀ k j, eC k j = true → PW k j = false := by
  intro k j z
  unfold eC at z
  unfold PW
  simp only [Bool.or_eq_true, Bool.and_eq_true, beq_iff_eq, decide_eq_true_eq] at z
  simp only [Bool.or_eq_false_iff, Bool.and_eq_false_iff, beq_eq_false_iff_ne]
  omega
theorem kC_W {M M' : rM} (f : sf PW M M') : kC M M' := kC.sf f (fun k j hk => by
  unfold PW
  simp only [Bool.or_eq_false_iff, Bool.and_eq_false_iff, beq_eq_false_iff_ne]
  omega)
theorem PW_lo : ∀ k j, 3 ≤ k → k ≤ 13 → PW k j = false := by
  intro k j h1 h2
  unfold PW
  simp only [Bool.or_eq_false_iff, Bool.and_eq_false_iff, beq_eq_false_iff_ne]
  omega
theorem alw_t {S : SK} {K : List MK} {c b0 k x : Nat} : alw S K c b0 (k + 1) x ↔ okS K c (k + 1) x = true ∧ ∃ y t, alw S K c b0 k y ∧ t < nT S ∧ x = bt S t y := by
  by_cases hT : 0 < nT S
  · exact alw_s hT
  · have h0 : nT S = 0 := by omega
    constructor
    · rintro ⟨r, h1, -⟩
      rw [h0, Nat.zero_pow (by omega)] at h1
      exact absurd h1 (Nat.not_lt_zero r)
    · rintro ⟨-, y, t, -, h2, -⟩
      omega
theorem alw_le {S : SK} (hF : WF S) {K : List MK} {c b0 : Nat} (hb : b0 ≤ 63) : ∀ {k x : Nat}, alw S K c b0 k x → x ≤ 63
  | 0, x, ⟨r, _, _, h⟩ => by
    have : b0 = x := h
    omega
  | k + 1, x, h => by
    obtain ⟨-, y, t, h1, h2, rfl⟩ := alw_t.1 h
    exact bt_le hF h2 (alw_le hF hb h1)
noncomputable def hadB (S : SK) (K : List MK) (c b0 n k s : Nat) : Bool := @decide (alw S K c b0 k s ∧ 0 < wn S K c (n - k) k s) (Classical.propDecidable _)
theorem hadB_iff {S : SK} {K : List MK} {c b0 n k s : Nat} : hadB S K c b0 n k s = true ↔ alw S K c b0 k s ∧ 0 < wn S K c (n - k) k s := by
  unfold hadB
  exact @decide_eq_true_iff _ (Classical.propDecidable _)
section C79
variable {X : Nat × (Nat → Int32)} {d n : Nat} {M M1 M2 M' : rM} {A A' : AS} {S : SK} {W V : WD} {K : List MK} {c b0 : Nat}
theorem mk_bits (m : MK) (h1 : m.2.1 ≤ 4) (h2 : m.2.2.1 < 6) (h3 : m.2.2.2 ≤ 1) (h0 : m.1 < 6) : iand (mkc m) 1 = (m.2.2.2 : Int) ∧ ishr (mkc m) 8 = (m.1 : Int) ∧ iand (ishr (mkc m) 5) 7 = (m.2.1 : Int) ∧ iand (ishr (mkc m) 1) 7 = (m.2.2.1 : Int) := by
  unfold mkc
  generalize hv : m.1 * 256 + m.2.1 * 32 + m.2.2.1 * 2 + m.2.2.2 = v
  have hlt : v < 2048 := by omega
  have a1 : iand (v : Int) 1 = ((v % 2 : Nat) : Int) := by
    have := iand_nat (a := v) (b := 1) (by omega) (by omega)
    rw [Nat.and_one_is_mod] at this
    exact this
  have s8 : ishr (v : Int) 8 = ((v / 2 ^ 8 : Nat) : Int) := ishr_nat (k := 8) (by omega) (by omega)
  have s5 : ishr (v : Int) 5 = ((v / 2 ^ 5 : Nat) : Int) := ishr_nat (k := 5) (by omega) (by omega)
  have s1 : ishr (v : Int) 1 = ((v / 2 ^ 1 : Nat) : Int) := ishr_nat (k := 1) (by omega) (by omega)
  have a7 : ∀ w : Nat, w < 2048 → iand (w : Int) 7 = ((w % 8 : Nat) : Int) := fun w hw => by
    have := iand_nat (a := w) (b := 7) (by omega) (by omega)
    rw [show (7 : Nat) = 2 ^ 3 - 1 by decide, Nat.and_two_pow_sub_one_eq_mod] at this
    exact this
  rw [a1, s8, s5, s1, a7 _ (by omega), a7 _ (by omega)]
  refine ⟨?_, ?_, ?_, ?_⟩ <;> omega
theorem c_marked (hW : CWd 31 n W (aP A) K M) (hK : okK S K) (hn : nC S ≤ 6) {k x : Nat} (hx : x ≤ 1) : fn X (d + 1) 148 [rv 31, iv (c : Int), iv (k : Int), iv (x : Int)] M = oI (mbN K c k x K.length : Int) M := by
  have h8 := hK.1
  have hm : ∀ i, i < K.length → (K.getD i K00).1 < 6 ∧ (K.getD i K00).2.1 ≤ 4 ∧ (K.getD i K00).2.2.1 < 6 ∧ (K.getD i K00).2.2.2 ≤ 1 := fun i hi => by
    obtain ⟨a, b, e, f, g⟩ := hK.2 _ (getK_mem hi)
    exact ⟨by omega, e, f, g⟩
  rw [q_148_31]
  refine loop_g (σ := Unit) (fun _ _ => True) (fun m i _ => kb X d 148 m 6 [some (rv 31), some (iv (c : Int)), some (iv (k : Int)), some (iv (x : Int)), some (iv (mbN K c k x i : Int)), some (iv (i : Int)), none] [] M) (fun r => r = oI (mbN K c k x K.length : Int) M) K.length 3 ?_ ?_ K.length 0 FU () (by omega) (by have := FU_ge; omega) trivial
  · intro g i _ hi _
    left
    obtain ⟨m0, m1, m2, m3⟩ := hm i hi
    obtain ⟨b1, b2, b3, b4⟩ := mk_bits _ m1 m2 m3 m0
    have hmk := hW.2.2.2.2 i hi
    have hlt := mbN_lt (K := K) (c := c) (k := k) (x := x) (fun i hi => (hm i hi).2.2.1) i (by omega)
    have hp : 2 ^ (K.getD i K00).2.2.1 < 2 ^ 6 := Nat.pow_lt_pow_right (by omega) m2
    have second : ∀ y : Int, y = (x : Int) → kb X d 148 (g + 1 + 1) 33 [some (rv 31), some (iv (c : Int)), some (iv (k : Int)), some (iv (x : Int)), some (iv (mbN K c k x i : Int)), some (iv (i : Int)), none] [iv y, iv ((K.getD i K00).2.2.2 : Int)] M = kb X d 148 g 6 [some (rv 31), some (iv (c : Int)), some (iv (k : Int)), some (iv (x : Int)), some (iv (mbN K c k x (i + 1) : Int)), some (iv ((i + 1 : Nat) : Int)), none] [] M := by
      rintro y rfl
      have hmk' : M.2.1 33 i = mkc (K.getD i K00) := hmk
      rw [q_148_31_at33]
      simp only [mbN]
      by_cases e1 : (K.getD i K00).2.2.2 = x
      · rw [if_pos (by omega), q_148_31_at41, if_neg n10, gdx (by omega) (by omega), Int.toNat_natCast, hmk', b2, wr_succ (by omega)]
        by_cases e2 : (K.getD i K00).1 = c
        · rw [if_pos (by omega), gdx (by omega) (by omega), b3]
          by_cases e3 : (K.getD i K00).2.1 = k
          · rw [if_pos (by omega), gdx (by omega) (by omega), b4, set_or (by omega) (by omega), if_pos ⟨e1, e2, e3⟩]
          · rw [if_neg (by omega), if_neg (fun z => e3 z.2.2)]
        · rw [if_neg (by omega), if_neg (fun z => e2 z.2.1)]
      · rw [if_neg (by omega), q_148_31_at41, if_pos rfl, wr_succ (by omega), if_neg (fun z => e1 z.1)]
    refine ⟨g, (), Nat.le_refl _, ?_, trivial⟩
    have hmk' : M.2.1 33 i = mkc (K.getD i K00) := hmk
    rw [show g + 3 = (g + 1 + 1) + 1 by omega, q_148_31_at6, hW.2.2.2.1, if_pos (by omega), gdx (by omega) (by omega), Int.toNat_natCast, hmk', b1]
    by_cases e0 : x = 0
    · rw [if_pos (by omega)]
      exact second 0 (by omega)
    · rw [if_neg (by omega)]
      exact second 1 (by omega)
  · intro g _ _
    rw [q_148_31_at6, hW.2.2.2.1, if_neg (by omega)]
theorem c_bt (hS : CS S M) (hF : WF S) {t b : Nat} (ht : t < nT S) (hb : b ≤ 63) : fn X (d + 3) 38 [rv 53, iv (t : Int), iv (b : Int)] M = oI (bt S t b : Int) M := by
  rw [q_38_53, c_works hS hF ht hb, cI_I]
  unfold bt
  by_cases hw : wk S t b = true
  · rw [if_neg (by rw [b01_0, hw]; simp), if_pos hw, c_bb hS hF ht hb, cI_I]
  · rw [if_pos (by rw [b01_0]; simpa using hw), if_neg hw]
/-- all that can be come to by one try -/
theorem c_behind (hS : CS S M) (hF : WF S) (v : Int64) : ∃ w, fn X (d + 4) 39 [rv 53, jv v] M = oJ w M ∧ ∀ x, x < 64 → (tb w x = true ↔ ∃ y t, y < 64 ∧ tb v y = true ∧ t < nT S ∧ x = bt S t y) := by
  have h8 := hF.2.1
  have inner : ∀ (y : Nat), y < 64 → tb v y = true → ∀ (j t g : Nat) (l : Int64), t + j = nT S → ∃ l', kb X (d + 3) 39 (g + j + 1) 15 [some (rv 53), some (jv v), none, some (jv l), none, some (iv (y : Int)), some (iv (t : Int))] [] M = kb X (d + 3) 39 g 5 [some (rv 53), some (jv v), none, some (jv l'), none, some (iv ((y + 1 : Nat) : Int)), none] [] M ∧ ∀ x, x < 64 → (tb l' x = true ↔ tb l x = true ∨ ∃ t', t ≤ t' ∧ t' < nT S ∧ x = bt S t' y) := by
    intro y hy hv j
    induction j with
    | zero =>
      intro t g l ht
      rw [show g + 0 + 1 = g + 1 from rfl, q_39_53_at15, if_neg (fun z => by rw [tb_test (by omega), hv] at z; cases z), q_112_6, cI_I, hS.2.1, if_neg (by omega), wr_succ (by omega)]
      refine ⟨l, rfl, fun x hx => ⟨fun q => Or.inl q, ?_⟩⟩
      rintro (q | ⟨t', q1, q2, -⟩)
      · exact q
      · omega
    | succ j ih =>
      intro t g l ht
      have hb := bt_le hF (show t < nT S by omega) (show y ≤ 63 by omega)
      obtain ⟨l', e1, e2⟩ := ih (t + 1) g (l ||| jshl (Int64.ofNat 1) (bt S t y : Int)) (by omega)
      rw [show g + (j + 1) + 1 = (g + j + 1) + 1 by omega, q_39_53_at15, if_neg (fun z => by rw [tb_test (by omega), hv] at z; cases z), q_112_6, cI_I, hS.2.1, if_pos (by omega), c_bt hS hF (by omega) (by omega), cI_I, wr_succ (by omega)]
      refine ⟨l', e1, fun x hx => ?_⟩
      rw [e2 x hx, tb_set (by omega) hx, Bool.or_eq_true, decide_eq_true_eq]
      constructor
      · rintro ((q | q) | ⟨t', q1, q2, q3⟩)
        · exact Or.inl q
        · exact Or.inr ⟨t, Nat.le_refl _, by omega, q⟩
        · exact Or.inr ⟨t', by omega, q2, q3⟩
      · rintro (q | ⟨t', q1, q2, q3⟩)
        · exact Or.inl (Or.inl q)
        · by_cases e : t' = t
          · exact Or.inl (Or.inr (e ▸ q3))
          · exact Or.inr ⟨t', by omega, q2, q3⟩
  rw [q_39_53]
  refine loop_g (σ := Int64) (fun y l => ∀ x, x < 64 → (tb l x = true ↔ ∃ y' t, y' < y ∧ tb v y' = true ∧ t < nT S ∧ x = bt S t y')) (fun m y l => kb X (d + 3) 39 m 5 [some (rv 53), some (jv v), none, some (jv l), none, some (iv (y : Int)), none] [] M) (fun r => ∃ w, r = oJ w M ∧ ∀ x, x < 64 → (tb w x = true ↔ ∃ y t, y < 64 ∧ tb v y = true ∧ t < nT S ∧ x = bt S t y)) 64 (nT S + 2) ?_ ?_ 64 0 FU (Int64.ofNat 0) (by omega) ?_ (fun x hx => ?_)
  · intro g y l hy hl
    left
    rw [show g + (nT S + 2) = (g + nT S + 1) + 1 by omega, q_39_53_at5, if_pos (by omega)]
    by_cases hv : tb v y = true
    · obtain ⟨l', e1, e2⟩ := inner y hy hv (nT S) 0 g l (by omega)
      refine ⟨g, l', Nat.le_refl _, e1, fun x hx => ?_⟩
      rw [e2 x hx, hl x hx]
      constructor
      · rintro (⟨y', t, q1, q2, q3, q4⟩ | ⟨t, -, q2, q3⟩)
        · exact ⟨y', t, by omega, q2, q3, q4⟩
        · exact ⟨y, t, by omega, hv, q2, q3⟩
      · rintro ⟨y', t, q1, q2, q3, q4⟩
        by_cases e : y' = y
        · subst e
          exact Or.inr ⟨t, Nat.zero_le _, q3, q4⟩
        · exact Or.inl ⟨y', t, by omega, q2, q3, q4⟩
    · have hv0 : tb v y = false := by simpa using hv
      rw [q_39_53_at15, if_pos ((tb_test (by omega)).2 hv0), wr_succ (by omega)]
      refine ⟨g + nT S, l, by omega, rfl, fun x hx => ?_⟩
      rw [hl x hx]
      constructor
      · rintro ⟨y', t, q1, q2, q3, q4⟩
        exact ⟨y', t, by omega, q2, q3, q4⟩
      · rintro ⟨y', t, q1, q2, q3, q4⟩
        by_cases e : y' = y
        · subst e
          exact absurd q2 hv
        · exact ⟨y', t, by omega, q2, q3, q4⟩
  · intro g l hl
    rw [q_39_53_at5, if_neg (by omega)]
    exact ⟨l, rfl, hl⟩
  · have := FU_ge
    have : 64 * (nT S + 2) ≤ 64 * 10 := Nat.mul_le_mul_left _ (by omega)
    omega
  · rw [tb_0]
    exact ⟨fun q => (by cases q), fun ⟨y, t, q, _⟩ => absurd q (Nat.not_lt_zero y)⟩
end C79

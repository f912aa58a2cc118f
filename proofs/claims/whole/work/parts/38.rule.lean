/-! ===== the rule, both sides ===== -/
/-- changed at most where P says so -/
def sf (P : Nat → Nat → Bool) (M M' : rM) : Prop := M'.1 = M.1 ∧ ∀ k j, P k j = false → M'.2.1 k j = M.2.1 k j ∧ M'.2.2 k j = M.2.2 k j
theorem sf.rf {P : Nat → Nat → Bool} {M : rM} : sf P M M := ⟨rfl, fun _ _ _ => ⟨rfl, rfl⟩⟩
theorem sf.tr {P : Nat → Nat → Bool} {M M1 M2 : rM} (h1 : sf P M M1) (h2 : sf P M1 M2) : sf P M M2 := ⟨h2.1.trans h1.1, fun k j h => ⟨(h2.2 k j h).1.trans (h1.2 k j h).1, (h2.2 k j h).2.trans (h1.2 k j h).2⟩⟩
theorem sf.mo {P Q : Nat → Nat → Bool} {M M' : rM} (h : sf P M M') (hq : ∀ k j, Q k j = false → P k j = false) : sf Q M M' := ⟨h.1, fun k j z => h.2 k j (hq k j z)⟩
theorem puI_at (M : rM) (k j : Nat) (x : Int) (a b : Nat) : (puI M k j x).2.1 a b = if a = k then (if b = j then x else M.2.1 k b) else M.2.1 a b := by
  show va_up M.2.1 k (va_up (M.2.1 k) j x) a b = _
  unfold va_up
  by_cases h : a = k
  · simp only [if_pos h]
  · simp only [if_neg h]
theorem puI_eq (M : rM) (k j : Nat) (x : Int) : (puI M k j x).2.1 k j = x := by rw [puI_at, if_pos rfl, if_pos rfl]
theorem puI_ne {M : rM} {k j : Nat} {x : Int} {a b : Nat} (h : a ≠ k) : (puI M k j x).2.1 a b = M.2.1 a b := by rw [puI_at, if_neg h]
theorem puI_nj {M : rM} {k j : Nat} {x : Int} {b : Nat} (h : b ≠ j) : (puI M k j x).2.1 k b = M.2.1 k b := by rw [puI_at, if_pos rfl, if_neg h]
theorem puI_k {M : rM} {k j : Nat} {x : Int} {a : Nat} (h : a ≠ k) : (puI M k j x).2.1 a = M.2.1 a := by
  funext b
  exact puI_ne h
theorem sf.pu {P : Nat → Nat → Bool} {M M1 : rM} (h : sf P M M1) {k j : Nat} (hp : P k j = true) (x : Int) : sf P M (puI M1 k j x) := by
  refine ⟨h.1, fun a b z => ⟨?_, (h.2 a b z).2⟩⟩
  rw [puI_at]
  by_cases h1 : a = k
  · by_cases h2 : b = j
    · subst h1; subst h2
      rw [hp] at z
      cases z
    · rw [if_pos h1, if_neg h2, ← h1]
      exact (h.2 a b z).1
  · rw [if_neg h1]
    exact (h.2 a b z).1
/-! counting bits -/
def pcN (v : Nat) : Nat → Nat
  | 0 => 0
  | k + 1 => pcN v k + if v.testBit k then 1 else 0
def pc (v : Nat) : Nat := pcN v 10
theorem pcN_le (v : Nat) : ∀ n, pcN v n ≤ n
  | 0 => Nat.le_refl 0
  | n + 1 => by
    have := pcN_le v n
    unfold pcN
    split <;> omega
def wr_ (x : Int) : Int := (Int32.ofInt x).toInt
def iand_ (x y : Int) : Int := (Int32.ofInt x &&& Int32.ofInt y).toInt
def iush_ (x y : Int) : Int := (((Int32.ofInt x).toUInt32 >>> ((Int32.ofInt y).toUInt32 &&& Int32.toUInt32 31)).toInt32).toInt
def bcF (a : Int) : Int :=
  let b := wr_ (a - iand_ (iush_ a 1) 1431655765)
  let c := wr_ (iand_ b 858993459 + iand_ (iush_ b 2) 858993459)
  let e := iand_ (wr_ (c + iush_ c 4)) 252645135
  let f := wr_ (e + iush_ e 8)
  let g := wr_ (f + iush_ f 16)
  iand_ g 63
theorem bc_tab : ∀ v : Nat, v < 1024 → bcF (v : Int) = (pc v : Int) := by decide +kernel
section C38
variable {X : Nat × (Nat → Int32)} {d : Nat} {M : rM} {S : SK} {W : WD} {s : Nat}
theorem c_bc {v : Nat} (hv : v < 1024) : fn X (d + 1) 352 [iv (v : Int)] M = oI (pc v : Int) M := by
  obtain ⟨n, hn⟩ : ∃ n, FU = n + 5 := ⟨FU - 5, by have := FU_ge; omega⟩
  rw [q_352, hn, q_352_at10, q_352_at24, q_352_at34, q_352_at41, q_352_at48, ← bc_tab v hv]
  simp only [wr_df, iand_df, iush_df]
  rfl
theorem m_bits {v : Nat} (hv : v < 2147483648) : fn X (d + 1) 213 [iv (v : Int)] M = oI (pc v : Int) M := by
  rw [q_213]
  refine loop_up (P := fun n c => kb X d 213 n 4 [some (iv (v : Int)), some (iv ((pcN v c : Nat) : Int)), some (iv (c : Int))] [] M) 10 ?_ ?_ 10 0 FU (by omega) (FU_lt (by omega))
  · intro n c hc
    left
    have := pcN_le v c
    rw [q_213_at4, if_pos (by omega), bit_test hv (by omega), wr_succ (by omega)]
    simp only [pcN]
    by_cases h : v.testBit c = true
    · rw [if_pos h, if_pos h, wri (by omega) (by omega)]
      rfl
    · rw [if_neg h, if_neg h, wri (by omega) (by omega)]
      rfl
  · intro n
    rw [q_213_at4, if_neg (by omega)]
    rfl
end C38
/-! the rule's worth -/
noncomputable def op2 (x a b : Int) : Int := if x = -10 then (if a = 0 then (if b = 0 then 0 else 1) else 1) else if x = -11 then (if a = 0 then 0 else if b = 0 then 0 else 1) else if x = -13 then (if a < b then 1 else 0) else if x = -14 then (if a = b then 1 else 0) else if x = -15 then wr (a + b) else if x = -16 then wr (a - b) else if x = -17 then wr (a * b) else if b = 0 then 0 else idv a b
noncomputable def evalR (v : Nat → Int) : List Int → List Int → List Int
  | [], st => st
  | x :: r, st => if -6 ≤ x then evalR v r ((if 0 ≤ x then x else v (-1 - x).toNat) :: st) else if x = -12 then evalR v r ((if st.headD 0 = 0 then 1 else 0) :: st.tail) else evalR v r (op2 x (st.tail.headD 0) (st.headD 0) :: st.tail.tail)
/-- a rule that can be reckoned: by the height of what waits -/
def wfr : List Int → Nat → Bool
  | [], h => h == 1
  | x :: r, h => if -6 ≤ x then decide (h < 40) && decide (x < 10000) && wfr r (h + 1) else if x = -12 then decide (1 ≤ h) && wfr r h else decide (2 ≤ h) && decide (-18 ≤ x) && decide (x ≤ -10) && wfr r (h - 1)
def WR (S : SK) : Prop := rul S = [] ∨ (wfr (rul S) 0 = true ∧ (rul S).length ≤ 700)
/-- what waits, its top first, lies in an array from its ground on -/
def stk (k : Nat) (M : rM) (st : List Int) : Prop := ∀ j, j < st.length → M.2.1 k j = st.getD (st.length - 1 - j) 0
theorem stk_push {k : Nat} {M : rM} {st : List Int} (h : stk k M st) (x : Int) : stk k (puI M k st.length x) (x :: st) := by
  intro j hj
  rw [List.length_cons] at hj ⊢
  by_cases e : j = st.length
  · subst e
    rw [puI_eq, Nat.add_sub_cancel, Nat.sub_self]
    rfl
  · rw [puI_nj e, h j (by omega)]
    have : st.length + 1 - 1 - j = (st.length - 1 - j) + 1 := by omega
    rw [this]
    rfl
theorem stk_top {k : Nat} {M : rM} {a : Int} {st : List Int} (h : stk k M (a :: st)) : M.2.1 k st.length = a := by
  rw [h st.length (by rw [List.length_cons]; omega), List.length_cons, Nat.add_sub_cancel, Nat.sub_self]
  rfl
theorem stk_pop {k : Nat} {M : rM} {a : Int} {st : List Int} (h : stk k M (a :: st)) : stk k M st := by
  intro j hj
  rw [h j (by rw [List.length_cons]; omega), List.length_cons]
  have : st.length + 1 - 1 - j = (st.length - 1 - j) + 1 := by omega
  rw [this]
  rfl
theorem stk_sx {k : Nat} {M M' : rM} {st : List Int} (h : stk k M st) (e : M'.2.1 k = M.2.1 k) : stk k M' st := fun j hj => by rw [e]; exact h j hj
theorem stk_set {k : Nat} {M : rM} {a : Int} {st : List Int} (h : stk k M (a :: st)) (x : Int) : stk k (puI M k st.length x) (x :: st) := stk_push (stk_pop h) x
def P15 (k _j : Nat) : Bool := k == 15
section C38b
variable {X : Nat × (Nat → Int32)} {d : Nat} {S : SK}
abbrev w51 (a b : Int) : List (Option rq) := [some (rv 12), none, none, none, none, none, none, some (iv a), some (iv b), none, none, none]
theorem getD_mid (pre r : List Int) (x : Int) : (pre ++ x :: r).getD pre.length 0 = x := by
  rw [List.getD_eq_getElem?_getD, List.getElem?_append_right (Nat.le_refl _), Nat.sub_self]
  rfl
set_option maxHeartbeats 4000000 in
theorem c_worth_loop (v : Nat → Int) : ∀ (rest pre st : List Int) (n : Nat) (M : rM), M.2.1 12 3 = ((pre ++ rest).length : Int) → (∀ i, i < (pre ++ rest).length → M.2.1 13 i = (pre ++ rest).getD i 0) → (∀ k, k < 6 → M.2.1 14 k = v k) → stk 15 M st → wfr rest st.length = true → st.length ≤ 40 → (pre ++ rest).length ≤ 700 → 4 * rest.length + 1 ≤ n → ∃ M', kb X d 47 n 51 (w51 ((st.length : Int) - 1) (pre.length : Int)) [] M = oI ((evalR v rest st).headD 0) M' ∧ sf P15 M M'
  | [], pre, st, n, M, h3, h13, h14, hst, hw, h40, hlen, hn => by
    obtain ⟨m, rfl⟩ : ∃ m, n = m + 1 := ⟨n - 1, by omega⟩
    have h1 : st.length = 1 := by simpa [wfr] using hw
    obtain ⟨a, rfl⟩ : ∃ a, st = [a] := List.length_eq_one_iff.1 h1
    have ht := stk_top hst
    refine ⟨M, ?_, sf.rf⟩
    rw [q_47_12_at51, h3, List.append_nil, if_neg (by omega)]
    simp only [List.length_cons, List.length_nil] at ht ⊢
    rw [if_neg (by omega), gdx (by omega) (by omega), show (((0 + 1 : Nat) : Int) - 1).toNat = 0 from rfl, ht]
    rfl
  | x :: r, pre, st, n, M, h3, h13, h14, hst, hw, h40, hlen, hn => by
    obtain ⟨m, rfl⟩ : ∃ m, n = m + 4 := ⟨n - 4, by rw [List.length_cons] at hn; omega⟩
    rw [List.length_cons] at hn
    have hpl : pre.length < (pre ++ x :: r).length := by rw [List.length_append, List.length_cons]; omega
    have hx : M.2.1 13 pre.length = x := by rw [h13 _ hpl, getD_mid]
    have happ : pre ++ x :: r = (pre ++ [x]) ++ r := by rw [List.append_assoc]; rfl
    have hpl2 : ((pre ++ [x]).length : Int) = wr ((pre.length : Int) + 1) := by
      rw [wr_succ (by omega), List.length_append]
      rfl
    -- the rest of the loop
    have go : ∀ (st' : List Int) (M' : rM) (m' : Nat), M'.2.1 12 = M.2.1 12 → M'.2.1 13 = M.2.1 13 → M'.2.1 14 = M.2.1 14 → stk 15 M' st' → wfr r st'.length = true → st'.length ≤ 40 → 4 * r.length + 1 ≤ m' → sf P15 M M' → ∃ M2, kb X d 47 (m' + 1) 388 (w51 ((st'.length : Int) - 1) (pre.length : Int)) [] M' = oI ((evalR v r st').headD 0) M2 ∧ sf P15 M M2 := by
      intro st' M' m' e12 e13 e14 hs' hw' h40' hm' hf'
      obtain ⟨M2, g1, g2⟩ := c_worth_loop v r (pre ++ [x]) st' m' M' (by rw [e12, ← happ]; exact h3) (fun i hi => by rw [e13, ← happ]; exact h13 i (by rw [happ]; exact hi)) (fun k hk => by rw [e14]; exact h14 k hk) hs' hw' h40' (by rw [← happ]; exact hlen) hm'
      refine ⟨M2, ?_, hf'.tr g2⟩
      rw [q_47_12_at388, ← hpl2]
      exact g1
    rw [q_47_12_at51, h3, if_pos (by omega), gdx (by omega) (by omega), Int.toNat_natCast, hx]
    unfold wfr at hw
    by_cases c1 : -6 ≤ x
    · rw [if_pos c1] at hw
      simp only [Bool.and_eq_true, decide_eq_true_eq] at hw
      obtain ⟨⟨w1, w2⟩, w3⟩ := hw
      have e1 : wr ((st.length : Int) - 1 + 1) = (st.length : Int) := by
        rw [wri (by omega) (by omega)]
        omega
      rw [if_neg (by omega), if_pos (by omega), e1, gdx (i := (st.length : Int)) (by omega) (by omega), gdx (i := (st.length : Int)) (by omega) (by omega), Int.toNat_natCast]
      have e2 : evalR v (x :: r) st = evalR v r ((if 0 ≤ x then x else v (-1 - x).toNat) :: st) := by
        conv => lhs; unfold evalR
        rw [if_pos c1]
      rw [e2]
      have e3 : ((st.length : Int)) = (((if 0 ≤ x then x else v (-1 - x).toNat) :: st).length : Int) - 1 := by
        rw [List.length_cons]
        omega
      by_cases c2 : 0 ≤ x
      · rw [if_neg (by omega)]
        rw [if_pos c2] at e3 ⊢
        obtain ⟨M2, g1, g2⟩ := go (x :: st) (puI M 15 st.length x) (m + 2) (puI_k (by omega)) (puI_k (by omega)) (puI_k (by omega)) (stk_push hst x) (by rw [List.length_cons]; exact w3) (by rw [List.length_cons]; omega) (by omega) (sf.rf.pu rfl x)
        rw [← e3] at g1
        exact ⟨M2, g1, g2⟩
      · have e4 : wr (-1 - x) = -1 - x := wri (by omega) (by omega)
        rw [if_pos (by omega), e4, gdx (i := -1 - x) (by omega) (by omega), h14 _ (by omega)]
        rw [if_neg c2] at e3 ⊢
        obtain ⟨M2, g1, g2⟩ := go (v (-1 - x).toNat :: st) (puI M 15 st.length (v (-1 - x).toNat)) (m + 2) (puI_k (by omega)) (puI_k (by omega)) (puI_k (by omega)) (stk_push hst _) (by rw [List.length_cons]; exact w3) (by rw [List.length_cons]; omega) (by omega) (sf.rf.pu rfl _)
        rw [← e3] at g1
        exact ⟨M2, g1, g2⟩
    · rw [if_neg c1] at hw
      rw [if_pos (by omega), q_47_12_at115]
      by_cases c2 : x = -12
      · rw [if_pos c2] at hw
        simp only [Bool.and_eq_true, decide_eq_true_eq] at hw
        obtain ⟨w1, w2⟩ := hw
        obtain ⟨a, s, rfl⟩ : ∃ a s, st = a :: s := by
          cases st with
          | nil => simp at w1
          | cons a s => exact ⟨a, s, rfl⟩
        have ht := stk_top hst
        rw [List.length_cons] at w2
        have e1 : ((a :: s).length : Int) - 1 = (s.length : Int) := by
          rw [List.length_cons]
          omega
        rw [List.length_cons] at h40
        have e2 : evalR v (x :: r) (a :: s) = evalR v r ((if a = 0 then 1 else 0) :: s) := by
          conv => lhs; unfold evalR
          rw [if_neg c1, if_pos c2]
          rfl
        rw [e2, e1, if_pos c2, if_neg (by omega)]
        simp only [gdx (i := (s.length : Int)) (n := 40) (by omega) (by omega), Int.toNat_natCast, ht]
        by_cases c3 : a = 0
        · rw [if_pos c3, if_pos c3]
          have e3 : (s.length : Int) = (((1 : Int) :: s).length : Int) - 1 := by
            rw [List.length_cons]
            omega
          obtain ⟨M2, g1, g2⟩ := go (1 :: s) (puI M 15 s.length 1) (m + 1) (puI_k (by omega)) (puI_k (by omega)) (puI_k (by omega)) (stk_set hst 1) (by rw [List.length_cons]; exact w2) (by rw [List.length_cons]; exact h40) (by omega) (sf.rf.pu rfl _)
          rw [← e3] at g1
          exact ⟨M2, g1, g2⟩
        · rw [if_neg c3, if_neg c3]
          have e3 : (s.length : Int) = (((0 : Int) :: s).length : Int) - 1 := by
            rw [List.length_cons]
            omega
          obtain ⟨M2, g1, g2⟩ := go (0 :: s) (puI M 15 s.length 0) (m + 1) (puI_k (by omega)) (puI_k (by omega)) (puI_k (by omega)) (stk_set hst 0) (by rw [List.length_cons]; exact w2) (by rw [List.length_cons]; exact h40) (by omega) (sf.rf.pu rfl _)
          rw [← e3] at g1
          exact ⟨M2, g1, g2⟩
      · rw [if_neg c2] at hw
        simp only [Bool.and_eq_true, decide_eq_true_eq] at hw
        obtain ⟨⟨⟨w1, w2⟩, w3⟩, w4⟩ := hw
        obtain ⟨b, a, s, rfl⟩ : ∃ b a s, st = b :: a :: s := by
          rcases st with _ | ⟨b, _ | ⟨a, s⟩⟩
          · simp at w1
          · simp at w1
          · exact ⟨b, a, s, rfl⟩
        have ht := stk_top hst
        have ht2 := stk_top (stk_pop hst)
        simp only [List.length_cons] at ht w4 h40
        have w4 : wfr r (s.length + 1) = true := w4
        have e1 : (((b :: a :: s).length : Nat) : Int) - 1 = ((s.length + 1 : Nat) : Int) := by
          rw [List.length_cons, List.length_cons]
          omega
        have e2 : evalR v (x :: r) (b :: a :: s) = evalR v r (op2 x a b :: s) := by
          conv => lhs; unfold evalR
          rw [if_neg c1, if_neg c2]
          rfl
        have e4 : wr (((s.length + 1 : Nat) : Int) + -1) = (s.length : Int) := by
          rw [wri (by omega) (by omega)]
          omega
        have e5 : wr ((s.length : Int) + 1) = ((s.length + 1 : Nat) : Int) := wr_succ (by omega)
        have e3 : (s.length : Int) = ((op2 x a b :: s).length : Int) - 1 := by
          rw [List.length_cons]
          omega
        obtain ⟨M2, g1, g2⟩ := go (op2 x a b :: s) (puI M 15 s.length (op2 x a b)) m (puI_k (by omega)) (puI_k (by omega)) (puI_k (by omega)) (stk_set (stk_pop hst) _) (by rw [List.length_cons]; exact w4) (by rw [List.length_cons]; omega) (by omega) (sf.rf.pu rfl _)
        rw [← e3] at g1
        refine ⟨M2, ?_, g2⟩
        rw [e2, e1, if_neg c2, q_47_12_at152, if_neg (by omega), e4, e5]
        simp only [Int.toNat_natCast, ht, ht2]
        rw [gdx (i := (s.length : Int)) (by omega) (by omega), gdx (i := ((s.length + 1 : Nat) : Int)) (by omega) (by omega)]
        simp only [gdx (i := (s.length : Int)) (n := 40) (by omega) (by omega)]
        rw [← g1]
        have hx : x = -10 ∨ x = -11 ∨ x = -13 ∨ x = -14 ∨ x = -15 ∨ x = -16 ∨ x = -17 ∨ x = -18 := by omega
        rcases hx with rfl | rfl | rfl | rfl | rfl | rfl | rfl | rfl
        · by_cases ha : a = 0
          · by_cases hb : b = 0
            · simp [op2, ha, hb]
            · simp [op2, ha, hb]
          · simp [op2, ha]
        · by_cases ha : a = 0
          · simp [op2, ha]
          · by_cases hb : b = 0
            · simp [op2, ha, hb]
            · simp [op2, ha, hb]
        · by_cases hb : a < b
          · simp [op2, hb]
          · simp [op2, hb]
        · by_cases hb : a = b
          · simp [op2, hb]
          · simp [op2, hb]
        · simp [op2]
        · simp [op2]
        · simp [op2]
        · by_cases hb : b = 0
          · simp [op2, hb]
          · simp [op2, hb]
end C38b

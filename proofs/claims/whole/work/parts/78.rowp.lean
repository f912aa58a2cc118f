/-! ===== how, next: purely ===== -/
/-- beliefs behind a try -/
def bt (S : SK) (t b : Nat) : Nat := if wk S t b = true then bb S t b else b
theorem bt_le {S : SK} (hF : WF S) {t b : Nat} (ht : t < nT S) (hb : b ≤ 63) : bt S t b ≤ 63 := by
  unfold bt
  split
  · exact bb_le hF ht hb
  · exact hb
/-- a creature's marks of a step -/
def okS (K : List MK) (c k x : Nat) : Bool := K.all (fun m => !(m.1 == c) || !(m.2.1 == k) || (x.testBit m.2.2.1 == (m.2.2.2 == 1)))
def sumT (f : Nat → Nat) : Nat → Nat
  | 0 => 0
  | n + 1 => sumT f n + f n
theorem sumT_congr {f g : Nat → Nat} : ∀ n, (∀ i, i < n → f i = g i) → sumT f n = sumT g n
  | 0, _ => rfl
  | n + 1, h => by
    unfold sumT
    rw [sumT_congr n (fun i hi => h i (by omega)), h n (by omega)]
theorem sumT_pos {f : Nat → Nat} : ∀ {n : Nat}, 0 < sumT f n → ∃ i, i < n ∧ 0 < f i
  | 0, h => absurd h (Nat.lt_irrefl _)
  | n + 1, h => by
    unfold sumT at h
    by_cases h1 : 0 < sumT f n
    · obtain ⟨i, h2, h3⟩ := sumT_pos h1
      exact ⟨i, by omega, h3⟩
    · exact ⟨n, by omega, by omega⟩
theorem sumT_ge {f : Nat → Nat} {i : Nat} : ∀ {n : Nat}, i < n → f i ≤ sumT f n
  | 0, h => absurd h (Nat.not_lt_zero _)
  | n + 1, h => by
    unfold sumT
    by_cases e : i = n
    · subst e
      omega
    · have := sumT_ge (f := f) (n := n) (i := i) (by omega)
      omega
theorem sumT_le {f : Nat → Nat} {B : Nat} : ∀ n, (∀ i, i < n → f i ≤ B) → sumT f n ≤ n * B
  | 0, _ => Nat.zero_le _
  | n + 1, h => by
    have := sumT_le n (fun i hi => h i (by omega))
    have := h n (by omega)
    unfold sumT
    rw [Nat.add_mul]
    omega
/-- a row of rows -/
theorem sumT_mul (f : Nat → Nat) (T : Nat) : ∀ a, sumT f (a * T) = sumT (fun i => sumT (fun j => f (i * T + j)) T) a
  | 0 => by
    rw [Nat.zero_mul]
    rfl
  | a + 1 => by
    have ih := sumT_mul f T a
    have key : ∀ n, sumT f (a * T + n) = sumT f (a * T) + sumT (fun j => f (a * T + j)) n := by
      intro n
      induction n with
      | zero => rfl
      | succ n ihn =>
        show sumT f (a * T + n) + f (a * T + n) = sumT f (a * T) + (sumT (fun j => f (a * T + j)) n + f (a * T + n))
        rw [ihn]
        omega
    rw [Nat.add_mul, Nat.one_mul, key T, ih]
    rfl
section B78
variable (S : SK) (K : List MK) (c b0 : Nat)
/-- in how many ways the rest can be done -/
def wn : Nat → Nat → Nat → Nat
  | 0, _, _ => 1
  | m + 1, k, b => sumT (fun t => if okS K c (k + 1) (bt S t b) = true then wn m (k + 1) (bt S t b) else 0) (nT S)
/-- beliefs behind k tries that are r's figures -/
def en : Nat → Nat → Nat
  | 0, _ => b0
  | k + 1, r => bt S (r % nT S) (en k (r / nT S))
/-- so far as the marks say -/
def vd : Nat → Nat → Bool
  | 0, _ => true
  | k + 1, r => vd k (r / nT S) && okS K c (k + 1) (en S b0 (k + 1) r)
end B78
section B78b
variable {S : SK} {K : List MK} {c b0 : Nat}
theorem wn_le : ∀ m k b, wn S K c m k b ≤ nT S ^ m
  | 0, _, _ => Nat.le_refl _
  | m + 1, k, b => by
    unfold wn
    rw [Nat.pow_succ, Nat.mul_comm]
    apply sumT_le
    intro t _
    split
    · exact wn_le m _ _
    · exact Nat.zero_le _
theorem en_le (hF : WF S) (hb : b0 ≤ 63) (hT : 0 < nT S) : ∀ k r, en S b0 k r ≤ 63
  | 0, _ => hb
  | k + 1, r => bt_le hF (Nat.mod_lt _ hT) (en_le hF hb hT k _)
theorem div_pow {r T k : Nat} : r / T ^ (k + 1) = r / T / T ^ k := by
  rw [Nat.pow_succ, Nat.mul_comm, Nat.div_div_eq_div_mul]
/-- the marks, step by step -/
theorem vd_iff : ∀ n r, vd S K c b0 n r = true ↔ ∀ k, 1 ≤ k → k ≤ n → okS K c k (en S b0 k (r / nT S ^ (n - k))) = true
  | 0, r => ⟨fun _ k h1 h2 => by omega, fun _ => rfl⟩
  | n + 1, r => by
    have ih := vd_iff n (r / nT S)
    unfold vd
    rw [Bool.and_eq_true, ih]
    constructor
    · rintro ⟨h1, h2⟩ k k1 k2
      by_cases e : k = n + 1
      · subst e
        rw [Nat.sub_self, Nat.pow_zero, Nat.div_one]
        exact h2
      · have := h1 k k1 (by omega)
        rw [show n + 1 - k = (n - k) + 1 by omega, div_pow]
        exact this
    · intro h
      refine ⟨fun k k1 k2 => ?_, ?_⟩
      · have := h k k1 (by omega)
        rw [show n + 1 - k = (n - k) + 1 by omega, div_pow] at this
        exact this
      · have := h (n + 1) (by omega) (Nat.le_refl _)
        rw [Nat.sub_self, Nat.pow_zero, Nat.div_one] at this
        exact this
/-- how many of the first so many rows are right -/
def cntR (f : Nat → Bool) (n : Nat) : Nat := sumT (fun r => if f r = true then 1 else 0) n
theorem mul_add_div' {T i j : Nat} (hj : j < T) : (i * T + j) / T = i ∧ (i * T + j) % T = j := by
  refine ⟨?_, ?_⟩
  · rw [Nat.mul_comm, Nat.mul_add_div (by omega), Nat.div_eq_of_lt hj, Nat.add_zero]
  · rw [Nat.mul_comm, Nat.mul_add_mod, Nat.mod_eq_of_lt hj]
theorem cnt_k (hT : 0 < nT S) (n : Nat) : ∀ k, k ≤ n → sumT (fun r => if vd S K c b0 k r = true then wn S K c (n - k) k (en S b0 k r) else 0) (nT S ^ k) = wn S K c n 0 b0
  | 0, _ => by
    show 0 + _ = _
    rw [Nat.zero_add]
    rfl
  | k + 1, hk => by
    rw [← cnt_k hT n k (by omega), Nat.pow_succ, sumT_mul]
    apply sumT_congr
    intro r hr
    have hn : n - k = (n - (k + 1)) + 1 := by omega
    by_cases hv : vd S K c b0 k r = true
    · rw [if_pos hv, hn]
      show _ = sumT (fun t => if okS K c (k + 1) (bt S t (en S b0 k r)) = true then wn S K c (n - (k + 1)) (k + 1) (bt S t (en S b0 k r)) else 0) (nT S)
      apply sumT_congr
      intro t ht
      obtain ⟨e1, e2⟩ := mul_add_div' (i := r) ht
      have e3 : en S b0 (k + 1) (r * nT S + t) = bt S t (en S b0 k r) := by
        show bt S ((r * nT S + t) % nT S) (en S b0 k ((r * nT S + t) / nT S)) = _
        rw [e1, e2]
      have e4 : vd S K c b0 (k + 1) (r * nT S + t) = okS K c (k + 1) (bt S t (en S b0 k r)) := by
        show (vd S K c b0 k ((r * nT S + t) / nT S) && okS K c (k + 1) (en S b0 (k + 1) (r * nT S + t))) = _
        rw [e1, hv, e3, Bool.true_and]
      rw [e4, e3]
    · rw [if_neg hv]
      have : sumT (fun j => if vd S K c b0 (k + 1) (r * nT S + j) = true then wn S K c (n - (k + 1)) (k + 1) (en S b0 (k + 1) (r * nT S + j)) else 0) (nT S) = sumT (fun _ => 0) (nT S) := by
        apply sumT_congr
        intro t ht
        obtain ⟨e1, e2⟩ := mul_add_div' (i := r) ht
        have e4 : vd S K c b0 (k + 1) (r * nT S + t) = false := by
          show (vd S K c b0 k ((r * nT S + t) / nT S) && okS K c (k + 1) (en S b0 (k + 1) (r * nT S + t))) = _
          rw [e1]
          simp [hv]
        rw [e4]
        rfl
      rw [this]
      have z : ∀ n, sumT (fun _ => 0) n = 0 := by
        intro n
        induction n with
        | zero => rfl
        | succ n ih => show sumT (fun _ => 0) n + 0 = 0; rw [ih]
      exact z _
theorem cnt_all (hT : 0 < nT S) (n : Nat) : cntR (fun r => vd S K c b0 n r) (nT S ^ n) = wn S K c n 0 b0 := by
  rw [← cnt_k (b0 := b0) hT n n (Nat.le_refl _), Nat.sub_self]
  rfl
/-- what can be done can be done in a whole row -/
theorem vd_more (hT : 0 < nT S) (n : Nat) : ∀ j k r, k + j = n → r < nT S ^ k → vd S K c b0 k r = true → 0 < wn S K c j k (en S b0 k r) → ∃ q, q < nT S ^ n ∧ vd S K c b0 n q = true ∧ q / nT S ^ j = r
  | 0, k, r, hk, hr, hv, _ => by
    have : k = n := by omega
    subst this
    exact ⟨r, hr, hv, by rw [Nat.pow_zero, Nat.div_one]⟩
  | j + 1, k, r, hk, hr, hv, hw => by
    unfold wn at hw
    obtain ⟨t, ht, hx⟩ := sumT_pos hw
    by_cases ho : okS K c (k + 1) (bt S t (en S b0 k r)) = true
    · rw [if_pos ho] at hx
      obtain ⟨e1, e2⟩ := mul_add_div' (i := r) ht
      have e3 : en S b0 (k + 1) (r * nT S + t) = bt S t (en S b0 k r) := by
        show bt S ((r * nT S + t) % nT S) (en S b0 k ((r * nT S + t) / nT S)) = _
        rw [e1, e2]
      have e4 : vd S K c b0 (k + 1) (r * nT S + t) = true := by
        show (vd S K c b0 k ((r * nT S + t) / nT S) && okS K c (k + 1) (en S b0 (k + 1) (r * nT S + t))) = _
        rw [e1, hv, e3, Bool.true_and]
        exact ho
      have hlt : r * nT S + t < nT S ^ (k + 1) := by
        rw [Nat.pow_succ]
        have : (r + 1) * nT S ≤ nT S ^ k * nT S := Nat.mul_le_mul_right _ hr
        rw [Nat.add_mul, Nat.one_mul] at this
        omega
      obtain ⟨q, q1, q2, q3⟩ := vd_more hT n j (k + 1) (r * nT S + t) (by omega) hlt e4 (by rw [e3]; exact hx)
      refine ⟨q, q1, q2, ?_⟩
      have : q / nT S ^ (j + 1) = q / nT S ^ j / nT S := by
        rw [Nat.pow_succ, Nat.div_div_eq_div_mul]
      rw [this, q3, e1]
    · rw [if_neg ho] at hx
      exact absurd hx (Nat.lt_irrefl _)
/-- a whole row can be done from each of its steps on -/
theorem vd_less (hT : 0 < nT S) (n : Nat) {q : Nat} (hv : vd S K c b0 n q = true) : ∀ j k, k + j = n → vd S K c b0 k (q / nT S ^ j) = true ∧ 0 < wn S K c j k (en S b0 k (q / nT S ^ j))
  | 0, k, hk => by
    have : k = n := by omega
    subst this
    rw [Nat.pow_zero, Nat.div_one]
    exact ⟨hv, by unfold wn; omega⟩
  | j + 1, k, hk => by
    obtain ⟨h1, h2⟩ := vd_less hT n hv j (k + 1) (by omega)
    have e : q / nT S ^ (j + 1) = q / nT S ^ j / nT S := by
      rw [Nat.pow_succ, Nat.div_div_eq_div_mul]
    have h1' : (vd S K c b0 k (q / nT S ^ j / nT S) && okS K c (k + 1) (en S b0 (k + 1) (q / nT S ^ j))) = true := h1
    rw [Bool.and_eq_true] at h1'
    rw [e]
    refine ⟨h1'.1, ?_⟩
    have e3 : en S b0 (k + 1) (q / nT S ^ j) = bt S (q / nT S ^ j % nT S) (en S b0 k (q / nT S ^ j / nT S)) := rfl
    rw [e3] at h1' h2
    unfold wn
    have := sumT_ge (f := fun t => if okS K c (k + 1) (bt S t (en S b0 k (q / nT S ^ j / nT S))) = true then wn S K c j (k + 1) (bt S t (en S b0 k (q / nT S ^ j / nT S))) else 0) (Nat.mod_lt (q / nT S ^ j) hT)
    rw [if_pos h1'.2] at this
    omega
/-- a trick that leads on -/
def good (S : SK) (K : List MK) (c m k b t : Nat) : Bool := okS K c (k + 1) (bt S t b) && decide (0 < wn S K c m (k + 1) (bt S t b))
/-- the first one that is so -/
def fstT (f : Nat → Bool) : Nat → Option Nat
  | 0 => none
  | n + 1 => match fstT f n with
    | some t => some t
    | none => if f n = true then some n else none
theorem fstT_some {f : Nat → Bool} : ∀ {n t : Nat}, fstT f n = some t → t < n ∧ f t = true ∧ ∀ i, i < t → f i = false
  | 0, t, h => by cases h
  | n + 1, t, h => by
    unfold fstT at h
    cases hx : fstT f n with
    | some t' =>
      rw [hx] at h
      have h := Option.some.inj h
      subst h
      obtain ⟨h1, h2, h3⟩ := fstT_some hx
      exact ⟨by omega, h2, h3⟩
    | none =>
      rw [hx] at h
      dsimp only at h
      split at h
      · rename_i hf
        have h := Option.some.inj h
        subst h
        refine ⟨by omega, hf, fun i hi => ?_⟩
        cases hy : f i with
        | false => rfl
        | true =>
          exfalso
          have : ∀ m, i < m → fstT f m ≠ none := by
            intro m
            induction m with
            | zero => intro z; omega
            | succ m ih =>
              intro z e
              unfold fstT at e
              by_cases em : i = m
              · subst em
                cases hz : fstT f i with
                | some w =>
                  rw [hz] at e
                  cases e
                | none =>
                  rw [hz] at e
                  dsimp only at e
                  rw [if_pos hy] at e
                  cases e
              · have := ih (by omega)
                cases hz : fstT f m with
                | some w =>
                  rw [hz] at e
                  cases e
                | none => exact this hz
          exact this n hi hx
      · cases h
theorem fstT_none {f : Nat → Bool} : ∀ {n : Nat}, fstT f n = none → ∀ i, i < n → f i = false
  | 0, _, i, hi => absurd hi (Nat.not_lt_zero i)
  | n + 1, h, i, hi => by
    unfold fstT at h
    cases hx : fstT f n with
    | some t =>
      rw [hx] at h
      cases h
    | none =>
      rw [hx] at h
      dsimp only at h
      by_cases e : i = n
      · subst e
        cases hy : f i with
        | false => rfl
        | true =>
          rw [if_pos hy] at h
          cases h
      · exact fstT_none hx i (by omega)
/-- the first row, step by step: its number so far -/
def gk (S : SK) (K : List MK) (c b0 n : Nat) : Nat → Nat
  | 0 => 0
  | k + 1 => gk S K c b0 n k * nT S + (fstT (good S K c (n - (k + 1)) k (en S b0 k (gk S K c b0 n k))) (nT S)).getD 0
theorem good_pos (m k b : Nat) (h : 0 < wn S K c (m + 1) k b) : ∃ t, t < nT S ∧ good S K c m k b t = true := by
  unfold wn at h
  obtain ⟨t, ht, hx⟩ := sumT_pos h
  by_cases ho : okS K c (k + 1) (bt S t b) = true
  · rw [if_pos ho] at hx
    exact ⟨t, ht, by unfold good; rw [ho, decide_eq_true hx]; rfl⟩
  · rw [if_neg ho] at hx
    exact absurd hx (Nat.lt_irrefl _)
theorem gk_ok (hT : 0 < nT S) (n : Nat) (hw : 0 < wn S K c n 0 b0) : ∀ k, k ≤ n → gk S K c b0 n k < nT S ^ k ∧ vd S K c b0 k (gk S K c b0 n k) = true ∧ 0 < wn S K c (n - k) k (en S b0 k (gk S K c b0 n k)) ∧ ∀ q, vd S K c b0 n q = true → gk S K c b0 n k ≤ q / nT S ^ (n - k)
  | 0, _ => ⟨by rw [Nat.pow_zero]; exact Nat.lt_succ_self 0, rfl, hw, fun q _ => Nat.zero_le _⟩
  | k + 1, hk => by
    obtain ⟨h1, h2, h3, h4⟩ := gk_ok hT n hw k (by omega)
    have hn : n - k = (n - (k + 1)) + 1 := by omega
    rw [hn] at h3
    obtain ⟨t0, ht0, hg0⟩ := good_pos _ _ _ h3
    cases hf : fstT (good S K c (n - (k + 1)) k (en S b0 k (gk S K c b0 n k))) (nT S) with
    | none =>
      rw [fstT_none hf t0 ht0] at hg0
      cases hg0
    | some t =>
      obtain ⟨f1, f2, f3⟩ := fstT_some hf
      have eg : gk S K c b0 n (k + 1) = gk S K c b0 n k * nT S + t := by
        show gk S K c b0 n k * nT S + (fstT (good S K c (n - (k + 1)) k (en S b0 k (gk S K c b0 n k))) (nT S)).getD 0 = _
        rw [hf]
        rfl
      rw [eg]
      generalize gk S K c b0 n k = r at *
      obtain ⟨e1, e2⟩ := mul_add_div' (i := r) f1
      have e3 : en S b0 (k + 1) (r * nT S + t) = bt S t (en S b0 k r) := by
        show bt S ((r * nT S + t) % nT S) (en S b0 k ((r * nT S + t) / nT S)) = _
        rw [e1, e2]
      unfold good at f2
      rw [Bool.and_eq_true, decide_eq_true_eq] at f2
      refine ⟨?_, ?_, ?_, fun q hq => ?_⟩
      · rw [Nat.pow_succ]
        have : (r + 1) * nT S ≤ nT S ^ k * nT S := Nat.mul_le_mul_right _ h1
        rw [Nat.add_mul, Nat.one_mul] at this
        omega
      · show (vd S K c b0 k ((r * nT S + t) / nT S) && okS K c (k + 1) (en S b0 (k + 1) (r * nT S + t))) = _
        rw [e1, h2, e3, Bool.true_and]
        exact f2.1
      · rw [e3]
        exact f2.2
      · have hq4 := h4 q hq
        have e : q / nT S ^ (n - k) = q / nT S ^ (n - (k + 1)) / nT S := by
          rw [hn, Nat.pow_succ, Nat.div_div_eq_div_mul]
        rw [e] at hq4
        obtain ⟨g1, g2⟩ := vd_less hT n hq (n - (k + 1)) (k + 1) (by omega)
        generalize q / nT S ^ (n - (k + 1)) = y at *
        have hy := Nat.div_add_mod y (nT S)
        by_cases hr : y / nT S = r
        · -- the same so far: its next figure leads on
          have h1' : (vd S K c b0 k (y / nT S) && okS K c (k + 1) (en S b0 (k + 1) y)) = true := g1
          have e5 : en S b0 (k + 1) y = bt S (y % nT S) (en S b0 k (y / nT S)) := rfl
          rw [e5, hr] at h1' g2
          rw [Bool.and_eq_true] at h1'
          have hgood : good S K c (n - (k + 1)) k (en S b0 k r) (y % nT S) = true := by
            unfold good
            rw [h1'.2, decide_eq_true g2]
            rfl
          have : ¬ y % nT S < t := fun z => by
            rw [f3 _ z] at hgood
            cases hgood
          rw [hr, Nat.mul_comm] at hy
          omega
        · have hr2 : r + 1 ≤ y / nT S := by omega
          have : (r + 1) * nT S ≤ y / nT S * nT S := Nat.mul_le_mul_right _ hr2
          rw [Nat.add_mul, Nat.one_mul] at this
          rw [Nat.mul_comm] at hy
          omega
/-- a row's figures as a number -/
def nm (S : SK) : Nat → Nat → Nat
  | 0, _ => 0
  | k + 1, r => 10 * nm S k (r / nT S) + r % nT S
/-- the first right row of the first so many -/
theorem fst_gk (hT : 0 < nT S) (n : Nat) (hw : 0 < wn S K c n 0 b0) : fstT (fun r => vd S K c b0 n r) (nT S ^ n) = some (gk S K c b0 n n) := by
  obtain ⟨h1, h2, -, h4⟩ := gk_ok (b0 := b0) hT n hw n (Nat.le_refl _)
  cases hx : fstT (fun r => vd S K c b0 n r) (nT S ^ n) with
  | none =>
    have := fstT_none hx _ h1
    rw [h2] at this
    cases this
  | some r =>
    obtain ⟨f1, f2, f3⟩ := fstT_some hx
    have := h4 r f2
    rw [Nat.sub_self, Nat.pow_zero, Nat.div_one] at this
    have h5 : ¬ gk S K c b0 n n < r := fun z => by
      rw [f3 _ z] at h2
      cases h2
    congr 1
    omega
theorem fst_none (hT : 0 < nT S) (n : Nat) (hw : wn S K c n 0 b0 = 0) : fstT (fun r => vd S K c b0 n r) (nT S ^ n) = none := by
  cases hx : fstT (fun r => vd S K c b0 n r) (nT S ^ n) with
  | none => rfl
  | some r =>
    obtain ⟨f1, f2, f3⟩ := fstT_some hx
    obtain ⟨-, h2⟩ := vd_less hT n f2 n 0 (by omega)
    have : 0 < wn S K c n 0 b0 := h2
    omega
/-- a set of beliefs that can be had behind a step -/
def alw (S : SK) (K : List MK) (c b0 k x : Nat) : Prop := ∃ r, r < nT S ^ k ∧ vd S K c b0 k r = true ∧ en S b0 k r = x
theorem alw_s (hT : 0 < nT S) {k x : Nat} : alw S K c b0 (k + 1) x ↔ okS K c (k + 1) x = true ∧ ∃ y t, alw S K c b0 k y ∧ t < nT S ∧ x = bt S t y := by
  constructor
  · rintro ⟨r, h1, h2, h3⟩
    have h2' : (vd S K c b0 k (r / nT S) && okS K c (k + 1) (en S b0 (k + 1) r)) = true := h2
    rw [Bool.and_eq_true, h3] at h2'
    rw [Nat.pow_succ] at h1
    exact ⟨h2'.2, en S b0 k (r / nT S), r % nT S, ⟨r / nT S, Nat.div_lt_of_lt_mul (by rw [Nat.mul_comm]; exact h1), h2'.1, rfl⟩, Nat.mod_lt _ hT, h3.symm⟩
  · rintro ⟨h1, y, t, ⟨r, r1, r2, r3⟩, h2, h3⟩
    obtain ⟨e1, e2⟩ := mul_add_div' (i := r) h2
    have e3 : en S b0 (k + 1) (r * nT S + t) = x := by
      unfold en
      rw [e1, e2, r3, h3]
    refine ⟨r * nT S + t, ?_, ?_, e3⟩
    · rw [Nat.pow_succ]
      have : (r + 1) * nT S ≤ nT S ^ k * nT S := Nat.mul_le_mul_right _ r1
      rw [Nat.add_mul, Nat.one_mul] at this
      omega
    · show (vd S K c b0 k ((r * nT S + t) / nT S) && okS K c (k + 1) (en S b0 (k + 1) (r * nT S + t))) = _
      rw [e1, r2, e3, Bool.true_and]
      exact h1
/-- .. in a whole row -/
theorem had_iff (hT : 0 < nT S) {n k x : Nat} (hk : k ≤ n) : (∃ q, q < nT S ^ n ∧ vd S K c b0 n q = true ∧ en S b0 k (q / nT S ^ (n - k)) = x) ↔ alw S K c b0 k x ∧ 0 < wn S K c (n - k) k x := by
  constructor
  · rintro ⟨q, q1, q2, q3⟩
    obtain ⟨h1, h2⟩ := vd_less hT n q2 (n - k) k (by omega)
    rw [q3] at h2
    refine ⟨⟨q / nT S ^ (n - k), ?_, h1, q3⟩, h2⟩
    apply Nat.div_lt_of_lt_mul
    rw [← Nat.pow_add, show n - k + k = n by omega]
    exact q1
  · rintro ⟨⟨r, r1, r2, r3⟩, hw⟩
    rw [← r3] at hw
    obtain ⟨q, q1, q2, q3⟩ := vd_more hT n (n - k) k r (by omega) r1 r2 hw
    exact ⟨q, q1, q2, by rw [q3]; exact r3⟩
end B78b

/-! ===== how, next: the class's answers ===== -/
section C80
variable {X : Nat × (Nat → Int32)} {d n : Nat} {M M1 M2 M' : rM} {A A' : AS} {S : SK} {W V : WD} {K : List MK} {c b0 : Nat}
/-- which sets the marks allow, so far as steps are known -/
def AL (S : SK) (K : List MK) (c b0 k : Nat) (M : rM) : Prop := ∀ k', k' < k → ∀ s, s < 64 → (tb (M.2.2 54 k') s = true ↔ alw S K c b0 k' s)
/-- one cell of the ways -/
def wc (S : SK) (K : List MK) (c b0 n k s : Nat) (v : Int) : Prop := (alw S K c b0 k s → v = (wn S K c (n - k) k s : Int)) ∧ (¬ alw S K c b0 k s → v = 0)
theorem pow8 (hF : WF S) {m : Nat} (hm : m ≤ 4) : nT S ^ m ≤ 4096 := by
  have h8 := hF.2.1
  have h1 : nT S ^ m ≤ 8 ^ m := Nat.pow_le_pow_left h8 m
  have h2 : 8 ^ m ≤ 8 ^ 4 := Nat.pow_le_pow_right (by omega) hm
  have : (8 : Nat) ^ 4 = 4096 := by decide
  omega
theorem ixw {k s : Nat} (hk : k ≤ 4) (hs : s < 64) : wr (wr ((k : Int) * 64) + (s : Int)) = ((64 * k + s : Nat) : Int) := by
  rw [wri (x := (k : Int) * 64) (by omega) (by omega), wri (by omega) (by omega)]
  omega
theorem c_ways (hS : CS S M) (hF : WF S) (hb : b0 ≤ 63) (hn : n ≤ 4) (h4 : M.2.1 53 4 = (n : Int)) (hal : AL S K c b0 (n + 1) M) {k s : Nat} (hk : k ≤ n) (hs : s < 64) (hw : k < n → ∀ x, x < 64 → wc S K c b0 n (k + 1) x (M.2.1 55 (64 * (k + 1) + x))) : ∃ v, fn X (d + 4) 40 [rv 53, iv (k : Int), iv (s : Int)] M = oI v M ∧ wc S K c b0 n k s v := by
  have h8 := hF.2.1
  rw [q_40_53, gdx (by omega) (by omega), Int.toNat_natCast]
  by_cases ha : alw S K c b0 k s
  · have ht : tb (M.2.2 54 k) s = true := (hal k (by omega) s hs).2 ha
    rw [if_neg (fun z => by rw [tb_test (by omega), ht] at z; cases z), h4]
    by_cases e : k = n
    · rw [if_pos (by omega)]
      refine ⟨1, rfl, fun _ => ?_, fun q => absurd ha q⟩
      rw [e, Nat.sub_self]
      rfl
    · rw [if_neg (by omega)]
      have hkn : k < n := by omega
      have en' : n - k = (n - (k + 1)) + 1 := by omega
      refine ⟨(wn S K c (n - k) k s : Int), ?_, fun _ => rfl, fun q => absurd ha q⟩
      rw [en']
      refine loop_up (P := fun m t => kb X (d + 3) 40 m 32 [some (rv 53), some (iv (k : Int)), some (iv (s : Int)), some (iv (sumT (fun t => if okS K c (k + 1) (bt S t s) = true then wn S K c (n - (k + 1)) (k + 1) (bt S t s) else 0) t : Int)), some (iv (t : Int))] [] M) (nT S) ?_ ?_ (nT S) 0 FU (by omega) (FU_lt (by omega))
      · intro m t ht'
        left
        have hx := bt_le hF ht' (show s ≤ 63 by omega)
        have h1 := pow8 (S := S) hF (m := n - (k + 1)) (by omega)
        have hsum : sumT (fun t => if okS K c (k + 1) (bt S t s) = true then wn S K c (n - (k + 1)) (k + 1) (bt S t s) else 0) t ≤ t * 4096 := by
          apply sumT_le
          intro i _
          split
          · exact Nat.le_trans (wn_le _ _ _) h1
          · exact Nat.zero_le _
        have hc1 : M.2.1 55 (64 * (k + 1) + bt S t s) = ((if okS K c (k + 1) (bt S t s) = true then wn S K c (n - (k + 1)) (k + 1) (bt S t s) else 0 : Nat) : Int) := by
          obtain ⟨w1, w2⟩ := hw hkn (bt S t s) (by omega)
          by_cases ho : okS K c (k + 1) (bt S t s) = true
          · rw [if_pos ho]
            exact w1 (alw_t.2 ⟨ho, s, t, ha, ht', rfl⟩)
          · rw [if_neg ho]
            exact w2 (fun q => ho (alw_t.1 q).1)
        have hle : (if okS K c (k + 1) (bt S t s) = true then wn S K c (n - (k + 1)) (k + 1) (bt S t s) else 0) ≤ 4096 := by
          split
          · exact Nat.le_trans (wn_le _ _ _) h1
          · exact Nat.zero_le _
        have ei : wr (wr (((k + 1 : Nat) : Int) * 64) + (bt S t s : Int)) = ((64 * (k + 1) + bt S t s : Nat) : Int) := ixw (by omega) (by omega)
        have t32 : t * 4096 ≤ 8 * 4096 := Nat.mul_le_mul_right _ (by omega)
        rw [q_40_53_at32, q_112_6, cI_I, hS.2.1, if_pos (by omega), c_bt hS hF ht' (by omega), cI_I, wr_succ (by omega), ei, gdx (by omega) (by omega), Int.toNat_natCast, hc1, wri (x := _ + _) (by omega) (by omega), ← Int.natCast_add, wr_succ (by omega)]
        rfl
      · intro m
        rw [q_40_53_at32, q_112_6, cI_I, hS.2.1, if_neg (by omega)]
        rfl
  · have ht : tb (M.2.2 54 k) s = false := by
      cases hx : tb (M.2.2 54 k) s with
      | false => rfl
      | true => exact absurd ((hal k (by omega) s hs).1 hx) ha
    rw [if_pos ((tb_test (by omega)).2 ht)]
    exact ⟨0, rfl, fun q => absurd q ha, fun _ => rfl⟩
/-- what is there once rows are solved -/
def HR (S : SK) (K : List MK) (c b0 n : Nat) (M : rM) : Prop := M.2.1 53 4 = (n : Int) ∧ M.2.1 53 5 = (b0 : Int) ∧ ∀ k, k ≤ n → ∀ s, s < 64 → wc S K c b0 n k s (M.2.1 55 (64 * k + s))
theorem c_solveR (hA : OKA A) (h : CH A M) {c : Nat} (hc : c < nC (aS A)) (hn : 1 ≤ n ∧ n ≤ 4) : ∃ M', fn X (d + 5) 33 [rv 53, iv (c : Int), iv (n : Int)] M = oV M' ∧ HR (aS A) (aK A) c (aW A (3 + c)) n M' ∧ sf PW M M' := by
  obtain ⟨hF, hR, hV, hP, hK, -⟩ := hA
  have h8 := hF.2.1
  have hb := (hV.1.2.2 c hc).1
  have e4 : max 0 (min 4 (n : Int)) = (n : Int) := by omega
  have p4 : PW 53 4 = true := by decide
  have p5 : PW 53 5 = true := by decide
  have p54 : ∀ j, PW 54 j = true := fun j => by simp [PW]
  have p55 : ∀ j, PW 55 j = true := fun j => by simp [PW]
  rw [q_33_53, e4, c_bel hs34 hF (h.W.fr (puI_k (by omega))) hc, cI_I]
  generalize hS' : aS A = S at *
  generalize hKe : aK A = K at *
  generalize hbe : aW A (3 + c) = b0 at *
  have hmark : ∀ i, i < K.length → (K.getD i K00).2.2.1 < 6 ∧ (K.getD i K00).2.2.2 ≤ 1 := fun i hi => by
    obtain ⟨a, b, e, f, g⟩ := hK.2 _ (getK_mem hi)
    exact ⟨f, g⟩
  have f0 : sf PW M (puJ (puI (puI M 53 4 (n : Int)) 53 5 (b0 : Int)) 54 0 (jshl (Int64.ofNat 1) (b0 : Int))) := ((sf.rf.pu p4 _).pu p5 _).pj (p54 0) _
  have c4 : (puJ (puI (puI M 53 4 (n : Int)) 53 5 (b0 : Int)) 54 0 (jshl (Int64.ofNat 1) (b0 : Int))).2.1 53 4 = (n : Int) := by
    show (puI (puI M 53 4 (n : Int)) 53 5 (b0 : Int)).2.1 53 4 = _
    rw [puI_nj (by omega), puI_eq]
  have c5 : (puJ (puI (puI M 53 4 (n : Int)) 53 5 (b0 : Int)) 54 0 (jshl (Int64.ofNat 1) (b0 : Int))).2.1 53 5 = (b0 : Int) := puI_eq (puI M 53 4 (n : Int)) 53 5 (b0 : Int)
  have a0 : AL S K c b0 1 (puJ (puI (puI M 53 4 (n : Int)) 53 5 (b0 : Int)) 54 0 (jshl (Int64.ofNat 1) (b0 : Int))) := fun k' hk' s hs => by
    have : k' = 0 := by omega
    subst this
    rw [puJ_eq, tb_bit (by omega) hs, decide_eq_true_eq]
    constructor
    · rintro rfl
      exact ⟨0, by rw [Nat.pow_zero]; exact Nat.lt_succ_self 0, rfl, rfl⟩
    · rintro ⟨r, -, -, h3⟩
      exact h3.symm
  generalize puJ (puI (puI M 53 4 (n : Int)) 53 5 (b0 : Int)) 54 0 (jshl (Int64.ofNat 1) (b0 : Int)) = N0 at *
  -- the ways, from the last step on
  have down : ∀ (j k g : Nat) (N1 : rM), k + 1 = j → k ≤ n → N1.2.1 53 4 = (n : Int) → N1.2.1 53 5 = (b0 : Int) → AL S K c b0 (n + 1) N1 → (∀ k', k < k' → k' ≤ n → ∀ s, s < 64 → wc S K c b0 n k' s (N1.2.1 55 (64 * k' + s))) → sf PW M N1 → j * 66 + 1 ≤ g → ∃ M', kb X (d + 4) 33 g 111 [some (rv 53), none, none, some (iv (k : Int)), none, none] [] N1 = oV M' ∧ HR S K c b0 n M' ∧ sf PW M M' := by
    intro j
    induction j with
    | zero =>
      intro k g N1 hk
      omega
    | succ j ih =>
      intro k g N1 hk hkn g4 g5 gal gw gf hg
      obtain ⟨g, rfl⟩ : ∃ q, g = q + 1 := ⟨g - 1, by omega⟩
      rw [q_33_53_at111, if_neg (by omega)]
      refine loop_st (σ := rM) (fun s N2 => N2.2.1 53 4 = (n : Int) ∧ N2.2.1 53 5 = (b0 : Int) ∧ AL S K c b0 (n + 1) N2 ∧ (∀ k', k < k' → k' ≤ n → ∀ s, s < 64 → wc S K c b0 n k' s (N2.2.1 55 (64 * k' + s))) ∧ (∀ s', s' < s → wc S K c b0 n k s' (N2.2.1 55 (64 * k + s'))) ∧ sf PW M N2) (fun m s N2 => kb X (d + 4) 33 (m + (g - 65)) 118 [some (rv 53), none, none, some (iv (k : Int)), some (iv (s : Int)), none] [] N2) (fun r => ∃ M', r = oV M' ∧ HR S K c b0 n M' ∧ sf PW M M') 64 ?_ ?_ 64 0 65 N1 (by omega) (by omega) ⟨g4, g5, gal, gw, fun s' hs' => by omega, gf⟩ |> fun z => by
        rw [show 65 + (g - 65) = g by omega] at z
        exact z
      · rintro m s N2 hs ⟨i4, i5, ial, iw, is, if'⟩
        left
        have hS2 : CS S N2 := by
          rw [← hS'] at *
          exact h.1.sf if' PW_lo
        obtain ⟨v, v1, v2⟩ := c_ways (X := X) (d := d) (k := k) (s := s) hS2 hF hb hn.2 i4 ial hkn hs (fun hlt x hx => iw (k + 1) (by omega) (by omega) x hx)
        rw [show m + 1 + (g - 65) = (m + (g - 65)) + 1 by omega, q_33_53_at118, if_pos (by omega), v1, cI_I, ixw (by omega) hs, gdx (by omega) (by omega), Int.toNat_natCast, wr_succ (by omega)]
        refine ⟨_, rfl, by rw [puI_ne (by omega)]; exact i4, by rw [puI_ne (by omega)]; exact i5, ial, fun k' h1 h2 s' h3 => ?_, fun s' hs' => ?_, if'.pu (p55 _) _⟩
        · rw [puI_nj (by omega)]
          exact iw k' h1 h2 s' h3
        · by_cases e : s' = s
          · rw [e, puI_eq]
            exact v2
          · rw [puI_nj (by omega)]
            exact is s' (by omega)
      · rintro m N2 ⟨i4, i5, ial, iw, is, if'⟩
        have ew : wr ((k : Int) + (-1)) = (k : Int) - 1 := by
          rw [wri (by omega) (by omega)]
          omega
        rw [show m + 1 + (g - 65) = (m + (g - 65)) + 1 by omega, q_33_53_at118, if_neg (by omega), ew]
        have iw' : ∀ k', k ≤ k' → k' ≤ n → ∀ s, s < 64 → wc S K c b0 n k' s (N2.2.1 55 (64 * k' + s)) := fun k' h1 h2 s hs => by
          by_cases e : k' = k
          · subst e
            exact is s hs
          · exact iw k' (by omega) h2 s hs
        cases k with
        | zero =>
          obtain ⟨q, hq⟩ : ∃ q, m + (g - 65) = q + 1 := ⟨m + (g - 65) - 1, by omega⟩
          rw [hq, q_33_53_at111, if_pos (by omega)]
          exact ⟨N2, rfl, ⟨i4, i5, fun k' h2 s hs => iw' k' (Nat.zero_le _) h2 s hs⟩, if'⟩
        | succ k =>
          rw [show ((k + 1 : Nat) : Int) - 1 = (k : Int) by omega]
          exact ih k (m + (g - 65)) N2 (by omega) (by omega) i4 i5 ial (fun k' h1 h2 s hs => iw' k' (by omega) h2 s hs) if' (by omega)
  refine loop_st (σ := rM) (fun i N1 => N1.2.1 53 4 = (n : Int) ∧ N1.2.1 53 5 = (b0 : Int) ∧ AL S K c b0 (i + 1) N1 ∧ sf PW M N1) (fun m i N1 => kb X (d + 4) 33 (m + (FU - 10)) 42 [some (rv 53), some (iv (c : Int)), none, some (iv ((i + 1 : Nat) : Int)), none, none] [] N1) (fun r => ∃ M', r = oV M' ∧ HR S K c b0 n M' ∧ sf PW M M') n ?_ ?_ n 0 10 N0 (by omega) (by omega) ⟨c4, c5, a0, f0⟩ |> fun z => by
    rw [show 10 + (FU - 10) = FU by have := FU_ge; omega] at z
    exact z
  · rintro m i N1 hi ⟨i4, i5, ial, if'⟩
    left
    have hc1 : CH A N1 := h.sf if' eC_W
    have hS2 : CS S N1 := hS' ▸ hc1.1
    have hWd : CWd 31 (nC (aS A)) (aW A) (aP A) K N1 := hKe ▸ hc1.2.1
    have m1 := c_marked (X := X) (d := d + 3) (S := S) (c := c) (k := i + 1) (x := 1) hWd hK hF.1 (by omega)
    have m1 : fn X (d + 4) 148 [rv 31, iv (c : Int), iv ((i + 1 : Nat) : Int), iv 1] N1 = _ := m1
    have m0 := c_marked (X := X) (d := d + 3) (S := S) (c := c) (k := i + 1) (x := 0) hWd hK hF.1 (by omega)
    have m0 : fn X (d + 4) 148 [rv 31, iv (c : Int), iv ((i + 1 : Nat) : Int), iv 0] N1 = _ := m0
    have l1 := mbN_lt (K := K) (c := c) (k := i + 1) (x := 1) (fun i hi => (hmark i hi).1) K.length (Nat.le_refl _)
    have l0 := mbN_lt (K := K) (c := c) (k := i + 1) (x := 0) (fun i hi => (hmark i hi).1) K.length (Nat.le_refl _)
    have ew : wr (((i + 1 : Nat) : Int) - 1) = (i : Int) := by
      rw [wri (by omega) (by omega)]
      omega
    obtain ⟨w, w1, w2⟩ := c_behind (X := X) (d := d) hS2 hF (N1.2.2 54 i)
    rw [show m + 1 + (FU - 10) = (m + (FU - 10)) + 1 by omega, q_33_53_at42, i4, if_neg (by omega), m1, cI_I, m0, cI_I, ew, gdx (by omega) (by omega), Int.toNat_natCast, w1, cJ_J, c_sets (by omega) (by omega), cJ_J, gdx (by omega) (by omega), Int.toNat_natCast, wr_succ (by omega)]
    refine ⟨_, rfl, i4, i5, fun k' hk' s hs => ?_, if'.pj (p54 _) _⟩
    by_cases e : k' = i + 1
    · subst e
      rw [puJ_eq, tb_and, tb_sw 64 (Nat.le_refl _) s hs, decide_eq_true hs, Bool.true_and, mt_ok (fun i hi => (hmark i hi).2), Bool.and_eq_true, w2 s hs, alw_t]
      constructor
      · rintro ⟨⟨y, t, q1, q2, q3, q4⟩, q5⟩
        exact ⟨q5, y, t, (ial i (by omega) y q1).1 q2, q3, q4⟩
      · rintro ⟨q5, y, t, q1, q3, q4⟩
        have := alw_le hF hb q1
        exact ⟨⟨y, t, by omega, (ial i (by omega) y (by omega)).2 q1, q3, q4⟩, q5⟩
    · rw [puJ_nj e]
      exact ial k' (by omega) s hs
  · rintro m N1 ⟨i4, i5, ial, if'⟩
    rw [show m + 1 + (FU - 10) = (m + (FU - 10)) + 1 by omega, q_33_53_at42, i4, if_pos (by omega)]
    exact down (n + 1) n _ N1 rfl (Nat.le_refl _) i4 i5 ial (fun k' h1 h2 => by omega) if' (by have := FU_ge; omega)
theorem alw0 : alw S K c b0 0 b0 := ⟨0, by rw [Nat.pow_zero]; exact Nat.lt_succ_self 0, rfl, rfl⟩
theorem c_manyR (hb : b0 ≤ 63) (hr : HR S K c b0 n M) : fn X (d + 1) 34 [rv 53] M = oI (wn S K c n 0 b0 : Int) M := by
  have := (hr.2.2 0 (Nat.zero_le _) b0 (by omega)).1 alw0
  rw [Nat.mul_zero, Nat.zero_add, Nat.sub_zero] at this
  rw [q_34_53, hr.2.1, gdx (by omega) (by omega), Int.toNat_natCast, this]
/-- whether a try leads on: by the ways -/
theorem wc_good (hr : HR S K c b0 n M) {k b t : Nat} (hk : k < n) (ha : alw S K c b0 k b) (ht : t < nT S) (hx : bt S t b < 64) : (0 < M.2.1 55 (64 * (k + 1) + bt S t b)) ↔ good S K c (n - (k + 1)) k b t = true := by
  obtain ⟨w1, w2⟩ := hr.2.2 (k + 1) (by omega) (bt S t b) hx
  unfold good
  rw [Bool.and_eq_true, decide_eq_true_eq]
  by_cases ho : okS K c (k + 1) (bt S t b) = true
  · have := w1 (alw_t.2 ⟨ho, b, t, ha, ht, rfl⟩)
    rw [this]
    constructor
    · intro q
      exact ⟨ho, by omega⟩
    · rintro ⟨-, q⟩
      omega
  · have := w2 (fun q => ho (alw_t.1 q).1)
    rw [this]
    constructor
    · intro q
      omega
    · rintro ⟨q, -⟩
      exact absurd q ho
theorem c_firstT (hS : CS S M) (hF : WF S) (hr : HR S K c b0 n M) (hn : n ≤ 4) {k b : Nat} (hk : k < n) (hb : b ≤ 63) (ha : alw S K c b0 k b) : fn X (d + 4) 41 [rv 53, iv ((k + 1 : Nat) : Int), iv (b : Int)] M = oI ((fstT (good S K c (n - (k + 1)) k b) (nT S)).getD 0 : Int) M := by
  have h8 := hF.2.1
  rw [q_41_53]
  refine loop_st (σ := Unit) (fun t _ => fstT (good S K c (n - (k + 1)) k b) t = none) (fun m t _ => kb X (d + 3) 41 m 2 [some (rv 53), some (iv ((k + 1 : Nat) : Int)), some (iv (b : Int)), some (iv (t : Int))] [] M) (fun r => r = oI ((fstT (good S K c (n - (k + 1)) k b) (nT S)).getD 0 : Int) M) (nT S) ?_ ?_ (nT S) 0 FU () (by omega) (FU_lt (by omega)) rfl
  · intro m t _ ht hnone
    have hx := bt_le hF ht hb
    have hg := wc_good hr hk ha ht (by omega)
    rw [q_41_53_at2, q_112_6, cI_I, hS.2.1, if_pos (by omega), c_bt hS hF ht hb, cI_I, ixw (by omega) (by omega), gdx (by omega) (by omega), Int.toNat_natCast, wr_succ (by omega)]
    by_cases hgd : good S K c (n - (k + 1)) k b t = true
    · right
      rw [if_pos (hg.2 hgd)]
      have e1 : fstT (good S K c (n - (k + 1)) k b) (t + 1) = some t := by
        show (match fstT (good S K c (n - (k + 1)) k b) t with
          | some t => some t
          | none => if good S K c (n - (k + 1)) k b t = true then some t else none) = _
        rw [hnone]
        dsimp only
        rw [if_pos hgd]
      have e2 : ∀ j, fstT (good S K c (n - (k + 1)) k b) (t + 1 + j) = some t := by
        intro j
        induction j with
        | zero => exact e1
        | succ j ih =>
          show (match fstT (good S K c (n - (k + 1)) k b) (t + 1 + j) with
            | some t => some t
            | none => if good S K c (n - (k + 1)) k b (t + 1 + j) = true then some (t + 1 + j) else none) = _
          rw [ih]
      have e3 := e2 (nT S - (t + 1))
      rw [show t + 1 + (nT S - (t + 1)) = nT S by omega] at e3
      rw [e3]
      rfl
    · left
      rw [if_neg (fun q => hgd (hg.1 q))]
      refine ⟨(), rfl, ?_⟩
      show (match fstT (good S K c (n - (k + 1)) k b) t with
        | some t => some t
        | none => if good S K c (n - (k + 1)) k b t = true then some t else none) = _
      rw [hnone]
      dsimp only
      rw [if_neg hgd]
  · intro m _ hnone
    rw [q_41_53_at2, q_112_6, cI_I, hS.2.1, if_neg (by omega), hnone]
    rfl
/-- the first row's number -/
noncomputable def frsV (S : SK) (K : List MK) (c b0 n : Nat) : Int := if wn S K c n 0 b0 = 0 then -1 else (nm S n (gk S K c b0 n n) : Int)
theorem gk_s (hT : 0 < nT S) {k : Nat} (hw : 0 < wn S K c n 0 b0) (hk : k < n) : ∃ t, t < nT S ∧ (fstT (good S K c (n - (k + 1)) k (en S b0 k (gk S K c b0 n k))) (nT S)).getD 0 = t ∧ gk S K c b0 n (k + 1) / nT S = gk S K c b0 n k ∧ gk S K c b0 n (k + 1) % nT S = t := by
  obtain ⟨h1, h2, h3, -⟩ := gk_ok (b0 := b0) hT n hw k (by omega)
  have hn : n - k = (n - (k + 1)) + 1 := by omega
  rw [hn] at h3
  obtain ⟨t0, ht0, hg0⟩ := good_pos _ _ _ h3
  cases hf : fstT (good S K c (n - (k + 1)) k (en S b0 k (gk S K c b0 n k))) (nT S) with
  | none =>
    rw [fstT_none hf t0 ht0] at hg0
    cases hg0
  | some t =>
    obtain ⟨f1, f2, f3⟩ := fstT_some hf
    have eg : gk S K c b0 n (k + 1) = gk S K c b0 n k * nT S + t := by
      show gk S K c b0 n k * nT S + (fstT (good S K c (n - (k + 1)) k (en S b0 k (gk S K c b0 n k))) (nT S)).getD 0 = _
      rw [hf]
      rfl
    obtain ⟨e1, e2⟩ := mul_add_div' (i := gk S K c b0 n k) f1
    exact ⟨t, f1, rfl, by rw [eg, e1], by rw [eg, e2]⟩
theorem nm_le (hT : 0 < nT S) (h8 : nT S ≤ 8) : ∀ k r, nm S k r < 10 ^ k
  | 0, _ => by unfold nm; exact Nat.lt_succ_self 0
  | k + 1, r => by
    have := nm_le hT h8 k (r / nT S)
    have := Nat.mod_lt r hT
    unfold nm
    rw [Nat.pow_succ]
    omega
theorem c_firstR (hS : CS S M) (hF : WF S) (hb : b0 ≤ 63) (hr : HR S K c b0 n M) (hn : n ≤ 4) (hn1 : 1 ≤ n) : fn X (d + 5) 35 [rv 53] M = oI (frsV S K c b0 n) M := by
  have h8 := hF.2.1
  rw [q_35_53, c_manyR hb hr, cI_I]
  unfold frsV
  by_cases h0 : wn S K c n 0 b0 = 0
  · rw [if_pos (by omega), if_pos h0]
  · have hw : 0 < wn S K c n 0 b0 := by omega
    rw [if_neg (by omega), if_neg h0, hr.2.1]
    by_cases hT : 0 < nT S
    · refine loop_up (P := fun m k => kb X (d + 4) 35 m 18 [some (rv 53), some (iv (nm S k (gk S K c b0 n k) : Int)), some (iv (en S b0 k (gk S K c b0 n k) : Int)), some (iv ((k + 1 : Nat) : Int)), none] [] M) n ?_ ?_ n 0 FU (by omega) (FU_lt (by omega))
      · intro m k hk
        left
        have hbe := en_le hF hb hT k (gk S K c b0 n k)
        obtain ⟨h1, h2, -, -⟩ := gk_ok (b0 := b0) hT n hw k (by omega)
        have ha : alw S K c b0 k (en S b0 k (gk S K c b0 n k)) := ⟨_, h1, h2, rfl⟩
        obtain ⟨t, t1, t2, t3, t4⟩ := gk_s (b0 := b0) hT hw hk
        have hnl := nm_le hT h8 k (gk S K c b0 n k)
        have hp : 10 ^ k ≤ 10 ^ 4 := Nat.pow_le_pow_right (by omega) (by omega)
        have hp4 : (10 : Nat) ^ 4 = 10000 := by decide
        have enm : nm S (k + 1) (gk S K c b0 n (k + 1)) = 10 * nm S k (gk S K c b0 n k) + t := by
          show 10 * nm S k (gk S K c b0 n (k + 1) / nT S) + gk S K c b0 n (k + 1) % nT S = _
          rw [t3, t4]
        have een : en S b0 (k + 1) (gk S K c b0 n (k + 1)) = bt S t (en S b0 k (gk S K c b0 n k)) := by
          show bt S (gk S K c b0 n (k + 1) % nT S) (en S b0 k (gk S K c b0 n (k + 1) / nT S)) = _
          rw [t3, t4]
        rw [q_35_53_at18, hr.1, if_neg (by omega), c_firstT hS hF hr hn hk hbe ha, cI_I, t2, c_bt hS hF t1 hbe, cI_I, wri (x := _ * 10) (by omega) (by omega), wri (by omega) (by omega), wr_succ (by omega), enm, een]
        congr 5
        omega
      · intro m
        rw [q_35_53_at18, hr.1, if_pos (by omega)]
    · exfalso
      have h00 : nT S = 0 := by omega
      cases n with
      | zero => omega
      | succ n =>
        have : wn S K c (n + 1) 0 b0 = 0 := by
          unfold wn
          rw [h00]
          rfl
        omega
end C80

/-! ===== the model knows words ===== -/
def hz (v a : Nat) : Nat := if a = 0 then v else v * 32 + (a - 96)
def okl (a : Nat) : Prop := a = 0 ∨ (97 ≤ a ∧ a ≤ 122)
theorem hz_lt {v a N : Nat} (hv : v < N) (ha : okl a) : hz v a < 32 * N := by
  unfold okl at ha
  unfold hz
  split <;> omega
theorem hz_j {v a : Nat} (hv : v < 1099511627776) (ha : okl a) (h : a ≠ 0) : (jshl (Int64.ofNat v) 5 ||| i2j (wr ((a : Int) - 96))) = Int64.ofNat (hz v a) := by
  unfold okl at ha
  unfold hz
  rw [if_neg h, wri (by omega) (by omega), show (a : Int) - 96 = ((a - 96 : Nat) : Int) by omega, jcod hv (by omega)]
theorem i2j_96 : ∀ c : Fin 26, i2j (((97 + c.val : Nat)) : Int) - (96 : Int64) = Int64.ofNat (c.val + 1) := by
  have : ∀ c : Fin 26, i2j_ex.choose (((97 + c.val : Nat)) : Int) - (96 : Int64) = Int64.ofNat (c.val + 1) := by
    rw [i2j_ex.choose_spec]
    decide +kernel
  exact this
section C86c
variable {X : Nat × (Nat → Int32)} {d : Nat} {M : rM} {b : Nat → Nat} {s e n : Nat}
theorem m_220 (a0 a1 a2 a3 a4 a5 a6 a7 : Nat) (h0 : 97 ≤ a0 ∧ a0 ≤ 122) (h1 : 97 ≤ a1 ∧ a1 ≤ 122) (h2 : okl a2) (h3 : okl a3) (h4 : okl a4) (h5 : okl a5) (h6 : okl a6) (h7 : okl a7) : fn X (d + 1) 220 [iv (a0 : Int), iv (a1 : Int), iv (a2 : Int), iv (a3 : Int), iv (a4 : Int), iv (a5 : Int), iv (a6 : Int), iv (a7 : Int)] M = oJ (Int64.ofNat (hz (hz (hz (hz (hz (hz ((a0 - 96) * 32 + (a1 - 96)) a2) a3) a4) a5) a6) a7)) M := by
  have e0 : i2j (a0 : Int) - (96 : Int64) = Int64.ofNat (a0 - 96) := by
    have := i2j_96 ⟨a0 - 97, by omega⟩
    dsimp only at this
    rw [show 97 + (a0 - 97) = a0 by omega, show a0 - 97 + 1 = a0 - 96 by omega] at this
    exact this
  have e1 : (jshl (i2j (a0 : Int) - (96 : Int64)) 5 ||| i2j (wr ((a1 : Int) - 96))) = Int64.ofNat ((a0 - 96) * 32 + (a1 - 96)) := by
    rw [e0, wri (by omega) (by omega), show (a1 : Int) - 96 = ((a1 - 96 : Nat) : Int) by omega, jcod (by omega) (by omega)]
  rw [q_220, e1]
  obtain ⟨v1, w1⟩ : ∃ v, v = (a0 - 96) * 32 + (a1 - 96) := ⟨_, rfl⟩
  have b1 : v1 < 1024 := by omega
  rw [← w1]
  have b2 := hz_lt b1 h2
  have b3 := hz_lt b2 h3
  have b4 := hz_lt b3 h4
  have b5 := hz_lt b4 h5
  have b6 := hz_lt b5 h6
  have s2 : (if (a2 : Int) = 0 then kb X d 220 FU 32 [none, none, none, some (iv (a3 : Int)), some (iv (a4 : Int)), some (iv (a5 : Int)), some (iv (a6 : Int)), some (iv (a7 : Int)), some (jv (Int64.ofNat v1)), none] [] M else kb X d 220 FU 32 [none, none, none, some (iv (a3 : Int)), some (iv (a4 : Int)), some (iv (a5 : Int)), some (iv (a6 : Int)), some (iv (a7 : Int)), some (jv (jshl (Int64.ofNat v1) 5 ||| i2j (wr ((a2 : Int) - 96)))), none] [] M) = kb X d 220 FU 32 [none, none, none, some (iv (a3 : Int)), some (iv (a4 : Int)), some (iv (a5 : Int)), some (iv (a6 : Int)), some (iv (a7 : Int)), some (jv (Int64.ofNat (hz v1 a2))), none] [] M := by
    by_cases z : a2 = 0
    · rw [if_pos (by omega), hz, if_pos z]
    · rw [if_neg (by omega), hz_j (by omega) h2 z]
  rw [s2]
  obtain ⟨F, hF⟩ : ∃ F, FU = F + 4 := ⟨FU - 4, by have := FU_lt (k := 10) (by omega); omega⟩
  rw [hF, q_220_at32]
  generalize hz v1 a2 = v2 at *
  have s3 : (if (a3 : Int) = 0 then kb X d 220 (F + 3) 48 [none, none, none, none, some (iv (a4 : Int)), some (iv (a5 : Int)), some (iv (a6 : Int)), some (iv (a7 : Int)), some (jv (Int64.ofNat v2)), none] [] M else kb X d 220 (F + 3) 48 [none, none, none, none, some (iv (a4 : Int)), some (iv (a5 : Int)), some (iv (a6 : Int)), some (iv (a7 : Int)), some (jv (jshl (Int64.ofNat v2) 5 ||| i2j (wr ((a3 : Int) - 96)))), none] [] M) = kb X d 220 (F + 3) 48 [none, none, none, none, some (iv (a4 : Int)), some (iv (a5 : Int)), some (iv (a6 : Int)), some (iv (a7 : Int)), some (jv (Int64.ofNat (hz v2 a3))), none] [] M := by
    by_cases z : a3 = 0
    · rw [if_pos (by omega), hz, if_pos z]
    · rw [if_neg (by omega), hz_j (by omega) h3 z]
  rw [s3, q_220_at48]
  generalize hz v2 a3 = v3 at *
  have s4 : (if (a4 : Int) = 0 then kb X d 220 (F + 2) 66 [none, none, none, none, none, some (iv (a5 : Int)), some (iv (a6 : Int)), some (iv (a7 : Int)), some (jv (Int64.ofNat v3)), none] [] M else kb X d 220 (F + 2) 66 [none, none, none, none, none, some (iv (a5 : Int)), some (iv (a6 : Int)), some (iv (a7 : Int)), some (jv (jshl (Int64.ofNat v3) 5 ||| i2j (wr ((a4 : Int) - 96)))), none] [] M) = kb X d 220 (F + 2) 66 [none, none, none, none, none, some (iv (a5 : Int)), some (iv (a6 : Int)), some (iv (a7 : Int)), some (jv (Int64.ofNat (hz v3 a4))), none] [] M := by
    by_cases z : a4 = 0
    · rw [if_pos (by omega), hz, if_pos z]
    · rw [if_neg (by omega), hz_j (by omega) h4 z]
  rw [s4, q_220_at66]
  generalize hz v3 a4 = v4 at *
  have s5 : (if (a5 : Int) = 0 then kb X d 220 (F + 1) 84 [none, none, none, none, none, none, some (iv (a6 : Int)), some (iv (a7 : Int)), some (jv (Int64.ofNat v4)), none] [] M else kb X d 220 (F + 1) 84 [none, none, none, none, none, none, some (iv (a6 : Int)), some (iv (a7 : Int)), some (jv (jshl (Int64.ofNat v4) 5 ||| i2j (wr ((a5 : Int) - 96)))), none] [] M) = kb X d 220 (F + 1) 84 [none, none, none, none, none, none, some (iv (a6 : Int)), some (iv (a7 : Int)), some (jv (Int64.ofNat (hz v4 a5))), none] [] M := by
    by_cases z : a5 = 0
    · rw [if_pos (by omega), hz, if_pos z]
    · rw [if_neg (by omega), hz_j (by omega) h5 z]
  rw [s5, q_220_at84]
  generalize hz v4 a5 = v5 at *
  by_cases z6 : a6 = 0
  · have e6 : hz v5 a6 = v5 := by rw [hz, if_pos z6]
    rw [if_pos (by omega), e6]
    by_cases z7 : a7 = 0
    · rw [if_pos (by omega), hz, if_pos z7]
    · rw [if_neg (by omega), hz_j (by omega) h7 z7]
  · rw [if_neg (by omega), hz_j (by omega) h6 z6]
    generalize hz v5 a6 = v6 at *
    by_cases z7 : a7 = 0
    · rw [if_pos (by omega), hz, if_pos z7]
    · rw [if_neg (by omega), hz_j (by omega) h7 z7]
def pm (k : Nat) : Nat := if k < 6 then k + 10 else if k < 13 then k - 6 else if k = 13 then 8 else if k = 14 then 7 else 9
def codL (w : List Nat) : Nat := cod (fun i => w.getD i 0) 0 w.length
def codW (k : Nat) : Nat := codL (wds.getD (pm k) [])
theorem let_0 : fn X (d + 2) 221 [iv 0] M = oJ (Int64.ofNat (codW 0)) M := by
  have h : fn X (d + 1) 220 [iv 99, iv 111, iv 114, iv 100, iv 0, iv 0, iv 0, iv 0] M = oJ (Int64.ofNat (codW 0)) M := m_220 99 111 114 100 0 0 0 0 (by omega) (by omega) (Or.inr ⟨by omega, by omega⟩) (Or.inr ⟨by omega, by omega⟩) (Or.inl rfl) (Or.inl rfl) (Or.inl rfl) (Or.inl rfl)
  rw [q_221]
  simp only [Int.reduceEq, reduceIte]
  rw [h]
  rfl
theorem let_1 : fn X (d + 2) 221 [iv 1] M = oJ (Int64.ofNat (codW 1)) M := by
  have h : fn X (d + 1) 220 [iv 115, iv 116, iv 114, iv 101, iv 110, iv 103, iv 116, iv 104] M = oJ (Int64.ofNat (codW 1)) M := m_220 115 116 114 101 110 103 116 104 (by omega) (by omega) (Or.inr ⟨by omega, by omega⟩) (Or.inr ⟨by omega, by omega⟩) (Or.inr ⟨by omega, by omega⟩) (Or.inr ⟨by omega, by omega⟩) (Or.inr ⟨by omega, by omega⟩) (Or.inr ⟨by omega, by omega⟩)
  rw [q_221]
  simp only [Int.reduceEq, reduceIte]
  rw [h]
  rfl
theorem let_2 : fn X (d + 2) 221 [iv 2] M = oJ (Int64.ofNat (codW 2)) M := by
  have h : fn X (d + 1) 220 [iv 119, iv 97, iv 114, iv 121, iv 0, iv 0, iv 0, iv 0] M = oJ (Int64.ofNat (codW 2)) M := m_220 119 97 114 121 0 0 0 0 (by omega) (by omega) (Or.inr ⟨by omega, by omega⟩) (Or.inr ⟨by omega, by omega⟩) (Or.inl rfl) (Or.inl rfl) (Or.inl rfl) (Or.inl rfl)
  rw [q_221]
  simp only [Int.reduceEq, reduceIte]
  rw [h]
  rfl
theorem let_3 : fn X (d + 2) 221 [iv 3] M = oJ (Int64.ofNat (codW 3)) M := by
  have h : fn X (d + 1) 220 [iv 98, iv 101, iv 108, iv 105, iv 101, iv 102, iv 115, iv 0] M = oJ (Int64.ofNat (codW 3)) M := m_220 98 101 108 105 101 102 115 0 (by omega) (by omega) (Or.inr ⟨by omega, by omega⟩) (Or.inr ⟨by omega, by omega⟩) (Or.inr ⟨by omega, by omega⟩) (Or.inr ⟨by omega, by omega⟩) (Or.inr ⟨by omega, by omega⟩) (Or.inl rfl)
  rw [q_221]
  simp only [Int.reduceEq, reduceIte]
  rw [h]
  rfl
theorem let_4 : fn X (d + 2) 221 [iv 4] M = oJ (Int64.ofNat (codW 4)) M := by
  have h : fn X (d + 1) 220 [iv 112, iv 114, iv 105, iv 99, iv 101, iv 0, iv 0, iv 0] M = oJ (Int64.ofNat (codW 4)) M := m_220 112 114 105 99 101 0 0 0 (by omega) (by omega) (Or.inr ⟨by omega, by omega⟩) (Or.inr ⟨by omega, by omega⟩) (Or.inr ⟨by omega, by omega⟩) (Or.inl rfl) (Or.inl rfl) (Or.inl rfl)
  rw [q_221]
  simp only [Int.reduceEq, reduceIte]
  rw [h]
  rfl
theorem let_5 : fn X (d + 2) 221 [iv 5] M = oJ (Int64.ofNat (codW 5)) M := by
  have h : fn X (d + 1) 220 [iv 104, iv 101, iv 108, iv 112, iv 0, iv 0, iv 0, iv 0] M = oJ (Int64.ofNat (codW 5)) M := m_220 104 101 108 112 0 0 0 0 (by omega) (by omega) (Or.inr ⟨by omega, by omega⟩) (Or.inr ⟨by omega, by omega⟩) (Or.inl rfl) (Or.inl rfl) (Or.inl rfl) (Or.inl rfl)
  rw [q_221]
  simp only [Int.reduceEq, reduceIte]
  rw [h]
  rfl
theorem let_6 : fn X (d + 2) 221 [iv 6] M = oJ (Int64.ofNat (codW 6)) M := by
  have h : fn X (d + 1) 220 [iv 99, iv 114, iv 101, iv 97, iv 116, iv 117, iv 114, iv 101] M = oJ (Int64.ofNat (codW 6)) M := m_220 99 114 101 97 116 117 114 101 (by omega) (by omega) (Or.inr ⟨by omega, by omega⟩) (Or.inr ⟨by omega, by omega⟩) (Or.inr ⟨by omega, by omega⟩) (Or.inr ⟨by omega, by omega⟩) (Or.inr ⟨by omega, by omega⟩) (Or.inr ⟨by omega, by omega⟩)
  rw [q_221]
  simp only [Int.reduceEq, reduceIte]
  rw [h]
  rfl
theorem let_7 : fn X (d + 2) 221 [iv 7] M = oJ (Int64.ofNat (codW 7)) M := by
  have h : fn X (d + 1) 220 [iv 116, iv 114, iv 105, iv 99, iv 107, iv 0, iv 0, iv 0] M = oJ (Int64.ofNat (codW 7)) M := m_220 116 114 105 99 107 0 0 0 (by omega) (by omega) (Or.inr ⟨by omega, by omega⟩) (Or.inr ⟨by omega, by omega⟩) (Or.inr ⟨by omega, by omega⟩) (Or.inl rfl) (Or.inl rfl) (Or.inl rfl)
  rw [q_221]
  simp only [Int.reduceEq, reduceIte]
  rw [h]
  rfl
theorem let_8 : fn X (d + 2) 221 [iv 8] M = oJ (Int64.ofNat (codW 8)) M := by
  have h : fn X (d + 1) 220 [iv 104, iv 117, iv 110, iv 116, iv 101, iv 114, iv 0, iv 0] M = oJ (Int64.ofNat (codW 8)) M := m_220 104 117 110 116 101 114 0 0 (by omega) (by omega) (Or.inr ⟨by omega, by omega⟩) (Or.inr ⟨by omega, by omega⟩) (Or.inr ⟨by omega, by omega⟩) (Or.inr ⟨by omega, by omega⟩) (Or.inl rfl) (Or.inl rfl)
  rw [q_221]
  simp only [Int.reduceEq, reduceIte]
  rw [h]
  rfl
theorem let_9 : fn X (d + 2) 221 [iv 9] M = oJ (Int64.ofNat (codW 9)) M := by
  have h : fn X (d + 1) 220 [iv 116, iv 97, iv 108, iv 101, iv 0, iv 0, iv 0, iv 0] M = oJ (Int64.ofNat (codW 9)) M := m_220 116 97 108 101 0 0 0 0 (by omega) (by omega) (Or.inr ⟨by omega, by omega⟩) (Or.inr ⟨by omega, by omega⟩) (Or.inl rfl) (Or.inl rfl) (Or.inl rfl) (Or.inl rfl)
  rw [q_221]
  simp only [Int.reduceEq, reduceIte]
  rw [h]
  rfl
theorem let_10 : fn X (d + 2) 221 [iv 10] M = oJ (Int64.ofNat (codW 10)) M := by
  have h : fn X (d + 1) 220 [iv 99, iv 111, iv 105, iv 110, iv 115, iv 0, iv 0, iv 0] M = oJ (Int64.ofNat (codW 10)) M := m_220 99 111 105 110 115 0 0 0 (by omega) (by omega) (Or.inr ⟨by omega, by omega⟩) (Or.inr ⟨by omega, by omega⟩) (Or.inr ⟨by omega, by omega⟩) (Or.inl rfl) (Or.inl rfl) (Or.inl rfl)
  rw [q_221]
  simp only [Int.reduceEq, reduceIte]
  rw [h]
  rfl
theorem let_11 : fn X (d + 2) 221 [iv 11] M = oJ (Int64.ofNat (codW 11)) M := by
  have h : fn X (d + 1) 220 [iv 114, iv 105, iv 118, iv 97, iv 108, iv 0, iv 0, iv 0] M = oJ (Int64.ofNat (codW 11)) M := m_220 114 105 118 97 108 0 0 0 (by omega) (by omega) (Or.inr ⟨by omega, by omega⟩) (Or.inr ⟨by omega, by omega⟩) (Or.inr ⟨by omega, by omega⟩) (Or.inl rfl) (Or.inl rfl) (Or.inl rfl)
  rw [q_221]
  simp only [Int.reduceEq, reduceIte]
  rw [h]
  rfl
theorem let_12 : fn X (d + 2) 221 [iv 12] M = oJ (Int64.ofNat (codW 12)) M := by
  have h : fn X (d + 1) 220 [iv 98, iv 111, iv 117, iv 110, iv 100, iv 0, iv 0, iv 0] M = oJ (Int64.ofNat (codW 12)) M := m_220 98 111 117 110 100 0 0 0 (by omega) (by omega) (Or.inr ⟨by omega, by omega⟩) (Or.inr ⟨by omega, by omega⟩) (Or.inr ⟨by omega, by omega⟩) (Or.inl rfl) (Or.inl rfl) (Or.inl rfl)
  rw [q_221]
  simp only [Int.reduceEq, reduceIte]
  rw [h]
  rfl
theorem let_13 : fn X (d + 2) 221 [iv 13] M = oJ (Int64.ofNat (codW 13)) M := by
  have h : fn X (d + 1) 220 [iv 97, iv 110, iv 100, iv 0, iv 0, iv 0, iv 0, iv 0] M = oJ (Int64.ofNat (codW 13)) M := m_220 97 110 100 0 0 0 0 0 (by omega) (by omega) (Or.inr ⟨by omega, by omega⟩) (Or.inl rfl) (Or.inl rfl) (Or.inl rfl) (Or.inl rfl) (Or.inl rfl)
  rw [q_221]
  simp only [Int.reduceEq, reduceIte]
  rw [h]
  rfl
theorem let_14 : fn X (d + 2) 221 [iv 14] M = oJ (Int64.ofNat (codW 14)) M := by
  have h : fn X (d + 1) 220 [iv 111, iv 114, iv 0, iv 0, iv 0, iv 0, iv 0, iv 0] M = oJ (Int64.ofNat (codW 14)) M := m_220 111 114 0 0 0 0 0 0 (by omega) (by omega) (Or.inl rfl) (Or.inl rfl) (Or.inl rfl) (Or.inl rfl) (Or.inl rfl) (Or.inl rfl)
  rw [q_221]
  simp only [Int.reduceEq, reduceIte]
  rw [h]
  rfl
theorem let_15 : fn X (d + 2) 221 [iv 15] M = oJ (Int64.ofNat (codW 15)) M := by
  have h : fn X (d + 1) 220 [iv 110, iv 111, iv 116, iv 0, iv 0, iv 0, iv 0, iv 0] M = oJ (Int64.ofNat (codW 15)) M := m_220 110 111 116 0 0 0 0 0 (by omega) (by omega) (Or.inr ⟨by omega, by omega⟩) (Or.inl rfl) (Or.inl rfl) (Or.inl rfl) (Or.inl rfl) (Or.inl rfl)
  rw [q_221]
  simp only [Int.reduceEq, reduceIte]
  rw [h]
  rfl
theorem m_let : ∀ k : Nat, k < 16 → fn X (d + 2) 221 [iv (k : Int)] M = oJ (Int64.ofNat (codW k)) M
  | 0, _ => let_0
  | 1, _ => let_1
  | 2, _ => let_2
  | 3, _ => let_3
  | 4, _ => let_4
  | 5, _ => let_5
  | 6, _ => let_6
  | 7, _ => let_7
  | 8, _ => let_8
  | 9, _ => let_9
  | 10, _ => let_10
  | 11, _ => let_11
  | 12, _ => let_12
  | 13, _ => let_13
  | 14, _ => let_14
  | 15, _ => let_15
  | k + 16, h => absurd h (by omega)
theorem cod_inj {b' : Nat → Nat} {s' : Nat} : ∀ m m', (∀ j, j < m → isLt (b (s + j)) = true) → (∀ j, j < m' → isLt (b' (s' + j)) = true) → cod b s m = cod b' s' m' → m = m' ∧ ∀ j, j < m → b (s + j) = b' (s' + j)
  | 0, 0, _, _, _ => ⟨rfl, fun j hj => absurd hj (Nat.not_lt_zero j)⟩
  | 0, m' + 1, _, h', h => by
    have h1 := h' m' (by omega)
    unfold isLt at h1
    rw [Bool.and_eq_true, decide_eq_true_eq, decide_eq_true_eq] at h1
    have e1 : cod b s 0 = 0 := rfl
    have e2 : cod b' s' (m' + 1) = cod b' s' m' * 32 + (b' (s' + m') - 96) := rfl
    omega
  | m + 1, 0, h', _, h => by
    have h1 := h' m (by omega)
    unfold isLt at h1
    rw [Bool.and_eq_true, decide_eq_true_eq, decide_eq_true_eq] at h1
    have e1 : cod b' s' 0 = 0 := rfl
    have e2 : cod b s (m + 1) = cod b s m * 32 + (b (s + m) - 96) := rfl
    omega
  | m + 1, m' + 1, g, g', h => by
    have h1 := g m (by omega)
    have h1' := g' m' (by omega)
    unfold isLt at h1 h1'
    rw [Bool.and_eq_true, decide_eq_true_eq, decide_eq_true_eq] at h1 h1'
    have e1 : cod b s (m + 1) = cod b s m * 32 + (b (s + m) - 96) := rfl
    have e2 : cod b' s' (m' + 1) = cod b' s' m' * 32 + (b' (s' + m') - 96) := rfl
    obtain ⟨i1, i2⟩ := cod_inj m m' (fun j hj => g j (by omega)) (fun j hj => g' j (by omega)) (by omega)
    subst i1
    exact ⟨rfl, lt_ext (Q := fun j => b (s + j) = b' (s' + j)) i2 (by omega)⟩
theorem spl_iff : ∀ (w : List Nat) (s : Nat), spl b w s = true ↔ ∀ j, j < w.length → b (s + j) = w.getD j 0
  | [], s => ⟨fun _ j hj => absurd hj (Nat.not_lt_zero j), fun _ => rfl⟩
  | c :: w, s => by
    have ih := spl_iff w (s + 1)
    unfold spl
    rw [Bool.and_eq_true, beq_iff_eq, ih, List.length_cons]
    constructor
    · rintro ⟨h1, h2⟩ j hj
      cases j with
      | zero => exact h1
      | succ j =>
        have := h2 j (by omega)
        rw [show s + (j + 1) = s + 1 + j by omega, this]
        rfl
    · intro h
      refine ⟨h 0 (by omega), fun j hj => ?_⟩
      have := h (j + 1) (by omega)
      rw [show s + 1 + j = s + (j + 1) by omega, this]
      rfl
theorem wds_lt : ∀ q, q < 16 → ∀ j, j < 8 → j < (wds.getD q []).length → isLt ((wds.getD q []).getD j 0) = true := by decide +kernel
theorem wds_len : ∀ q, q < 16 → (wds.getD q []).length ≤ 8 := by decide +kernel
theorem codW_ne : ∀ k, k < 16 → ∀ j, j < 16 → codW k = codW j → k = j := by decide +kernel
theorem codW_lt : ∀ k, k < 16 → codW k < 1099511627776 := by decide +kernel
theorem pm_lt : ∀ k, k < 16 → pm k < 16 := by decide +kernel
def pmi (q : Nat) : Nat := if 10 ≤ q then q - 10 else if q < 7 then q + 6 else if q = 8 then 13 else if q = 7 then 14 else 15
theorem pm_pmi : ∀ q, q < 16 → pm (pmi q) = q ∧ pmi q < 16 := by decide +kernel
/-- which known word: as the model numbers them; -1 -/
def knw (q : Nat) : Int := if 101 ≤ q ∧ q ≤ 116 then (pmi (q - 101) : Int) else -1
theorem knw_pm : ∀ k, k < 16 → knw (101 + pm k) = (k : Int) := by decide +kernel
theorem codW_iff (hl : ∀ j, j < e - s → isLt (b (s + j)) = true) {k : Nat} (hk : k < 16) : codW k = cod b s (e - s) ↔ spx b s e (wds.getD (pm k) []) = true := by
  have hp := pm_lt k hk
  have hw := wds_len _ hp
  have hq : ∀ j, j < (wds.getD (pm k) []).length → isLt ((wds.getD (pm k) []).getD (0 + j) 0) = true := fun j hj => by
    rw [Nat.zero_add]
    exact wds_lt _ hp j (by omega) hj
  unfold spx codW codL
  rw [Bool.and_eq_true, beq_iff_eq, spl_iff]
  generalize wds.getD (pm k) [] = w at *
  constructor
  · intro h
    obtain ⟨h1, h2⟩ := cod_inj (b := b) (s := s) (b' := fun i => w.getD i 0) (s' := 0) (e - s) w.length hl hq h.symm
    refine ⟨h1, fun j hj => ?_⟩
    have := h2 j (by omega)
    rw [Nat.zero_add] at this
    exact this
  · rintro ⟨h1, h2⟩
    have key : ∀ m, m ≤ w.length → cod (fun i => w.getD i 0) 0 m = cod b s m := by
      intro m
      induction m with
      | zero => intro _; rfl
      | succ m ih =>
        intro hm
        have e1 : cod b s (m + 1) = cod b s m * 32 + (b (s + m) - 96) := rfl
        have e2 : cod (fun i => w.getD i 0) 0 (m + 1) = cod (fun i => w.getD i 0) 0 m * 32 + (w.getD (0 + m) 0 - 96) := rfl
        rw [e1, e2, ih (by omega), Nat.zero_add, h2 m (by omega)]
    rw [key _ (Nat.le_refl _), h1]
def kfd (c : Nat) : Nat → Nat → Int
  | 0, _ => -1
  | j + 1, k => if codW k = c then (k : Int) else kfd c j (k + 1)
theorem kfd_at {c k0 : Nat} (hk : codW k0 = c) : ∀ j k, k + j = 16 → k ≤ k0 → k0 < 16 → kfd c j k = (k0 : Int)
  | 0, k, h1, h2, h3 => by omega
  | j + 1, k, h1, h2, h3 => by
    unfold kfd
    by_cases z : codW k = c
    · rw [if_pos z, codW_ne k (by omega) k0 h3 (z.trans hk.symm)]
    · rw [if_neg z]
      exact kfd_at hk j (k + 1) (by omega) (by
        have : k ≠ k0 := fun y => z (by rw [y]; exact hk)
        omega) h3
theorem kfd_no {c : Nat} (h : ∀ k, k < 16 → codW k ≠ c) : ∀ j k, k + j = 16 → kfd c j k = -1
  | 0, k, _ => rfl
  | j + 1, k, h1 => by
    unfold kfd
    rw [if_neg (h k (by omega))]
    exact kfd_no h j (k + 1) (by omega)
theorem kfd_eq (hl : ∀ j, j < e - s → isLt (b (s + j)) = true) : kfd (cod b s (e - s)) 16 0 = knw (wdk b s e) := by
  by_cases h : ∃ k, k < 16 ∧ codW k = cod b s (e - s)
  · obtain ⟨k, hk, hc⟩ := h
    rw [kfd_at hc 16 0 (by omega) (by omega) hk]
    have hs := (codW_iff hl hk).1 hc
    have hw : wdk b s e = 101 + pm k := by
      refine wk_found (fun j hj => ?_) (pm_lt k hk) hs
      have hj16 : j < 16 := by
        have := pm_lt k hk
        omega
      obtain ⟨p1, p2⟩ := pm_pmi j hj16
      apply Bool.eq_false_iff.2
      intro z
      rw [← p1] at z
      have := codW_ne _ p2 k hk (((codW_iff hl p2).2 z).trans hc.symm)
      rw [this] at p1
      omega
    rw [hw, knw_pm k hk]
  · have hn : ∀ k, k < 16 → codW k ≠ cod b s (e - s) := fun k hk z => h ⟨k, hk, z⟩
    rw [kfd_no hn 16 0 (by omega)]
    have hw : wdk b s e = 100 := wk_none (fun j hj => by
      obtain ⟨p1, p2⟩ := pm_pmi j hj
      apply Bool.eq_false_iff.2
      intro z
      rw [← p1] at z
      exact hn _ p2 ((codW_iff hl p2).2 z))
    rw [hw]
    rfl
theorem ofN_eq {x y : Nat} (hx : x < 1099511627776) (hy : y < 1099511627776) : Int64.ofNat x = Int64.ofNat y ↔ x = y := by
  constructor
  · intro h
    have h1 := congrArg (fun z => z.toBitVec.toNat) h
    have eo : ∀ x, (Int64.ofNat x).toBitVec = BitVec.ofNat 64 x := fun x => rfl
    rw [eo, eo, BitVec.toNat_ofNat, BitVec.toNat_ofNat, Nat.mod_eq_of_lt (by omega), Nat.mod_eq_of_lt (by omega)] at h1
    exact h1
  · rintro rfl
    rfl
theorem m_knL {c : Nat} (hc : c < 1099511627776) (h : M.2.2 59 32 = Int64.ofNat c) : ∀ (j k m : Nat), k + j = 16 → j < m → kb X (d + 2) 222 m 21 [some (rv 59), some (iv (k : Int))] [] M = oI (kfd c j k) M
  | 0, k, m, h1, hm => by
    obtain ⟨m', rfl⟩ : ∃ m', m = m' + 1 := ⟨m - 1, by omega⟩
    rw [q_222_59_at21, if_neg (by omega)]
    rfl
  | j + 1, k, m, h1, hm => by
    obtain ⟨m', rfl⟩ : ∃ m', m = m' + 1 := ⟨m - 1, by omega⟩
    rw [q_222_59_at21, if_pos (by omega), m_let k (by omega)]
    show (if jcmp (Int64.ofNat (codW k)) (M.2.2 59 32) = 0 then oI (k : Int) M else kb X (d + 2) 222 m' 21 [some (rv 59), some (iv (wr ((k : Int) + 1)))] [] M) = _
    rw [h]
    unfold kfd
    by_cases z : codW k = c
    · rw [if_pos (jcmp_eq.2 ((ofN_eq (codW_lt k (by omega)) hc).2 z)), if_pos z]
    · rw [if_neg (fun y => z ((ofN_eq (codW_lt k (by omega)) hc).1 (jcmp_eq.1 y))), if_neg z, wr_succ (by omega)]
      exact m_knL hc h j (k + 1) m' (by omega) (by omega)
theorem knw_no {q : Nat} (h : q < 101) : knw q = -1 := if_neg (by omega)
/-- the token's word -/
theorem m_known {k : Nat} (h : MT b n k M) : fn X (d + 3) 222 [rv 59] M = oI (knw (tkK (tks b n) k)) M := by
  obtain ⟨hT, h28, h26, h27, h29, h30, h31, h32⟩ := h
  rw [q_222_59, h27, h29]
  have hkk : tkK (tks b n) k = tQ b n (tZ b n k) := rfl
  have hkd : tkD (tks b n) k = tE b n (tZ b n k) - tZ b n k := rfl
  have hz := tZ_le (b := b) (n := n) k
  rw [hkk] at h32 ⊢
  rw [hkd] at h32 ⊢
  generalize tZ b n k = s at *
  by_cases hq : 100 ≤ tQ b n s
  · have es : srt (tQ b n s) = 1 := by
      unfold srt
      rw [if_neg (by omega), if_neg (by omega), if_neg (by omega), if_pos hq]
    have hs : ¬ n ≤ s := fun z => by
      have : tQ b n s = 0 := by unfold tQ; rw [if_pos z]
      omega
    have hd : ¬ isDg (b s) = true := fun z => by
      have : tQ b n s = 2 := by unfold tQ; rw [if_neg hs, if_pos z]
      omega
    have hl : isLt (b s) = true := by
      apply Classical.byContradiction
      intro z
      unfold tQ at hq
      rw [if_neg hs, if_neg hd, if_neg z] at hq
      by_cases hg : isSg (b s) = true
      · rw [if_pos hg] at hq
        unfold isSg at hg
        simp only [Bool.or_eq_true, beq_iff_eq] at hg
        omega
      · rw [if_neg hg] at hq
        omega
    have g1 : tE b n s = skp b isLt (n - s) s := by unfold tE; rw [if_neg hs, if_neg hd, if_pos hl]
    have g2 : tQ b n s = wdk b s (tE b n s) := by unfold tQ; rw [if_neg hs, if_neg hd, if_pos hl]
    have hle : ∀ j, j < tE b n s - s → isLt (b (s + j)) = true := fun j hj => by
      rw [g1] at hj
      exact skp_all (n - s) s (s + j) (by omega) (by omega)
    rw [es, if_pos (show ((1 : Nat) : Int) = 1 from rfl)]
    by_cases h8 : 8 < ((tE b n s - s : Nat) : Int)
    · rw [if_pos h8, g2]
      have hw : wdk b s (tE b n s) = 100 := wk_none (fun j hj => by
        unfold spx
        have := wds_len j hj
        rw [beq_eq_false_iff_ne.2 (by omega)]
        rfl)
      rw [hw]
      rfl
    · rw [if_neg h8]
      have hm : min 8 (tE b n s - s) = tE b n s - s := by omega
      have hc := h32 hq
      rw [hm] at hc
      have hlt : cod b s (tE b n s - s) < 1099511627776 := by
        have h1 := cod_lt (b := b) (s := s) (tE b n s - s) hle
        have h2 : 32 ^ (tE b n s - s) ≤ 32 ^ 8 := Nat.pow_le_pow_right (by omega) (by omega)
        omega
      have hr := m_knL (X := X) (d := d) hlt hc 16 0 FU (by omega) (FU_lt (by omega))
      rw [kfd_eq hle, ← g2] at hr
      exact hr
  · rw [knw_no (by omega), if_neg]
    unfold srt
    split
    · omega
    · split
      · omega
      · split
        · omega
        · omega
end C86c

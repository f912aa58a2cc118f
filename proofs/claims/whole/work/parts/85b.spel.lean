/-! ===== the class knows words ===== -/
theorem chr_ok {v : Int} (h0 : 0 ≤ v) (h1 : v < 128) : cnar (iand v 255) = v := by
  obtain ⟨m, rfl⟩ : ∃ m : Nat, v = (m : Int) := ⟨v.toNat, by omega⟩
  have e1 : iand (m : Int) 255 = ((m &&& 255 : Nat) : Int) := iand_nat (b := 255) (by omega) (by omega)
  have e2 : m &&& 255 = m := by
    rw [show (255 : Nat) = 2 ^ 8 - 1 from rfl, Nat.and_two_pow_sub_one_eq_mod]
    omega
  rw [e1, e2]
  have key : ∀ m : Fin 128, cnar_ex.choose ((m.val : Nat) : Int) = ((m.val : Nat) : Int) := by
    rw [cnar_ex.choose_spec]
    decide +kernel
  exact key ⟨m, by omega⟩
theorem bnar_0 : bnar 0 = 0 := by
  rw [bnar_df]
  decide +kernel
theorem txt_ok : ∀ w, w < 16 → ∀ i, i < 8 → i < (wds.getD w []).length → (((sa_txt.getD w []).getD i 0).toInt) = (((wds.getD w []).getD i 0 : Nat) : Int) ∧ (wds.getD w []).getD i 0 < 128 := by
  decide +kernel
section C85b
variable {X : Nat × (Nat → Int32)} {d : Nat} {M : rM} {b : Nat → Nat} {s e n : Nat}
/-- a word against the bytes, sign by sign -/
theorem spl_loop {P : Nat → Int → Option rO} {w : List Nat} (hs : ∀ n (i : Nat), i < w.length → P (n + 1) (i : Int) = if b (s + i) = w.getD i 0 then P n ((i + 1 : Nat) : Int) else oI 0 M) (he : ∀ n, P (n + 1) (w.length : Int) = oI 1 M) : ∀ (v : List Nat) (i n : Nat), w.drop i = v → i + v.length = w.length → v.length < n → P n (i : Int) = oI (b01 (spl b v (s + i))) M
  | [], i, n, h, hl, hn => by
    obtain ⟨m, rfl⟩ : ∃ m, n = m + 1 := ⟨n - 1, by omega⟩
    have hi : i = w.length := by
      rw [List.length_nil] at hl
      omega
    subst hi
    exact he m
  | c :: v, i, n, h, hl, hn => by
    rw [List.length_cons] at hl hn
    obtain ⟨m, rfl⟩ : ∃ m, n = m + 1 := ⟨n - 1, by omega⟩
    have hc : w.getD i 0 = c := by
      have := congrArg (fun l => l.getD 0 0) h
      simpa [List.getD_eq_getElem?_getD, List.getElem?_drop] using this
    have hd : w.drop (i + 1) = v := by
      have := congrArg List.tail h
      rw [List.tail_drop] at this
      exact this
    rw [hs m i (by omega), hc]
    unfold spl
    by_cases z : b (s + i) = c
    · rw [if_pos z, spl_loop hs he v (i + 1) m hd (by omega) (by omega), beq_iff_eq.2 z]
      rfl
    · rw [if_neg z, beq_eq_false_iff_ne.2 z]
      rfl
/-- the word's bytes lie on the tape -/
def TB (b : Nat → Nat) (n : Nat) (M : rM) : Prop := n ≤ 700 ∧ (∀ i, i < n → M.2.1 1 i = sby (b i)) ∧ ∀ i, b i ≤ 255
theorem sby_eq {x c : Nat} (hx : x ≤ 255) (hc : c < 128) : (sby x = (c : Int)) ↔ x = c := by
  unfold sby
  split <;> omega
theorem sp_0 (hT : TB b n M) (h2 : M.2.1 30 2 = (s : Int)) (h3 : M.2.1 30 3 = (e : Int)) (hse : s ≤ e) (hen : e ≤ n) : fn X (d + 5) 134 [rv 30, rv 100100] M = oI (b01 (spx b s e (wds.getD 0 []))) M := by
  have hl : ∀ d', fn X (d' + 2) 355 [rv 100100] M = oI 8 M := fun d' => by
    rw [q_355_100100, q_357_100100, gdp bnar_0, cI_I]
    exact congrArg (fun z => oI z M) (ishr_nat (a := 8) (k := 0) (by omega) (by omega))
  have hc : ∀ i : Nat, i < 8 → fn X (d + 4) 356 [rv 100100, iv (i : Int)] M = oI (((wds.getD 0 []).getD i 0 : Nat) : Int) M := fun i hi => by
    obtain ⟨t1, t2⟩ := txt_ok 0 (by omega) i (by omega) hi
    rw [q_356_100100, q_358_100100, cI_I, if_neg (by decide), q_360_100200, q_359, q_361_100005, if_neg (by omega), if_pos (by omega), cI_I, cV_V, gdp ⟨by omega, by omega⟩, Int.toNat_natCast, t1, chr_ok (by omega) (by omega), gdp ⟨by omega, by omega⟩, cI_I, gdp ⟨by omega, by omega⟩]
  rw [q_134_30_100100, hl, cI_I, h2, h3, wri (by have := hT.1; omega) (by have := hT.1; omega)]
  unfold spx
  have ew : (wds.getD 0 []).length = 8 := rfl
  rw [ew]
  by_cases hL : e - s = 8
  · rw [if_pos (by omega), beq_iff_eq.2 hL]
    refine (spl_loop (b := b) (s := s) (M := M) (P := fun n i => kb X (d + 4) 134 n 20 [some (rv 30), some (rv 100100), some (iv i)] [] M) (w := wds.getD 0 []) ?_ ?_ (wds.getD 0 []) 0 FU rfl (Nat.zero_add _) (FU_lt (by rw [ew]; omega))).trans rfl
    · intro n i hi
      rw [ew] at hi
      rw [q_134_30_100100_at20, hl (d + 2), cI_I, if_pos (by omega), h2, wri (by have := hT.1; omega) (by have := hT.1; omega), gdp ⟨by omega, by have := hT.1; omega⟩, hc i hi, cI_I, show ((s : Int) + (i : Int)).toNat = s + i by omega, hT.2.1 (s + i) (by omega), wr_succ (by omega)]
      have t2 := (txt_ok 0 (by omega) i (by omega) hi).2
      have := sby_eq (hT.2.2 (s + i)) t2
      by_cases z : b (s + i) = (wds.getD 0 []).getD i 0
      · rw [if_pos (this.2 z), if_pos z]
      · rw [if_neg (fun y => z (this.1 y)), if_neg z]
    · intro n
      rw [q_134_30_100100_at20, hl (d + 2), cI_I, if_neg (by rw [ew]; omega)]
  · rw [if_neg (by omega), beq_eq_false_iff_ne.2 hL]
    rfl
theorem sp_1 (hT : TB b n M) (h2 : M.2.1 30 2 = (s : Int)) (h3 : M.2.1 30 3 = (e : Int)) (hse : s ≤ e) (hen : e ≤ n) : fn X (d + 5) 134 [rv 30, rv 100101] M = oI (b01 (spx b s e (wds.getD 1 []))) M := by
  have hl : ∀ d', fn X (d' + 2) 355 [rv 100101] M = oI 5 M := fun d' => by
    rw [q_355_100101, q_357_100101, gdp bnar_0, cI_I]
    exact congrArg (fun z => oI z M) (ishr_nat (a := 5) (k := 0) (by omega) (by omega))
  have hc : ∀ i : Nat, i < 5 → fn X (d + 4) 356 [rv 100101, iv (i : Int)] M = oI (((wds.getD 1 []).getD i 0 : Nat) : Int) M := fun i hi => by
    obtain ⟨t1, t2⟩ := txt_ok 1 (by omega) i (by omega) hi
    rw [q_356_100101, q_358_100101, cI_I, if_neg (by decide), q_360_100201, q_359, q_361_100005, if_neg (by omega), if_pos (by omega), cI_I, cV_V, gdp ⟨by omega, by omega⟩, Int.toNat_natCast, t1, chr_ok (by omega) (by omega), gdp ⟨by omega, by omega⟩, cI_I, gdp ⟨by omega, by omega⟩]
  rw [q_134_30_100101, hl, cI_I, h2, h3, wri (by have := hT.1; omega) (by have := hT.1; omega)]
  unfold spx
  have ew : (wds.getD 1 []).length = 5 := rfl
  rw [ew]
  by_cases hL : e - s = 5
  · rw [if_pos (by omega), beq_iff_eq.2 hL]
    refine (spl_loop (b := b) (s := s) (M := M) (P := fun n i => kb X (d + 4) 134 n 20 [some (rv 30), some (rv 100101), some (iv i)] [] M) (w := wds.getD 1 []) ?_ ?_ (wds.getD 1 []) 0 FU rfl (Nat.zero_add _) (FU_lt (by rw [ew]; omega))).trans rfl
    · intro n i hi
      rw [ew] at hi
      rw [q_134_30_100101_at20, hl (d + 2), cI_I, if_pos (by omega), h2, wri (by have := hT.1; omega) (by have := hT.1; omega), gdp ⟨by omega, by have := hT.1; omega⟩, hc i hi, cI_I, show ((s : Int) + (i : Int)).toNat = s + i by omega, hT.2.1 (s + i) (by omega), wr_succ (by omega)]
      have t2 := (txt_ok 1 (by omega) i (by omega) hi).2
      have := sby_eq (hT.2.2 (s + i)) t2
      by_cases z : b (s + i) = (wds.getD 1 []).getD i 0
      · rw [if_pos (this.2 z), if_pos z]
      · rw [if_neg (fun y => z (this.1 y)), if_neg z]
    · intro n
      rw [q_134_30_100101_at20, hl (d + 2), cI_I, if_neg (by rw [ew]; omega)]
  · rw [if_neg (by omega), beq_eq_false_iff_ne.2 hL]
    rfl
theorem sp_2 (hT : TB b n M) (h2 : M.2.1 30 2 = (s : Int)) (h3 : M.2.1 30 3 = (e : Int)) (hse : s ≤ e) (hen : e ≤ n) : fn X (d + 5) 134 [rv 30, rv 100102] M = oI (b01 (spx b s e (wds.getD 2 []))) M := by
  have hl : ∀ d', fn X (d' + 2) 355 [rv 100102] M = oI 6 M := fun d' => by
    rw [q_355_100102, q_357_100102, gdp bnar_0, cI_I]
    exact congrArg (fun z => oI z M) (ishr_nat (a := 6) (k := 0) (by omega) (by omega))
  have hc : ∀ i : Nat, i < 6 → fn X (d + 4) 356 [rv 100102, iv (i : Int)] M = oI (((wds.getD 2 []).getD i 0 : Nat) : Int) M := fun i hi => by
    obtain ⟨t1, t2⟩ := txt_ok 2 (by omega) i (by omega) hi
    rw [q_356_100102, q_358_100102, cI_I, if_neg (by decide), q_360_100202, q_359, q_361_100005, if_neg (by omega), if_pos (by omega), cI_I, cV_V, gdp ⟨by omega, by omega⟩, Int.toNat_natCast, t1, chr_ok (by omega) (by omega), gdp ⟨by omega, by omega⟩, cI_I, gdp ⟨by omega, by omega⟩]
  rw [q_134_30_100102, hl, cI_I, h2, h3, wri (by have := hT.1; omega) (by have := hT.1; omega)]
  unfold spx
  have ew : (wds.getD 2 []).length = 6 := rfl
  rw [ew]
  by_cases hL : e - s = 6
  · rw [if_pos (by omega), beq_iff_eq.2 hL]
    refine (spl_loop (b := b) (s := s) (M := M) (P := fun n i => kb X (d + 4) 134 n 20 [some (rv 30), some (rv 100102), some (iv i)] [] M) (w := wds.getD 2 []) ?_ ?_ (wds.getD 2 []) 0 FU rfl (Nat.zero_add _) (FU_lt (by rw [ew]; omega))).trans rfl
    · intro n i hi
      rw [ew] at hi
      rw [q_134_30_100102_at20, hl (d + 2), cI_I, if_pos (by omega), h2, wri (by have := hT.1; omega) (by have := hT.1; omega), gdp ⟨by omega, by have := hT.1; omega⟩, hc i hi, cI_I, show ((s : Int) + (i : Int)).toNat = s + i by omega, hT.2.1 (s + i) (by omega), wr_succ (by omega)]
      have t2 := (txt_ok 2 (by omega) i (by omega) hi).2
      have := sby_eq (hT.2.2 (s + i)) t2
      by_cases z : b (s + i) = (wds.getD 2 []).getD i 0
      · rw [if_pos (this.2 z), if_pos z]
      · rw [if_neg (fun y => z (this.1 y)), if_neg z]
    · intro n
      rw [q_134_30_100102_at20, hl (d + 2), cI_I, if_neg (by rw [ew]; omega)]
  · rw [if_neg (by omega), beq_eq_false_iff_ne.2 hL]
    rfl
theorem sp_3 (hT : TB b n M) (h2 : M.2.1 30 2 = (s : Int)) (h3 : M.2.1 30 3 = (e : Int)) (hse : s ≤ e) (hen : e ≤ n) : fn X (d + 5) 134 [rv 30, rv 100103] M = oI (b01 (spx b s e (wds.getD 3 []))) M := by
  have hl : ∀ d', fn X (d' + 2) 355 [rv 100103] M = oI 4 M := fun d' => by
    rw [q_355_100103, q_357_100103, gdp bnar_0, cI_I]
    exact congrArg (fun z => oI z M) (ishr_nat (a := 4) (k := 0) (by omega) (by omega))
  have hc : ∀ i : Nat, i < 4 → fn X (d + 4) 356 [rv 100103, iv (i : Int)] M = oI (((wds.getD 3 []).getD i 0 : Nat) : Int) M := fun i hi => by
    obtain ⟨t1, t2⟩ := txt_ok 3 (by omega) i (by omega) hi
    rw [q_356_100103, q_358_100103, cI_I, if_neg (by decide), q_360_100203, q_359, q_361_100005, if_neg (by omega), if_pos (by omega), cI_I, cV_V, gdp ⟨by omega, by omega⟩, Int.toNat_natCast, t1, chr_ok (by omega) (by omega), gdp ⟨by omega, by omega⟩, cI_I, gdp ⟨by omega, by omega⟩]
  rw [q_134_30_100103, hl, cI_I, h2, h3, wri (by have := hT.1; omega) (by have := hT.1; omega)]
  unfold spx
  have ew : (wds.getD 3 []).length = 4 := rfl
  rw [ew]
  by_cases hL : e - s = 4
  · rw [if_pos (by omega), beq_iff_eq.2 hL]
    refine (spl_loop (b := b) (s := s) (M := M) (P := fun n i => kb X (d + 4) 134 n 20 [some (rv 30), some (rv 100103), some (iv i)] [] M) (w := wds.getD 3 []) ?_ ?_ (wds.getD 3 []) 0 FU rfl (Nat.zero_add _) (FU_lt (by rw [ew]; omega))).trans rfl
    · intro n i hi
      rw [ew] at hi
      rw [q_134_30_100103_at20, hl (d + 2), cI_I, if_pos (by omega), h2, wri (by have := hT.1; omega) (by have := hT.1; omega), gdp ⟨by omega, by have := hT.1; omega⟩, hc i hi, cI_I, show ((s : Int) + (i : Int)).toNat = s + i by omega, hT.2.1 (s + i) (by omega), wr_succ (by omega)]
      have t2 := (txt_ok 3 (by omega) i (by omega) hi).2
      have := sby_eq (hT.2.2 (s + i)) t2
      by_cases z : b (s + i) = (wds.getD 3 []).getD i 0
      · rw [if_pos (this.2 z), if_pos z]
      · rw [if_neg (fun y => z (this.1 y)), if_neg z]
    · intro n
      rw [q_134_30_100103_at20, hl (d + 2), cI_I, if_neg (by rw [ew]; omega)]
  · rw [if_neg (by omega), beq_eq_false_iff_ne.2 hL]
    rfl
theorem sp_4 (hT : TB b n M) (h2 : M.2.1 30 2 = (s : Int)) (h3 : M.2.1 30 3 = (e : Int)) (hse : s ≤ e) (hen : e ≤ n) : fn X (d + 5) 134 [rv 30, rv 100104] M = oI (b01 (spx b s e (wds.getD 4 []))) M := by
  have hl : ∀ d', fn X (d' + 2) 355 [rv 100104] M = oI 5 M := fun d' => by
    rw [q_355_100104, q_357_100104, gdp bnar_0, cI_I]
    exact congrArg (fun z => oI z M) (ishr_nat (a := 5) (k := 0) (by omega) (by omega))
  have hc : ∀ i : Nat, i < 5 → fn X (d + 4) 356 [rv 100104, iv (i : Int)] M = oI (((wds.getD 4 []).getD i 0 : Nat) : Int) M := fun i hi => by
    obtain ⟨t1, t2⟩ := txt_ok 4 (by omega) i (by omega) hi
    rw [q_356_100104, q_358_100104, cI_I, if_neg (by decide), q_360_100204, q_359, q_361_100005, if_neg (by omega), if_pos (by omega), cI_I, cV_V, gdp ⟨by omega, by omega⟩, Int.toNat_natCast, t1, chr_ok (by omega) (by omega), gdp ⟨by omega, by omega⟩, cI_I, gdp ⟨by omega, by omega⟩]
  rw [q_134_30_100104, hl, cI_I, h2, h3, wri (by have := hT.1; omega) (by have := hT.1; omega)]
  unfold spx
  have ew : (wds.getD 4 []).length = 5 := rfl
  rw [ew]
  by_cases hL : e - s = 5
  · rw [if_pos (by omega), beq_iff_eq.2 hL]
    refine (spl_loop (b := b) (s := s) (M := M) (P := fun n i => kb X (d + 4) 134 n 20 [some (rv 30), some (rv 100104), some (iv i)] [] M) (w := wds.getD 4 []) ?_ ?_ (wds.getD 4 []) 0 FU rfl (Nat.zero_add _) (FU_lt (by rw [ew]; omega))).trans rfl
    · intro n i hi
      rw [ew] at hi
      rw [q_134_30_100104_at20, hl (d + 2), cI_I, if_pos (by omega), h2, wri (by have := hT.1; omega) (by have := hT.1; omega), gdp ⟨by omega, by have := hT.1; omega⟩, hc i hi, cI_I, show ((s : Int) + (i : Int)).toNat = s + i by omega, hT.2.1 (s + i) (by omega), wr_succ (by omega)]
      have t2 := (txt_ok 4 (by omega) i (by omega) hi).2
      have := sby_eq (hT.2.2 (s + i)) t2
      by_cases z : b (s + i) = (wds.getD 4 []).getD i 0
      · rw [if_pos (this.2 z), if_pos z]
      · rw [if_neg (fun y => z (this.1 y)), if_neg z]
    · intro n
      rw [q_134_30_100104_at20, hl (d + 2), cI_I, if_neg (by rw [ew]; omega)]
  · rw [if_neg (by omega), beq_eq_false_iff_ne.2 hL]
    rfl
theorem sp_5 (hT : TB b n M) (h2 : M.2.1 30 2 = (s : Int)) (h3 : M.2.1 30 3 = (e : Int)) (hse : s ≤ e) (hen : e ≤ n) : fn X (d + 5) 134 [rv 30, rv 100105] M = oI (b01 (spx b s e (wds.getD 5 []))) M := by
  have hl : ∀ d', fn X (d' + 2) 355 [rv 100105] M = oI 5 M := fun d' => by
    rw [q_355_100105, q_357_100105, gdp bnar_0, cI_I]
    exact congrArg (fun z => oI z M) (ishr_nat (a := 5) (k := 0) (by omega) (by omega))
  have hc : ∀ i : Nat, i < 5 → fn X (d + 4) 356 [rv 100105, iv (i : Int)] M = oI (((wds.getD 5 []).getD i 0 : Nat) : Int) M := fun i hi => by
    obtain ⟨t1, t2⟩ := txt_ok 5 (by omega) i (by omega) hi
    rw [q_356_100105, q_358_100105, cI_I, if_neg (by decide), q_360_100205, q_359, q_361_100005, if_neg (by omega), if_pos (by omega), cI_I, cV_V, gdp ⟨by omega, by omega⟩, Int.toNat_natCast, t1, chr_ok (by omega) (by omega), gdp ⟨by omega, by omega⟩, cI_I, gdp ⟨by omega, by omega⟩]
  rw [q_134_30_100105, hl, cI_I, h2, h3, wri (by have := hT.1; omega) (by have := hT.1; omega)]
  unfold spx
  have ew : (wds.getD 5 []).length = 5 := rfl
  rw [ew]
  by_cases hL : e - s = 5
  · rw [if_pos (by omega), beq_iff_eq.2 hL]
    refine (spl_loop (b := b) (s := s) (M := M) (P := fun n i => kb X (d + 4) 134 n 20 [some (rv 30), some (rv 100105), some (iv i)] [] M) (w := wds.getD 5 []) ?_ ?_ (wds.getD 5 []) 0 FU rfl (Nat.zero_add _) (FU_lt (by rw [ew]; omega))).trans rfl
    · intro n i hi
      rw [ew] at hi
      rw [q_134_30_100105_at20, hl (d + 2), cI_I, if_pos (by omega), h2, wri (by have := hT.1; omega) (by have := hT.1; omega), gdp ⟨by omega, by have := hT.1; omega⟩, hc i hi, cI_I, show ((s : Int) + (i : Int)).toNat = s + i by omega, hT.2.1 (s + i) (by omega), wr_succ (by omega)]
      have t2 := (txt_ok 5 (by omega) i (by omega) hi).2
      have := sby_eq (hT.2.2 (s + i)) t2
      by_cases z : b (s + i) = (wds.getD 5 []).getD i 0
      · rw [if_pos (this.2 z), if_pos z]
      · rw [if_neg (fun y => z (this.1 y)), if_neg z]
    · intro n
      rw [q_134_30_100105_at20, hl (d + 2), cI_I, if_neg (by rw [ew]; omega)]
  · rw [if_neg (by omega), beq_eq_false_iff_ne.2 hL]
    rfl
theorem sp_6 (hT : TB b n M) (h2 : M.2.1 30 2 = (s : Int)) (h3 : M.2.1 30 3 = (e : Int)) (hse : s ≤ e) (hen : e ≤ n) : fn X (d + 5) 134 [rv 30, rv 100106] M = oI (b01 (spx b s e (wds.getD 6 []))) M := by
  have hl : ∀ d', fn X (d' + 2) 355 [rv 100106] M = oI 5 M := fun d' => by
    rw [q_355_100106, q_357_100106, gdp bnar_0, cI_I]
    exact congrArg (fun z => oI z M) (ishr_nat (a := 5) (k := 0) (by omega) (by omega))
  have hc : ∀ i : Nat, i < 5 → fn X (d + 4) 356 [rv 100106, iv (i : Int)] M = oI (((wds.getD 6 []).getD i 0 : Nat) : Int) M := fun i hi => by
    obtain ⟨t1, t2⟩ := txt_ok 6 (by omega) i (by omega) hi
    rw [q_356_100106, q_358_100106, cI_I, if_neg (by decide), q_360_100206, q_359, q_361_100005, if_neg (by omega), if_pos (by omega), cI_I, cV_V, gdp ⟨by omega, by omega⟩, Int.toNat_natCast, t1, chr_ok (by omega) (by omega), gdp ⟨by omega, by omega⟩, cI_I, gdp ⟨by omega, by omega⟩]
  rw [q_134_30_100106, hl, cI_I, h2, h3, wri (by have := hT.1; omega) (by have := hT.1; omega)]
  unfold spx
  have ew : (wds.getD 6 []).length = 5 := rfl
  rw [ew]
  by_cases hL : e - s = 5
  · rw [if_pos (by omega), beq_iff_eq.2 hL]
    refine (spl_loop (b := b) (s := s) (M := M) (P := fun n i => kb X (d + 4) 134 n 20 [some (rv 30), some (rv 100106), some (iv i)] [] M) (w := wds.getD 6 []) ?_ ?_ (wds.getD 6 []) 0 FU rfl (Nat.zero_add _) (FU_lt (by rw [ew]; omega))).trans rfl
    · intro n i hi
      rw [ew] at hi
      rw [q_134_30_100106_at20, hl (d + 2), cI_I, if_pos (by omega), h2, wri (by have := hT.1; omega) (by have := hT.1; omega), gdp ⟨by omega, by have := hT.1; omega⟩, hc i hi, cI_I, show ((s : Int) + (i : Int)).toNat = s + i by omega, hT.2.1 (s + i) (by omega), wr_succ (by omega)]
      have t2 := (txt_ok 6 (by omega) i (by omega) hi).2
      have := sby_eq (hT.2.2 (s + i)) t2
      by_cases z : b (s + i) = (wds.getD 6 []).getD i 0
      · rw [if_pos (this.2 z), if_pos z]
      · rw [if_neg (fun y => z (this.1 y)), if_neg z]
    · intro n
      rw [q_134_30_100106_at20, hl (d + 2), cI_I, if_neg (by rw [ew]; omega)]
  · rw [if_neg (by omega), beq_eq_false_iff_ne.2 hL]
    rfl
theorem sp_7 (hT : TB b n M) (h2 : M.2.1 30 2 = (s : Int)) (h3 : M.2.1 30 3 = (e : Int)) (hse : s ≤ e) (hen : e ≤ n) : fn X (d + 5) 134 [rv 30, rv 100107] M = oI (b01 (spx b s e (wds.getD 7 []))) M := by
  have hl : ∀ d', fn X (d' + 2) 355 [rv 100107] M = oI 2 M := fun d' => by
    rw [q_355_100107, q_357_100107, gdp bnar_0, cI_I]
    exact congrArg (fun z => oI z M) (ishr_nat (a := 2) (k := 0) (by omega) (by omega))
  have hc : ∀ i : Nat, i < 2 → fn X (d + 4) 356 [rv 100107, iv (i : Int)] M = oI (((wds.getD 7 []).getD i 0 : Nat) : Int) M := fun i hi => by
    obtain ⟨t1, t2⟩ := txt_ok 7 (by omega) i (by omega) hi
    rw [q_356_100107, q_358_100107, cI_I, if_neg (by decide), q_360_100207, q_359, q_361_100005, if_neg (by omega), if_pos (by omega), cI_I, cV_V, gdp ⟨by omega, by omega⟩, Int.toNat_natCast, t1, chr_ok (by omega) (by omega), gdp ⟨by omega, by omega⟩, cI_I, gdp ⟨by omega, by omega⟩]
  rw [q_134_30_100107, hl, cI_I, h2, h3, wri (by have := hT.1; omega) (by have := hT.1; omega)]
  unfold spx
  have ew : (wds.getD 7 []).length = 2 := rfl
  rw [ew]
  by_cases hL : e - s = 2
  · rw [if_pos (by omega), beq_iff_eq.2 hL]
    refine (spl_loop (b := b) (s := s) (M := M) (P := fun n i => kb X (d + 4) 134 n 20 [some (rv 30), some (rv 100107), some (iv i)] [] M) (w := wds.getD 7 []) ?_ ?_ (wds.getD 7 []) 0 FU rfl (Nat.zero_add _) (FU_lt (by rw [ew]; omega))).trans rfl
    · intro n i hi
      rw [ew] at hi
      rw [q_134_30_100107_at20, hl (d + 2), cI_I, if_pos (by omega), h2, wri (by have := hT.1; omega) (by have := hT.1; omega), gdp ⟨by omega, by have := hT.1; omega⟩, hc i hi, cI_I, show ((s : Int) + (i : Int)).toNat = s + i by omega, hT.2.1 (s + i) (by omega), wr_succ (by omega)]
      have t2 := (txt_ok 7 (by omega) i (by omega) hi).2
      have := sby_eq (hT.2.2 (s + i)) t2
      by_cases z : b (s + i) = (wds.getD 7 []).getD i 0
      · rw [if_pos (this.2 z), if_pos z]
      · rw [if_neg (fun y => z (this.1 y)), if_neg z]
    · intro n
      rw [q_134_30_100107_at20, hl (d + 2), cI_I, if_neg (by rw [ew]; omega)]
  · rw [if_neg (by omega), beq_eq_false_iff_ne.2 hL]
    rfl
theorem sp_8 (hT : TB b n M) (h2 : M.2.1 30 2 = (s : Int)) (h3 : M.2.1 30 3 = (e : Int)) (hse : s ≤ e) (hen : e ≤ n) : fn X (d + 5) 134 [rv 30, rv 100108] M = oI (b01 (spx b s e (wds.getD 8 []))) M := by
  have hl : ∀ d', fn X (d' + 2) 355 [rv 100108] M = oI 3 M := fun d' => by
    rw [q_355_100108, q_357_100108, gdp bnar_0, cI_I]
    exact congrArg (fun z => oI z M) (ishr_nat (a := 3) (k := 0) (by omega) (by omega))
  have hc : ∀ i : Nat, i < 3 → fn X (d + 4) 356 [rv 100108, iv (i : Int)] M = oI (((wds.getD 8 []).getD i 0 : Nat) : Int) M := fun i hi => by
    obtain ⟨t1, t2⟩ := txt_ok 8 (by omega) i (by omega) hi
    rw [q_356_100108, q_358_100108, cI_I, if_neg (by decide), q_360_100208, q_359, q_361_100005, if_neg (by omega), if_pos (by omega), cI_I, cV_V, gdp ⟨by omega, by omega⟩, Int.toNat_natCast, t1, chr_ok (by omega) (by omega), gdp ⟨by omega, by omega⟩, cI_I, gdp ⟨by omega, by omega⟩]
  rw [q_134_30_100108, hl, cI_I, h2, h3, wri (by have := hT.1; omega) (by have := hT.1; omega)]
  unfold spx
  have ew : (wds.getD 8 []).length = 3 := rfl
  rw [ew]
  by_cases hL : e - s = 3
  · rw [if_pos (by omega), beq_iff_eq.2 hL]
    refine (spl_loop (b := b) (s := s) (M := M) (P := fun n i => kb X (d + 4) 134 n 20 [some (rv 30), some (rv 100108), some (iv i)] [] M) (w := wds.getD 8 []) ?_ ?_ (wds.getD 8 []) 0 FU rfl (Nat.zero_add _) (FU_lt (by rw [ew]; omega))).trans rfl
    · intro n i hi
      rw [ew] at hi
      rw [q_134_30_100108_at20, hl (d + 2), cI_I, if_pos (by omega), h2, wri (by have := hT.1; omega) (by have := hT.1; omega), gdp ⟨by omega, by have := hT.1; omega⟩, hc i hi, cI_I, show ((s : Int) + (i : Int)).toNat = s + i by omega, hT.2.1 (s + i) (by omega), wr_succ (by omega)]
      have t2 := (txt_ok 8 (by omega) i (by omega) hi).2
      have := sby_eq (hT.2.2 (s + i)) t2
      by_cases z : b (s + i) = (wds.getD 8 []).getD i 0
      · rw [if_pos (this.2 z), if_pos z]
      · rw [if_neg (fun y => z (this.1 y)), if_neg z]
    · intro n
      rw [q_134_30_100108_at20, hl (d + 2), cI_I, if_neg (by rw [ew]; omega)]
  · rw [if_neg (by omega), beq_eq_false_iff_ne.2 hL]
    rfl
theorem sp_9 (hT : TB b n M) (h2 : M.2.1 30 2 = (s : Int)) (h3 : M.2.1 30 3 = (e : Int)) (hse : s ≤ e) (hen : e ≤ n) : fn X (d + 5) 134 [rv 30, rv 100109] M = oI (b01 (spx b s e (wds.getD 9 []))) M := by
  have hl : ∀ d', fn X (d' + 2) 355 [rv 100109] M = oI 3 M := fun d' => by
    rw [q_355_100109, q_357_100109, gdp bnar_0, cI_I]
    exact congrArg (fun z => oI z M) (ishr_nat (a := 3) (k := 0) (by omega) (by omega))
  have hc : ∀ i : Nat, i < 3 → fn X (d + 4) 356 [rv 100109, iv (i : Int)] M = oI (((wds.getD 9 []).getD i 0 : Nat) : Int) M := fun i hi => by
    obtain ⟨t1, t2⟩ := txt_ok 9 (by omega) i (by omega) hi
    rw [q_356_100109, q_358_100109, cI_I, if_neg (by decide), q_360_100209, q_359, q_361_100005, if_neg (by omega), if_pos (by omega), cI_I, cV_V, gdp ⟨by omega, by omega⟩, Int.toNat_natCast, t1, chr_ok (by omega) (by omega), gdp ⟨by omega, by omega⟩, cI_I, gdp ⟨by omega, by omega⟩]
  rw [q_134_30_100109, hl, cI_I, h2, h3, wri (by have := hT.1; omega) (by have := hT.1; omega)]
  unfold spx
  have ew : (wds.getD 9 []).length = 3 := rfl
  rw [ew]
  by_cases hL : e - s = 3
  · rw [if_pos (by omega), beq_iff_eq.2 hL]
    refine (spl_loop (b := b) (s := s) (M := M) (P := fun n i => kb X (d + 4) 134 n 20 [some (rv 30), some (rv 100109), some (iv i)] [] M) (w := wds.getD 9 []) ?_ ?_ (wds.getD 9 []) 0 FU rfl (Nat.zero_add _) (FU_lt (by rw [ew]; omega))).trans rfl
    · intro n i hi
      rw [ew] at hi
      rw [q_134_30_100109_at20, hl (d + 2), cI_I, if_pos (by omega), h2, wri (by have := hT.1; omega) (by have := hT.1; omega), gdp ⟨by omega, by have := hT.1; omega⟩, hc i hi, cI_I, show ((s : Int) + (i : Int)).toNat = s + i by omega, hT.2.1 (s + i) (by omega), wr_succ (by omega)]
      have t2 := (txt_ok 9 (by omega) i (by omega) hi).2
      have := sby_eq (hT.2.2 (s + i)) t2
      by_cases z : b (s + i) = (wds.getD 9 []).getD i 0
      · rw [if_pos (this.2 z), if_pos z]
      · rw [if_neg (fun y => z (this.1 y)), if_neg z]
    · intro n
      rw [q_134_30_100109_at20, hl (d + 2), cI_I, if_neg (by rw [ew]; omega)]
  · rw [if_neg (by omega), beq_eq_false_iff_ne.2 hL]
    rfl
theorem sp_10 (hT : TB b n M) (h2 : M.2.1 30 2 = (s : Int)) (h3 : M.2.1 30 3 = (e : Int)) (hse : s ≤ e) (hen : e ≤ n) : fn X (d + 5) 134 [rv 30, rv 100110] M = oI (b01 (spx b s e (wds.getD 10 []))) M := by
  have hl : ∀ d', fn X (d' + 2) 355 [rv 100110] M = oI 4 M := fun d' => by
    rw [q_355_100110, q_357_100110, gdp bnar_0, cI_I]
    exact congrArg (fun z => oI z M) (ishr_nat (a := 4) (k := 0) (by omega) (by omega))
  have hc : ∀ i : Nat, i < 4 → fn X (d + 4) 356 [rv 100110, iv (i : Int)] M = oI (((wds.getD 10 []).getD i 0 : Nat) : Int) M := fun i hi => by
    obtain ⟨t1, t2⟩ := txt_ok 10 (by omega) i (by omega) hi
    rw [q_356_100110, q_358_100110, cI_I, if_neg (by decide), q_360_100210, q_359, q_361_100005, if_neg (by omega), if_pos (by omega), cI_I, cV_V, gdp ⟨by omega, by omega⟩, Int.toNat_natCast, t1, chr_ok (by omega) (by omega), gdp ⟨by omega, by omega⟩, cI_I, gdp ⟨by omega, by omega⟩]
  rw [q_134_30_100110, hl, cI_I, h2, h3, wri (by have := hT.1; omega) (by have := hT.1; omega)]
  unfold spx
  have ew : (wds.getD 10 []).length = 4 := rfl
  rw [ew]
  by_cases hL : e - s = 4
  · rw [if_pos (by omega), beq_iff_eq.2 hL]
    refine (spl_loop (b := b) (s := s) (M := M) (P := fun n i => kb X (d + 4) 134 n 20 [some (rv 30), some (rv 100110), some (iv i)] [] M) (w := wds.getD 10 []) ?_ ?_ (wds.getD 10 []) 0 FU rfl (Nat.zero_add _) (FU_lt (by rw [ew]; omega))).trans rfl
    · intro n i hi
      rw [ew] at hi
      rw [q_134_30_100110_at20, hl (d + 2), cI_I, if_pos (by omega), h2, wri (by have := hT.1; omega) (by have := hT.1; omega), gdp ⟨by omega, by have := hT.1; omega⟩, hc i hi, cI_I, show ((s : Int) + (i : Int)).toNat = s + i by omega, hT.2.1 (s + i) (by omega), wr_succ (by omega)]
      have t2 := (txt_ok 10 (by omega) i (by omega) hi).2
      have := sby_eq (hT.2.2 (s + i)) t2
      by_cases z : b (s + i) = (wds.getD 10 []).getD i 0
      · rw [if_pos (this.2 z), if_pos z]
      · rw [if_neg (fun y => z (this.1 y)), if_neg z]
    · intro n
      rw [q_134_30_100110_at20, hl (d + 2), cI_I, if_neg (by rw [ew]; omega)]
  · rw [if_neg (by omega), beq_eq_false_iff_ne.2 hL]
    rfl
theorem sp_11 (hT : TB b n M) (h2 : M.2.1 30 2 = (s : Int)) (h3 : M.2.1 30 3 = (e : Int)) (hse : s ≤ e) (hen : e ≤ n) : fn X (d + 5) 134 [rv 30, rv 100111] M = oI (b01 (spx b s e (wds.getD 11 []))) M := by
  have hl : ∀ d', fn X (d' + 2) 355 [rv 100111] M = oI 8 M := fun d' => by
    rw [q_355_100111, q_357_100111, gdp bnar_0, cI_I]
    exact congrArg (fun z => oI z M) (ishr_nat (a := 8) (k := 0) (by omega) (by omega))
  have hc : ∀ i : Nat, i < 8 → fn X (d + 4) 356 [rv 100111, iv (i : Int)] M = oI (((wds.getD 11 []).getD i 0 : Nat) : Int) M := fun i hi => by
    obtain ⟨t1, t2⟩ := txt_ok 11 (by omega) i (by omega) hi
    rw [q_356_100111, q_358_100111, cI_I, if_neg (by decide), q_360_100211, q_359, q_361_100005, if_neg (by omega), if_pos (by omega), cI_I, cV_V, gdp ⟨by omega, by omega⟩, Int.toNat_natCast, t1, chr_ok (by omega) (by omega), gdp ⟨by omega, by omega⟩, cI_I, gdp ⟨by omega, by omega⟩]
  rw [q_134_30_100111, hl, cI_I, h2, h3, wri (by have := hT.1; omega) (by have := hT.1; omega)]
  unfold spx
  have ew : (wds.getD 11 []).length = 8 := rfl
  rw [ew]
  by_cases hL : e - s = 8
  · rw [if_pos (by omega), beq_iff_eq.2 hL]
    refine (spl_loop (b := b) (s := s) (M := M) (P := fun n i => kb X (d + 4) 134 n 20 [some (rv 30), some (rv 100111), some (iv i)] [] M) (w := wds.getD 11 []) ?_ ?_ (wds.getD 11 []) 0 FU rfl (Nat.zero_add _) (FU_lt (by rw [ew]; omega))).trans rfl
    · intro n i hi
      rw [ew] at hi
      rw [q_134_30_100111_at20, hl (d + 2), cI_I, if_pos (by omega), h2, wri (by have := hT.1; omega) (by have := hT.1; omega), gdp ⟨by omega, by have := hT.1; omega⟩, hc i hi, cI_I, show ((s : Int) + (i : Int)).toNat = s + i by omega, hT.2.1 (s + i) (by omega), wr_succ (by omega)]
      have t2 := (txt_ok 11 (by omega) i (by omega) hi).2
      have := sby_eq (hT.2.2 (s + i)) t2
      by_cases z : b (s + i) = (wds.getD 11 []).getD i 0
      · rw [if_pos (this.2 z), if_pos z]
      · rw [if_neg (fun y => z (this.1 y)), if_neg z]
    · intro n
      rw [q_134_30_100111_at20, hl (d + 2), cI_I, if_neg (by rw [ew]; omega)]
  · rw [if_neg (by omega), beq_eq_false_iff_ne.2 hL]
    rfl
theorem sp_12 (hT : TB b n M) (h2 : M.2.1 30 2 = (s : Int)) (h3 : M.2.1 30 3 = (e : Int)) (hse : s ≤ e) (hen : e ≤ n) : fn X (d + 5) 134 [rv 30, rv 100112] M = oI (b01 (spx b s e (wds.getD 12 []))) M := by
  have hl : ∀ d', fn X (d' + 2) 355 [rv 100112] M = oI 4 M := fun d' => by
    rw [q_355_100112, q_357_100112, gdp bnar_0, cI_I]
    exact congrArg (fun z => oI z M) (ishr_nat (a := 4) (k := 0) (by omega) (by omega))
  have hc : ∀ i : Nat, i < 4 → fn X (d + 4) 356 [rv 100112, iv (i : Int)] M = oI (((wds.getD 12 []).getD i 0 : Nat) : Int) M := fun i hi => by
    obtain ⟨t1, t2⟩ := txt_ok 12 (by omega) i (by omega) hi
    rw [q_356_100112, q_358_100112, cI_I, if_neg (by decide), q_360_100212, q_359, q_361_100005, if_neg (by omega), if_pos (by omega), cI_I, cV_V, gdp ⟨by omega, by omega⟩, Int.toNat_natCast, t1, chr_ok (by omega) (by omega), gdp ⟨by omega, by omega⟩, cI_I, gdp ⟨by omega, by omega⟩]
  rw [q_134_30_100112, hl, cI_I, h2, h3, wri (by have := hT.1; omega) (by have := hT.1; omega)]
  unfold spx
  have ew : (wds.getD 12 []).length = 4 := rfl
  rw [ew]
  by_cases hL : e - s = 4
  · rw [if_pos (by omega), beq_iff_eq.2 hL]
    refine (spl_loop (b := b) (s := s) (M := M) (P := fun n i => kb X (d + 4) 134 n 20 [some (rv 30), some (rv 100112), some (iv i)] [] M) (w := wds.getD 12 []) ?_ ?_ (wds.getD 12 []) 0 FU rfl (Nat.zero_add _) (FU_lt (by rw [ew]; omega))).trans rfl
    · intro n i hi
      rw [ew] at hi
      rw [q_134_30_100112_at20, hl (d + 2), cI_I, if_pos (by omega), h2, wri (by have := hT.1; omega) (by have := hT.1; omega), gdp ⟨by omega, by have := hT.1; omega⟩, hc i hi, cI_I, show ((s : Int) + (i : Int)).toNat = s + i by omega, hT.2.1 (s + i) (by omega), wr_succ (by omega)]
      have t2 := (txt_ok 12 (by omega) i (by omega) hi).2
      have := sby_eq (hT.2.2 (s + i)) t2
      by_cases z : b (s + i) = (wds.getD 12 []).getD i 0
      · rw [if_pos (this.2 z), if_pos z]
      · rw [if_neg (fun y => z (this.1 y)), if_neg z]
    · intro n
      rw [q_134_30_100112_at20, hl (d + 2), cI_I, if_neg (by rw [ew]; omega)]
  · rw [if_neg (by omega), beq_eq_false_iff_ne.2 hL]
    rfl
theorem sp_13 (hT : TB b n M) (h2 : M.2.1 30 2 = (s : Int)) (h3 : M.2.1 30 3 = (e : Int)) (hse : s ≤ e) (hen : e ≤ n) : fn X (d + 5) 134 [rv 30, rv 100113] M = oI (b01 (spx b s e (wds.getD 13 []))) M := by
  have hl : ∀ d', fn X (d' + 2) 355 [rv 100113] M = oI 7 M := fun d' => by
    rw [q_355_100113, q_357_100113, gdp bnar_0, cI_I]
    exact congrArg (fun z => oI z M) (ishr_nat (a := 7) (k := 0) (by omega) (by omega))
  have hc : ∀ i : Nat, i < 7 → fn X (d + 4) 356 [rv 100113, iv (i : Int)] M = oI (((wds.getD 13 []).getD i 0 : Nat) : Int) M := fun i hi => by
    obtain ⟨t1, t2⟩ := txt_ok 13 (by omega) i (by omega) hi
    rw [q_356_100113, q_358_100113, cI_I, if_neg (by decide), q_360_100213, q_359, q_361_100005, if_neg (by omega), if_pos (by omega), cI_I, cV_V, gdp ⟨by omega, by omega⟩, Int.toNat_natCast, t1, chr_ok (by omega) (by omega), gdp ⟨by omega, by omega⟩, cI_I, gdp ⟨by omega, by omega⟩]
  rw [q_134_30_100113, hl, cI_I, h2, h3, wri (by have := hT.1; omega) (by have := hT.1; omega)]
  unfold spx
  have ew : (wds.getD 13 []).length = 7 := rfl
  rw [ew]
  by_cases hL : e - s = 7
  · rw [if_pos (by omega), beq_iff_eq.2 hL]
    refine (spl_loop (b := b) (s := s) (M := M) (P := fun n i => kb X (d + 4) 134 n 20 [some (rv 30), some (rv 100113), some (iv i)] [] M) (w := wds.getD 13 []) ?_ ?_ (wds.getD 13 []) 0 FU rfl (Nat.zero_add _) (FU_lt (by rw [ew]; omega))).trans rfl
    · intro n i hi
      rw [ew] at hi
      rw [q_134_30_100113_at20, hl (d + 2), cI_I, if_pos (by omega), h2, wri (by have := hT.1; omega) (by have := hT.1; omega), gdp ⟨by omega, by have := hT.1; omega⟩, hc i hi, cI_I, show ((s : Int) + (i : Int)).toNat = s + i by omega, hT.2.1 (s + i) (by omega), wr_succ (by omega)]
      have t2 := (txt_ok 13 (by omega) i (by omega) hi).2
      have := sby_eq (hT.2.2 (s + i)) t2
      by_cases z : b (s + i) = (wds.getD 13 []).getD i 0
      · rw [if_pos (this.2 z), if_pos z]
      · rw [if_neg (fun y => z (this.1 y)), if_neg z]
    · intro n
      rw [q_134_30_100113_at20, hl (d + 2), cI_I, if_neg (by rw [ew]; omega)]
  · rw [if_neg (by omega), beq_eq_false_iff_ne.2 hL]
    rfl
theorem sp_14 (hT : TB b n M) (h2 : M.2.1 30 2 = (s : Int)) (h3 : M.2.1 30 3 = (e : Int)) (hse : s ≤ e) (hen : e ≤ n) : fn X (d + 5) 134 [rv 30, rv 100114] M = oI (b01 (spx b s e (wds.getD 14 []))) M := by
  have hl : ∀ d', fn X (d' + 2) 355 [rv 100114] M = oI 5 M := fun d' => by
    rw [q_355_100114, q_357_100114, gdp bnar_0, cI_I]
    exact congrArg (fun z => oI z M) (ishr_nat (a := 5) (k := 0) (by omega) (by omega))
  have hc : ∀ i : Nat, i < 5 → fn X (d + 4) 356 [rv 100114, iv (i : Int)] M = oI (((wds.getD 14 []).getD i 0 : Nat) : Int) M := fun i hi => by
    obtain ⟨t1, t2⟩ := txt_ok 14 (by omega) i (by omega) hi
    rw [q_356_100114, q_358_100114, cI_I, if_neg (by decide), q_360_100214, q_359, q_361_100005, if_neg (by omega), if_pos (by omega), cI_I, cV_V, gdp ⟨by omega, by omega⟩, Int.toNat_natCast, t1, chr_ok (by omega) (by omega), gdp ⟨by omega, by omega⟩, cI_I, gdp ⟨by omega, by omega⟩]
  rw [q_134_30_100114, hl, cI_I, h2, h3, wri (by have := hT.1; omega) (by have := hT.1; omega)]
  unfold spx
  have ew : (wds.getD 14 []).length = 5 := rfl
  rw [ew]
  by_cases hL : e - s = 5
  · rw [if_pos (by omega), beq_iff_eq.2 hL]
    refine (spl_loop (b := b) (s := s) (M := M) (P := fun n i => kb X (d + 4) 134 n 20 [some (rv 30), some (rv 100114), some (iv i)] [] M) (w := wds.getD 14 []) ?_ ?_ (wds.getD 14 []) 0 FU rfl (Nat.zero_add _) (FU_lt (by rw [ew]; omega))).trans rfl
    · intro n i hi
      rw [ew] at hi
      rw [q_134_30_100114_at20, hl (d + 2), cI_I, if_pos (by omega), h2, wri (by have := hT.1; omega) (by have := hT.1; omega), gdp ⟨by omega, by have := hT.1; omega⟩, hc i hi, cI_I, show ((s : Int) + (i : Int)).toNat = s + i by omega, hT.2.1 (s + i) (by omega), wr_succ (by omega)]
      have t2 := (txt_ok 14 (by omega) i (by omega) hi).2
      have := sby_eq (hT.2.2 (s + i)) t2
      by_cases z : b (s + i) = (wds.getD 14 []).getD i 0
      · rw [if_pos (this.2 z), if_pos z]
      · rw [if_neg (fun y => z (this.1 y)), if_neg z]
    · intro n
      rw [q_134_30_100114_at20, hl (d + 2), cI_I, if_neg (by rw [ew]; omega)]
  · rw [if_neg (by omega), beq_eq_false_iff_ne.2 hL]
    rfl
theorem sp_15 (hT : TB b n M) (h2 : M.2.1 30 2 = (s : Int)) (h3 : M.2.1 30 3 = (e : Int)) (hse : s ≤ e) (hen : e ≤ n) : fn X (d + 5) 134 [rv 30, rv 100115] M = oI (b01 (spx b s e (wds.getD 15 []))) M := by
  have hl : ∀ d', fn X (d' + 2) 355 [rv 100115] M = oI 4 M := fun d' => by
    rw [q_355_100115, q_357_100115, gdp bnar_0, cI_I]
    exact congrArg (fun z => oI z M) (ishr_nat (a := 4) (k := 0) (by omega) (by omega))
  have hc : ∀ i : Nat, i < 4 → fn X (d + 4) 356 [rv 100115, iv (i : Int)] M = oI (((wds.getD 15 []).getD i 0 : Nat) : Int) M := fun i hi => by
    obtain ⟨t1, t2⟩ := txt_ok 15 (by omega) i (by omega) hi
    rw [q_356_100115, q_358_100115, cI_I, if_neg (by decide), q_360_100215, q_359, q_361_100005, if_neg (by omega), if_pos (by omega), cI_I, cV_V, gdp ⟨by omega, by omega⟩, Int.toNat_natCast, t1, chr_ok (by omega) (by omega), gdp ⟨by omega, by omega⟩, cI_I, gdp ⟨by omega, by omega⟩]
  rw [q_134_30_100115, hl, cI_I, h2, h3, wri (by have := hT.1; omega) (by have := hT.1; omega)]
  unfold spx
  have ew : (wds.getD 15 []).length = 4 := rfl
  rw [ew]
  by_cases hL : e - s = 4
  · rw [if_pos (by omega), beq_iff_eq.2 hL]
    refine (spl_loop (b := b) (s := s) (M := M) (P := fun n i => kb X (d + 4) 134 n 20 [some (rv 30), some (rv 100115), some (iv i)] [] M) (w := wds.getD 15 []) ?_ ?_ (wds.getD 15 []) 0 FU rfl (Nat.zero_add _) (FU_lt (by rw [ew]; omega))).trans rfl
    · intro n i hi
      rw [ew] at hi
      rw [q_134_30_100115_at20, hl (d + 2), cI_I, if_pos (by omega), h2, wri (by have := hT.1; omega) (by have := hT.1; omega), gdp ⟨by omega, by have := hT.1; omega⟩, hc i hi, cI_I, show ((s : Int) + (i : Int)).toNat = s + i by omega, hT.2.1 (s + i) (by omega), wr_succ (by omega)]
      have t2 := (txt_ok 15 (by omega) i (by omega) hi).2
      have := sby_eq (hT.2.2 (s + i)) t2
      by_cases z : b (s + i) = (wds.getD 15 []).getD i 0
      · rw [if_pos (this.2 z), if_pos z]
      · rw [if_neg (fun y => z (this.1 y)), if_neg z]
    · intro n
      rw [q_134_30_100115_at20, hl (d + 2), cI_I, if_neg (by rw [ew]; omega)]
  · rw [if_neg (by omega), beq_eq_false_iff_ne.2 hL]
    rfl
end C85b

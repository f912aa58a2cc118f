/-! ===== the rule, the model's side; who is bound ===== -/
def P1415 (k _j : Nat) : Bool := k == 14 || k == 15
def P9394 (k _j : Nat) : Bool := k == 93 || k == 94
theorem encs_app (a b : List Int) : encs (a ++ b) = encs a ++ encs b := by unfold encs; rw [List.flatMap_append]
theorem encs_cons (x : Int) (r : List Int) : encs (x :: r) = enc x ++ encs r := by unfold encs; rw [List.flatMap_cons]
def opc (x : Int) : Int := if x = -10 then 5 else if x = -11 then 4 else if x = -13 then 6 else if x = -14 then 7 else if x = -15 then 8 else if x = -16 then 9 else if x = -17 then 10 else 11
theorem getD_app (a b : List Int) (i : Nat) : (a ++ b).getD (a.length + i) 0 = b.getD i 0 := by
  rw [List.getD_eq_getElem?_getD, List.getElem?_append_right (by omega), List.getD_eq_getElem?_getD]
  congr 2
  omega
section C39
variable {X : Nat × (Nat → Int32)} {d : Nat} {S : SK} {M : rM}
theorem m_op2 {x a b : Int} (h1 : -18 ≤ x) (h2 : x ≤ -10) (h3 : x ≠ -12) : fn X (d + 1) 250 [iv (opc x), iv a, iv b] M = oI (op2 x a b) M := by
  rw [q_250]
  have hx : x = -10 ∨ x = -11 ∨ x = -13 ∨ x = -14 ∨ x = -15 ∨ x = -16 ∨ x = -17 ∨ x = -18 := by omega
  rcases hx with rfl | rfl | rfl | rfl | rfl | rfl | rfl | rfl
  · by_cases ha : a = 0
    · by_cases hb : b = 0
      · simp [op2, opc, ha, hb]
      · simp [op2, opc, ha, hb]
    · simp [op2, opc, ha]
  · by_cases ha : a = 0
    · simp [op2, opc, ha]
    · by_cases hb : b = 0
      · simp [op2, opc, ha, hb]
      · simp [op2, opc, ha, hb]
  · by_cases hb : a < b
    · simp [op2, opc, hb]
    · simp [op2, opc, hb]
  · by_cases hb : a = b
    · simp [op2, opc, hb]
    · simp [op2, opc, hb]
  · simp [op2, opc]
  · simp [op2, opc]
  · simp [op2, opc]
  · by_cases hb : b = 0
    · simp [op2, opc, hb]
    · simp [op2, opc, hb]
def P94 (k _j : Nat) : Bool := k == 94
abbrev w4 (a b : Int) : List (Option rq) := [some (rv 59), none, some (iv a), some (iv b), none]
set_option maxHeartbeats 4000000 in
theorem m_reckon_loop (v : Nat → Int) (p : Nat) : ∀ (rest : List Int) (q : Nat) (st : List Int) (n : Nat) (M : rM), (∀ i, i < (encs rest).length → M.2.1 72 (p + q + i) = (encs rest).getD i 0) → M.2.1 72 (p + q + (encs rest).length) = 0 → p + q + (encs rest).length < 1400 → (∀ k, k < 6 → M.2.1 93 k = v k) → stk 94 M st → wfr rest st.length = true → st.length ≤ 40 → 2 * rest.length + 1 ≤ n → ∃ M', kb X (d + 1) 251 n 4 (w4 (st.length : Int) ((p + q : Nat) : Int)) [] M = oI ((evalR v rest st).headD 0) M' ∧ sf P94 M M'
  | [], q, st, n, M, h72, h0, hlen, h93, hst, hw, h40, hn => by
    obtain ⟨m, rfl⟩ : ∃ m, n = m + 1 := ⟨n - 1, by omega⟩
    have h1 : st.length = 1 := by simpa [wfr] using hw
    obtain ⟨a, rfl⟩ : ∃ a, st = [a] := List.length_eq_one_iff.1 h1
    have ht := stk_top hst
    have hlen : p + q + 0 < 1400 := hlen
    have h0 : M.2.1 72 (p + q) = 0 := h0
    refine ⟨M, ?_, sf.rf⟩
    rw [q_251_59_at4, gdx (by omega) (by omega), Int.toNat_natCast, if_pos h0, show M.2.1 94 0 = a from ht]
    rfl
  | x :: r, q, st, n, M, h72, h0, hlen, h93, hst, hw, h40, hn => by
    rw [List.length_cons] at hn
    obtain ⟨m, rfl⟩ : ∃ m, n = m + 2 := ⟨n - 2, by omega⟩
    rw [encs_cons] at h72 h0 hlen
    rw [List.length_append] at h72 h0 hlen
    have go : ∀ (st' : List Int) (M' : rM) (m' : Nat), M'.2.1 72 = M.2.1 72 → M'.2.1 93 = M.2.1 93 → stk 94 M' st' → wfr r st'.length = true → st'.length ≤ 40 → 2 * r.length + 1 ≤ m' → sf P94 M M' → ∃ M2, kb X (d + 1) 251 m' 4 (w4 (st'.length : Int) ((p + (q + (enc x).length) : Nat) : Int)) [] M' = oI ((evalR v r st').headD 0) M2 ∧ sf P94 M M2 := by
      intro st' M' m' e72 e93 hs' hw' h40' hm' hf'
      obtain ⟨M2, g1, g2⟩ := m_reckon_loop v p r (q + (enc x).length) st' m' M' (fun i hi => by
        have := h72 ((enc x).length + i) (by omega)
        rw [getD_app] at this
        rw [e72, show p + (q + (enc x).length) + i = p + q + ((enc x).length + i) from by omega]
        exact this) (by
        rw [e72, show p + (q + (enc x).length) + (encs r).length = p + q + ((enc x).length + (encs r).length) from by omega]
        exact h0) (by omega) (fun k hk => by rw [e93]; exact h93 k hk) hs' hw' h40' hm'
      exact ⟨M2, g1, hf'.tr g2⟩
    unfold wfr at hw
    by_cases c1 : -6 ≤ x
    · rw [if_pos c1] at hw
      simp only [Bool.and_eq_true, decide_eq_true_eq] at hw
      obtain ⟨⟨w1, w2⟩, w3⟩ := hw
      have e2 : evalR v (x :: r) st = evalR v r ((if 0 ≤ x then x else v (-1 - x).toNat) :: st) := by
        conv => lhs; unfold evalR
        rw [if_pos c1]
      rw [e2]
      have e5 : wr ((st.length : Int) + 1) = ((st.length + 1 : Nat) : Int) := wr_succ (by omega)
      by_cases c2 : 0 ≤ x
      · have ex : enc x = [1, x] := by unfold enc; rw [if_pos c2]
        rw [ex] at h72 hlen go
        simp only [List.length_cons, List.length_nil] at h72 hlen go
        have a1 : M.2.1 72 (p + q) = 1 := h72 0 (by omega)
        have a2 : M.2.1 72 (p + q + 1) = x := h72 1 (by omega)
        rw [if_pos c2]
        obtain ⟨M2, g1, g2⟩ := go (x :: st) (puI M 94 st.length x) m (puI_k (by omega)) (puI_k (by omega)) (stk_push hst x) (by rw [List.length_cons]; exact w3) (by rw [List.length_cons]; omega) (by omega) (sf.rf.pu rfl x)
        refine ⟨M2, ?_, g2⟩
        have e6 : wr (((p + q : Nat) : Int) + 1) = ((p + q + 1 : Nat) : Int) := wr_succ (by omega)
        have e7 : wr (((p + q + 1 : Nat) : Int) + 1) = ((p + (q + (0 + 1 + 1)) : Nat) : Int) := by
          rw [wr_succ (by omega)]
          congr 1
        rw [q_251_59_at4, gdx (by omega) (by omega), Int.toNat_natCast, a1, if_neg (by omega), gdx (by omega) (by omega), if_pos rfl, e6, q_251_59_at36, if_pos rfl, gdx (by omega) (by omega), gdx (by omega) (by omega), e5, e7, Int.toNat_natCast, Int.toNat_natCast, a2]
        exact g1
      · have ex : enc x = [2, -1 - x] := by unfold enc; rw [if_neg c2, if_pos c1]
        rw [ex] at h72 hlen go
        simp only [List.length_cons, List.length_nil] at h72 hlen go
        have a1 : M.2.1 72 (p + q) = 2 := h72 0 (by omega)
        have a2 : M.2.1 72 (p + q + 1) = -1 - x := h72 1 (by omega)
        rw [if_neg c2]
        obtain ⟨M2, g1, g2⟩ := go (v (-1 - x).toNat :: st) (puI M 94 st.length (v (-1 - x).toNat)) m (puI_k (by omega)) (puI_k (by omega)) (stk_push hst _) (by rw [List.length_cons]; exact w3) (by rw [List.length_cons]; omega) (by omega) (sf.rf.pu rfl _)
        refine ⟨M2, ?_, g2⟩
        have e6 : wr (((p + q : Nat) : Int) + 1) = ((p + q + 1 : Nat) : Int) := wr_succ (by omega)
        have e7 : wr (((p + q + 1 : Nat) : Int) + 1) = ((p + (q + (0 + 1 + 1)) : Nat) : Int) := by
          rw [wr_succ (by omega)]
          congr 1
        rw [q_251_59_at4, gdx (by omega) (by omega), Int.toNat_natCast, a1, if_neg (by omega), gdx (by omega) (by omega), if_neg (by omega), if_pos rfl, e6, q_251_59_at36, if_neg (by omega), gdx (by omega) (by omega), Int.toNat_natCast, a2, gdx (by omega) (by omega), gdx (by omega) (by omega), e5, e7, Int.toNat_natCast, h93 _ (by omega)]
        exact g1
    · rw [if_neg c1] at hw
      by_cases c2 : x = -12
      · rw [if_pos c2] at hw
        simp only [Bool.and_eq_true, decide_eq_true_eq] at hw
        obtain ⟨w1, w2⟩ := hw
        obtain ⟨a, s, rfl⟩ : ∃ a s, st = a :: s := by
          cases st with
          | nil => simp at w1
          | cons a s => exact ⟨a, s, rfl⟩
        have ht := stk_top hst
        rw [List.length_cons] at w2 h40
        have e2 : evalR v (x :: r) (a :: s) = evalR v r ((if a = 0 then 1 else 0) :: s) := by
          conv => lhs; unfold evalR
          rw [if_neg c1, if_pos c2]
          rfl
        have ex : enc x = [3] := by rw [c2]; rfl
        rw [ex] at h72 hlen go
        simp only [List.length_cons, List.length_nil] at h72 hlen go
        have a1 : M.2.1 72 (p + q) = 3 := h72 0 (by omega)
        have e6 : wr (((p + q : Nat) : Int) + 1) = ((p + (q + (0 + 1)) : Nat) : Int) := by
          rw [wr_succ (by omega)]
          congr 1
        have e4 : wr (((a :: s).length : Int) - 1) = (s.length : Int) := by
          rw [List.length_cons, wri (by omega) (by omega)]
          omega
        obtain ⟨M2, g1, g2⟩ := go ((if a = 0 then 1 else 0) :: s) (puI M 94 s.length (if a = 0 then 1 else 0)) (m + 1) (puI_k (by omega)) (puI_k (by omega)) (stk_set hst _) (by rw [List.length_cons]; exact w2) (by rw [List.length_cons]; exact h40) (by omega) (sf.rf.pu rfl _)
        refine ⟨M2, ?_, g2⟩
        rw [e2, ← g1, q_251_59_at4, gdx (by omega) (by omega), Int.toNat_natCast, a1, if_neg (by omega), gdx (by omega) (by omega), if_neg (by omega), if_neg (by omega), if_pos rfl, e4, e6]
        simp only [gdx (i := (s.length : Int)) (n := 950) (by omega) (by omega), Int.toNat_natCast, ht, List.length_cons]
        by_cases c3 : a = 0
        · simp only [if_pos c3]
        · simp only [if_neg c3]
      · rw [if_neg c2] at hw
        simp only [Bool.and_eq_true, decide_eq_true_eq] at hw
        obtain ⟨⟨⟨w1, w2⟩, w3⟩, w4⟩ := hw
        obtain ⟨b, a, s, rfl⟩ : ∃ b a s, st = b :: a :: s := by
          rcases st with _ | ⟨b, _ | ⟨a, s⟩⟩
          · simp at w1
          · simp at w1
          · exact ⟨b, a, s, rfl⟩
        have ht := stk_top hst
        have ht2 := stk_top (stk_pop hst)
        simp only [List.length_cons] at ht w4 h40
        have w4 : wfr r (s.length + 1) = true := w4
        have e2 : evalR v (x :: r) (b :: a :: s) = evalR v r (op2 x a b :: s) := by
          conv => lhs; unfold evalR
          rw [if_neg c1, if_neg c2]
          rfl
        have ex : enc x = [opc x] := by
          have hx : x = -10 ∨ x = -11 ∨ x = -13 ∨ x = -14 ∨ x = -15 ∨ x = -16 ∨ x = -17 ∨ x = -18 := by omega
          rcases hx with rfl | rfl | rfl | rfl | rfl | rfl | rfl | rfl <;> rfl
        have hop : 4 ≤ opc x ∧ opc x ≤ 11 := by
          unfold opc
          repeat' split
          all_goals omega
        rw [ex] at h72 hlen go
        simp only [List.length_cons, List.length_nil] at h72 hlen go
        have a1 : M.2.1 72 (p + q) = opc x := h72 0 (by omega)
        have e6 : wr (((p + q : Nat) : Int) + 1) = ((p + (q + (0 + 1)) : Nat) : Int) := by
          rw [wr_succ (by omega)]
          congr 1
        have e4 : wr (((b :: a :: s).length : Int) + -1) = ((s.length + 1 : Nat) : Int) := by
          rw [List.length_cons, List.length_cons, wri (by omega) (by omega)]
          omega
        have e5 : wr (((s.length + 1 : Nat) : Int) - 1) = (s.length : Int) := by
          rw [wri (by omega) (by omega)]
          omega
        obtain ⟨M2, g1, g2⟩ := go (op2 x a b :: s) (puI M 94 s.length (op2 x a b)) (m + 1) (puI_k (by omega)) (puI_k (by omega)) (stk_set (stk_pop hst) _) (by rw [List.length_cons]; exact w4) (by rw [List.length_cons]; omega) (by omega) (sf.rf.pu rfl _)
        refine ⟨M2, ?_, g2⟩
        rw [e2, ← g1, q_251_59_at4, gdx (by omega) (by omega), Int.toNat_natCast, a1, if_neg (by omega), gdx (by omega) (by omega), if_neg (by omega), if_neg (by omega), if_neg (by omega), e4, e5, e6]
        simp only [Int.toNat_natCast, ht, ht2]
        rw [gdx (by omega) (by omega), gdx (by omega) (by omega), m_op2 w2 w3 c2, cI_I, gdx (by omega) (by omega), List.length_cons]
end C39
/-! who is bound -/
def valsR (S : SK) (c wary b cord h : Nat) (k : Nat) : Int := (([cord, cre S c 0, wary, pc b, cre S c 3, h].getD k 0 : Nat) : Int)
noncomputable def bd (S : SK) (c wary b cord h : Nat) : Bool := if rul S = [] then decide (cord ≠ 0) && decide (cre S c 0 ≤ cord) else decide (0 < (evalR (valsR S c wary b cord h) (rul S) []).headD 0)
section C39b
variable {X : Nat × (Nat → Int32)} {d : Nat} {S : SK} {M : rM}
theorem stk_nil (k : Nat) (M : rM) : stk k M [] := fun j hj => by cases hj
theorem c_worth (hS : CS S M) (hne : rul S ≠ []) (hR : WR S) (v : Nat → Int) : ∃ M', fn X (d + 1) 47 [rv 12, iv (v 0), iv (v 1), iv (v 2), iv (v 3), iv (v 4), iv (v 5)] M = oI ((evalR v (rul S) []).headD 0) M' ∧ sf P1415 M M' := by
  obtain ⟨hw, hl⟩ := hR.resolve_left hne
  obtain ⟨-, -, -, -, -, -, -, -, -, h1, h2⟩ := hS
  obtain ⟨M', g1, g2⟩ := c_worth_loop (X := X) (d := d) v (rul S) [] [] FU (puI (puI (puI (puI (puI (puI M 14 0 (v 0)) 14 1 (v 1)) 14 2 (v 2)) 14 3 (v 3)) 14 4 (v 4)) 14 5 (v 5)) (by simp only [puI_ne (show (12 : Nat) ≠ 14 by omega)]; exact h1) (fun i hi => by simp only [puI_ne (show (13 : Nat) ≠ 14 by omega)]; exact h2 i hi) (fun k hk => by
    have : k = 0 ∨ k = 1 ∨ k = 2 ∨ k = 3 ∨ k = 4 ∨ k = 5 := by omega
    rcases this with rfl | rfl | rfl | rfl | rfl | rfl <;> simp [puI_at]) (stk_nil _ _) hw (by simp) hl (by have := FU_ge; omega)
  refine ⟨M', ?_, ?_⟩
  · rw [q_47_12]
    exact g1
  · refine sf.tr ?_ (g2.mo (fun k j hq => ?_))
    · exact (((((sf.rf.pu rfl _).pu rfl _).pu rfl _).pu rfl _).pu rfl _).pu rfl _
    · simp only [P1415, Bool.or_eq_false_iff] at hq
      exact hq.2
theorem m_reckon (hS : MS S M) (hne : rul S ≠ []) (hR : WR S) (v : Nat → Int) (hv : ∀ k, k < 6 → M.2.1 93 k = v k) : ∃ M', fn X (d + 2) 251 [rv 59, iv (M.2.1 59 6)] M = oI ((evalR v (rul S) []).headD 0) M' ∧ sf P94 M M' := by
  obtain ⟨hw, hl⟩ := hR.resolve_left hne
  obtain ⟨-, -, -, -, -, -, -, -, -, hr⟩ := hS
  rcases hr with ⟨z, -⟩ | ⟨-, p, h6, h1, h2, h3⟩
  · exact absurd z hne
  · obtain ⟨M', g1, g2⟩ := m_reckon_loop (X := X) (d := d) v p (rul S) 0 [] FU M (fun i hi => h2 i hi) h3 h1 hv (stk_nil _ _) hw (by simp) (by have := FU_ge; omega)
    refine ⟨M', ?_, g2⟩
    rw [q_251_59, h6]
    exact g1
theorem b01_t {p : Prop} [Decidable p] {M : rM} : (if p then oI 1 M else oI 0 M) = oI (b01 (decide p)) M := by
  unfold b01
  by_cases h : p
  · simp [h]
  · simp [h]
theorem c_binds (hS : CS S M) (hF : WF S) (hR : WR S) {c wary b cord h : Nat} (hc : c < nC S) (hb : b ≤ 63) : ∃ M', fn X (d + 2) 74 [rv 3, iv (c : Int), iv (cord : Int), iv (wary : Int), iv (b : Int), iv (h : Int)] M = oI (b01 (bd S c wary b cord h)) M' ∧ sf P1415 M M' := by
  have g0 := c_get4 (X := X) (d := d) hS hF hc (j := 0) (by omega)
  have g3 := c_get4 (X := X) (d := d) hS hF hc (j := 3) (by omega)
  have hl := hS.2.2.2.2.2.2.2.2.2.1
  rw [q_74_3]
  erw [g0]
  rw [cI_I, q_43_12, hl]
  unfold bd
  by_cases he : rul S = []
  · refine ⟨M, ?_, sf.rf⟩
    rw [if_pos he, if_pos (by rw [he]; rfl), cI_I, if_neg (by omega)]
    by_cases h1 : cord = 0
    · rw [if_pos (by omega)]
      simp [h1, b01]
    · rw [if_neg (by omega)]
      by_cases h2 : cord < cre S c 0
      · rw [if_pos (by omega), show decide (cre S c 0 ≤ cord) = false from decide_eq_false (by omega), Bool.and_false]
        rfl
      · rw [if_neg (by omega), show decide (cre S c 0 ≤ cord) = true from decide_eq_true (by omega), show decide (cord ≠ 0) = true from decide_eq_true h1]
        rfl
  · have hlen : (rul S).length ≠ 0 := fun z => he (List.length_eq_zero_iff.1 z)
    rw [if_neg he, if_neg (by omega), cI_I, if_pos rfl]
    erw [g3]
    rw [cI_I, c_bc (by omega), cI_I]
    obtain ⟨M', k1, k2⟩ := c_worth (X := X) (d := d) hS he hR (valsR S c wary b cord h)
    refine ⟨M', ?_, k2⟩
    erw [k1]
    rw [cI_I, b01_t]
theorem m_bound (hS : MS S M) (hF : WF S) (hR : WR S) {c wary b cord h : Nat} (hc : c < nC S) (hb : b ≤ 63) : ∃ M', fn X (d + 3) 254 [rv 59, iv (c : Int), iv (wary : Int), iv (b : Int), iv (cord : Int), iv (h : Int)] M = oI (b01 (bd S c wary b cord h)) M' ∧ sf P9394 M M' := by
  have h6 := hF.1
  obtain ⟨e0, e3, -⟩ := hS.2.2.2.2.1 c hc
  have hr := hS.2.2.2.2.2.2.2.2.2
  rw [q_254_59]
  unfold bd
  by_cases he : rul S = []
  · refine ⟨M, ?_, sf.rf⟩
    have hm : M.2.1 59 6 = -1 := by
      rcases hr with ⟨-, z⟩ | ⟨z, -⟩
      · exact z
      · exact absurd he z
    rw [if_pos he, if_pos hm, gdx (by omega) (by omega), Int.toNat_natCast, e0]
    by_cases h2 : cord < cre S c 0
    · rw [if_pos (by omega), show decide (cre S c 0 ≤ cord) = false from decide_eq_false (by omega), Bool.and_false]
      rfl
    · rw [if_neg (by omega)]
      by_cases h1 : cord = 0
      · rw [if_pos (by omega)]
        simp [h1, b01]
      · rw [if_neg (by omega), show decide (cre S c 0 ≤ cord) = true from decide_eq_true (by omega), show decide (cord ≠ 0) = true from decide_eq_true h1]
        rfl
  · have hm : M.2.1 59 6 ≠ -1 := by
      rcases hr with ⟨z, -⟩ | ⟨-, p, z, -⟩
      · exact absurd z he
      · rw [z]
        omega
    rw [if_neg he, if_neg hm]
    simp only [Int.toNat_natCast, e0]
    rw [gdx (by omega) (by omega), m_bits (by omega), cI_I, gdx (by omega) (by omega)]
    have f1 : ∀ (M1 : rM) (x y z : Int), (puI (puI (puI M1 93 0 x) 93 1 y) 93 2 z).2.1 61 c = M1.2.1 61 c := fun M1 x y z => by
      simp only [puI_ne (show (61 : Nat) ≠ 93 by omega)]
    have f2 : ∀ (M1 : rM) (x y z : Int), (puI (puI (puI M1 93 0 x) 93 1 y) 93 2 z).2.1 59 6 = M1.2.1 59 6 := fun M1 x y z => by
      simp only [puI_ne (show (59 : Nat) ≠ 93 by omega)]
    rw [f1, f2, e3]
    have hS' : MS S (puI (puI (puI (puI (puI (puI M 93 0 (cord : Int)) 93 1 (cre S c 0 : Int)) 93 2 (wary : Int)) 93 3 (pc b : Int)) 93 4 (cre S c 3 : Int)) 93 5 (h : Int)) := by
      unfold MS at hS ⊢
      simp only [puI_ne (show (59 : Nat) ≠ 93 by omega), puI_ne (show (60 : Nat) ≠ 93 by omega), puI_ne (show (61 : Nat) ≠ 93 by omega), puI_ne (show (62 : Nat) ≠ 93 by omega), puI_ne (show (63 : Nat) ≠ 93 by omega), puI_ne (show (64 : Nat) ≠ 93 by omega), puI_ne (show (65 : Nat) ≠ 93 by omega), puI_ne (show (66 : Nat) ≠ 93 by omega), puI_ne (show (67 : Nat) ≠ 93 by omega), puI_ne (show (68 : Nat) ≠ 93 by omega), puI_ne (show (69 : Nat) ≠ 93 by omega), puI_ne (show (70 : Nat) ≠ 93 by omega), puI_ne (show (71 : Nat) ≠ 93 by omega), puI_ne (show (72 : Nat) ≠ 93 by omega)]
      exact hS
    obtain ⟨M', k1, k2⟩ := m_reckon (X := X) (d := d) hS' he hR (valsR S c wary b cord h) (fun k hk => by
      have : k = 0 ∨ k = 1 ∨ k = 2 ∨ k = 3 ∨ k = 4 ∨ k = 5 := by omega
      rcases this with rfl | rfl | rfl | rfl | rfl | rfl <;> simp [puI_at, valsR])
    have f3 : (puI (puI (puI (puI (puI (puI M 93 0 (cord : Int)) 93 1 (cre S c 0 : Int)) 93 2 (wary : Int)) 93 3 (pc b : Int)) 93 4 (cre S c 3 : Int)) 93 5 (h : Int)).2.1 59 6 = M.2.1 59 6 := by
      simp only [puI_ne (show (59 : Nat) ≠ 93 by omega)]
    rw [f3] at k1
    refine ⟨M', ?_, ?_⟩
    · rw [k1, cI_I, b01_t]
    · refine sf.tr ?_ (k2.mo (fun k j hq => ?_))
      · exact (((((sf.rf.pu rfl _).pu rfl _).pu rfl _).pu rfl _).pu rfl _).pu rfl _
      · simp only [P9394, Bool.or_eq_false_iff] at hq
        exact hq.2
end C39b

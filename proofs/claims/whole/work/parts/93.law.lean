/-! ===== the law's loop ===== -/
/-- what is owed of sky -/
def SkyP : Prop := ∀ (X : Nat × (Nat → Int32)) (A : AS) (M : rM) (n : Int), rgi n → OKA A → CH A M → MH A M → ∃ A' k v w, OKA A' ∧ wOut A' k v M (fn X 100 323 [rv 0, iv n, rv 111] M) ∧ (∀ M1, MH A M1 → mOut A' k w M1 (fn X 100 244 [rv 59, iv n] M1)) ∧ (k = 0 → w = v)
/-- one call of the law, from a stop to the end of the loop's body -/
def Lstp (X : Nat × (Nat → Int32)) (i : Int) (pc : Nat) (M : rM) : Prop := ∃ A' M' e, OKA A' ∧ CH A' M' ∧ MH A' M' ∧ (M'.1 = M.1 ∨ M'.1 = sa_tc M.1) ∧ ∀ n o, kb X 100 362 n 2438 (lw_lo i) [] M' = some o → kb X 100 362 (n + e) pc (lw_lo i) [] M = some o
theorem ans_if {p : Prop} [Decidable p] {x v : Int} (h : (ans p x).1 = 0) : (if p then v else 0) = v := by
  unfold ans at h
  by_cases z : p
  · rw [if_pos z]
  · rw [if_neg z] at h
    cases h
theorem ans_sn {p : Prop} [Decidable p] {v : Int} (h : (ans p v).1 = 0) : (ans p v).2 = v := by
  unfold ans at h ⊢
  by_cases z : p
  · rw [if_pos z]
  · rw [if_neg z] at h
    cases h
theorem if_01 {p : Prop} [Decidable p] {v : Int} (h : (if p then 0 else 1) = 0) : (if p then v else 0) = v := by
  by_cases z : p
  · rw [if_pos z]
  · rw [if_neg z] at h
    cases h
theorem if_off {p q : Prop} [Decidable p] [Decidable q] {v : Int} (h : (if p then 1 else if q then 2 else 0) = 0) : (if p then 0 else if q then 0 else v) = v := by
  by_cases z : p
  · rw [if_pos z] at h
    cases h
  · rw [if_neg z] at h ⊢
    by_cases y : q
    · rw [if_pos y] at h
      cases h
    · rw [if_neg y]
theorem grdV_01 (A : AS) (a : Int) : grdV A a = 0 ∨ grdV A a = 1 := by
  unfold grdV
  split
  · exact Or.inr rfl
  · exact Or.inl rfl
theorem canV_01 (A : AS) (a b z : Int) : canV A a b z = 0 ∨ canV A a b z = 1 := by
  unfold canV
  split
  · unfold b01
    split
    · exact Or.inr rfl
    · exact Or.inl rfl
  · exact Or.inl rfl
section C93
variable {X : Nat × (Nat → Int32)} {A A' : AS} {M : rM} {k : Nat} {v w : Int} {rc : Option rO} {rm : rM → Option rO} {i : Int}
theorem w_go (i : Int) (hc : wOut A' k v M rc) (hd : ∀ M1, MH A M1 → mOut A' k w M1 (rm M1)) (hm : MH A M) (hv : k = 0 → w = v) : ∃ M', CH A' M' ∧ MH A' M' ∧ (M'.1 = M.1 ∨ M'.1 = sa_tc M.1) ∧ ∀ n o, kb X 100 362 n 2438 (lw_lo i) [] M' = some o → cI rc (fun x2 M1 => cI (rm M1) (fun x4 M3 => cI (fn X 100 208 [rv 59] M3) (fun x6 M5 => if x6 = x2 then if x2 = 0 then if jcmp (M5.2.2 111 0) (i2j x4) = 0 then kb X 100 362 n 2438 (lw_lo i) [] M5 else oI 0 M5 else kb X 100 362 n 2438 (lw_lo i) [] M5 else oI 0 M5))) = some o := by
  obtain ⟨M1, e1, e2, e3, e4, e5⟩ := hc
  obtain ⟨M2, f1, f2, f3, f4⟩ := hd M1 (hm.kc e4)
  refine ⟨M2, e3.km f4, f3, by rw [f4.1]; exact e5, fun n o z => ?_⟩
  rw [e1, cI_I, f1, cI_I, q_208_59 (d := 99), cI_I]
  show (if M2.2.1 59 0 = (k : Int) then if (k : Int) = 0 then if jcmp (M2.2.2 111 0) (i2j w) = 0 then _ else _ else _ else _) = _
  rw [if_pos f2]
  by_cases hk : k = 0
  · rw [if_pos (show (k : Int) = 0 by omega), f4.2.2, e2 hk, hv hk, if_pos (jcmp_eq.2 rfl)]
    exact z
  · rw [if_neg (show ¬ (k : Int) = 0 by omega)]
    exact z
theorem w_gob (i : Int) (hc : wOut A' k v M rc) (hd : ∀ M1, MH A M1 → mOut A' k w M1 (rm M1)) (hm : MH A M) (hv : k = 0 → w = v) (hb : v = 0 ∨ v = 1) : ∃ M', CH A' M' ∧ MH A' M' ∧ (M'.1 = M.1 ∨ M'.1 = sa_tc M.1) ∧ ∀ n o, kb X 100 362 n 2438 (lw_lo i) [] M' = some o → cI rc (fun x2 M1 => cI (rm M1) (fun x4 M3 => cI (fn X 100 208 [rv 59] M3) (fun x6 M5 => if x6 = x2 then if x2 = 0 then if x4 = 0 then if jcmp (M5.2.2 111 0) (Int64.ofNat 0) = 0 then kb X 100 362 n 2438 (lw_lo i) [] M5 else oI 0 M5 else if jcmp (M5.2.2 111 0) (Int64.ofNat 1) = 0 then kb X 100 362 n 2438 (lw_lo i) [] M5 else oI 0 M5 else kb X 100 362 n 2438 (lw_lo i) [] M5 else oI 0 M5))) = some o := by
  obtain ⟨M1, e1, e2, e3, e4, e5⟩ := hc
  obtain ⟨M2, f1, f2, f3, f4⟩ := hd M1 (hm.kc e4)
  refine ⟨M2, e3.km f4, f3, by rw [f4.1]; exact e5, fun n o z => ?_⟩
  rw [e1, cI_I, f1, cI_I, q_208_59 (d := 99), cI_I]
  show (if M2.2.1 59 0 = (k : Int) then if (k : Int) = 0 then if w = 0 then if jcmp (M2.2.2 111 0) (Int64.ofNat 0) = 0 then _ else _ else if jcmp (M2.2.2 111 0) (Int64.ofNat 1) = 0 then _ else _ else _ else _) = _
  rw [if_pos f2]
  by_cases hk : k = 0
  · rw [if_pos (show (k : Int) = 0 by omega), f4.2.2, e2 hk]
    rcases hb with hb | hb
    · rw [if_pos (show w = 0 from (hv hk).trans hb), hb, if_pos (jcmp_eq.2 i2j_01.1)]
      exact z
    · rw [if_neg (show ¬ w = 0 by rw [hv hk, hb]; decide), hb, if_pos (jcmp_eq.2 i2j_01.2)]
      exact z
  · rw [if_neg (show ¬ (k : Int) = 0 by omega)]
    exact z
theorem p_go (i : Int) (hc : ∃ M2, rc = oI v M2 ∧ CH A' M2 ∧ kC M M2 ∧ M2.1 = M.1) (hd : ∀ M1, MH A M1 → ∃ M2, rm M1 = oI v M2 ∧ MH A' M2 ∧ kM M1 M2) (hm : MH A M) : ∃ M', CH A' M' ∧ MH A' M' ∧ M'.1 = M.1 ∧ ∀ n o, kb X 100 362 n 2438 (lw_lo i) [] M' = some o → cI rc (fun x2 M1 => cI (rm M1) (fun x4 M3 => if x2 = x4 then kb X 100 362 n 2438 (lw_lo i) [] M3 else oI 0 M3)) = some o := by
  obtain ⟨M1, e1, e3, e4, e5⟩ := hc
  obtain ⟨M2, f1, f3, f4⟩ := hd M1 (hm.kc e4)
  refine ⟨M2, e3.km f4, f3, by rw [f4.1]; exact e5, fun n o z => ?_⟩
  rw [e1]
  show cI (rm M1) _ = _
  rw [f1]
  show (if v = v then _ else _) = _
  rw [if_pos rfl]
  exact z
theorem v_go (i : Int) (hc : ∃ M2, rc = oV M2 ∧ CH A' M2 ∧ kC M M2 ∧ M2.1 = M.1) (hd : ∀ M1, MH A M1 → ∃ M2, rm M1 = oV M2 ∧ MH A' M2 ∧ kM M1 M2) (hm : MH A M) : ∃ M', CH A' M' ∧ MH A' M' ∧ M'.1 = M.1 ∧ ∀ n o, kb X 100 362 n 2438 (lw_lo i) [] M' = some o → cV rc (fun M1 => cV (rm M1) (fun M3 => kb X 100 362 n 2438 (lw_lo i) [] M3)) = some o := by
  obtain ⟨M1, e1, e3, e4, e5⟩ := hc
  obtain ⟨M2, f1, f3, f4⟩ := hd M1 (hm.kc e4)
  refine ⟨M2, e3.km f4, f3, by rw [f4.1]; exact e5, fun n o z => ?_⟩
  rw [e1]
  show cV (rm M1) _ = _
  rw [f1]
  exact z
theorem st_362 (hA : OKA A) (h : CH A M) (hm : MH A M) (g1 : 0 ≤ wr (i + 1) ∧ wr (i + 1) < (X.1 : Int)) : Lstp X i 362 M := by
  have hc : wOut _ _ _ M (fn X 100 324 [rv 0, iv ((X.2 (wr (i + 1)).toNat).toInt), rv 111] M) := c_count hA h _
  have hd : ∀ M1, MH A M1 → mOut _ _ _ M1 (fn X 100 262 [rv 59, iv ((X.2 (wr (i + 1)).toNat).toInt)] M1) := fun M1 z => m_count hA z _
  obtain ⟨M', e1, e2, e3, e4⟩ := w_go i hc hd hm (by intro z; first | exact ans_if z | exact ans_sn z | exact if_01 z | exact if_pos z | exact if_off z)
  exact ⟨_, M', 1, hA, e1, e2, e3, fun n o z => q_362_at362 i M (by simp only [gdp g1]; exact e4 n o z)⟩
theorem st_418 (hA : OKA A) (h : CH A M) (hm : MH A M) (g1 : 0 ≤ wr (i + 1) ∧ wr (i + 1) < (X.1 : Int)) (g2 : 0 ≤ wr (i + 2) ∧ wr (i + 2) < (X.1 : Int)) : Lstp X i 418 M := by
  have hc : wOut _ _ _ M (fn X 100 325 [rv 0, iv ((X.2 (wr (i + 1)).toNat).toInt), iv ((X.2 (wr (i + 2)).toNat).toInt), rv 111] M) := c_creature hA h _ _
  have hd : ∀ M1, MH A M1 → mOut _ _ _ M1 (fn X 100 267 [rv 59, iv ((X.2 (wr (i + 1)).toNat).toInt), iv ((X.2 (wr (i + 2)).toNat).toInt)] M1) := fun M1 z => m_creature hA z _ _
  obtain ⟨M', e1, e2, e3, e4⟩ := w_go i hc hd hm (by intro z; first | exact ans_if z | exact ans_sn z | exact if_01 z | exact if_pos z | exact if_off z)
  exact ⟨_, M', 1, hA, e1, e2, e3, fun n o z => q_362_at418 i M (by simp only [gdp g1, gdp g2]; exact e4 n o z)⟩
theorem st_486 (hA : OKA A) (h : CH A M) (hm : MH A M) (g1 : 0 ≤ wr (i + 1) ∧ wr (i + 1) < (X.1 : Int)) (g2 : 0 ≤ wr (i + 2) ∧ wr (i + 2) < (X.1 : Int)) : Lstp X i 486 M := by
  have hc : wOut _ _ _ M (fn X 100 326 [rv 0, iv ((X.2 (wr (i + 1)).toNat).toInt), iv ((X.2 (wr (i + 2)).toNat).toInt), rv 111] M) := c_trick hA h _ _
  have hd : ∀ M1, MH A M1 → mOut _ _ _ M1 (fn X 100 268 [rv 59, iv ((X.2 (wr (i + 1)).toNat).toInt), iv ((X.2 (wr (i + 2)).toNat).toInt)] M1) := fun M1 z => m_trick hA z _ _
  obtain ⟨M', e1, e2, e3, e4⟩ := w_go i hc hd hm (by intro z; first | exact ans_if z | exact ans_sn z | exact if_01 z | exact if_pos z | exact if_off z)
  exact ⟨_, M', 1, hA, e1, e2, e3, fun n o z => q_362_at486 i M (by simp only [gdp g1, gdp g2]; exact e4 n o z)⟩
theorem st_554 (hA : OKA A) (h : CH A M) (hm : MH A M) (g1 : 0 ≤ wr (i + 1) ∧ wr (i + 1) < (X.1 : Int)) (g2 : 0 ≤ wr (i + 2) ∧ wr (i + 2) < (X.1 : Int)) : Lstp X i 554 M := by
  have hc : wOut _ _ _ M (fn X 100 327 [rv 0, iv ((X.2 (wr (i + 1)).toNat).toInt), iv ((X.2 (wr (i + 2)).toNat).toInt), rv 111] M) := c_attempt hA h _ _
  have hd : ∀ M1, MH A M1 → mOut _ _ _ M1 (fn X 100 269 [rv 59, iv ((X.2 (wr (i + 1)).toNat).toInt), iv ((X.2 (wr (i + 2)).toNat).toInt)] M1) := fun M1 z => m_attempt hA z _ _
  obtain ⟨M', e1, e2, e3, e4⟩ := w_go i hc hd hm (by intro z; first | exact ans_if z | exact ans_sn z | exact if_01 z | exact if_pos z | exact if_off z)
  exact ⟨_, M', 1, hA.att _ _, e1, e2, e3, fun n o z => q_362_at554 i M (by simp only [gdp g1, gdp g2]; exact e4 n o z)⟩
theorem st_844 (hA : OKA A) (h : CH A M) (hm : MH A M) (g1 : 0 ≤ wr (i + 1) ∧ wr (i + 1) < (X.1 : Int)) (g2 : 0 ≤ wr (i + 2) ∧ wr (i + 2) < (X.1 : Int)) : Lstp X i 844 M := by
  have hc : wOut _ _ _ M (fn X 100 330 [rv 0, iv ((X.2 (wr (i + 1)).toNat).toInt), iv ((X.2 (wr (i + 2)).toNat).toInt), rv 111] M) := c_plan hA h _ _
  have hd : ∀ M1, MH A M1 → mOut _ _ _ M1 (fn X 100 279 [rv 59, iv ((X.2 (wr (i + 1)).toNat).toInt), iv ((X.2 (wr (i + 2)).toNat).toInt)] M1) := fun M1 z => m_plan hA z _ _
  obtain ⟨M', e1, e2, e3, e4⟩ := w_go i hc hd hm (by intro z; first | exact ans_if z | exact ans_sn z | exact if_01 z | exact if_pos z | exact if_off z)
  exact ⟨_, M', 1, hA, e1, e2, e3, fun n o z => q_362_at844 i M (by simp only [gdp g1, gdp g2]; exact e4 n o z)⟩
theorem st_912 (hA : OKA A) (h : CH A M) (hm : MH A M) (g1 : 0 ≤ wr (i + 1) ∧ wr (i + 1) < (X.1 : Int)) : Lstp X i 912 M := by
  have hc : wOut _ _ _ M (fn X 100 331 [rv 0, iv ((X.2 (wr (i + 1)).toNat).toInt), rv 111] M) := c_cheapest hA h _
  have hd : ∀ M1, MH A M1 → mOut _ _ _ M1 (fn X 100 281 [rv 59, iv ((X.2 (wr (i + 1)).toNat).toInt)] M1) := fun M1 z => m_cheapest hA z _
  obtain ⟨M', e1, e2, e3, e4⟩ := w_go i hc hd hm (by intro z; first | exact ans_if z | exact ans_sn z | exact if_01 z | exact if_pos z | exact if_off z)
  exact ⟨_, M', 1, hA, e1, e2, e3, fun n o z => q_362_at912 i M (by simp only [gdp g1]; exact e4 n o z)⟩
theorem st_1055 (hA : OKA A) (h : CH A M) (hm : MH A M) (g1 : 0 ≤ wr (i + 1) ∧ wr (i + 1) < (X.1 : Int)) : Lstp X i 1055 M := by
  have hc : wOut _ _ _ M (fn X 100 333 [rv 0, iv ((X.2 (wr (i + 1)).toNat).toInt), rv 111] M) := c_order hA h _
  have hd : ∀ M1, MH A M1 → mOut _ _ _ M1 (fn X 100 285 [rv 59, iv ((X.2 (wr (i + 1)).toNat).toInt)] M1) := fun M1 z => m_order hA z _
  obtain ⟨M', e1, e2, e3, e4⟩ := w_go i hc hd hm (by intro z; first | exact ans_if z | exact ans_sn z | exact if_01 z | exact if_pos z | exact if_off z)
  exact ⟨_, M', 1, hA, e1, e2, e3, fun n o z => q_362_at1055 i M (by simp only [gdp g1]; exact e4 n o z)⟩
theorem st_1111 (hA : OKA A) (h : CH A M) (hm : MH A M) (g1 : 0 ≤ wr (i + 1) ∧ wr (i + 1) < (X.1 : Int)) : Lstp X i 1111 M := by
  have hc : wOut _ _ _ M (fn X 100 334 [rv 0, iv ((X.2 (wr (i + 1)).toNat).toInt), rv 111] M) := c_stolen hA h _
  have hd : ∀ M1, MH A M1 → mOut _ _ _ M1 (fn X 100 287 [rv 59, iv ((X.2 (wr (i + 1)).toNat).toInt)] M1) := fun M1 z => m_stolen hA z _
  obtain ⟨M', e1, e2, e3, e4⟩ := w_go i hc hd hm (by intro z; first | exact ans_if z | exact ans_sn z | exact if_01 z | exact if_pos z | exact if_off z)
  exact ⟨_, M', 1, hA, e1, e2, e3, fun n o z => q_362_at1111 i M (by simp only [gdp g1]; exact e4 n o z)⟩
theorem st_1167 (hA : OKA A) (h : CH A M) (hm : MH A M) (g1 : 0 ≤ wr (i + 1) ∧ wr (i + 1) < (X.1 : Int)) (g2 : 0 ≤ wr (i + 2) ∧ wr (i + 2) < (X.1 : Int)) : Lstp X i 1167 M := by
  have hc : wOut _ _ _ M (fn X 100 335 [rv 0, iv ((X.2 (wr (i + 1)).toNat).toInt), iv ((X.2 (wr (i + 2)).toNat).toInt), rv 111] M) := c_cord hA h _ _
  have hd : ∀ M1, MH A M1 → mOut _ _ _ M1 (fn X 100 288 [rv 59, iv ((X.2 (wr (i + 1)).toNat).toInt), iv ((X.2 (wr (i + 2)).toNat).toInt)] M1) := fun M1 z => m_cord hA z _ _
  obtain ⟨M', e1, e2, e3, e4⟩ := w_go i hc hd hm (by intro z; first | exact ans_if z | exact ans_sn z | exact if_01 z | exact if_pos z | exact if_off z)
  exact ⟨_, M', 1, hA, e1, e2, e3, fun n o z => q_362_at1167 i M (by simp only [gdp g1, gdp g2]; exact e4 n o z)⟩
theorem st_1235 (hA : OKA A) (h : CH A M) (hm : MH A M) (g1 : 0 ≤ wr (i + 1) ∧ wr (i + 1) < (X.1 : Int)) : Lstp X i 1235 M := by
  have hc : wOut _ _ _ M (fn X 100 336 [rv 0, iv ((X.2 (wr (i + 1)).toNat).toInt), rv 111] M) := c_when hA h _
  have hd : ∀ M1, MH A M1 → mOut _ _ _ M1 (fn X 100 289 [rv 59, iv ((X.2 (wr (i + 1)).toNat).toInt)] M1) := fun M1 z => m_when hA z _
  obtain ⟨M', e1, e2, e3, e4⟩ := w_go i hc hd hm (by intro z; first | exact ans_if z | exact ans_sn z | exact if_01 z | exact if_pos z | exact if_off z)
  exact ⟨_, M', 1, hA, e1, e2, e3, fun n o z => q_362_at1235 i M (by simp only [gdp g1]; exact e4 n o z)⟩
theorem st_1291 (hA : OKA A) (h : CH A M) (hm : MH A M) (g1 : 0 ≤ wr (i + 1) ∧ wr (i + 1) < (X.1 : Int)) : Lstp X i 1291 M := by
  have hc : wOut _ _ _ M (fn X 100 337 [rv 0, iv ((X.2 (wr (i + 1)).toNat).toInt), rv 111] M) := c_toGuard hA h _
  have hd : ∀ M1, MH A M1 → mOut _ _ _ M1 (fn X 100 291 [rv 59, iv ((X.2 (wr (i + 1)).toNat).toInt)] M1) := fun M1 z => m_toGuard hA z _
  obtain ⟨M', e1, e2, e3, e4⟩ := w_go i hc hd hm (by intro z; first | exact ans_if z | exact ans_sn z | exact if_01 z | exact if_pos z | exact if_off z)
  exact ⟨_, M', 1, hA, e1, e2, e3, fun n o z => q_362_at1291 i M (by simp only [gdp g1]; exact e4 n o z)⟩
theorem st_1347 (hA : OKA A) (h : CH A M) (hm : MH A M) (g1 : 0 ≤ wr (i + 1) ∧ wr (i + 1) < (X.1 : Int)) (g2 : 0 ≤ wr (i + 2) ∧ wr (i + 2) < (X.1 : Int)) : Lstp X i 1347 M := by
  have hc : wOut _ _ _ M (fn X 100 338 [rv 0, iv ((X.2 (wr (i + 1)).toNat).toInt), iv ((X.2 (wr (i + 2)).toNat).toInt), rv 111] M) := c_payers hA h (rg_t _) _
  have hd : ∀ M1, MH A M1 → mOut _ _ _ M1 (fn X 100 294 [rv 59, iv ((X.2 (wr (i + 1)).toNat).toInt), iv ((X.2 (wr (i + 2)).toNat).toInt)] M1) := fun M1 z => m_payers hA z _ _
  obtain ⟨M', e1, e2, e3, e4⟩ := w_go i hc hd hm (by intro z; first | exact ans_if z | exact ans_sn z | exact if_01 z | exact if_pos z | exact if_off z)
  exact ⟨_, M', 1, hA, e1, e2, e3, fun n o z => q_362_at1347 i M (by simp only [gdp g1, gdp g2]; exact e4 n o z)⟩
theorem st_1415 (hA : OKA A) (h : CH A M) (hm : MH A M) (g1 : 0 ≤ wr (i + 1) ∧ wr (i + 1) < (X.1 : Int)) (g2 : 0 ≤ wr (i + 2) ∧ wr (i + 2) < (X.1 : Int)) : Lstp X i 1415 M := by
  have hc : wOut _ _ _ M (fn X 100 339 [rv 0, iv ((X.2 (wr (i + 1)).toNat).toInt), iv ((X.2 (wr (i + 2)).toNat).toInt), rv 111] M) := c_few hA h (rg_t _) _
  have hd : ∀ M1, MH A M1 → mOut _ _ _ M1 (fn X 100 295 [rv 59, iv ((X.2 (wr (i + 1)).toNat).toInt), iv ((X.2 (wr (i + 2)).toNat).toInt)] M1) := fun M1 z => m_few hA z _ _
  obtain ⟨M', e1, e2, e3, e4⟩ := w_go i hc hd hm (by intro z; first | exact ans_if z | exact ans_sn z | exact if_01 z | exact if_pos z | exact if_off z)
  exact ⟨_, M', 1, hA, e1, e2, e3, fun n o z => q_362_at1415 i M (by simp only [gdp g1, gdp g2]; exact e4 n o z)⟩
theorem st_1496 (hA : OKA A) (h : CH A M) (hm : MH A M) (g1 : 0 ≤ wr (i + 1) ∧ wr (i + 1) < (X.1 : Int)) (g2 : 0 ≤ wr (i + 2) ∧ wr (i + 2) < (X.1 : Int)) : Lstp X i 1496 M := by
  have hc : wOut _ _ _ M (fn X 100 340 [rv 0, iv ((X.2 (wr (i + 1)).toNat).toInt), iv ((X.2 (wr (i + 2)).toNat).toInt), rv 111] M) := c_borrowed hA h _ _
  have hd : ∀ M1, MH A M1 → mOut _ _ _ M1 (fn X 100 298 [rv 59, iv ((X.2 (wr (i + 1)).toNat).toInt), iv ((X.2 (wr (i + 2)).toNat).toInt)] M1) := fun M1 z => m_borrowed hA z _ _
  obtain ⟨M', e1, e2, e3, e4⟩ := w_go i hc hd hm (by intro z; first | exact ans_if z | exact ans_sn z | exact if_01 z | exact if_pos z | exact if_off z)
  exact ⟨_, M', 1, hA, e1, e2, e3, fun n o z => q_362_at1496 i M (by simp only [gdp g1, gdp g2]; exact e4 n o z)⟩
theorem st_1683 (hA : OKA A) (h : CH A M) (hm : MH A M) (g1 : 0 ≤ wr (i + 1) ∧ wr (i + 1) < (X.1 : Int)) (g2 : 0 ≤ wr (i + 2) ∧ wr (i + 2) < (X.1 : Int)) (g3 : 0 ≤ wr (i + 3) ∧ wr (i + 3) < (X.1 : Int)) : Lstp X i 1683 M := by
  have hc : wOut _ _ _ M (fn X 100 342 [rv 0, iv ((X.2 (wr (i + 1)).toNat).toInt), iv ((X.2 (wr (i + 2)).toNat).toInt), iv ((X.2 (wr (i + 3)).toNat).toInt), rv 111] M) := c_how hA h _ _ _
  have hd : ∀ M1, MH A M1 → mOut _ _ _ M1 (fn X 100 305 [rv 59, iv ((X.2 (wr (i + 1)).toNat).toInt), iv ((X.2 (wr (i + 2)).toNat).toInt), iv ((X.2 (wr (i + 3)).toNat).toInt)] M1) := fun M1 z => m_how hA z _ _ _
  obtain ⟨M', e1, e2, e3, e4⟩ := w_go i hc hd hm (by intro z; first | exact ans_if z | exact ans_sn z | exact if_01 z | exact if_pos z | exact if_off z)
  exact ⟨_, M', 1, hA, e1, e2, e3, fun n o z => q_362_at1683 i M (by simp only [gdp g1, gdp g2, gdp g3]; exact e4 n o z)⟩
theorem st_1763 (hA : OKA A) (h : CH A M) (hm : MH A M) (g1 : 0 ≤ wr (i + 1) ∧ wr (i + 1) < (X.1 : Int)) (g2 : 0 ≤ wr (i + 2) ∧ wr (i + 2) < (X.1 : Int)) (g3 : 0 ≤ wr (i + 3) ∧ wr (i + 3) < (X.1 : Int)) : Lstp X i 1763 M := by
  have hc : wOut _ _ _ M (fn X 100 343 [rv 0, iv ((X.2 (wr (i + 1)).toNat).toInt), iv ((X.2 (wr (i + 2)).toNat).toInt), iv ((X.2 (wr (i + 3)).toNat).toInt), rv 111] M) := c_next hA h _ _ _
  have hd : ∀ M1, MH A M1 → mOut _ _ _ M1 (fn X 100 306 [rv 59, iv ((X.2 (wr (i + 1)).toNat).toInt), iv ((X.2 (wr (i + 2)).toNat).toInt), iv ((X.2 (wr (i + 3)).toNat).toInt)] M1) := fun M1 z => m_next hA z _ _ _
  obtain ⟨M', e1, e2, e3, e4⟩ := w_go i hc hd hm (by intro z; first | exact ans_if z | exact ans_sn z | exact if_01 z | exact if_pos z | exact if_off z)
  exact ⟨_, M', 1, hA, e1, e2, e3, fun n o z => q_362_at1763 i M (by simp only [gdp g1, gdp g2, gdp g3]; exact e4 n o z)⟩
theorem st_1843 (hA : OKA A) (h : CH A M) (hm : MH A M) (g1 : 0 ≤ wr (i + 1) ∧ wr (i + 1) < (X.1 : Int)) (g2 : 0 ≤ wr (i + 2) ∧ wr (i + 2) < (X.1 : Int)) (g3 : 0 ≤ wr (i + 3) ∧ wr (i + 3) < (X.1 : Int)) (g4 : 0 ≤ wr (i + 4) ∧ wr (i + 4) < (X.1 : Int)) : Lstp X i 1843 M := by
  have hc : wOut _ _ _ M (fn X 100 344 [rv 0, iv ((X.2 (wr (i + 1)).toNat).toInt), iv ((X.2 (wr (i + 2)).toNat).toInt), iv ((X.2 (wr (i + 3)).toNat).toInt), iv ((X.2 (wr (i + 4)).toNat).toInt), rv 111] M) := c_game hA h _ _ _ _
  have hd : ∀ M1, MH A M1 → mOut _ _ _ M1 (fn X 100 308 [rv 59, iv ((X.2 (wr (i + 1)).toNat).toInt), iv ((X.2 (wr (i + 2)).toNat).toInt), iv ((X.2 (wr (i + 3)).toNat).toInt), iv ((X.2 (wr (i + 4)).toNat).toInt)] M1) := fun M1 z => m_game hA z _ _ _ _
  obtain ⟨M', e1, e2, e3, e4⟩ := w_go i hc hd hm (by intro z; first | exact ans_if z | exact ans_sn z | exact if_01 z | exact if_pos z | exact if_off z)
  exact ⟨_, M', 1, hA, e1, e2, e3, fun n o z => q_362_at1843 i M (by simp only [gdp g1, gdp g2, gdp g3, gdp g4]; exact e4 n o z)⟩
theorem st_1935 (hA : OKA A) (h : CH A M) (hm : MH A M) (g1 : 0 ≤ wr (i + 1) ∧ wr (i + 1) < (X.1 : Int)) (g2 : 0 ≤ wr (i + 2) ∧ wr (i + 2) < (X.1 : Int)) (g3 : 0 ≤ wr (i + 3) ∧ wr (i + 3) < (X.1 : Int)) : Lstp X i 1935 M := by
  have hc : wOut _ _ _ M (fn X 100 345 [rv 0, iv ((X.2 (wr (i + 1)).toNat).toInt), iv ((X.2 (wr (i + 2)).toNat).toInt), iv ((X.2 (wr (i + 3)).toNat).toInt), rv 111] M) := c_spiders hA h _ _ _
  have hd : ∀ M1, MH A M1 → mOut _ _ _ M1 (fn X 100 311 [rv 59, iv ((X.2 (wr (i + 1)).toNat).toInt), iv ((X.2 (wr (i + 2)).toNat).toInt), iv ((X.2 (wr (i + 3)).toNat).toInt)] M1) := fun M1 z => m_spiders hA z _ _ _
  obtain ⟨M', e1, e2, e3, e4⟩ := w_go i hc hd hm (by intro z; first | exact ans_if z | exact ans_sn z | exact if_01 z | exact if_pos z | exact if_off z)
  exact ⟨_, M', 1, hA, e1, e2, e3, fun n o z => q_362_at1935 i M (by simp only [gdp g1, gdp g2, gdp g3]; exact e4 n o z)⟩
theorem st_2015 (hA : OKA A) (h : CH A M) (hm : MH A M) (g1 : 0 ≤ wr (i + 1) ∧ wr (i + 1) < (X.1 : Int)) : Lstp X i 2015 M := by
  have hc : wOut _ _ _ M (fn X 100 346 [rv 0, iv ((X.2 (wr (i + 1)).toNat).toInt), rv 111] M) := c_fooled hA h _
  have hd : ∀ M1, MH A M1 → mOut _ _ _ M1 (fn X 100 312 [rv 59, iv ((X.2 (wr (i + 1)).toNat).toInt)] M1) := fun M1 z => m_fooled hA z _
  obtain ⟨M', e1, e2, e3, e4⟩ := w_go i hc hd hm (by intro z; first | exact ans_if z | exact ans_sn z | exact if_01 z | exact if_pos z | exact if_off z)
  exact ⟨_, M', 1, hA, e1, e2, e3, fun n o z => q_362_at2015 i M (by simp only [gdp g1]; exact e4 n o z)⟩
theorem st_2071 (hA : OKA A) (h : CH A M) (hm : MH A M) (g1 : 0 ≤ wr (i + 1) ∧ wr (i + 1) < (X.1 : Int)) (g2 : 0 ≤ wr (i + 2) ∧ wr (i + 2) < (X.1 : Int)) : Lstp X i 2071 M := by
  have hc : wOut _ _ _ M (fn X 100 347 [rv 0, iv ((X.2 (wr (i + 1)).toNat).toInt), iv ((X.2 (wr (i + 2)).toNat).toInt), rv 111] M) := c_lacking hA h _ _
  have hd : ∀ M1, MH A M1 → mOut _ _ _ M1 (fn X 100 313 [rv 59, iv ((X.2 (wr (i + 1)).toNat).toInt), iv ((X.2 (wr (i + 2)).toNat).toInt)] M1) := fun M1 z => m_lacking hA z _ _
  obtain ⟨M', e1, e2, e3, e4⟩ := w_go i hc hd hm (by intro z; first | exact ans_if z | exact ans_sn z | exact if_01 z | exact if_pos z | exact if_off z)
  exact ⟨_, M', 1, hA, e1, e2, e3, fun n o z => q_362_at2071 i M (by simp only [gdp g1, gdp g2]; exact e4 n o z)⟩
theorem st_2152 (hA : OKA A) (h : CH A M) (hm : MH A M) (g1 : 0 ≤ wr (i + 1) ∧ wr (i + 1) < (X.1 : Int)) : Lstp X i 2152 M := by
  have hc : wOut _ _ _ M (fn X 100 348 [rv 0, iv ((X.2 (wr (i + 1)).toNat).toInt), rv 111] M) := c_firm hA h _
  have hd : ∀ M1, MH A M1 → mOut _ _ _ M1 (fn X 100 316 [rv 59, iv ((X.2 (wr (i + 1)).toNat).toInt)] M1) := fun M1 z => m_firm hA z _
  obtain ⟨M', e1, e2, e3, e4⟩ := w_go i hc hd hm (by intro z; first | exact ans_if z | exact ans_sn z | exact if_01 z | exact if_pos z | exact if_off z)
  exact ⟨_, M', 1, hA, e1, e2, e3, fun n o z => q_362_at2152 i M (by simp only [gdp g1]; exact e4 n o z)⟩
theorem st_2208 (hA : OKA A) (h : CH A M) (hm : MH A M) (g1 : 0 ≤ wr (i + 1) ∧ wr (i + 1) < (X.1 : Int)) : Lstp X i 2208 M := by
  have hc : wOut _ _ _ M (fn X 100 349 [rv 0, iv ((X.2 (wr (i + 1)).toNat).toInt), rv 111] M) := c_loot hA h _
  have hd : ∀ M1, MH A M1 → mOut _ _ _ M1 (fn X 100 317 [rv 59, iv ((X.2 (wr (i + 1)).toNat).toInt)] M1) := fun M1 z => m_loot hA z _
  obtain ⟨M', e1, e2, e3, e4⟩ := w_go i hc hd hm (by intro z; first | exact ans_if z | exact ans_sn z | exact if_01 z | exact if_pos z | exact if_off z)
  exact ⟨_, M', 1, hA, e1, e2, e3, fun n o z => q_362_at2208 i M (by simp only [gdp g1]; exact e4 n o z)⟩
theorem st_2264 (hA : OKA A) (h : CH A M) (hm : MH A M) (g1 : 0 ≤ wr (i + 1) ∧ wr (i + 1) < (X.1 : Int)) (g2 : 0 ≤ wr (i + 2) ∧ wr (i + 2) < (X.1 : Int)) : Lstp X i 2264 M := by
  have hc : wOut _ _ _ M (fn X 100 350 [rv 0, iv ((X.2 (wr (i + 1)).toNat).toInt), iv ((X.2 (wr (i + 2)).toNat).toInt), rv 111] M) := c_offer hA h (rg_t _) _
  have hd : ∀ M1, MH A M1 → mOut _ _ _ M1 (fn X 100 318 [rv 59, iv ((X.2 (wr (i + 1)).toNat).toInt), iv ((X.2 (wr (i + 2)).toNat).toInt)] M1) := fun M1 z => m_offer hA z _ _
  obtain ⟨M', e1, e2, e3, e4⟩ := w_go i hc hd hm (by intro z; first | exact ans_if z | exact ans_sn z | exact if_01 z | exact if_pos z | exact if_off z)
  exact ⟨_, M', 1, hA, e1, e2, e3, fun n o z => q_362_at2264 i M (by simp only [gdp g1, gdp g2]; exact e4 n o z)⟩
theorem st_2332 (hA : OKA A) (h : CH A M) (hm : MH A M) (g1 : 0 ≤ wr (i + 1) ∧ wr (i + 1) < (X.1 : Int)) : Lstp X i 2332 M := by
  have hc : wOut _ _ _ M (fn X 100 351 [rv 0, iv ((X.2 (wr (i + 1)).toNat).toInt), rv 111] M) := c_alone hA h _
  have hd : ∀ M1, MH A M1 → mOut _ _ _ M1 (fn X 100 319 [rv 59, iv ((X.2 (wr (i + 1)).toNat).toInt)] M1) := fun M1 z => m_alone hA z _
  obtain ⟨M', e1, e2, e3, e4⟩ := w_go i hc hd hm (by intro z; first | exact ans_if z | exact ans_sn z | exact if_01 z | exact if_pos z | exact if_off z)
  exact ⟨_, M', 1, hA, e1, e2, e3, fun n o z => q_362_at2332 i M (by simp only [gdp g1]; exact e4 n o z)⟩
theorem st_647 (hA : OKA A) (h : CH A M) (hm : MH A M) (g1 : 0 ≤ wr (i + 1) ∧ wr (i + 1) < (X.1 : Int)) : Lstp X i 647 M := by
  have hc : wOut _ _ _ M (fn X 100 328 [rv 0, iv ((X.2 (wr (i + 1)).toNat).toInt), rv 111] M) := c_guardX hA h _
  have hd : ∀ M1, MH A M1 → mOut _ _ _ M1 (fn X 100 271 [rv 59, iv ((X.2 (wr (i + 1)).toNat).toInt)] M1) := fun M1 z => m_guardX hA z _
  obtain ⟨M', e1, e2, e3, e4⟩ := w_gob i hc hd hm (by intro z; first | exact ans_if z | exact ans_sn z | exact if_01 z | exact if_pos z | exact if_off z) (grdV_01 _ _)
  exact ⟨_, M', 1, hA.grd _, e1, e2, e3, fun n o z => q_362_at647 i M (by simp only [gdp g1]; exact e4 n o z)⟩
theorem st_968 (hA : OKA A) (h : CH A M) (hm : MH A M) (g1 : 0 ≤ wr (i + 1) ∧ wr (i + 1) < (X.1 : Int)) (g2 : 0 ≤ wr (i + 2) ∧ wr (i + 2) < (X.1 : Int)) (g3 : 0 ≤ wr (i + 3) ∧ wr (i + 3) < (X.1 : Int)) : Lstp X i 968 M := by
  have hc : wOut _ _ _ M (fn X 100 332 [rv 0, iv ((X.2 (wr (i + 1)).toNat).toInt), iv ((X.2 (wr (i + 2)).toNat).toInt), iv ((X.2 (wr (i + 3)).toNat).toInt), rv 111] M) := c_can hA h _ _ _
  have hd : ∀ M1, MH A M1 → mOut _ _ _ M1 (fn X 100 282 [rv 59, iv ((X.2 (wr (i + 1)).toNat).toInt), iv ((X.2 (wr (i + 2)).toNat).toInt), iv ((X.2 (wr (i + 3)).toNat).toInt)] M1) := fun M1 z => m_can hA z _ _ _
  obtain ⟨M', e1, e2, e3, e4⟩ := w_gob i hc hd hm (by intro z; first | exact ans_if z | exact ans_sn z | exact if_01 z | exact if_pos z | exact if_off z) (canV_01 _ _ _ _)
  exact ⟨_, M', 1, hA, e1, e2, e3, fun n o z => q_362_at968 i M (by simp only [gdp g1, gdp g2, gdp g3]; exact e4 n o z)⟩
theorem st_220 (hA : OKA A) (h : CH A M) (hm : MH A M) (g1 : 0 ≤ wr (i + 1) ∧ wr (i + 1) < (X.1 : Int)) (g2 : 0 ≤ wr (i + 2) ∧ wr (i + 2) < (X.1 : Int)) (g3 : 0 ≤ wr (i + 3) ∧ wr (i + 3) < (X.1 : Int)) (g4 : 0 ≤ wr (i + 4) ∧ wr (i + 4) < (X.1 : Int)) (g5 : 0 ≤ wr (i + 5) ∧ wr (i + 5) < (X.1 : Int)) : Lstp X i 220 M := by
  have hc : ∃ M2, fn X 100 150 [rv 0, iv ((X.2 (wr (i + 1)).toNat).toInt), iv ((X.2 (wr (i + 2)).toNat).toInt), iv ((X.2 (wr (i + 3)).toNat).toInt), iv ((X.2 (wr (i + 4)).toNat).toInt), iv ((X.2 (wr (i + 5)).toNat).toInt)] M = oI _ M2 ∧ CH _ M2 ∧ kC M M2 ∧ M2.1 = M.1 := c_feed hA h _ _ _ _ _
  have hd : ∀ M1, MH A M1 → ∃ M2, fn X 100 214 [rv 59, iv ((X.2 (wr (i + 1)).toNat).toInt), iv ((X.2 (wr (i + 2)).toNat).toInt), iv ((X.2 (wr (i + 3)).toNat).toInt), iv ((X.2 (wr (i + 4)).toNat).toInt), iv ((X.2 (wr (i + 5)).toNat).toInt)] M1 = oI _ M2 ∧ MH _ M2 ∧ kM M1 M2 := fun M1 z => m_feed hA z _ _ _ _ _
  obtain ⟨M', e1, e2, e3, e4⟩ := p_go (X := X) i hc hd hm
  exact ⟨_, M', 1, hA.fed _ _ _ _ _, e1, e2, Or.inl e3, fun n o z => q_362_at220 i M (by simp only [gdp g1, gdp g2, gdp g3, gdp g4, gdp g5]; exact e4 n o z)⟩
theorem st_349 (hA : OKA A) (h : CH A M) (hm : MH A M)  : Lstp X i 349 M := by
  have hc : ∃ M2, fn X 100 153 [rv 0] M = oI _ M2 ∧ CH A M2 ∧ kC M M2 ∧ M2.1 = M.1 := ⟨M, c_fault h, h, kC.rf, rfl⟩
  have hd : ∀ M1, MH A M1 → ∃ M2, fn X 100 245 [rv 59] M1 = oI _ M2 ∧ MH _ M2 ∧ kM M1 M2 := fun M1 z => m_fault z
  obtain ⟨M', e1, e2, e3, e4⟩ := p_go (X := X) i hc hd hm
  exact ⟨_, M', 1, hA, e1, e2, Or.inl e3, fun n o z => q_362_at349 i M (by exact e4 n o z)⟩
theorem st_622 (hA : OKA A) (h : CH A M) (hm : MH A M) (g1 : 0 ≤ wr (i + 1) ∧ wr (i + 1) < (X.1 : Int)) : Lstp X i 622 M := by
  have hc : ∃ M2, fn X 100 158 [rv 0, iv ((X.2 (wr (i + 1)).toNat).toInt)] M = oI _ M2 ∧ CH _ M2 ∧ kC M M2 ∧ M2.1 = M.1 := c_days hA h _
  have hd : ∀ M1, MH A M1 → ∃ M2, fn X 100 270 [rv 59, iv ((X.2 (wr (i + 1)).toNat).toInt)] M1 = oI _ M2 ∧ MH _ M2 ∧ kM M1 M2 := fun M1 z => m_days hA z _
  obtain ⟨M', e1, e2, e3, e4⟩ := p_go (X := X) i hc hd hm
  exact ⟨_, M', 1, hA.dys _, e1, e2, Or.inl e3, fun n o z => q_362_at622 i M (by simp only [gdp g1]; exact e4 n o z)⟩
theorem st_710 (hA : OKA A) (h : CH A M) (hm : MH A M) (g1 : 0 ≤ wr (i + 1) ∧ wr (i + 1) < (X.1 : Int)) : Lstp X i 710 M := by
  have hc : ∃ M2, fn X 100 160 [rv 0, iv ((X.2 (wr (i + 1)).toNat).toInt)] M = oI _ M2 ∧ CH _ M2 ∧ kC M M2 ∧ M2.1 = M.1 := c_give hA h _
  have hd : ∀ M1, MH A M1 → ∃ M2, fn X 100 272 [rv 59, iv ((X.2 (wr (i + 1)).toNat).toInt)] M1 = oI _ M2 ∧ MH _ M2 ∧ kM M1 M2 := fun M1 z => m_give hA z _
  obtain ⟨M', e1, e2, e3, e4⟩ := p_go (X := X) i hc hd hm
  exact ⟨_, M', 1, hA.giv _, e1, e2, Or.inl e3, fun n o z => q_362_at710 i M (by simp only [gdp g1]; exact e4 n o z)⟩
theorem st_831 (hA : OKA A) (h : CH A M) (hm : MH A M)  : Lstp X i 831 M := by
  have hc : ∃ M2, fn X 100 162 [rv 0] M = oI _ M2 ∧ CH _ M2 ∧ kC M M2 ∧ M2.1 = M.1 := c_undo hA h
  have hd : ∀ M1, MH A M1 → ∃ M2, fn X 100 248 [rv 59] M1 = oI _ M2 ∧ MH _ M2 ∧ kM M1 M2 := fun M1 z => m_undo hA z
  obtain ⟨M', e1, e2, e3, e4⟩ := p_go (X := X) i hc hd hm
  exact ⟨_, M', 1, hA.und, e1, e2, Or.inl e3, fun n o z => q_362_at831 i M (by exact e4 n o z)⟩
theorem st_1483 (hA : OKA A) (h : CH A M) (hm : MH A M)  : Lstp X i 1483 M := by
  have hc : ∃ M2, fn X 100 173 [rv 0] M = oI _ M2 ∧ CH A M2 ∧ kC M M2 ∧ M2.1 = M.1 := ⟨M, c_tellers hA h, h, kC.rf, rfl⟩
  have hd : ∀ M1, MH A M1 → ∃ M2, fn X 100 297 [rv 59] M1 = oI _ M2 ∧ MH _ M2 ∧ kM M1 M2 := fun M1 z => m_tellers hA z
  obtain ⟨M', e1, e2, e3, e4⟩ := p_go (X := X) i hc hd hm
  exact ⟨_, M', 1, hA, e1, e2, Or.inl e3, fun n o z => q_362_at1483 i M (by exact e4 n o z)⟩
theorem st_2139 (hA : OKA A) (h : CH A M) (hm : MH A M)  : Lstp X i 2139 M := by
  have hc : ∃ M2, fn X 100 183 [rv 0] M = oI _ M2 ∧ CH _ M2 ∧ kC M M2 ∧ M2.1 = M.1 := c_useless hA h
  have hd : ∀ M1, MH A M1 → ∃ M2, fn X 100 315 [rv 59] M1 = oI _ M2 ∧ MH _ M2 ∧ kM M1 M2 := fun M1 z => m_useless hA z
  obtain ⟨M', e1, e2, e3, e4⟩ := p_go (X := X) i hc hd hm
  exact ⟨_, M', 1, hA, e1, e2, Or.inl e3, fun n o z => q_362_at2139 i M (by exact e4 n o z)⟩
theorem st_2388 (hA : OKA A) (h : CH A M) (hm : MH A M)  : Lstp X i 2388 M := by
  have hc : ∃ M2, fn X 100 188 [rv 0] M = oI _ M2 ∧ CH A M2 ∧ kC M M2 ∧ M2.1 = M.1 := ⟨M, c_like hA h, h, kC.rf, rfl⟩
  have hd : ∀ M1, MH A M1 → ∃ M2, fn X 100 320 [rv 59] M1 = oI _ M2 ∧ MH _ M2 ∧ kM M1 M2 := fun M1 z => m_like hA z
  obtain ⟨M', e1, e2, e3, e4⟩ := p_go (X := X) i hc hd hm
  exact ⟨_, M', 1, hA, e1, e2, Or.inl e3, fun n o z => q_362_at2388 i M (by exact e4 n o z)⟩
theorem st_2401 (hA : OKA A) (h : CH A M) (hm : MH A M)  : Lstp X i 2401 M := by
  have hc : ∃ M2, fn X 100 189 [rv 0] M = oI _ M2 ∧ CH _ M2 ∧ kC M M2 ∧ M2.1 = M.1 := c_nearest hA h
  have hd : ∀ M1, MH A M1 → ∃ M2, fn X 100 283 [rv 59] M1 = oI _ M2 ∧ MH _ M2 ∧ kM M1 M2 := fun M1 z => m_nearest hA z
  obtain ⟨M', e1, e2, e3, e4⟩ := p_go (X := X) i hc hd hm
  exact ⟨_, M', 1, hA, e1, e2, Or.inl e3, fun n o z => q_362_at2401 i M (by exact e4 n o z)⟩
theorem st_2425 (hA : OKA A) (h : CH A M) (hm : MH A M)  : Lstp X i 2425 M := by
  have hc : ∃ M2, fn X 100 191 [rv 0] M = oI _ M2 ∧ CH _ M2 ∧ kC M M2 ∧ M2.1 = M.1 := c_restore hA h
  have hd : ∀ M1, MH A M1 → ∃ M2, fn X 100 322 [rv 59] M1 = oI _ M2 ∧ MH _ M2 ∧ kM M1 M2 := fun M1 z => m_restore hA z
  obtain ⟨M', e1, e2, e3, e4⟩ := p_go (X := X) i hc hd hm
  exact ⟨_, M', 1, hA.rst, e1, e2, Or.inl e3, fun n o z => q_362_at2425 i M (by exact e4 n o z)⟩
theorem st_1672 (hA : OKA A) (h : CH A M) (hm : MH A M) : Lstp X i 1672 M := by
  have hc : ∃ M2, fn X 100 176 [rv 0] M = oV M2 ∧ CH _ M2 ∧ kC M M2 ∧ M2.1 = M.1 := c_forget h
  have hd : ∀ M1, MH A M1 → ∃ M2, fn X 100 300 [rv 59] M1 = oV M2 ∧ MH _ M2 ∧ kM M1 M2 := fun M1 z => m_forget z
  obtain ⟨M', e1, e2, e3, e4⟩ := v_go (X := X) i hc hd hm
  exact ⟨_, M', 1, hA.fgt, e1, e2, Or.inl e3, fun n o z => q_362_at1672 i M (e4 n o z)⟩
theorem st_2414 (hA : OKA A) (h : CH A M) (hm : MH A M) : Lstp X i 2414 M := by
  have hc : ∃ M2, fn X 100 190 [rv 0] M = oV M2 ∧ CH _ M2 ∧ kC M M2 ∧ M2.1 = M.1 := c_image hA h
  have hd : ∀ M1, MH A M1 → ∃ M2, fn X 100 321 [rv 59] M1 = oV M2 ∧ MH _ M2 ∧ kM M1 M2 := fun M1 z => m_image hA z
  obtain ⟨M', e1, e2, e3, e4⟩ := v_go (X := X) i hc hd hm
  exact ⟨_, M', 1, hA.img, e1, e2, Or.inl e3, fun n o z => q_362_at2414 i M (e4 n o z)⟩
theorem st_735 (hA : OKA A) (h : CH A M) (hm : MH A M) (g1 : 0 ≤ wr (i + 1) ∧ wr (i + 1) < (X.1 : Int)) (g2 : 0 ≤ wr (i + 2) ∧ wr (i + 2) < (X.1 : Int)) (g3 : 0 ≤ wr (i + 3) ∧ wr (i + 3) < (X.1 : Int)) : Lstp X i 735 M := by
  by_cases hz : ((X.2 (wr (i + 3)).toNat).toInt) = 0
  · have hc : wOut _ _ _ M (fn X 100 329 [rv 0, iv ((X.2 (wr (i + 1)).toNat).toInt), iv ((X.2 (wr (i + 2)).toNat).toInt), iv 0, rv 111] M) := c_tell hA h _ _ 0 (Or.inl rfl)
    have hd : ∀ M1, MH A M1 → mOut _ _ _ M1 (fn X 100 273 [rv 59, iv ((X.2 (wr (i + 1)).toNat).toInt), iv ((X.2 (wr (i + 2)).toNat).toInt), iv 0] M1) := fun M1 z => m_tell hA z _ _ 0 (Or.inl rfl)
    obtain ⟨M', e1, e2, e3, e4⟩ := w_go i hc hd hm (by intro z; first | exact ans_if z | exact ans_sn z | exact if_01 z | exact if_pos z | exact if_off z)
    exact ⟨_, M', 2, hA.tll _ _ _, e1, e2, e3, fun n o z => q_362_at735 i M (by simp only [gdp g1, gdp g2, gdp g3, if_pos hz]; exact q_362_at762 i _ _ _ M (by simp only [gdp g1, gdp g2, gdp g3, if_pos hz]; exact e4 n o z))⟩
  · have hc : wOut _ _ _ M (fn X 100 329 [rv 0, iv ((X.2 (wr (i + 1)).toNat).toInt), iv ((X.2 (wr (i + 2)).toNat).toInt), iv 1, rv 111] M) := c_tell hA h _ _ 1 (Or.inr rfl)
    have hd : ∀ M1, MH A M1 → mOut _ _ _ M1 (fn X 100 273 [rv 59, iv ((X.2 (wr (i + 1)).toNat).toInt), iv ((X.2 (wr (i + 2)).toNat).toInt), iv 1] M1) := fun M1 z => m_tell hA z _ _ 1 (Or.inr rfl)
    obtain ⟨M', e1, e2, e3, e4⟩ := w_go i hc hd hm (by intro z; first | exact ans_if z | exact ans_sn z | exact if_01 z | exact if_pos z | exact if_off z)
    exact ⟨_, M', 2, hA.tll _ _ _, e1, e2, e3, fun n o z => q_362_at735 i M (by simp only [gdp g1, gdp g2, gdp g3, if_neg hz]; exact q_362_at762 i _ _ _ M (by simp only [gdp g1, gdp g2, gdp g3, if_neg hz]; exact e4 n o z))⟩
theorem st_1564 (hA : OKA A) (h : CH A M) (hm : MH A M) (g1 : 0 ≤ wr (i + 1) ∧ wr (i + 1) < (X.1 : Int)) (g2 : 0 ≤ wr (i + 2) ∧ wr (i + 2) < (X.1 : Int)) (g3 : 0 ≤ wr (i + 3) ∧ wr (i + 3) < (X.1 : Int)) (g4 : 0 ≤ wr (i + 4) ∧ wr (i + 4) < (X.1 : Int)) : Lstp X i 1564 M := by
  by_cases hz : ((X.2 (wr (i + 4)).toNat).toInt) = 0
  · have hc : wOut _ _ _ M (fn X 100 341 [rv 0, iv ((X.2 (wr (i + 1)).toNat).toInt), iv ((X.2 (wr (i + 2)).toNat).toInt), iv ((X.2 (wr (i + 3)).toNat).toInt), iv 0, rv 111] M) := c_mark hA h _ _ _ 0
    have hd : ∀ M1, MH A M1 → mOut _ _ _ M1 (fn X 100 299 [rv 59, iv ((X.2 (wr (i + 1)).toNat).toInt), iv ((X.2 (wr (i + 2)).toNat).toInt), iv ((X.2 (wr (i + 3)).toNat).toInt), iv 0] M1) := fun M1 z => m_mark hA z _ _ _ 0
    obtain ⟨M', e1, e2, e3, e4⟩ := w_go i hc hd hm (by intro z; first | exact ans_if z | exact ans_sn z | exact if_01 z | exact if_pos z | exact if_off z)
    exact ⟨_, M', 2, hA.mrk _ _ _ _, e1, e2, e3, fun n o z => q_362_at1564 i M (by simp only [gdp g1, gdp g2, gdp g3, gdp g4, if_pos hz]; exact q_362_at1597 i _ _ _ _ M (by simp only [gdp g1, gdp g2, gdp g3, gdp g4, if_pos hz]; exact e4 n o z))⟩
  · have hc : wOut _ _ _ M (fn X 100 341 [rv 0, iv ((X.2 (wr (i + 1)).toNat).toInt), iv ((X.2 (wr (i + 2)).toNat).toInt), iv ((X.2 (wr (i + 3)).toNat).toInt), iv 1, rv 111] M) := c_mark hA h _ _ _ 1
    have hd : ∀ M1, MH A M1 → mOut _ _ _ M1 (fn X 100 299 [rv 59, iv ((X.2 (wr (i + 1)).toNat).toInt), iv ((X.2 (wr (i + 2)).toNat).toInt), iv ((X.2 (wr (i + 3)).toNat).toInt), iv 1] M1) := fun M1 z => m_mark hA z _ _ _ 1
    obtain ⟨M', e1, e2, e3, e4⟩ := w_go i hc hd hm (by intro z; first | exact ans_if z | exact ans_sn z | exact if_01 z | exact if_pos z | exact if_off z)
    exact ⟨_, M', 2, hA.mrk _ _ _ _, e1, e2, e3, fun n o z => q_362_at1564 i M (by simp only [gdp g1, gdp g2, gdp g3, gdp g4, if_neg hz]; exact q_362_at1597 i _ _ _ _ M (by simp only [gdp g1, gdp g2, gdp g3, gdp g4, if_neg hz]; exact e4 n o z))⟩
theorem st_293 (hs : SkyP) (hA : OKA A) (h : CH A M) (hm : MH A M) (g1 : 0 ≤ wr (i + 1) ∧ wr (i + 1) < (X.1 : Int)) : Lstp X i 293 M := by
  obtain ⟨A', k, v, w, ha, hc, hd, hv⟩ := hs X A M ((X.2 (wr (i + 1)).toNat).toInt) (rg_t _) hA h hm
  obtain ⟨M', e1, e2, e3, e4⟩ := w_go i hc hd hm hv
  exact ⟨_, M', 1, ha, e1, e2, e3, fun n o z => q_362_at293 i M (by simp only [gdp g1]; exact e4 n o z)⟩
noncomputable def swi (X : Nat × (Nat → Int32)) (i : Int) (M : rM) (n : Nat) (y : Int) : Option rO := if y = 0 then kb X 100 362 n 220 (lw_lo i) [] M else if y = 1 then kb X 100 362 n 293 (lw_lo i) [] M else if y = 2 then kb X 100 362 n 349 (lw_lo i) [] M else if y = 3 then kb X 100 362 n 362 (lw_lo i) [] M else if y = 4 then kb X 100 362 n 418 (lw_lo i) [] M else if y = 5 then kb X 100 362 n 486 (lw_lo i) [] M else if y = 6 then kb X 100 362 n 554 (lw_lo i) [] M else if y = 7 then kb X 100 362 n 622 (lw_lo i) [] M else if y = 8 then kb X 100 362 n 647 (lw_lo i) [] M else if y = 9 then kb X 100 362 n 710 (lw_lo i) [] M else if y = 10 then kb X 100 362 n 735 (lw_lo i) [] M else if y = 11 then kb X 100 362 n 831 (lw_lo i) [] M else if y = 12 then kb X 100 362 n 844 (lw_lo i) [] M else if y = 13 then kb X 100 362 n 912 (lw_lo i) [] M else if y = 14 then kb X 100 362 n 968 (lw_lo i) [] M else if y = 15 then kb X 100 362 n 1055 (lw_lo i) [] M else if y = 16 then kb X 100 362 n 1111 (lw_lo i) [] M else if y = 17 then kb X 100 362 n 1167 (lw_lo i) [] M else if y = 18 then kb X 100 362 n 1235 (lw_lo i) [] M else if y = 19 then kb X 100 362 n 1291 (lw_lo i) [] M else if y = 20 then kb X 100 362 n 1347 (lw_lo i) [] M else if y = 21 then kb X 100 362 n 1415 (lw_lo i) [] M else if y = 22 then kb X 100 362 n 1483 (lw_lo i) [] M else if y = 23 then kb X 100 362 n 1496 (lw_lo i) [] M else if y = 24 then kb X 100 362 n 1564 (lw_lo i) [] M else if y = 25 then kb X 100 362 n 1672 (lw_lo i) [] M else if y = 26 then kb X 100 362 n 1683 (lw_lo i) [] M else if y = 27 then kb X 100 362 n 1763 (lw_lo i) [] M else if y = 28 then kb X 100 362 n 1843 (lw_lo i) [] M else if y = 29 then kb X 100 362 n 1935 (lw_lo i) [] M else if y = 30 then kb X 100 362 n 2015 (lw_lo i) [] M else if y = 31 then kb X 100 362 n 2071 (lw_lo i) [] M else if y = 32 then kb X 100 362 n 2139 (lw_lo i) [] M else if y = 33 then kb X 100 362 n 2152 (lw_lo i) [] M else if y = 34 then kb X 100 362 n 2208 (lw_lo i) [] M else if y = 35 then kb X 100 362 n 2264 (lw_lo i) [] M else if y = 36 then kb X 100 362 n 2332 (lw_lo i) [] M else if y = 37 then kb X 100 362 n 2388 (lw_lo i) [] M else if y = 38 then kb X 100 362 n 2401 (lw_lo i) [] M else if y = 39 then kb X 100 362 n 2414 (lw_lo i) [] M else if y = 40 then kb X 100 362 n 2425 (lw_lo i) [] M else kb X 100 362 n 2438 (lw_lo i) [] M
theorem lw_step (hs : SkyP) (hA : OKA A) (h : CH A M) (hm : MH A M) (h0 : 0 ≤ i) (h6 : i + 6 ≤ (X.1 : Int)) (hL : X.1 ≤ 3072) : Lstp X i 23 M := by
  have w1 : ∀ k : Int, 0 ≤ k → k ≤ 6 → wr (i + k) = i + k := fun k z1 z2 => wri (by omega) (by omega)
  have g1 : 0 ≤ wr (i + 1) ∧ wr (i + 1) < (X.1 : Int) := by rw [w1 1 (by omega) (by omega)]; omega
  have g2 : 0 ≤ wr (i + 2) ∧ wr (i + 2) < (X.1 : Int) := by rw [w1 2 (by omega) (by omega)]; omega
  have g3 : 0 ≤ wr (i + 3) ∧ wr (i + 3) < (X.1 : Int) := by rw [w1 3 (by omega) (by omega)]; omega
  have g4 : 0 ≤ wr (i + 4) ∧ wr (i + 4) < (X.1 : Int) := by rw [w1 4 (by omega) (by omega)]; omega
  have g5 : 0 ≤ wr (i + 5) ∧ wr (i + 5) < (X.1 : Int) := by rw [w1 5 (by omega) (by omega)]; omega
  have b1 : (101 : Nat) < 104 ∧ X.1 < 65537 := ⟨by omega, by omega⟩
  have b2 : ¬ wr ((X.1 : Int) - 6) < i := by rw [wri (by omega) (by omega)]; omega
  have b3 : 0 ≤ i ∧ i < (X.1 : Int) := ⟨h0, by omega⟩
  have E : ∀ n o, swi X i M n (iand ((X.2 i.toNat).toInt) 63) = some o → kb X 100 362 (n + 1) 23 (lw_lo i) [] M = some o := fun n o z => q_362_at23 i M (by rw [if_pos b1, if_neg b2, gdp b3]; exact z)
  generalize iand ((X.2 i.toNat).toInt) 63 = y at E
  unfold swi at E
  by_cases y0 : y = 0
  · obtain ⟨A', M', e, z1, z2, z3, z4, z5⟩ := st_220 (X := X) (i := i) hA h hm g1 g2 g3 g4 g5
    exact ⟨A', M', e + 1, z1, z2, z3, z4, fun n o z => E (n + e) o (by rw [if_pos y0]; exact z5 n o z)⟩
  simp only [if_neg y0] at E
  by_cases y1 : y = 1
  · obtain ⟨A', M', e, z1, z2, z3, z4, z5⟩ := st_293 (X := X) (i := i) hs hA h hm g1
    exact ⟨A', M', e + 1, z1, z2, z3, z4, fun n o z => E (n + e) o (by rw [if_pos y1]; exact z5 n o z)⟩
  simp only [if_neg y1] at E
  by_cases y2 : y = 2
  · obtain ⟨A', M', e, z1, z2, z3, z4, z5⟩ := st_349 (X := X) (i := i) hA h hm 
    exact ⟨A', M', e + 1, z1, z2, z3, z4, fun n o z => E (n + e) o (by rw [if_pos y2]; exact z5 n o z)⟩
  simp only [if_neg y2] at E
  by_cases y3 : y = 3
  · obtain ⟨A', M', e, z1, z2, z3, z4, z5⟩ := st_362 (X := X) (i := i) hA h hm g1
    exact ⟨A', M', e + 1, z1, z2, z3, z4, fun n o z => E (n + e) o (by rw [if_pos y3]; exact z5 n o z)⟩
  simp only [if_neg y3] at E
  by_cases y4 : y = 4
  · obtain ⟨A', M', e, z1, z2, z3, z4, z5⟩ := st_418 (X := X) (i := i) hA h hm g1 g2
    exact ⟨A', M', e + 1, z1, z2, z3, z4, fun n o z => E (n + e) o (by rw [if_pos y4]; exact z5 n o z)⟩
  simp only [if_neg y4] at E
  by_cases y5 : y = 5
  · obtain ⟨A', M', e, z1, z2, z3, z4, z5⟩ := st_486 (X := X) (i := i) hA h hm g1 g2
    exact ⟨A', M', e + 1, z1, z2, z3, z4, fun n o z => E (n + e) o (by rw [if_pos y5]; exact z5 n o z)⟩
  simp only [if_neg y5] at E
  by_cases y6 : y = 6
  · obtain ⟨A', M', e, z1, z2, z3, z4, z5⟩ := st_554 (X := X) (i := i) hA h hm g1 g2
    exact ⟨A', M', e + 1, z1, z2, z3, z4, fun n o z => E (n + e) o (by rw [if_pos y6]; exact z5 n o z)⟩
  simp only [if_neg y6] at E
  by_cases y7 : y = 7
  · obtain ⟨A', M', e, z1, z2, z3, z4, z5⟩ := st_622 (X := X) (i := i) hA h hm g1
    exact ⟨A', M', e + 1, z1, z2, z3, z4, fun n o z => E (n + e) o (by rw [if_pos y7]; exact z5 n o z)⟩
  simp only [if_neg y7] at E
  by_cases y8 : y = 8
  · obtain ⟨A', M', e, z1, z2, z3, z4, z5⟩ := st_647 (X := X) (i := i) hA h hm g1
    exact ⟨A', M', e + 1, z1, z2, z3, z4, fun n o z => E (n + e) o (by rw [if_pos y8]; exact z5 n o z)⟩
  simp only [if_neg y8] at E
  by_cases y9 : y = 9
  · obtain ⟨A', M', e, z1, z2, z3, z4, z5⟩ := st_710 (X := X) (i := i) hA h hm g1
    exact ⟨A', M', e + 1, z1, z2, z3, z4, fun n o z => E (n + e) o (by rw [if_pos y9]; exact z5 n o z)⟩
  simp only [if_neg y9] at E
  by_cases y10 : y = 10
  · obtain ⟨A', M', e, z1, z2, z3, z4, z5⟩ := st_735 (X := X) (i := i) hA h hm g1 g2 g3
    exact ⟨A', M', e + 1, z1, z2, z3, z4, fun n o z => E (n + e) o (by rw [if_pos y10]; exact z5 n o z)⟩
  simp only [if_neg y10] at E
  by_cases y11 : y = 11
  · obtain ⟨A', M', e, z1, z2, z3, z4, z5⟩ := st_831 (X := X) (i := i) hA h hm 
    exact ⟨A', M', e + 1, z1, z2, z3, z4, fun n o z => E (n + e) o (by rw [if_pos y11]; exact z5 n o z)⟩
  simp only [if_neg y11] at E
  by_cases y12 : y = 12
  · obtain ⟨A', M', e, z1, z2, z3, z4, z5⟩ := st_844 (X := X) (i := i) hA h hm g1 g2
    exact ⟨A', M', e + 1, z1, z2, z3, z4, fun n o z => E (n + e) o (by rw [if_pos y12]; exact z5 n o z)⟩
  simp only [if_neg y12] at E
  by_cases y13 : y = 13
  · obtain ⟨A', M', e, z1, z2, z3, z4, z5⟩ := st_912 (X := X) (i := i) hA h hm g1
    exact ⟨A', M', e + 1, z1, z2, z3, z4, fun n o z => E (n + e) o (by rw [if_pos y13]; exact z5 n o z)⟩
  simp only [if_neg y13] at E
  by_cases y14 : y = 14
  · obtain ⟨A', M', e, z1, z2, z3, z4, z5⟩ := st_968 (X := X) (i := i) hA h hm g1 g2 g3
    exact ⟨A', M', e + 1, z1, z2, z3, z4, fun n o z => E (n + e) o (by rw [if_pos y14]; exact z5 n o z)⟩
  simp only [if_neg y14] at E
  by_cases y15 : y = 15
  · obtain ⟨A', M', e, z1, z2, z3, z4, z5⟩ := st_1055 (X := X) (i := i) hA h hm g1
    exact ⟨A', M', e + 1, z1, z2, z3, z4, fun n o z => E (n + e) o (by rw [if_pos y15]; exact z5 n o z)⟩
  simp only [if_neg y15] at E
  by_cases y16 : y = 16
  · obtain ⟨A', M', e, z1, z2, z3, z4, z5⟩ := st_1111 (X := X) (i := i) hA h hm g1
    exact ⟨A', M', e + 1, z1, z2, z3, z4, fun n o z => E (n + e) o (by rw [if_pos y16]; exact z5 n o z)⟩
  simp only [if_neg y16] at E
  by_cases y17 : y = 17
  · obtain ⟨A', M', e, z1, z2, z3, z4, z5⟩ := st_1167 (X := X) (i := i) hA h hm g1 g2
    exact ⟨A', M', e + 1, z1, z2, z3, z4, fun n o z => E (n + e) o (by rw [if_pos y17]; exact z5 n o z)⟩
  simp only [if_neg y17] at E
  by_cases y18 : y = 18
  · obtain ⟨A', M', e, z1, z2, z3, z4, z5⟩ := st_1235 (X := X) (i := i) hA h hm g1
    exact ⟨A', M', e + 1, z1, z2, z3, z4, fun n o z => E (n + e) o (by rw [if_pos y18]; exact z5 n o z)⟩
  simp only [if_neg y18] at E
  by_cases y19 : y = 19
  · obtain ⟨A', M', e, z1, z2, z3, z4, z5⟩ := st_1291 (X := X) (i := i) hA h hm g1
    exact ⟨A', M', e + 1, z1, z2, z3, z4, fun n o z => E (n + e) o (by rw [if_pos y19]; exact z5 n o z)⟩
  simp only [if_neg y19] at E
  by_cases y20 : y = 20
  · obtain ⟨A', M', e, z1, z2, z3, z4, z5⟩ := st_1347 (X := X) (i := i) hA h hm g1 g2
    exact ⟨A', M', e + 1, z1, z2, z3, z4, fun n o z => E (n + e) o (by rw [if_pos y20]; exact z5 n o z)⟩
  simp only [if_neg y20] at E
  by_cases y21 : y = 21
  · obtain ⟨A', M', e, z1, z2, z3, z4, z5⟩ := st_1415 (X := X) (i := i) hA h hm g1 g2
    exact ⟨A', M', e + 1, z1, z2, z3, z4, fun n o z => E (n + e) o (by rw [if_pos y21]; exact z5 n o z)⟩
  simp only [if_neg y21] at E
  by_cases y22 : y = 22
  · obtain ⟨A', M', e, z1, z2, z3, z4, z5⟩ := st_1483 (X := X) (i := i) hA h hm 
    exact ⟨A', M', e + 1, z1, z2, z3, z4, fun n o z => E (n + e) o (by rw [if_pos y22]; exact z5 n o z)⟩
  simp only [if_neg y22] at E
  by_cases y23 : y = 23
  · obtain ⟨A', M', e, z1, z2, z3, z4, z5⟩ := st_1496 (X := X) (i := i) hA h hm g1 g2
    exact ⟨A', M', e + 1, z1, z2, z3, z4, fun n o z => E (n + e) o (by rw [if_pos y23]; exact z5 n o z)⟩
  simp only [if_neg y23] at E
  by_cases y24 : y = 24
  · obtain ⟨A', M', e, z1, z2, z3, z4, z5⟩ := st_1564 (X := X) (i := i) hA h hm g1 g2 g3 g4
    exact ⟨A', M', e + 1, z1, z2, z3, z4, fun n o z => E (n + e) o (by rw [if_pos y24]; exact z5 n o z)⟩
  simp only [if_neg y24] at E
  by_cases y25 : y = 25
  · obtain ⟨A', M', e, z1, z2, z3, z4, z5⟩ := st_1672 (X := X) (i := i) hA h hm 
    exact ⟨A', M', e + 1, z1, z2, z3, z4, fun n o z => E (n + e) o (by rw [if_pos y25]; exact z5 n o z)⟩
  simp only [if_neg y25] at E
  by_cases y26 : y = 26
  · obtain ⟨A', M', e, z1, z2, z3, z4, z5⟩ := st_1683 (X := X) (i := i) hA h hm g1 g2 g3
    exact ⟨A', M', e + 1, z1, z2, z3, z4, fun n o z => E (n + e) o (by rw [if_pos y26]; exact z5 n o z)⟩
  simp only [if_neg y26] at E
  by_cases y27 : y = 27
  · obtain ⟨A', M', e, z1, z2, z3, z4, z5⟩ := st_1763 (X := X) (i := i) hA h hm g1 g2 g3
    exact ⟨A', M', e + 1, z1, z2, z3, z4, fun n o z => E (n + e) o (by rw [if_pos y27]; exact z5 n o z)⟩
  simp only [if_neg y27] at E
  by_cases y28 : y = 28
  · obtain ⟨A', M', e, z1, z2, z3, z4, z5⟩ := st_1843 (X := X) (i := i) hA h hm g1 g2 g3 g4
    exact ⟨A', M', e + 1, z1, z2, z3, z4, fun n o z => E (n + e) o (by rw [if_pos y28]; exact z5 n o z)⟩
  simp only [if_neg y28] at E
  by_cases y29 : y = 29
  · obtain ⟨A', M', e, z1, z2, z3, z4, z5⟩ := st_1935 (X := X) (i := i) hA h hm g1 g2 g3
    exact ⟨A', M', e + 1, z1, z2, z3, z4, fun n o z => E (n + e) o (by rw [if_pos y29]; exact z5 n o z)⟩
  simp only [if_neg y29] at E
  by_cases y30 : y = 30
  · obtain ⟨A', M', e, z1, z2, z3, z4, z5⟩ := st_2015 (X := X) (i := i) hA h hm g1
    exact ⟨A', M', e + 1, z1, z2, z3, z4, fun n o z => E (n + e) o (by rw [if_pos y30]; exact z5 n o z)⟩
  simp only [if_neg y30] at E
  by_cases y31 : y = 31
  · obtain ⟨A', M', e, z1, z2, z3, z4, z5⟩ := st_2071 (X := X) (i := i) hA h hm g1 g2
    exact ⟨A', M', e + 1, z1, z2, z3, z4, fun n o z => E (n + e) o (by rw [if_pos y31]; exact z5 n o z)⟩
  simp only [if_neg y31] at E
  by_cases y32 : y = 32
  · obtain ⟨A', M', e, z1, z2, z3, z4, z5⟩ := st_2139 (X := X) (i := i) hA h hm 
    exact ⟨A', M', e + 1, z1, z2, z3, z4, fun n o z => E (n + e) o (by rw [if_pos y32]; exact z5 n o z)⟩
  simp only [if_neg y32] at E
  by_cases y33 : y = 33
  · obtain ⟨A', M', e, z1, z2, z3, z4, z5⟩ := st_2152 (X := X) (i := i) hA h hm g1
    exact ⟨A', M', e + 1, z1, z2, z3, z4, fun n o z => E (n + e) o (by rw [if_pos y33]; exact z5 n o z)⟩
  simp only [if_neg y33] at E
  by_cases y34 : y = 34
  · obtain ⟨A', M', e, z1, z2, z3, z4, z5⟩ := st_2208 (X := X) (i := i) hA h hm g1
    exact ⟨A', M', e + 1, z1, z2, z3, z4, fun n o z => E (n + e) o (by rw [if_pos y34]; exact z5 n o z)⟩
  simp only [if_neg y34] at E
  by_cases y35 : y = 35
  · obtain ⟨A', M', e, z1, z2, z3, z4, z5⟩ := st_2264 (X := X) (i := i) hA h hm g1 g2
    exact ⟨A', M', e + 1, z1, z2, z3, z4, fun n o z => E (n + e) o (by rw [if_pos y35]; exact z5 n o z)⟩
  simp only [if_neg y35] at E
  by_cases y36 : y = 36
  · obtain ⟨A', M', e, z1, z2, z3, z4, z5⟩ := st_2332 (X := X) (i := i) hA h hm g1
    exact ⟨A', M', e + 1, z1, z2, z3, z4, fun n o z => E (n + e) o (by rw [if_pos y36]; exact z5 n o z)⟩
  simp only [if_neg y36] at E
  by_cases y37 : y = 37
  · obtain ⟨A', M', e, z1, z2, z3, z4, z5⟩ := st_2388 (X := X) (i := i) hA h hm 
    exact ⟨A', M', e + 1, z1, z2, z3, z4, fun n o z => E (n + e) o (by rw [if_pos y37]; exact z5 n o z)⟩
  simp only [if_neg y37] at E
  by_cases y38 : y = 38
  · obtain ⟨A', M', e, z1, z2, z3, z4, z5⟩ := st_2401 (X := X) (i := i) hA h hm 
    exact ⟨A', M', e + 1, z1, z2, z3, z4, fun n o z => E (n + e) o (by rw [if_pos y38]; exact z5 n o z)⟩
  simp only [if_neg y38] at E
  by_cases y39 : y = 39
  · obtain ⟨A', M', e, z1, z2, z3, z4, z5⟩ := st_2414 (X := X) (i := i) hA h hm 
    exact ⟨A', M', e + 1, z1, z2, z3, z4, fun n o z => E (n + e) o (by rw [if_pos y39]; exact z5 n o z)⟩
  simp only [if_neg y39] at E
  by_cases y40 : y = 40
  · obtain ⟨A', M', e, z1, z2, z3, z4, z5⟩ := st_2425 (X := X) (i := i) hA h hm 
    exact ⟨A', M', e + 1, z1, z2, z3, z4, fun n o z => E (n + e) o (by rw [if_pos y40]; exact z5 n o z)⟩
  simp only [if_neg y40] at E
  exact ⟨A, M, 1, hA, h, hm, Or.inl rfl, E⟩
theorem lw_end (h0 : 0 ≤ i) (h6 : (X.1 : Int) < i + 6) (hL : X.1 ≤ 3072) : kb X 100 362 1 23 (lw_lo i) [] M = oI 1 M := by
  have b1 : (101 : Nat) < 104 ∧ X.1 < 65537 := ⟨by omega, by omega⟩
  have b2 : wr ((X.1 : Int) - 6) < i := by rw [wri (by omega) (by omega)]; omega
  exact q_362_at23 (n := 0) i M (by rw [if_pos b1, if_pos b2]; rfl)
theorem lw_all (hs : SkyP) (hL : X.1 ≤ 3072) : ∀ (j : Nat) (i : Int) (A : AS) (M : rM), OKA A → CH A M → MH A M → 0 ≤ i → i ≤ (X.1 : Int) → (X.1 : Int) < i + 6 * (j : Int) + 6 → ∃ n M', kb X 100 362 n 23 (lw_lo i) [] M = oI 1 M' ∧ M'.1.1 ≤ M.1.1 + j ∧ M'.1.2.1 ≤ M.1.2.1 + 6 * j
  | 0, i, A, M, hA, h, hm, h0, h1, h2 => ⟨1, M, lw_end h0 (by omega) hL, by omega, by omega⟩
  | j + 1, i, A, M, hA, h, hm, h0, h1, h2 => by
    by_cases h6 : (X.1 : Int) < i + 6
    · exact ⟨1, M, lw_end h0 h6 hL, by omega, by omega⟩
    · obtain ⟨A', M', e, z1, z2, z3, z4, z5⟩ := lw_step (X := X) hs hA h hm h0 (by omega) hL
      obtain ⟨n, M2, y1, y2, y3⟩ := lw_all hs hL j (i + 6) A' M' z1 z2 z3 (by omega) (by omega) (by omega)
      refine ⟨n + 1 + e, M2, z5 (n + 1) _ (q_362_at2438 i M' ?_), ?_, ?_⟩
      · rw [wri (by omega) (by omega)]
        exact y1
      · rcases z4 with z4 | z4
        · rw [z4] at y2
          omega
        · rw [z4] at y2
          have : (sa_tc M.1).1 = M.1.1 + 1 := rfl
          omega
      · rcases z4 with z4 | z4
        · rw [z4] at y3
          omega
        · rw [z4] at y3
          have : (sa_tc M.1).2.1 = M.1.2.1 + 6 := rfl
          omega
end C93
/-! the start: an empty sky -/
def S00 : SK := ((0, 0, 0, 0), fun _ _ => 0, fun _ _ => 0, fun _ _ => 0, fun _ => 0, 0, [])
def W50 : WD := fun j => if j = 0 then 50 else 0
def A00 : AS := (S00, W50, [], [], none, [], -1, fun _ => 0)
theorem A00_ok : OKA A00 := by
  have h0 : okW S00 W50 := ⟨⟨by decide, by decide, fun c hc => absurd hc (Nat.not_lt_zero c)⟩, by decide⟩
  refine ⟨⟨by decide, by decide, by decide, by decide, fun c hc => absurd hc (Nat.not_lt_zero c), fun c hc => absurd hc (Nat.not_lt_zero c), fun c hc => absurd hc (Nat.not_lt_zero c), fun c hc => absurd hc (Nat.not_lt_zero c), by decide⟩, Or.inl rfl, h0, ⟨by decide, fun V hV => (by cases hV)⟩, ⟨by decide, fun V hV => (by cases hV)⟩, fun V P K hz => (by cases hz), by decide, fun b hb => (by cases hb)⟩
theorem M0_CW : CW 35 0 0 W50 M0 := by
  intro j hj
  rcases hj with hj | ⟨_, _, hj⟩
  · obtain rfl | rfl | rfl : j = 0 ∨ j = 1 ∨ j = 2 := by omega
    · decide +kernel
    · decide +kernel
    · decide +kernel
  · exact absurd hj (Nat.not_lt_zero _)
theorem M0_MW : MW 91 0 0 W50 M0 := by
  intro j hj
  rcases hj with hj | ⟨_, _, hj⟩
  · obtain rfl | rfl | rfl : j = 0 ∨ j = 1 ∨ j = 2 := by omega
    · decide +kernel
    · decide +kernel
    · decide +kernel
  · exact absurd hj (Nat.not_lt_zero _)
theorem M0_j {k : Nat} (hk : k = 2 ∨ k = 74) {j : Nat} (hj : j < 3) : M0.2.1 k j = 0 := by
  obtain rfl | rfl | rfl : j = 0 ∨ j = 1 ∨ j = 2 := by omega
  · rcases hk with rfl | rfl <;> decide +kernel
  · rcases hk with rfl | rfl <;> decide +kernel
  · rcases hk with rfl | rfl <;> decide +kernel
theorem M0_CH : CH A00 M0 := by
  refine ⟨⟨by decide +kernel, by decide +kernel, by decide +kernel, by decide +kernel, fun c j hc => absurd hc (Nat.not_lt_zero c), fun c j hc => absurd hc (Nat.not_lt_zero c), fun c j hc => absurd hc (Nat.not_lt_zero c), fun c hc => absurd hc (Nat.not_lt_zero c), by decide +kernel, by decide +kernel, fun c hc => absurd hc (Nat.not_lt_zero c)⟩, ⟨M0_CW, ⟨0, by decide +kernel, by omega, fun i hi => absurd hi (Nat.not_lt_zero i)⟩, by decide +kernel, by decide +kernel, fun i hi => absurd hi (Nat.not_lt_zero i)⟩, Or.inl ⟨rfl, by decide +kernel⟩, by decide +kernel, fun i hi => absurd hi (Nat.not_lt_zero i), by decide +kernel, fun j hj => M0_j (Or.inl rfl) hj, by decide +kernel, by decide +kernel, by decide +kernel, by decide +kernel⟩
theorem M0_MH : MH A00 M0 := by
  refine ⟨⟨by decide +kernel, by decide +kernel, by decide +kernel, by decide +kernel, fun c hc => absurd hc (Nat.not_lt_zero c), fun c hc => absurd hc (Nat.not_lt_zero c), fun c hc => absurd hc (Nat.not_lt_zero c), fun c hc => absurd hc (Nat.not_lt_zero c), Or.inl ⟨rfl, Or.inr (by decide +kernel)⟩, Or.inl ⟨rfl, by decide +kernel⟩⟩, ⟨M0_MW, by decide +kernel, fun i hi => absurd hi (Nat.not_lt_zero i), by decide +kernel, fun i hi => absurd hi (Nat.not_lt_zero i)⟩, Or.inl ⟨rfl, by decide +kernel⟩, by decide +kernel, fun i hi => absurd hi (Nat.not_lt_zero i), by decide +kernel, fun j hj => M0_j (Or.inr rfl) hj⟩
theorem goal_of_sky (hs : SkyP) : sa_Goal := sa_goal_of (fun X hX => by
  obtain ⟨n, M', h1, h2, h3⟩ := lw_all (X := X) hs hX 512 0 A00 M0 A00_ok M0_CH M0_MH (by omega) (by omega) (by omega)
  have e1 : M0.1.1 = 112 := rfl
  have e2 : M0.1.2.1 = 53216 := rfl
  exact ⟨n, M', h1, by omega, by omega⟩)

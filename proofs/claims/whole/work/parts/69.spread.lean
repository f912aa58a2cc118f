/-! ===== what can be come to: canBelieve, useless, firm ===== -/
noncomputable def spA (A : AS) (c : Nat) : BS := stF (aS A) c (aW A (9 + c)) (helpW (aS A) (aW A)) (aW A (3 + c)) (aW A (15 + c))
section B69
variable {S : SK} {cr wa h : Nat}
theorem st1_R {k t x : Nat} {s : BS} (hx : x ∈ s.2.2.2) : x ∈ (st1 S cr wa h k t s).2.2.2 := by
  unfold st1
  split
  · exact List.mem_cons_of_mem _ hx
  · exact hx
theorem stT_R {k x : Nat} {s : BS} (hx : x ∈ s.2.2.2) : ∀ t, x ∈ (stT S cr wa h k t s).2.2.2
  | 0 => hx
  | t + 1 => st1_R (stT_R hx t)
theorem stT_R2 {k x : Nat} {s : BS} {t u : Nat} (htu : t ≤ u) (hx : x ∈ (stT S cr wa h k t s).2.2.2) : x ∈ (stT S cr wa h k u s).2.2.2 := by
  obtain ⟨j, rfl⟩ : ∃ j, u = t + j := ⟨u - t, by omega⟩
  clear htu
  induction j with
  | zero => exact hx
  | succ j ih => exact st1_R ih
theorem stH_R {b0 c0 k x : Nat} (hx : x ∈ (stH S cr wa h b0 c0 k).2.2.2) : ∀ j, x ∈ (stH S cr wa h b0 c0 (k + j)).2.2.2
  | 0 => hx
  | j + 1 => by
    show x ∈ (if k + j < (stH S cr wa h b0 c0 (k + j)).1.length then stT S cr wa h (k + j) (nT S) (stH S cr wa h b0 c0 (k + j)) else stH S cr wa h b0 c0 (k + j)).2.2.2
    split
    · exact stT_R (stH_R hx j) _
    · exact stH_R hx j
theorem stH_R2 {b0 c0 k x : Nat} (hx : x ∈ (stH S cr wa h b0 c0 k).2.2.2) (h2 : k ≤ 3904) : x ∈ (stF S cr wa h b0 c0).2.2.2 := by
  rw [stF_df]
  have := stH_R hx (3904 - k)
  rwa [show k + (3904 - k) = 3904 by omega] at this
end B69
/-- all of one set, none of another -/
def mtB (a z b : Nat) : Bool := (b &&& a) == a && (b &&& z) == 0
noncomputable def swJ (a z : Nat) : Nat → Int64
  | 0 => Int64.ofNat 0
  | k + 1 => if mtB a z k = true then swJ a z k ||| jshl (Int64.ofNat 1) (k : Int) else swJ a z k
theorem tb_sw {a z : Nat} : ∀ (n : Nat), n ≤ 64 → ∀ i, i < 64 → tb (swJ a z n) i = (decide (i < n) && mtB a z i)
  | 0, _, i, hi => by
    unfold swJ
    rw [tb_0]
    simp
  | n + 1, hn, i, hi => by
    have ih := tb_sw (a := a) (z := z) n (by omega) i hi
    unfold swJ
    by_cases e : i = n
    · subst e
      split
      · rename_i hm
        rw [tb_set (by omega) hi, hm]
        simp
      · rename_i hm
        rw [ih]
        simp [hm]
    · have hd : decide (i < n + 1) = decide (i < n) := by
        congr 1
        apply propext
        omega
      rw [hd, ← ih]
      split
      · rw [tb_set (by omega) hi]
        simp [e]
      · rfl
section C69
variable {X : Nat × (Nat → Int32)} {d n : Nat} {M M1 M2 M' : rM} {A A' : AS} {S : SK} {W V : WD} {cr wa h : Nat} {s : BS} {Q : List QE}
theorem c_sets {a z : Nat} (ha : a ≤ 63) (hz : z ≤ 63) : fn X (d + 1) 197 [iv (a : Int), iv (z : Int)] M = oJ (swJ a z 64) M := by
  rw [q_197]
  refine loop_up (P := fun n k => kb X d 197 n 5 [some (iv (a : Int)), some (iv (z : Int)), some (jv (swJ a z k)), none, some (iv (k : Int))] [] M) 64 ?_ ?_ 64 0 FU (by omega) (FU_lt (by omega))
  · intro n k hk
    left
    rw [q_197_at5, if_pos (by omega), iand_nat (by omega) (by omega), iand_nat (by omega) (by omega), wr_succ (by omega)]
    simp only [swJ]
    by_cases h1 : k &&& a = a
    · rw [if_pos (by rw [h1])]
      by_cases h2 : k &&& z = 0
      · rw [if_pos (by rw [h2]; rfl), if_pos (by simp [mtB, h1, h2])]
      · rw [if_neg (by omega), if_neg (by simp [mtB, h2])]
    · rw [if_neg (by omega), if_neg (by simp [mtB, h1])]
  · intro n
    rw [q_197_at5, if_neg (by omega)]
theorem c_spr (hA : OKA A) (h : CH A M) {c : Nat} (hc : c < nC (aS A)) : ∃ M', fn X (d + 6) 195 [rv 0, iv (c : Int)] M = oV M' ∧ CQ (aS A) c (aW A (9 + c)) (helpW (aS A) (aW A)) (spA A c) M' ∧ sf PQ M M' := by
  obtain ⟨hF, hR, hV, -⟩ := hA
  obtain ⟨vb, -, vc, -⟩ := hV.1.2.2 c hc
  have hh := helpW_le (W := aW A) hF
  obtain ⟨M1, g1, g2, g3⟩ := c_startAt (X := X) (d := d + 3) (h := helpW (aS A) (aW A)) hF h.W hc
  obtain ⟨M2, k1, k2, k3⟩ := c_spread (X := X) (d := d) (h.1.sf g3 PQ_lo) hF hR hc (by omega) vb vc g2
  rw [q_195_0, c_help hs34 h.1 hF h.W, cI_I, g1, cV_V, k1, cV_V]
  exact ⟨M2, rfl, k2, g3.tr k3⟩
theorem spA_BI (hA : OKA A) {c : Nat} (hc : c < nC (aS A)) : BI (spA A c) := by
  obtain ⟨hF, hR, hV, -⟩ := hA
  obtain ⟨vb, -, vc, -⟩ := hV.1.2.2 c hc
  exact stF_BI hF vb vc
/-- none of those come to is so -/
theorem c_none (hq : CQ S cr wa h s M) (hI : BI s) {a z : Nat} : jcmp (M.2.2 41 15 &&& swJ a z 64) (Int64.ofNat 0) = 0 ↔ s.2.2.2.any (mtB a z) = false := by
  rw [jcmp_eq, List.any_eq_false]
  constructor
  · intro hz x hx hm
    have hx6 := hI.2.2.1 x hx
    have := congrArg (fun y => tb y x) hz
    rw [tb_and, tb_0, hq.2.2.2.2.2.1 x (by omega), tb_sw 64 (Nat.le_refl _) x (by omega), hm, decide_eq_true hx, decide_eq_true (show x < 64 by omega)] at this
    cases this
  · intro hz
    apply tb_ne
    intro i hi
    rw [tb_and, tb_0, hq.2.2.2.2.2.1 i hi, tb_sw 64 (Nat.le_refl _) i hi]
    by_cases hx : i ∈ s.2.2.2
    · have := hz i hx
      rw [Bool.not_eq_true] at this
      rw [this]
      simp
    · simp [hx]
/-! canBelieve -/
noncomputable def canK (A : AS) (a b z : Int) : Nat := if 0 ≤ a ∧ a < (nC (aS A) : Int) then (if (0 ≤ b ∧ b ≤ 63) ∧ (0 ≤ z ∧ z ≤ 63) ∧ b.toNat &&& z.toNat = 0 then 0 else 2) else 1
noncomputable def canV (A : AS) (a b z : Int) : Int := if aW A (21 + a.toNat) = 0 then b01 ((spA A a.toNat).2.2.2.any (mtB b.toNat z.toNat)) else 0
theorem c_bset (a : Int) : fn X (d + 1) 196 [iv a] M = oI (if 0 ≤ a ∧ a ≤ 63 then 1 else 0) M := by
  rw [q_196]
  by_cases h1 : a < 0
  · rw [if_pos h1, if_neg (by omega)]
  · rw [if_neg h1]
    by_cases h2 : a < 64
    · rw [if_pos h2, if_pos (by omega)]
    · rw [if_neg h2, if_neg (by omega)]
theorem b01_01 (b : Bool) : b01 b = 0 ∨ b01 b = 1 := by cases b <;> simp [b01]
theorem c_can (hA : OKA A) (h : CH A M) (a b z : Int) : wOut A (canK A a b z) (canV A a b z) M (fn X (d + 8) 332 [rv 0, iv a, iv b, iv z, rv 111] M) := by
  have hF := hA.1
  rw [q_332_0_111, q_165_0, c_chkC h.1]
  unfold canK canV
  by_cases hc : 0 ≤ a ∧ a < (nC (aS A) : Int)
  · obtain ⟨c, hcl, rfl⟩ := nat_of hc
    rw [if_pos hc, if_pos hc, cV_V, Int.toNat_natCast, c_bset, cI_I, c_bset]
    have bad : wOut A 2 (if aW A (21 + c) = 0 then b01 ((spA A c).2.2.2.any (mtB b.toNat z.toNat)) else 0) M (cIh (oX 1 (thr M)) (fun x2 M1 => if x2 = 0 then oI 0 (puJ M1 111 0 (Int64.ofNat 0)) else oI 0 (puJ M1 111 0 (Int64.ofNat 1))) (fun q4 M3 => if 0 = q4 then oI 1 M3 else if 1 = q4 then oI 2 M3 else none)) := w_x (q := 1) (k := 2) (M1 := thr M) rfl rfl (by omega) h kC.rf rfl
    by_cases h1 : 0 ≤ b ∧ b ≤ 63
    · obtain ⟨x, hx, rfl⟩ := nat_le (n := 63) h1
      rw [if_pos h1, if_neg n10, cI_I]
      by_cases h2 : 0 ≤ z ∧ z ≤ 63
      · obtain ⟨y, hy, rfl⟩ := nat_le (n := 63) h2
        rw [if_pos h2, if_neg n10, iand_nat (by omega) (by omega), Int.toNat_natCast, Int.toNat_natCast] at *
        by_cases h3 : x &&& y = 0
        · rw [if_pos (show ((x &&& y : Nat) : Int) = 0 by omega), if_pos ⟨h1, h2, h3⟩, c_isFree h.1 hF h.W hcl, cI_I]
          by_cases hf : aW A (21 + c) = 0
          · obtain ⟨M1, g1, g2, g3⟩ := c_spr (X := X) (d := d) hA h hcl
            have h1' : CH A M1 := h.sf g3 eC_Q
            rw [if_pos hf, if_neg (show ¬ b01 (decide (aW A (21 + c) = 0)) = 0 by rw [b01_0]; simp [hf]), g1, cV_V, q_53_41, cJ_J, c_sets hx hy, cJ_J]
            refine w_okz (M1 := M1) ?_ (b01_01 _) h1' (kC_Q g3) g3.1
            cases hv : (spA A c).2.2.2.any (mtB x y) with
            | false =>
              rw [if_pos ((c_none g2 (spA_BI hA hcl)).2 hv)]
              rfl
            | true =>
              rw [if_neg (fun q => by rw [c_none g2 (spA_BI hA hcl), hv] at q; cases q)]
              rfl
          · rw [if_neg hf, if_pos (show b01 (decide (aW A (21 + c) = 0)) = 0 by rw [b01_0]; simp [hf])]
            exact w_okz (M1 := M) rfl (Or.inl rfl) h kC.rf rfl
        · rw [if_neg (show ¬ ((x &&& y : Nat) : Int) = 0 by omega), if_neg (fun q => h3 q.2.2)]
          exact bad
      · rw [if_neg h2, if_pos rfl, if_neg (fun q => h2 q.2.1)]
        exact bad
    · rw [if_neg h1, if_pos rfl, if_neg (fun q => h1 q.1)]
      exact bad
  · rw [if_neg hc, if_neg hc, cV_X]
    exact w_x (q := 0) (k := 1) (M1 := thr M) rfl rfl (by omega) h kC.rf rfl
theorem mt_i {b a z : Nat} (hb : b ≤ 63) (ha : a ≤ 63) (hz : z ≤ 63) {u v w : Option rO} : (if iand (b : Int) (a : Int) = (a : Int) then (if iand (b : Int) (z : Int) = 0 then u else v) else v) = if mtB a z b = true then u else v := by
  rw [iand_nat (by omega) (by omega), iand_nat (by omega) (by omega)]
  by_cases h1 : b &&& a = a
  · rw [if_pos (by rw [h1])]
    by_cases h2 : b &&& z = 0
    · rw [if_pos (by rw [h2]; rfl), if_pos (by simp [mtB, h1, h2])]
    · rw [if_neg (by omega), if_neg (by simp [mtB, h2])]
  · rw [if_neg (by omega), if_neg (by simp [mtB, h1])]
theorem m_canT (hS : MS S M) (hF : WF S) (hR : WR S) (hW : MW 91 0 (nC S) W M) (hcr : cr < nC S) (hh : h ≤ 1000) {a z : Nat} (ha : a ≤ 63) (hz : z ≤ 63) (hI : BI s) {k : Nat} (hk : k < s.1.length) : ∀ (j t g : Nat) (M1 : rM), t + j = nT S → MQu (stT S cr (W (9 + cr)) h k t s).1 M1 → (stT S cr (W (9 + cr)) h k t s).2.2.2.any (mtB a z) = false → sf PB M M1 →
    (∃ M2 g2, kb X (d + 4) 282 (g + 2 * j + 1) 138 [some (rv 59), some (iv (cr : Int)), some (iv (a : Int)), some (iv (z : Int)), some (iv (h : Int)), some (iv (k : Int)), some (iv (pl (qa s.1 k) : Int)), some (iv (t : Int)), none, none] [] M1 = kb X (d + 4) 282 g2 117 [some (rv 59), some (iv (cr : Int)), some (iv (a : Int)), some (iv (z : Int)), some (iv (h : Int)), some (iv ((k + 1 : Nat) : Int)), none, none, none, none] [] M2 ∧ g ≤ g2 ∧ MQu (stT S cr (W (9 + cr)) h k (nT S) s).1 M2 ∧ (stT S cr (W (9 + cr)) h k (nT S) s).2.2.2.any (mtB a z) = false ∧ sf PB M M2) ∨
    (∃ M2, kb X (d + 4) 282 (g + 2 * j + 1) 138 [some (rv 59), some (iv (cr : Int)), some (iv (a : Int)), some (iv (z : Int)), some (iv (h : Int)), some (iv (k : Int)), some (iv (pl (qa s.1 k) : Int)), some (iv (t : Int)), none, none] [] M1 = oI 1 M2 ∧ (stT S cr (W (9 + cr)) h k (nT S) s).2.2.2.any (mtB a z) = true ∧ sf PB M M2)
  | 0, t, g, M1, ht, hq, hg, hf => by
    have hS1 := hS.sf hf eM_B
    have hle := hI.1.le
    have : t = nT S := by omega
    subst this
    left
    rw [show g + 2 * 0 + 1 = g + 1 from rfl, q_282_59_at138, hS1.2.1, if_neg (by omega), wr_succ (by omega)]
    exact ⟨M1, g, rfl, Nat.le_refl _, hq, hg, hf⟩
  | j + 1, t, g, M1, ht, hq, hg, hf => by
    have h6 := hF.1
    have h8 := hF.2.1
    have hS1 := hS.sf hf eM_B
    have hW1 := hW.sf hf eM_B
    have htl : t < nT S := by omega
    obtain ⟨q1, q2, q3⟩ := hI.1.1 k hk
    obtain ⟨ed, em⟩ := pl_dm (qa s.1 k) q1 q2
    have hI1 : BI (stT S cr (W (9 + cr)) h k t s) := stT_BI hF hI hk t (by omega)
    have hx := stT_ext (S := S) (cr := cr) (wa := W (9 + cr)) (h := h) (k := k) (s := s) t
    have hk1 : k < (stT S cr (W (9 + cr)) h k t s).1.length := Nat.lt_of_lt_of_le hk hx.1
    have hqa := hx.2 k hk
    have es : stT S cr (W (9 + cr)) h k (t + 1) s = st1 S cr (W (9 + cr)) h k t (stT S cr (W (9 + cr)) h k t s) := rfl
    have ih := fun g' => m_canT hS hF hR hW hcr hh ha hz hI hk j (t + 1) g'
    rw [es] at ih
    have end2 : ∀ x, x ∈ (st1 S cr (W (9 + cr)) h k t (stT S cr (W (9 + cr)) h k t s)).2.2.2 → mtB a z x = true → (stT S cr (W (9 + cr)) h k (nT S) s).2.2.2.any (mtB a z) = true := fun x hx1 hx2 => List.any_eq_true.2 ⟨x, stT_R2 (t := t + 1) (by omega) hx1, hx2⟩
    have i9 : wr (9 + (cr : Int)) = ((0 + (9 + cr) : Nat) : Int) := by
      rw [wri (by omega) (by omega)]
      omega
    rw [show g + 2 * (j + 1) + 1 = (g + 2 * j + 1 + 1) + 1 by omega, q_282_59_at138, hS1.2.1, if_pos (by omega), ed, em, m_works hS1 hF htl q1, cI_I, wr_succ (by omega)]
    generalize stT S cr (W (9 + cr)) h k t s = s1 at *
    unfold st1 at ih end2
    rw [hqa] at ih end2
    generalize he : qa s.1 k = e at *
    by_cases hw : wk S t e.1 = true
    · rw [if_pos hw] at ih end2
      have hb := bb_le hF htl q1
      have hcb := cb_le (S := S) (t := t) (h := h) q2
      rw [if_neg (by rw [b01_0, hw]; simp), m_bb hS1 hF htl q1, cI_I, m_cb hS1 hF htl q2 hh, cI_I, mt_i (w := none) hb ha hz]
      by_cases hm : mtB a z (bb S t e.1) = true
      · right
        rw [if_pos hm]
        exact ⟨M1, rfl, end2 _ (List.mem_cons_self ..) hm, hf⟩
      · rw [if_neg hm]
        have hg' : (bb S t e.1 :: s1.2.2.2).any (mtB a z) = false := by
          rw [List.any_cons, hg, Bool.or_false]
          simpa using hm
        obtain ⟨M4, k1, k2⟩ := m_bound (X := X) (d := d + 1) hS1 hF hR (c := cr) (wary := W (9 + cr)) (b := bb S t e.1) (cord := cb S t e.2.1 h) (h := h) hcr hb
        have f4 := hf.tr (k2.mo PB_P)
        have hq4 : MQu s1.1 M4 := hq.fr ((k2.2 59 71 (by decide)).1) (fun a z1 z2 _ _ => by
          funext b
          exact (k2.2 a b (by simp [P9394]; omega)).1)
        rw [q_282_59_at209, i9, gdx (by omega) (by omega), Int.toNat_natCast, hW1.b1 hcr h6, k1, cI_I]
        by_cases hd : bd S cr (W (9 + cr)) (bb S t e.1) (cb S t e.2.1 h) h = true
        · rw [if_pos hd] at ih
          rw [if_neg (by rw [b01_0, hd]; simp), wr_succ (by omega)]
          exact ih g M4 (by omega) hq4 hg' f4
        · rw [if_neg hd] at ih
          obtain ⟨M5, l1, l2, l3⟩ := m_comes (X := X) (d := d + 3) hI1.1 hq4 hb hcb hk1 (t := t) (by omega)
          rw [hqa] at l1 l2
          rw [if_pos (by rw [b01_0]; simpa using hd), m_place _ _ hb hcb, cI_I, l1, cV_V, wr_succ (by omega)]
          exact ih g M5 (by omega) l2 hg' (f4.tr l3)
    · rw [if_neg hw] at ih
      rw [if_pos (by rw [b01_0]; simpa using hw)]
      rcases ih (g + 1) M1 (by omega) hq hg hf with ⟨M2, g3, g1, g2, g4⟩ | g1
      · left
        rw [show g + 1 + 2 * j + 1 = g + 2 * j + 1 + 1 by omega] at g1
        exact ⟨M2, g3, g1, by omega, g4⟩
      · right
        rw [show g + 1 + 2 * j + 1 = g + 2 * j + 1 + 1 by omega] at g1
        exact g1
theorem m_canL (hS : MS S M) (hF : WF S) (hR : WR S) (hW : MW 91 0 (nC S) W M) (hcr : cr < nC S) (hh : h ≤ 1000) {a z : Nat} (ha : a ≤ 63) (hz : z ≤ 63) {b0 c0 : Nat} (vb : b0 ≤ 63) (vc : c0 ≤ 60) : ∀ (j k g : Nat) (M1 : rM), k + j = 3904 → MQu (stH S cr (W (9 + cr)) h b0 c0 k).1 M1 → (stH S cr (W (9 + cr)) h b0 c0 k).2.2.2.any (mtB a z) = false → sf PB M M1 → j * 20 + 1 ≤ g → ∃ M', kb X (d + 4) 282 g 117 [some (rv 59), some (iv (cr : Int)), some (iv (a : Int)), some (iv (z : Int)), some (iv (h : Int)), some (iv (k : Int)), none, none, none, none] [] M1 = oI (b01 ((stF S cr (W (9 + cr)) h b0 c0).2.2.2.any (mtB a z))) M' ∧ sf PB M M'
  | 0, k, g, M1, hk, hq, hg, hf, hfu => by
    obtain ⟨g, rfl⟩ : ∃ q, g = q + 1 := ⟨g - 1, by omega⟩
    have : k = 3904 := by omega
    subst this
    have hB := (stH_BI (S := S) (cr := cr) (wa := W (9 + cr)) (h := h) hF vb vc 3904).1.le
    rw [q_282_59_at117, hq.1, if_neg (by omega), stF_df, hg]
    exact ⟨M1, rfl, hf⟩
  | j + 1, k, g, M1, hk, hq, hg, hf, hfu => by
    have h8 := hF.2.1
    obtain ⟨g, rfl⟩ : ∃ q, g = q + 1 := ⟨g - 1, by omega⟩
    have hB := stH_BI (S := S) (cr := cr) (wa := W (9 + cr)) (h := h) hF vb vc k
    rw [q_282_59_at117, hq.1]
    by_cases hl : k < (stH S cr (W (9 + cr)) h b0 c0 k).1.length
    · rw [if_pos (by omega), gdx (by omega) (by omega), Int.toNat_natCast, (hq.2.1 k hl).1]
      obtain ⟨g', rfl⟩ : ∃ q, g = q + 2 * nT S + 1 := ⟨g - 2 * nT S - 1, by omega⟩
      rcases m_canT (X := X) (d := d) (s := stH S cr (W (9 + cr)) h b0 c0 k) hS hF hR hW hcr hh ha hz hB hl (nT S) 0 g' M1 (by omega) hq hg hf with ⟨M2, g2, e1, e2, e3, e4, e5⟩ | ⟨M2, e1, e2, e3⟩
      · obtain ⟨M3, z1, z2⟩ := m_canL hS hF hR hW hcr hh ha hz vb vc j (k + 1) g2 M2 (by omega) (by rw [stH_s hl]; exact e3) (by rw [stH_s hl]; exact e4) e5 (by omega)
        exact ⟨M3, e1.trans z1, z2⟩
      · have : (stF S cr (W (9 + cr)) h b0 c0).2.2.2.any (mtB a z) = true := by
          obtain ⟨x, x1, x2⟩ := List.any_eq_true.1 e2
          refine List.any_eq_true.2 ⟨x, stH_R2 (k := k + 1) ?_ (by omega), x2⟩
          rw [stH_s hl]
          exact x1
        rw [this]
        exact ⟨M2, e1, e3⟩
    · rw [if_neg (by omega), stH_end (k := k) (by omega) (by omega), hg]
      exact ⟨M1, rfl, hf⟩
theorem m_can (hA : OKA A) (h : MH A M) (a b z : Int) : mOut A (canK A a b z) (if canK A a b z = 0 then canV A a b z else 0) M (fn X (d + 5) 282 [rv 59, iv a, iv b, iv z] M) := by
  have hF := hA.1
  have h6 := hF.1
  obtain ⟨h0, z0, k0⟩ := m_0 h
  obtain ⟨n, hn⟩ : ∃ n, FU = (n + 1) + 1 := ⟨FU - 2, by have := FU_ge; omega⟩
  have hnb : 100000 ≤ n := by have := FU_ge; omega
  rw [q_282_59]
  generalize puI M 59 0 0 = M0 at *
  rw [m_cre h0.1 z0]
  unfold canK canV
  by_cases hc : 0 ≤ a ∧ a < (nC (aS A) : Int)
  · obtain ⟨c, hcl, rfl⟩ := nat_of hc
    simp only [if_pos hc]
    rw [cI_I, if_neg n10, Int.toNat_natCast, m_within, cI_I]
    have bad : ∀ m, mOut A 2 0 M (kb X (d + 4) 282 (m + 1) 45 [some (rv 59), some (iv (c : Int)), some (iv b), some (iv z), none, none, none, none, none, none] [iv 0, rv 59] M0) := by
      intro m
      rw [q_282_59_at45, m_right0 z0 (by omega), cI_I, if_pos (show (0 : Int) = 0 from rfl)]
      exact ⟨_, rfl, puI_eq _ _ _ _, h0.p0 2, k0.pu (by omega) _ _⟩
    by_cases h1 : 0 ≤ b ∧ b ≤ 63
    · rw [if_pos h1, if_neg n10, m_within, cI_I]
      by_cases h2 : 0 ≤ z ∧ z ≤ 63
      · obtain ⟨x, hx, rfl⟩ := nat_le (n := 63) h1
        obtain ⟨y, hy, rfl⟩ := nat_le (n := 63) h2
        rw [if_pos h2, if_neg n10, iand_nat (by omega) (by omega), Int.toNat_natCast, Int.toNat_natCast]
        by_cases h3 : x &&& y = 0
        · simp only [if_pos (show (0 ≤ (x : Int) ∧ (x : Int) ≤ 63) ∧ (0 ≤ (y : Int) ∧ (y : Int) ≤ 63) ∧ x &&& y = 0 from ⟨h1, h2, h3⟩)]
          have i21 : wr (21 + (c : Int)) = ((0 + (21 + c) : Nat) : Int) := by
            rw [wri (by omega) (by omega)]
            omega
          have i3 : wr (3 + (c : Int)) = ((0 + (3 + c) : Nat) : Int) := by
            rw [wri (by omega) (by omega)]
            omega
          rw [if_pos (show ((x &&& y : Nat) : Int) = 0 by omega), if_pos True.intro, hn, q_282_59_at45, m_right1 z0, cI_I, if_neg n10, i21, gdx (by omega) (by omega), Int.toNat_natCast, h0.W.b3 hcl h6]
          by_cases hf : aW A (21 + c) = 0
          · have th := m_those (X := X) (d := d + 3) h0.1 hF (off := 0) (by omega) h0.W 1
            have th : fn X (d + 4) 252 [rv 59, iv 0, iv 1] M0 = _ := th
            obtain ⟨vb, -, vc, -⟩ := hA.2.2.1.1.2.2 c hcl
            have hh := helpW_le (W := aW A) hF
            rw [if_pos (show (aW A (21 + c) : Int) = 0 by omega), if_pos hf, th, cI_I, m_help h0.1 hF, cI_I, i3]
            simp only [gdx (i := ((0 + (3 + c) : Nat) : Int)) (n := 54) (by omega) (by omega), Int.toNat_natCast]
            have e03 := h0.W.b0 hcl h6
            simp only [e03]
            rw [mt_i (w := none) vb hx hy]
            by_cases hm : mtB x y (aW A (3 + c)) = true
            · have hr : (spA A c).2.2.2.any (mtB x y) = true := List.any_eq_true.2 ⟨aW A (3 + c), stH_R2 (k := 0) (by unfold stH; exact List.mem_singleton.2 rfl) (by omega), hm⟩
              rw [if_pos hm, hr]
              exact ⟨M0, rfl, z0, h0, k0⟩
            · obtain ⟨M1, s1, s2, s3⟩ := m_starts (X := X) (d := d + 2) hF hA.2.2.1.1 h0.W hcl
              obtain ⟨M2, e1, e2⟩ := m_canL (X := X) (d := d) (h := helpW (aS A) (aW A)) h0.1 hF hA.2.1 h0.W hcl (by omega) hx hy vb vc 3904 0 (n + 1) M1 (by omega) s2 (by unfold stH; simp [hm]) s3 (by omega)
              rw [if_neg hm, s1, cV_V]
              refine ⟨M2, e1, (z_B e2).trans z0, h0.sf e2 eM_B, k0.tr (kM_B e2)⟩
          · rw [if_neg (show ¬ (aW A (21 + c) : Int) = 0 by omega), if_neg hf]
            exact ⟨M0, rfl, z0, h0, k0⟩
        · simp only [if_neg (show ¬ ((0 ≤ (x : Int) ∧ (x : Int) ≤ 63) ∧ (0 ≤ (y : Int) ∧ (y : Int) ≤ 63) ∧ x &&& y = 0) from fun q => h3 q.2.2)]
          rw [if_neg (show ¬ ((x &&& y : Nat) : Int) = 0 by omega), if_neg (show ¬ (2 : Nat) = 0 by omega), hn, q_282_59_at44]
          exact bad n
      · simp only [if_neg (show ¬ ((0 ≤ b ∧ b ≤ 63) ∧ (0 ≤ z ∧ z ≤ 63) ∧ b.toNat &&& z.toNat = 0) from fun q => h2 q.2.1)]
        rw [if_neg h2, if_pos (show (0 : Int) = 0 from rfl), if_neg (show ¬ (2 : Nat) = 0 by omega), hn, q_282_59_at44]
        exact bad n
    · simp only [if_neg (show ¬ ((0 ≤ b ∧ b ≤ 63) ∧ (0 ≤ z ∧ z ≤ 63) ∧ b.toNat &&& z.toNat = 0) from fun q => h1 q.1)]
      rw [if_neg h1, if_pos (show (0 : Int) = 0 from rfl), if_neg (show ¬ (2 : Nat) = 0 by omega), hn, q_282_59_at44]
      exact bad n
  · simp only [if_neg hc]
    rw [cI_I, if_pos (show (0 : Int) = 0 from rfl), if_neg (show ¬ (1 : Nat) = 0 by omega)]
    exact ⟨_, rfl, puI_eq _ _ _ _, h0.p0 1, k0.pu (by omega) _ _⟩
end C69

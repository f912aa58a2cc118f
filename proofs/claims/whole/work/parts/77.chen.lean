/-! ===== cheapest, the model's cells ===== -/
def oM (o : Option Nat) : Int := match o with
  | none => 99999
  | some k => (k : Int)
def MC (s : KS) (M : rM) : Prop := MQu s.1 M ∧ (∀ i, i < s.1.length → M.2.1 99 (pl (qa s.1 i)) = (s.2.1 (pl (qa s.1 i)) : Int)) ∧ M.2.1 59 72 = oM s.2.2.1 ∧ M.2.1 59 73 = b01 s.2.2.2
section C77
variable {X : Nat × (Nat → Int32)} {d n : Nat} {M M1 M2 M' : rM} {A A' : AS} {S : SK} {W V : WD} {cr wa h b0 c0 : Nat} {s : KS} {Q : List QE}
theorem m_comes2 (hI : QI Q) (hq : MQu Q M) {b c : Nat} (hb : b ≤ 63) (hc : c ≤ 60) {k t : Nat} (hk : k < Q.length) (ht : t < 8) : ∃ M', fn X (d + 1) 275 [rv 59, iv ((61 * b + c : Nat) : Int), iv (pl (qa Q k) : Int), iv (t : Int)] M = oV M' ∧ MQu (vis Q b c ((qa Q k).2.2 ++ [t])) M' ∧ sf PB M M' ∧ M'.2.1 99 = M.2.1 99 ∧ ∀ j, j ≠ 71 → M'.2.1 59 j = M.2.1 59 j := by
  obtain ⟨M5, l1, l2, l3⟩ := m_comes (X := X) (d := d) hI hq hb hc hk ht
  refine ⟨M5, l1, l2, l3, ?_⟩
  have hpk : pl (qa Q k) < 3904 := by
    have := hI.1 k hk
    unfold pl
    omega
  have hle := hI.le
  rw [q_275_59, gdx (by omega) (by omega), Int.toNat_natCast, hq.2.2 _ _ hb hc] at l1
  cases hx : hasQ Q b c with
  | true =>
    rw [hx, if_neg (by simp [b01])] at l1
    injection l1 with l1
    injection l1 with _ l1
    rw [← l1]
    exact ⟨rfl, fun _ _ => rfl⟩
  | false =>
    have hlt := hI.lt hb hc hx
    rw [hx, if_pos (show b01 false = 0 from rfl), hq.1, gdx (by omega) (by omega), gdx (by omega) (by omega), gdx (by omega) (by omega), gdx (by omega) (by omega), if_neg (by omega), gdx (by omega) (by omega), gdx (by omega) (by omega)] at l1
    injection l1 with l1
    injection l1 with _ l1
    rw [← l1]
    refine ⟨?_, fun j hj => ?_⟩
    · rw [puI_k (by omega), puI_k (by omega), puI_k (by omega), puI_k (by omega), puI_k (by omega), puI_k (by omega)]
    · rw [puI_nj hj, puI_ne (by omega), puI_ne (by omega), puI_ne (by omega), puI_ne (by omega), puI_ne (by omega)]
theorem m_cheapen (hS : MS S M) (hF : WF S) (hR : WR S) (hW : MW 91 0 (nC S) W M) (hcr : cr < nC S) (hh : h ≤ 1000) (hI : MI S cr (W (9 + cr)) h b0 c0 s) (hq : MC s M) {k t : Nat} (hk : k < s.1.length) (ht : t < nT S) (hw : wk S t (qa s.1 k).1 = true) : ∃ M', fn X (d + 4) 280 [rv 59, iv (cr : Int), iv (pl (qa s.1 k) : Int), iv (t : Int), iv (h : Int)] M = oV M' ∧ MC (cs1 S cr (W (9 + cr)) h k t s) M' ∧ sf PB M M' := by
  obtain ⟨Q, pr, o, fl⟩ := s
  obtain ⟨c1, c2, c3, c4⟩ := hq
  dsimp only at c1 c2 c3 c4 hk hw ⊢
  have h6 := hF.1
  have h8 := hF.2.1
  have hct := (hF.2.2.2.2.2.1 t ht).2.2.2.2.2
  have m1 : QI Q := hI.1
  have hle := m1.le
  obtain ⟨q1, q2, q3⟩ := m1.1 k hk
  obtain ⟨ed, em⟩ := pl_dm (qa Q k) q1 q2
  have hpk : pl (qa Q k) < 3904 := by
    unfold pl
    omega
  have hpr : pr (pl (qa Q k)) ≤ 20 * k := (hI.2.1 k hk).2
  have hbb := bb_le hF ht q1
  have hcb := cb_le (S := S) (t := t) (h := h) q2
  have i9 : wr (9 + (cr : Int)) = ((0 + (9 + cr) : Nat) : Int) := by
    rw [wri (by omega) (by omega)]
    omega
  obtain ⟨M4, k1, k2⟩ := m_bound (X := X) (d := d) hS hF hR (c := cr) (wary := W (9 + cr)) (b := bb S t (qa Q k).1) (cord := cb S t (qa Q k).2.1 h) (h := h) hcr hbb
  have f4 : sf PB M M4 := k2.mo PB_P
  have o4 : ∀ a, a ≠ 93 → a ≠ 94 → M4.2.1 a = M.2.1 a := fun a z1 z2 => by
    funext j
    exact (k2.2 a j (by simp [P9394, z1, z2])).1
  have hq4 : MQu Q M4 := c1.fr (by rw [o4 59 (by omega) (by omega)]) (fun a z1 z2 _ _ => o4 a (by omega) (by omega))
  have ev : wr (((pr (pl (qa Q k)) : Nat) : Int) + (tri S t 5 : Int)) = ((pr (pl (qa Q k)) + tri S t 5 : Nat) : Int) := by
    rw [wri (by omega) (by omega)]
    rfl
  obtain ⟨nf, hnf⟩ : ∃ m, FU = m + 1 := ⟨FU - 1, by have := FU_ge; omega⟩
  rw [q_280_59, ed, em, m_bb hS hF ht q1, cI_I, m_cb hS hF ht q2 hh, cI_I, gdx (by omega) (by omega), gdx (by omega) (by omega), i9, gdx (by omega) (by omega), Int.toNat_natCast, Int.toNat_natCast, Int.toNat_natCast, hW.b1 hcr h6, c2 k hk, (hS.2.2.2.2.2.1 t ht).2.2.2.2.2, ev, k1, cI_I]
  unfold cs1
  dsimp only
  rw [if_pos hw]
  generalize hve : pr (pl (qa Q k)) + tri S t 5 = v at *
  by_cases hd : bd S cr (W (9 + cr)) (bb S t (qa Q k).1) (cb S t (qa Q k).2.1 h) h = true
  · rw [if_neg (by rw [b01_0, hd]; simp), if_pos hd, m_lesser, cI_I, o4 59 (by omega) (by omega), c3]
    have em' : min (oM o) (v : Int) = oM (bmin o v) := by
      cases o with
      | none =>
        show min (99999 : Int) (v : Int) = (v : Int)
        omega
      | some m =>
        show min (m : Int) (v : Int) = oM (if v < m then some v else some m)
        by_cases hl : v < m
        · rw [if_pos hl]
          show min (m : Int) (v : Int) = (v : Int)
          omega
        · rw [if_neg hl]
          show min (m : Int) (v : Int) = (m : Int)
          omega
    rw [em']
    refine ⟨_, rfl, ⟨hq4.fr (puI_nj (by omega)) (fun a z1 z2 _ _ => puI_k (by omega)), fun i hi => ?_, puI_eq _ _ _ _, ?_⟩, f4.pu (by decide) _⟩
    · dsimp only at hi ⊢
      rw [puI_ne (by omega), o4 99 (by omega) (by omega)]
      exact c2 i hi
    · dsimp only
      rw [puI_nj (by omega), o4 59 (by omega) (by omega)]
      exact c4
  · rw [if_pos (by rw [b01_0]; simpa using hd), if_neg hd, m_place _ _ hbb hcb, cI_I, gdx (by omega) (by omega), Int.toNat_natCast, hq4.2.2 _ _ hbb hcb]
    obtain ⟨M5, l1, l2, l3, l4, l5⟩ := m_comes2 (X := X) (d := d + 2) m1 hq4 hbb hcb hk (t := t) (by omega)
    have f5 := f4.tr l3
    have e99 : M5.2.1 99 = M.2.1 99 := l4.trans (o4 99 (by omega) (by omega))
    have e72 : M5.2.1 59 72 = oM o := (l5 72 (by omega)).trans ((by rw [o4 59 (by omega) (by omega)] : M4.2.1 59 72 = M.2.1 59 72).trans c3)
    have e73 : M5.2.1 59 73 = b01 fl := (l5 73 (by omega)).trans ((by rw [o4 59 (by omega) (by omega)] : M4.2.1 59 73 = M.2.1 59 73).trans c4)
    have hqv := m1.vs (b := bb S t (qa Q k).1) (c := cb S t (qa Q k).2.1 h) (r := (qa Q k).2.2 ++ [t]) hbb hcb (by rw [List.length_append]; show (qa Q k).2.2.length + 1 ≤ _; omega)
    generalize hbe : bb S t (qa Q k).1 = b' at *
    generalize hce : cb S t (qa Q k).2.1 h = c' at *
    -- the price is put
    have put : ¬ (hasQ Q b' c' = true ∧ pr (61 * b' + c') ≤ v) → MC (vis Q b' c' ((qa Q k).2.2 ++ [t]), u1 pr (61 * b' + c') v, o, true) (puI (puI M5 99 (61 * b' + c') (v : Int)) 59 73 1) := by
      intro hg
      refine ⟨l2.fr (by rw [puI_nj (by omega), puI_ne (by omega)]) (fun a z1 z2 z3 _ => by rw [puI_k (by omega), puI_k z3]), fun i hi => ?_, ?_, puI_eq _ _ _ _⟩
      · dsimp only at hi ⊢
        rw [puI_ne (by omega)]
        by_cases e : pl (qa (vis Q b' c' ((qa Q k).2.2 ++ [t])) i) = 61 * b' + c'
        · rw [e, puI_eq, u1_eq]
        · rw [puI_nj e, u1_ne e, e99]
          have hil : i < Q.length := by
            apply Classical.byContradiction
            intro hx
            unfold vis at hi e
            by_cases hh : hasQ Q b' c' = true
            · rw [if_pos hh] at hi
              omega
            · rw [if_neg hh] at hi e
              have ll : (Q ++ [(b', c', (qa Q k).2.2 ++ [t])]).length = Q.length + 1 := by rw [List.length_append]; rfl
              have : i = Q.length := by omega
              rw [this, qa_end] at e
              exact e rfl
          rw [vis_ext.2 i hil]
          exact c2 i hil
      · dsimp only
        rw [puI_nj (by omega), puI_ne (by omega)]
        exact e72
    have fput : sf PB M (puI (puI M5 99 (61 * b' + c') (v : Int)) 59 73 1) := (f5.pu (PB_t (by omega) (by omega) _) _).pu (by decide) _
    rw [hnf]
    cases hh : hasQ Q b' c' with
    | false =>
      rw [if_pos (show b01 false = 0 from rfl), q_280_59_at100, l1, cV_V, if_neg n10, gdx (by omega) (by omega), Int.toNat_natCast, if_neg (fun q => by cases q.1)]
      exact ⟨_, rfl, put (fun q => by rw [hh] at q; cases q.1), fput⟩
    | true =>
      obtain ⟨i0, i1, i2, i3⟩ := has_iff.1 hh
      have ep : pl (qa Q i0) = 61 * b' + c' := by
        unfold pl
        rw [i2, i3]
      have e5 : M5.2.1 99 (61 * b' + c') = (pr (61 * b' + c') : Int) := by
        rw [e99, ← ep]
        exact c2 i0 i1
      rw [if_neg (show ¬ b01 true = 0 by decide), q_280_59_at100, l1, cV_V, if_pos (show (0 : Int) = 0 from rfl), gdx (by omega) (by omega), Int.toNat_natCast, e5]
      by_cases hl : pr (61 * b' + c') ≤ v
      · rw [if_neg (by omega), if_pos ⟨rfl, hl⟩]
        have ev' : vis Q b' c' ((qa Q k).2.2 ++ [t]) = Q := by
          unfold vis
          rw [if_pos hh]
        rw [ev'] at l2
        refine ⟨M5, rfl, ⟨l2, fun i hi => ?_, e72, e73⟩, f5⟩
        dsimp only at hi ⊢
        rw [e99]
        exact c2 i hi
      · rw [if_pos (by omega), gdx (by omega) (by omega), if_neg (fun q => hl q.2)]
        exact ⟨_, rfl, put (fun q => hl q.2), fput⟩
/-- the tricks from one place -/
theorem m_chT (hS : MS S M) (hF : WF S) (hR : WR S) (hW : MW 91 0 (nC S) W M) (hcr : cr < nC S) (hh : h ≤ 1000) {k : Nat} : ∀ (j t g : Nat) (s : KS) (M1 : rM), t + j = nT S → MI S cr (W (9 + cr)) h b0 c0 s → k < s.1.length → RI S cr (W (9 + cr)) h s k t → MC s M1 → sf PB M M1 →
    ∃ M2 s2, kb X (d + 5) 281 (g + j + 1) 94 [some (rv 59), some (iv (cr : Int)), some (iv (h : Int)), some (iv (k : Int)), some (iv (t : Int))] [] M1 = kb X (d + 5) 281 g 83 [some (rv 59), some (iv (cr : Int)), some (iv (h : Int)), some (iv ((k + 1 : Nat) : Int)), none] [] M2 ∧ MI S cr (W (9 + cr)) h b0 c0 s2 ∧ k < s2.1.length ∧ RI S cr (W (9 + cr)) h s2 k (nT S) ∧ MC s2 M2 ∧ sf PB M M2 ∧ phi s2 ≤ phi s ∧ (s.2.2.2 = false → s2.2.2.2 = true → phi s2 < phi s)
  | 0, t, g, s, M1, ht, hI, hk, hRi, hq, hf => by
    have hS1 := hS.sf hf eM_B
    have hle := hI.1.le
    have : t = nT S := by omega
    subst this
    rw [show g + 0 + 1 = g + 1 from rfl, q_281_59_at94, hS1.2.1, if_neg (by omega), wr_succ (by omega)]
    exact ⟨M1, s, rfl, hI, hk, hRi, hq, hf, Nat.le_refl _, fun a b => by rw [a] at b; cases b⟩
  | j + 1, t, g, s, M1, ht, hI, hk, hRi, hq, hf => by
    have hS1 := hS.sf hf eM_B
    have hW1 := hW.sf hf eM_B
    have h8 := hF.2.1
    have htl : t < nT S := by omega
    have hle := hI.1.le
    obtain ⟨q1, q2, q3⟩ := hI.1.1 k hk
    obtain ⟨ed, em⟩ := pl_dm (qa s.1 k) q1 q2
    obtain ⟨a1, a2, a3, a4, a5⟩ := cs1_ok hF hI hk htl hRi
    rw [show g + (j + 1) + 1 = (g + j + 1) + 1 by omega, q_281_59_at94, hS1.2.1, if_pos (by omega), gdx (by omega) (by omega), Int.toNat_natCast, (hq.1.2.1 k hk).1, ed, m_works hS1 hF htl q1, cI_I, wr_succ (by omega)]
    have go : ∀ M3, MC (cs1 S cr (W (9 + cr)) h k t s) M3 → sf PB M M3 → ∃ M2 s2, kb X (d + 5) 281 (g + j + 1) 94 [some (rv 59), some (iv (cr : Int)), some (iv (h : Int)), some (iv (k : Int)), some (iv ((t + 1 : Nat) : Int))] [] M3 = kb X (d + 5) 281 g 83 [some (rv 59), some (iv (cr : Int)), some (iv (h : Int)), some (iv ((k + 1 : Nat) : Int)), none] [] M2 ∧ MI S cr (W (9 + cr)) h b0 c0 s2 ∧ k < s2.1.length ∧ RI S cr (W (9 + cr)) h s2 k (nT S) ∧ MC s2 M2 ∧ sf PB M M2 ∧ phi s2 ≤ phi s ∧ (s.2.2.2 = false → s2.2.2.2 = true → phi s2 < phi s) := by
      intro M3 hq3 hf3
      obtain ⟨M2, s2, g1, g2, g3, g4, g5, g6, g7, g8⟩ := m_chT hS hF hR hW hcr hh j (t + 1) g _ M3 (by omega) a1 (Nat.lt_of_lt_of_le hk a2.1) a3 hq3 hf3
      refine ⟨M2, s2, g1, g2, g3, g4, g5, g6, by omega, fun z1 z2 => ?_⟩
      cases hx : (cs1 S cr (W (9 + cr)) h k t s).2.2.2 with
      | true =>
        have := a5 z1 hx
        omega
      | false =>
        have := g8 hx z2
        omega
    by_cases hw : wk S t (qa s.1 k).1 = true
    · obtain ⟨M3, l1, l2, l3⟩ := m_cheapen (X := X) (d := d + 1) hS1 hF hR hW1 hcr hh hI hq hk htl hw
      rw [if_neg (by rw [b01_0, hw]; simp), gdx (by omega) (by omega), (hq.1.2.1 k hk).1, l1, cV_V]
      exact go M3 l2 (hf.tr l3)
    · have e : cs1 S cr (W (9 + cr)) h k t s = s := by
        unfold cs1
        rw [if_neg hw]
      rw [if_pos (by rw [b01_0]; simpa using hw)]
      exact go M1 (by rw [e]; exact hq) hf
theorem fuel40 {F g' g2 : Nat} (h1 : (F + 1 + 1) * 40000 ≤ g' + 3904 * 10 + 1 + 1) (h2 : g' ≤ g2) : (F + 1) * 40000 ≤ g2 := by
  rw [Nat.add_mul (F + 1) 1 40000, Nat.one_mul] at h1
  generalize (F + 1) * 40000 = y at *
  omega
/-- one round over all places -/
theorem m_chK (hS : MS S M) (hF : WF S) (hR : WR S) (hW : MW 91 0 (nC S) W M) (hcr : cr < nC S) (hh : h ≤ 1000) : ∀ (j k g : Nat) (s : KS) (M1 : rM), k + j = 3904 → MI S cr (W (9 + cr)) h b0 c0 s → RI S cr (W (9 + cr)) h s k 0 → MC s M1 → sf PB M M1 →
    ∃ M2 s2 g', kb X (d + 5) 281 (g + j * 10 + 1) 83 [some (rv 59), some (iv (cr : Int)), some (iv (h : Int)), some (iv (k : Int)), none] [] M1 = kb X (d + 5) 281 g' 69 [some (rv 59), some (iv (cr : Int)), some (iv (h : Int)), none, none] [] M2 ∧ g ≤ g' ∧ MI S cr (W (9 + cr)) h b0 c0 s2 ∧ RI S cr (W (9 + cr)) h s2 s2.1.length 0 ∧ MC s2 M2 ∧ sf PB M M2 ∧ phi s2 ≤ phi s ∧ (s.2.2.2 = false → s2.2.2.2 = true → phi s2 < phi s)
  | 0, k, g, s, M1, hk, hI, hRi, hq, hf => by
    have hle := hI.1.le
    rw [show g + 0 * 10 + 1 = g + 1 by omega, q_281_59_at83, hq.1.1, if_neg (by omega)]
    refine ⟨M1, s, g, rfl, Nat.le_refl _, hI, fun a k' t' y1 y2 y3 => hRi a k' t' y1 y2 (by omega), hq, hf, Nat.le_refl _, fun a b => by rw [a] at b; cases b⟩
  | j + 1, k, g, s, M1, hk, hI, hRi, hq, hf => by
    have hle := hI.1.le
    have h8 := hF.2.1
    rw [show g + (j + 1) * 10 + 1 = ((g + (8 - nT S) + j * 10 + 1) + nT S + 1) + 1 by omega, q_281_59_at83, hq.1.1]
    by_cases hl : k < s.1.length
    · rw [if_pos (by omega)]
      obtain ⟨M2, s2, g1, g2, g3, g4, g5, g6, g7, g8⟩ := m_chT (X := X) (d := d) hS hF hR hW hcr hh (nT S) 0 (g + (8 - nT S) + j * 10 + 1) s M1 (by omega) hI hl hRi hq hf
      obtain ⟨M3, s3, g', e1, e2, e3, e4, e5, e6, e7, e8⟩ := m_chK hS hF hR hW hcr hh j (k + 1) (g + (8 - nT S)) s2 M2 (by omega) g2 (fun a k' t' y1 y2 y3 => g4 a k' t' y1 y2 (by omega)) g5 g6
      refine ⟨M3, s3, g', g1.trans e1, by omega, e3, e4, e5, e6, by omega, fun z1 z2 => ?_⟩
      cases hx : s2.2.2.2 with
      | true =>
        have := g8 z1 hx
        omega
      | false =>
        have := e8 hx z2
        omega
    · rw [if_neg (by omega)]
      exact ⟨M1, s, _, rfl, by omega, hI, fun a k' t' y1 y2 y3 => hRi a k' t' y1 y2 (by omega), hq, hf, Nat.le_refl _, fun a b => by rw [a] at b; cases b⟩
theorem m_chP (hS : MS S M) (hF : WF S) (hR : WR S) (hW : MW 91 0 (nC S) W M) (hcr : cr < nC S) (hh : h ≤ 1000) : ∀ (F g : Nat) (s : KS) (M1 : rM), phi s ≤ F → MI S cr (W (9 + cr)) h b0 c0 s → MC s M1 → sf PB M M1 → (s.2.2.2 = false → RI S cr (W (9 + cr)) h s s.1.length 0) → (F + 1) * 40000 ≤ g → ∃ M2 v, kb X (d + 5) 281 g 69 [some (rv 59), some (iv (cr : Int)), some (iv (h : Int)), none, none] [] M1 = oI v M2 ∧ CSp S cr (W (9 + cr)) h b0 c0 v ∧ sf PB M M2 := by
  have fin : ∀ (g : Nat) (s : KS) (M1 : rM), MI S cr (W (9 + cr)) h b0 c0 s → MC s M1 → sf PB M M1 → s.2.2.2 = false → RI S cr (W (9 + cr)) h s s.1.length 0 → ∃ M2 v, kb X (d + 5) 281 (g + 1) 69 [some (rv 59), some (iv (cr : Int)), some (iv (h : Int)), none, none] [] M1 = oI v M2 ∧ CSp S cr (W (9 + cr)) h b0 c0 v ∧ sf PB M M2 := by
    intro g s M1 hI hq hf hfl hRi
    have hv := MI_end hF hI hfl hRi (by have := (hI.2.1 0 hI.2.2.2.1).2; omega)
    refine ⟨M1, bI s.2.2.1, ?_, hv, hf⟩
    rw [q_281_59_at69, hq.2.2.2, hfl, if_pos (show b01 false = 0 from rfl), hq.2.2.1]
    cases ho : s.2.2.1 with
    | none =>
      rw [if_pos (show oM none = 99999 from rfl)]
      rfl
    | some m =>
      have := (hI.2.2.1 m ho).2
      have e : oM (some m) = (m : Int) := rfl
      rw [e, if_neg (by omega)]
      rfl
  intro F
  induction F with
  | zero =>
    intro g s M1 hp hI hq hf hd hg
    cases hfl : s.2.2.2 with
    | false =>
      obtain ⟨g, rfl⟩ : ∃ q, g = q + 1 := ⟨g - 1, by omega⟩
      exact fin g s M1 hI hq hf hfl (hd hfl)
    | true =>
      obtain ⟨g', rfl⟩ : ∃ q, g = (q + 3904 * 10 + 1) + 1 := ⟨g - 39042, by omega⟩
      have hI0 : MI S cr (W (9 + cr)) h b0 c0 (s.1, s.2.1, s.2.2.1, false) := hI
      obtain ⟨M2, s2, g2, e1, e2, e3, e4, e5, e6, e7, e8⟩ := m_chK (X := X) (d := d) hS hF hR hW hcr hh 3904 0 g' (s.1, s.2.1, s.2.2.1, false) (puI M1 59 73 0) (by omega) hI0 (fun _ k' t' _ _ y => by omega) ⟨hq.1.fr (puI_nj (by omega)) (fun a z1 z2 _ _ => puI_k (by omega)), fun i hi => by rw [puI_ne (by omega)]; exact hq.2.1 i hi, by rw [puI_nj (by omega)]; exact hq.2.2.1, puI_eq _ _ _ _⟩ (hf.pu (by decide) _)
      rw [q_281_59_at69, hq.2.2.2, hfl, if_neg (show ¬ b01 true = 0 by decide)]
      have e1 : kb X (d + 5) 281 (g' + 3904 * 10 + 1) 83 [some (rv 59), some (iv (cr : Int)), some (iv (h : Int)), some (iv 0), none] [] (puI M1 59 73 0) = _ := e1
      rw [e1]
      have hphi : phi (s.1, s.2.1, s.2.2.1, false) = phi s := rfl
      cases hfl2 : s2.2.2.2 with
      | true =>
        have := e8 rfl hfl2
        omega
      | false =>
        obtain ⟨g3, rfl⟩ : ∃ q, g2 = q + 1 := ⟨g2 - 1, by omega⟩
        exact fin g3 s2 M2 e3 e5 e6 hfl2 e4
  | succ F ih =>
    intro g s M1 hp hI hq hf hd hg
    cases hfl : s.2.2.2 with
    | false =>
      obtain ⟨g, rfl⟩ : ∃ q, g = q + 1 := ⟨g - 1, by omega⟩
      exact fin g s M1 hI hq hf hfl (hd hfl)
    | true =>
      obtain ⟨g', rfl⟩ : ∃ q, g = (q + 3904 * 10 + 1) + 1 := ⟨g - 39042, by omega⟩
      have hI0 : MI S cr (W (9 + cr)) h b0 c0 (s.1, s.2.1, s.2.2.1, false) := hI
      obtain ⟨M2, s2, g2, e1, e2, e3, e4, e5, e6, e7, e8⟩ := m_chK (X := X) (d := d) hS hF hR hW hcr hh 3904 0 g' (s.1, s.2.1, s.2.2.1, false) (puI M1 59 73 0) (by omega) hI0 (fun _ k' t' _ _ y => by omega) ⟨hq.1.fr (puI_nj (by omega)) (fun a z1 z2 _ _ => puI_k (by omega)), fun i hi => by rw [puI_ne (by omega)]; exact hq.2.1 i hi, by rw [puI_nj (by omega)]; exact hq.2.2.1, puI_eq _ _ _ _⟩ (hf.pu (by decide) _)
      rw [q_281_59_at69, hq.2.2.2, hfl, if_neg (show ¬ b01 true = 0 by decide)]
      have e1 : kb X (d + 5) 281 (g' + 3904 * 10 + 1) 83 [some (rv 59), some (iv (cr : Int)), some (iv (h : Int)), some (iv 0), none] [] (puI M1 59 73 0) = _ := e1
      rw [e1]
      have hphi : phi (s.1, s.2.1, s.2.2.1, false) = phi s := rfl
      cases hfl2 : s2.2.2.2 with
      | true =>
        have := e8 rfl hfl2
        have hg2 : (F + 1) * 40000 ≤ g2 := fuel40 hg e2
        exact ih g2 s2 M2 (by omega) e3 e5 e6 (fun z => absurd (hfl2.symm.trans z) (by simp)) hg2
      | false =>
        obtain ⟨g3, rfl⟩ : ∃ q, g2 = q + 1 := ⟨g2 - 1, by omega⟩
        exact fin g3 s2 M2 e3 e5 e6 hfl2 e4
theorem m_cheapest (hA : OKA A) (h : MH A M) (a : Int) : mOut A (ans (0 ≤ a ∧ a < (nC (aS A) : Int)) 0).1 (if 0 ≤ a ∧ a < (nC (aS A) : Int) then cheV A a else 0) M (fn X (d + 6) 281 [rv 59, iv a] M) := by
  obtain ⟨hF, hR, hV, -⟩ := id hA
  have h6 := hF.1
  obtain ⟨h0, z0, k0⟩ := m_0 h
  rw [q_281_59]
  generalize puI M 59 0 0 = M0 at *
  rw [m_cre h0.1 z0]
  unfold ans cheV
  by_cases hc : 0 ≤ a ∧ a < (nC (aS A) : Int)
  · obtain ⟨c, hcl, rfl⟩ := nat_of hc
    have i21 : wr (21 + (c : Int)) = ((0 + (21 + c) : Nat) : Int) := by
      rw [wri (by omega) (by omega)]
      omega
    simp only [if_pos hc]
    rw [cI_I, if_neg n10, Int.toNat_natCast, i21, gdx (by omega) (by omega), Int.toNat_natCast, h0.W.b3 hcl h6]
    by_cases hf : aW A (21 + c) = 0
    · obtain ⟨vb, -, vc, -⟩ := hV.1.2.2 c hcl
      have hh := helpW_le (W := aW A) hF
      have th := m_those (X := X) (d := d + 4) h0.1 hF (off := 0) (by omega) h0.W 1
      have th : fn X (d + 5) 252 [rv 59, iv 0, iv 1] M0 = _ := th
      obtain ⟨M1, s1, s2, s3⟩ := m_starts (X := X) (d := d + 3) hF hV.1 h0.W hcl
      have e0 : M1.2.1 95 0 = ((61 * aW A (3 + c) + aW A (15 + c) : Nat) : Int) := (s2.2.1 0 Nat.zero_lt_one).1
      rw [if_pos (show (aW A (21 + c) : Int) = 0 by omega), if_pos hf, th, cI_I, m_help h0.1 hF, cI_I, s1, cV_V, e0, gdx (by omega) (by omega), Int.toNat_natCast]
      have hm : MC ([(aW A (3 + c), aW A (15 + c), [])], fun _ => 0, none, true) (puI (puI (puI M1 99 (61 * aW A (3 + c) + aW A (15 + c)) 0) 59 72 99999) 59 73 1) := by
        refine ⟨s2.fr (by rw [puI_nj (by omega), puI_nj (by omega), puI_ne (by omega)]) (fun a z1 z2 z3 _ => by rw [puI_k (by omega), puI_k (by omega), puI_k z3]), fun i hi => ?_, by rw [puI_nj (by omega), puI_eq]; rfl, puI_eq _ _ _ _⟩
        have : i = 0 := by have : i < 1 := hi; omega
        subst this
        rw [puI_ne (by omega), puI_ne (by omega)]
        exact puI_eq _ _ _ _
      have hi : MI (aS A) c (aW A (9 + c)) (helpW (aS A) (aW A)) (aW A (3 + c)) (aW A (15 + c)) ([(aW A (3 + c), aW A (15 + c), [])], fun _ => 0, none, true) := by
        have hb := (stH_BI (S := aS A) (cr := c) (wa := aW A (9 + c)) (h := helpW (aS A) (aW A)) hF vb vc 0).1
        refine ⟨hb, fun i hi => ⟨⟨[], ?_⟩, Nat.zero_le _⟩, fun k hk => (by cases hk), (show 0 < 1 by omega), rfl, rfl⟩
        have : i = 0 := by have : i < 1 := hi; omega
        subst this
        rfl
      obtain ⟨M2, v, k1, k2, k3⟩ := m_chP (X := X) (d := d) h0.1 hF hR h0.W hcl (h := helpW (aS A) (aW A)) (by omega) (phi ([(aW A (3 + c), aW A (15 + c), [])], fun _ => 0, none, true)) FU _ _ (Nat.le_refl _) hi hm (((s3.pu (PB_t (by omega) (by omega) _) _).pu (by decide) _).pu (by decide) _) (fun z => by cases z) (by
        have e : phi ([(aW A (3 + c), aW A (15 + c), [])], fun _ => 0, none, true) ≤ 390400000 := by
          unfold phi
          show (3904 - 1) * 100000 + (0 + 0) ≤ 390400000
          omega
        have := FU_big
        omega)
      rw [k1, ← cheS_eq _ _ _ _ _ _ k2]
      exact ⟨M2, rfl, (z_B k3).trans z0, h0.sf k3 eM_B, k0.tr (kM_B k3)⟩
    · rw [if_neg (show ¬ (aW A (21 + c) : Int) = 0 by omega), if_neg hf]
      exact ⟨M0, rfl, z0, h0, k0⟩
  · simp only [if_neg hc]
    rw [cI_I, if_pos (show (0 : Int) = 0 from rfl)]
    exact ⟨_, rfl, puI_eq _ _ _ _, h0.p0 1, k0.pu (by omega) _ _⟩
end C77

/-! ===== the pure judgement's rows ===== -/
abbrev sa_Ct : Type := Nat × Nat × Bool
/-- the memory while the system runs: counters, ints, longs -/
def sa_mk (c : sa_Ct) (I : Nat → Nat → Int32) (J : Nat → Nat → Int64) : sa_Mem := ((112, c), sa_SH, I, J, sa_RR)
def wI (I : Nat → Nat → Int32) (k j : Nat) (x : Int32) : Nat → Nat → Int32 := va_up I k (upd (I k) j x)
def wJ (J : Nat → Nat → Int64) (k j : Nat) (x : Int64) : Nat → Nat → Int64 := va_up J k (vp_updL (J k) j x)
theorem sa_mkI {c : sa_Ct} {I : Nat → Nat → Int32} {J : Nat → Nat → Int64} {k : Nat} {f : Nat → Int32} : sa_setI (sa_mk c I J) k f = sa_mk c (va_up I k f) J := rfl
theorem sa_mkJ {c : sa_Ct} {I : Nat → Nat → Int32} {J : Nat → Nat → Int64} {k : Nat} {f : Nat → Int64} : sa_setJ (sa_mk c I J) k f = sa_mk c I (va_up J k f) := rfl
/-- one step that needs no premise: locals, stack, fields, constants, goto -/
def sa_x1 (e : sa_Me) (pc : Nat) (lo st : List Value) (m : sa_Mem) : Option (Nat × List Value × List Value × sa_Mem) := match sa_lk e pc with
  | none => none
  | some (i, len) => match i with
    | .getfield idx => match st with
      | .ref k :: r => match sa_pF.lookup (e.1, idx) with
        | some (ci, j, _) => if k < sa_mN m ∧ (sa_sh m k).1 = ci then some (pc + len, lo, sa_gf m k ci j :: r, m) else none
        | none => match sa_pX.lookup (e.1, idx) with
          | some t => if 100100 ≤ k ∧ k < 100100 + sa_txt.length then some (pc + len, lo, (if t = 0 then .ref (k + 100) else .int 0) :: r, m) else none
          | none => none
      | _ => none
    | .putfield idx => match st with
      | .int x :: .ref k :: r => match sa_pF.lookup (e.1, idx) with
        | some (ci, j, false) => if k < sa_mN m ∧ (sa_sh m k).1 = ci ∧ sa_fin ci j = false ∧ (sa_ty ci j = .int ∨ (sa_ty ci j = .boolean ∧ (x = 0 ∨ x = 1))) then some (pc + len, lo, r, sa_setI m k (upd (sa_mI m k) j x)) else none
        | _ => none
      | .long x :: .ref k :: r => match sa_pF.lookup (e.1, idx) with
        | some (ci, j, false) => if k < sa_mN m ∧ (sa_sh m k).1 = ci ∧ sa_fin ci j = false ∧ sa_ty ci j = .long then some (pc + len, lo, r, sa_setJ m k (vp_updL (sa_mJ m k) j x)) else none
        | _ => none
      | _ => none
    | .goto off => if 0 ≤ (pc : Int) + off then some (((pc : Int) + off).toNat, lo, st, m) else none
    | .ldc idx => match sa_pK.lookup (e.1, idx) with
      | some v => some (pc + len, lo, .int v :: st, m)
      | none => match sa_pStr.lookup (e.1, idx) with
        | some q => some (pc + len, lo, .ref (100100 + q.1) :: st, m)
        | none => none
    | .ldc_w idx => match sa_pK.lookup (e.1, idx) with
      | some v => some (pc + len, lo, .int v :: st, m)
      | none => none
    | .ldc2_w idx => match sa_pKL.lookup (e.1, idx) with
      | some v => some (pc + len, lo, .long v :: st, m)
      | none => none
    | .getstatic idx => match sa_pS.lookup (e.1, idx) with
      | some v => some (pc + len, lo, v :: st, m)
      | none => none
    | i => match sa_pu i lo st with
      | some q => some (pc + len, q.1, q.2, m)
      | none => none
def sa_xn (e : sa_Me) : Nat → Nat → List Value → List Value → sa_Mem → Option (Nat × List Value × List Value × sa_Mem)
  | 0, pc, lo, st, m => some (pc, lo, st, m)
  | n + 1, pc, lo, st, m => match sa_x1 e pc lo st m with
    | some q => sa_xn e n q.1 q.2.1 q.2.2.1 q.2.2.2
    | none => none
section SAW
variable {X : Nat × (Nat → Int32)} {C : Nat → List Value → sa_Mem → sa_Out → Prop} {mi pc : Nat} {lo st : List Value} {m : sa_Mem} {Q : sa_Out → Prop} {e : sa_Me}
theorem sa_W.he (he : sa_Ma[mi]? = some e) {i : Instr} {len : Nat} (hi : sa_lk e pc = some (i, len)) (h : ∃ f o, sa_he X e.1 (e.2.1.name = "<init>") i st m (fun st' m' => sa_run X C mi f (pc + len) lo st' m' o) ∧ Q o) : sa_W X C mi pc lo st m Q := by
  obtain ⟨f, o, h, q⟩ := h
  exact ⟨f + 1, o, ⟨e, i, len, he, hi, Or.inr (Or.inl h)⟩, q⟩
theorem sa_W.ct (he : sa_Ma[mi]? = some e) {i : Instr} {len : Nat} (hi : sa_lk e pc = some (i, len)) (h : ∃ f o, sa_ct i pc st (fun pc' st' => sa_run X C mi f pc' lo st' m o) ∧ Q o) : sa_W X C mi pc lo st m Q := by
  obtain ⟨f, o, h, q⟩ := h
  exact ⟨f + 1, o, ⟨e, i, len, he, hi, Or.inr (Or.inr (Or.inl h))⟩, q⟩
theorem sa_W.iv (he : sa_Ma[mi]? = some e) {i : Instr} {len : Nat} (hi : sa_lk e pc = some (i, len)) (h : ∃ f o, sa_iv C e pc i lo st m o (fun pc' lo' st' m' => sa_run X C mi f pc' lo' st' m' o) ∧ Q o) : sa_W X C mi pc lo st m Q := by
  obtain ⟨f, o, h, q⟩ := h
  exact ⟨f + 1, o, ⟨e, i, len, he, hi, Or.inr (Or.inr (Or.inr (Or.inr (Or.inr h))))⟩, q⟩
theorem sa_W.pu (he : sa_Ma[mi]? = some e) {i : Instr} {len : Nat} (hi : sa_lk e pc = some (i, len)) {lo' st' : List Value} (hp : sa_pu i lo st = some (lo', st')) (k : sa_W X C mi (pc + len) lo' st' m Q) : sa_W X C mi pc lo st m Q := by
  obtain ⟨f, o, h, q⟩ := k
  exact ⟨f + 1, o, ⟨e, i, len, he, hi, Or.inl ⟨lo', st', hp, h⟩⟩, q⟩
theorem sa_W.rt (he : sa_Ma[mi]? = some e) {i : Instr} {len : Nat} (hi : sa_lk e pc = some (i, len)) {o : sa_Out} (h : sa_rt e i st m o) (q : Q o) : sa_W X C mi pc lo st m Q := ⟨1, o, ⟨e, i, len, he, hi, Or.inr (Or.inr (Or.inr (Or.inl h)))⟩, q⟩
theorem sa_W.th (he : sa_Ma[mi]? = some e) {i : Instr} {len : Nat} (hi : sa_lk e pc = some (i, len)) {o : sa_Out} (h : sa_th e pc i st m o) (q : Q o) : sa_W X C mi pc lo st m Q := ⟨1, o, ⟨e, i, len, he, hi, Or.inr (Or.inr (Or.inr (Or.inr (Or.inl h))))⟩, q⟩
set_option maxHeartbeats 4000000 in
theorem sa_x1_ok (he : sa_Ma[mi]? = some e) {q : Nat × List Value × List Value × sa_Mem} (h : sa_x1 e pc lo st m = some q) (k : sa_W X C mi q.1 q.2.1 q.2.2.1 q.2.2.2 Q) : sa_W X C mi pc lo st m Q := by
  unfold sa_x1 at h
  split at h
  · cases h
  · rename_i i len hi
    have heK : ∀ {st' : List Value} {m' : sa_Mem}, sa_W X C mi (pc + len) lo st' m' Q → (∀ K : List Value → sa_Mem → Prop, K st' m' → sa_he X e.1 (e.2.1.name = "<init>") i st m K) → sa_W X C mi pc lo st m Q := by
      intro st' m' kw hh
      obtain ⟨f, o, h1, h2⟩ := kw
      exact sa_W.he he hi ⟨f, o, hh _ h1, h2⟩
    split at h
    · rename_i idx
      split at h
      · rename_i k0 r
        split at h
        · rename_i ci j b hF
          split at h
          · rename_i hc
            cases h
            exact heK k (fun K hK => ⟨k0, r, rfl, Or.inl ⟨ci, j, b, hF, hc.1, hc.2, hK⟩⟩)
          · cases h
        · split at h
          · rename_i t hX
            split at h
            · rename_i hc
              cases h
              exact heK k (fun K hK => ⟨k0, r, rfl, Or.inr ⟨t, hX, hc.1, hc.2, hK⟩⟩)
            · cases h
          · cases h
      · cases h
    · rename_i idx
      split at h
      · rename_i x k0 r
        split at h
        · rename_i ci j hF
          split at h
          · rename_i hc
            cases h
            obtain ⟨c1, c2, c3, c4⟩ := hc
            refine heK k (fun K hK => ⟨.int x, k0, r, ci, j, _, rfl, hF, c1, c2, (fun z => by rw [c3] at z; cases z), ?_, hK⟩)
            rcases c4 with c4 | ⟨c4, c5⟩
            · refine ⟨by rw [c4]; rfl, ⟨by rw [c4]; rfl, by rw [c4]; rfl⟩, rfl⟩
            · refine ⟨by rw [c4]; rfl, ⟨?_, ?_⟩, rfl⟩
              · rw [c4]
                rcases c5 with rfl | rfl <;> rfl
              · rw [c4]
                rcases c5 with rfl | rfl <;> rfl
          · cases h
        · cases h
      · rename_i x k0 r
        split at h
        · rename_i ci j hF
          split at h
          · rename_i hc
            cases h
            obtain ⟨c1, c2, c3, c4⟩ := hc
            exact heK k (fun K hK => ⟨.long x, k0, r, ci, j, _, rfl, hF, c1, c2, (fun z => by rw [c3] at z; cases z), ⟨c4, rfl⟩, hK⟩)
          · cases h
        · cases h
      · cases h
    · rename_i off
      split at h
      · rename_i hc
        cases h
        obtain ⟨f, o, h1, h2⟩ := k
        exact sa_W.ct he hi ⟨f, o, ⟨_, (Int.toNat_of_nonneg hc).symm, h1⟩, h2⟩
      · cases h
    · rename_i idx
      split at h
      · rename_i v hv
        cases h
        exact heK k (fun K hK => Or.inl ⟨v, hv, hK⟩)
      · split at h
        · rename_i q0 hv
          cases h
          exact heK k (fun K hK => Or.inr ⟨q0.1, q0.2, hv, hK⟩)
        · cases h
    · rename_i idx
      split at h
      · rename_i v hv
        cases h
        exact heK k (fun K hK => ⟨v, hv, hK⟩)
      · cases h
    · rename_i idx
      split at h
      · rename_i v hv
        cases h
        exact heK k (fun K hK => ⟨v, hv, hK⟩)
      · cases h
    · rename_i idx
      split at h
      · rename_i v hv
        cases h
        exact heK k (fun K hK => ⟨v, hv, hK⟩)
      · cases h
    · split at h
      · rename_i q0 hp
        cases h
        exact sa_W.pu he hi hp k
      · cases h
theorem sa_xn_ok (he : sa_Ma[mi]? = some e) : ∀ (n : Nat) {pc : Nat} {lo st : List Value} {m : sa_Mem} {q : Nat × List Value × List Value × sa_Mem}, sa_xn e n pc lo st m = some q → sa_W X C mi q.1 q.2.1 q.2.2.1 q.2.2.2 Q → sa_W X C mi pc lo st m Q
  | 0, pc, lo, st, m, q, h, k => by cases h; exact k
  | n + 1, pc, lo, st, m, q, h, k => by
    unfold sa_xn at h
    split at h
    · rename_i q1 h1
      exact sa_x1_ok he h1 (sa_xn_ok he n h k)
    · cases h
/-- n steps without a premise -/
theorem aw_x (he : sa_Ma[mi]? = some e) (n pc' : Nat) (lo' st' : List Value) {m' : sa_Mem} (h : sa_xn e n pc lo st m = some (pc', lo', st', m')) (k : sa_W X C mi pc' lo' st' m' Q) : sa_W X C mi pc lo st m Q := sa_xn_ok he n h k
theorem aw_if (he : sa_Ma[mi]? = some e) {cd : ClassFile.Cond} {off : Int} {t n : Nat} {x : Int32} {r : List Value} (hi : sa_lk e pc = some (.ifCond cd off, 3)) (ht : (pc : Int) + off = (t : Int)) (hn : pc + 3 = n) (k1 : sa_cmp cd x 0 → sa_W X C mi t lo r m Q) (k2 : ¬ sa_cmp cd x 0 → sa_W X C mi n lo r m Q) : sa_W X C mi pc lo (.int x :: r) m Q := by
  subst hn
  by_cases hc : sa_cmp cd x 0
  · obtain ⟨f, o, h1, h2⟩ := k1 hc
    exact sa_W.ct he hi ⟨f, o, ⟨x, r, t, rfl, ht, fun _ => h1, fun z => absurd hc z⟩, h2⟩
  · obtain ⟨f, o, h1, h2⟩ := k2 hc
    exact sa_W.ct he hi ⟨f, o, ⟨x, r, t, rfl, ht, fun z => absurd z hc, fun _ => h1⟩, h2⟩
theorem aw_ic (he : sa_Ma[mi]? = some e) {cd : ClassFile.Cond} {off : Int} {t n : Nat} {x y : Int32} {r : List Value} (hi : sa_lk e pc = some (.if_icmp cd off, 3)) (ht : (pc : Int) + off = (t : Int)) (hn : pc + 3 = n) (k1 : sa_cmp cd x y → sa_W X C mi t lo r m Q) (k2 : ¬ sa_cmp cd x y → sa_W X C mi n lo r m Q) : sa_W X C mi pc lo (.int y :: .int x :: r) m Q := by
  subst hn
  by_cases hc : sa_cmp cd x y
  · obtain ⟨f, o, h1, h2⟩ := k1 hc
    exact sa_W.ct he hi ⟨f, o, ⟨x, y, r, t, rfl, ht, fun _ => h1, fun z => absurd hc z⟩, h2⟩
  · obtain ⟨f, o, h1, h2⟩ := k2 hc
    exact sa_W.ct he hi ⟨f, o, ⟨x, y, r, t, rfl, ht, fun z => absurd z hc, fun _ => h1⟩, h2⟩
theorem aw_sw (he : sa_Ma[mi]? = some e) {d lw hi' : Int} {offs : Array Int} {len : Nat} {x : Int32} {r : List Value} (hi : sa_lk e pc = some (.tableswitch d lw hi' offs, len)) (k1 : (x.toInt < lw ∨ hi' < x.toInt) → ∃ t : Nat, (pc : Int) + d = (t : Int) ∧ sa_W X C mi t lo r m Q) (k2 : ¬ x.toInt < lw → ¬ hi' < x.toInt → ∃ (off : Int) (t : Nat), offs[(x.toInt - lw).toNat]? = some off ∧ (pc : Int) + off = (t : Int) ∧ sa_W X C mi t lo r m Q) : sa_W X C mi pc lo (.int x :: r) m Q := by
  by_cases hc : x.toInt < lw ∨ hi' < x.toInt
  · obtain ⟨t, ht, f, o, h1, h2⟩ := k1 hc
    exact sa_W.ct he hi ⟨f, o, ⟨x, r, rfl, fun _ => ⟨t, ht, h1⟩, fun z1 z2 => absurd hc (fun z => z.elim z1 z2)⟩, h2⟩
  · obtain ⟨off, t, ho, ht, f, o, h1, h2⟩ := k2 (fun z => hc (Or.inl z)) (fun z => hc (Or.inr z))
    exact sa_W.ct he hi ⟨f, o, ⟨x, r, rfl, fun z => absurd z hc, fun _ _ => ⟨off, t, ho, ht, h1⟩⟩, h2⟩
theorem aw_iri (he : sa_Ma[mi]? = some e) {v : Int32} (hi : sa_lk e pc = some (.ireturn, 1)) (hr : e.2.2.2.2.1 = some .int) (q : Q (.inl (some (.int v)), m)) : sa_W X C mi pc lo [.int v] m Q := sa_W.rt he hi ⟨v, _, rfl, hr, rfl, rfl, rfl⟩ q
theorem aw_irz (he : sa_Ma[mi]? = some e) {v : Int32} (hi : sa_lk e pc = some (.ireturn, 1)) {ty : FieldType} (hr : e.2.2.2.2.1 = some ty) (hs : sa_so ty = 0) (hv : narrow ty (.int v) = .int v) (q : Q (.inl (some (.int v)), m)) : sa_W X C mi pc lo [.int v] m Q := sa_W.rt he hi ⟨v, _, rfl, hr, hs, hv, rfl⟩ q
theorem aw_lr (he : sa_Ma[mi]? = some e) {v : Int64} (hi : sa_lk e pc = some (.lreturn, 1)) (hr : e.2.2.2.2.1 = some .long) (q : Q (.inl (some (.long v)), m)) : sa_W X C mi pc lo [.long v] m Q := sa_W.rt he hi ⟨v, rfl, hr, rfl⟩ q
theorem aw_vr (he : sa_Ma[mi]? = some e) (hi : sa_lk e pc = some (.return_, 1)) (hr : e.2.2.2.2.1 = none) (q : Q (.inl none, m)) : sa_W X C mi pc lo [] m Q := sa_W.rt he hi ⟨rfl, hr, rfl⟩ q
theorem aw_th (he : sa_Ma[mi]? = some e) {idx q0 ic : Nat} (hi : sa_lk e pc = some (.new idx, 3)) (hE : sa_pE.lookup (e.1, idx) = some (q0, ic)) (hc : ic ≠ 0) (hh : e.2.2.2.2.2.1 = none) (h3 : sa_lk e (pc + 3) = some (.dup, 1)) (h4 : sa_lk e (pc + 4) = some (.invokespecial ic, 3)) (h7 : sa_lk e (pc + 7) = some (.athrow, 1)) (q : Q (.inr q0, sa_thrown m)) : sa_W X C mi pc lo [] m Q := sa_W.th he hi ⟨q0, ic, rfl, hE, hc, hh, h3, h4, h7, rfl⟩ q
/-- rows of ints: by a Nat place -/
theorem aw_ia (he : sa_Ma[mi]? = some e) {i : Int32} {k n j pc' : Nat} {f : Nat → Int32} {r : List Value} (hi : sa_lk e pc = some (.iaload, 1)) (ha : sa_arr X m k = some (101, n, f)) (hj : i = nI j) (hn : j < n) (hN : n < 2 ^ 31) (hp : pc + 1 = pc') (kk : sa_W X C mi pc' lo (.int (f j) :: r) m Q) : sa_W X C mi pc lo (.int i :: .ref k :: r) m Q := by
  subst hp
  subst hj
  obtain ⟨f1, o, h1, h2⟩ := kk
  refine sa_W.he he hi ⟨f1, o, ⟨nI j, k, r, n, f, rfl, ha, vp_in_nI hn hN, ?_⟩, h2⟩
  rw [nI_clamp (by omega)]
  exact h1
theorem aw_ba (he : sa_Ma[mi]? = some e) {i : Int32} {k n j pc' : Nat} {f : Nat → Int32} {r : List Value} (hi : sa_lk e pc = some (.baload, 1)) (ha : sa_arr X m k = some (100, n, f) ∨ (k < sa_mN m ∧ sa_arr X m k = some (103, n, f))) (hj : i = nI j) (hn : j < n) (hN : n < 2 ^ 31) (hp : pc + 1 = pc') (kk : sa_W X C mi pc' lo (.int (f j) :: r) m Q) : sa_W X C mi pc lo (.int i :: .ref k :: r) m Q := by
  subst hp
  subst hj
  obtain ⟨f1, o, h1, h2⟩ := kk
  refine sa_W.he he hi ⟨f1, o, ⟨nI j, k, r, n, f, rfl, ha, vp_in_nI hn hN, ?_⟩, h2⟩
  rw [nI_clamp (by omega)]
  exact h1
theorem aw_al (he : sa_Ma[mi]? = some e) {k q n pc' : Nat} {f : Nat → Int32} {r : List Value} (hi : sa_lk e pc = some (.arraylength, 1)) (ha : sa_arr X m k = some (q, n, f)) (hq : q < 104) (hp : pc + 1 = pc') (kk : sa_W X C mi pc' lo (.int (Int32.ofNat n) :: r) m Q) : sa_W X C mi pc lo (.ref k :: r) m Q := by
  subst hp
  obtain ⟨f1, o, h1, h2⟩ := kk
  exact sa_W.he he hi ⟨f1, o, ⟨k, r, q, n, f, rfl, ha, hq, h1⟩, h2⟩
variable {c : sa_Ct} {I : Nat → Nat → Int32} {J : Nat → Nat → Int64}
theorem aw_la (he : sa_Ma[mi]? = some e) {i : Int32} {k n j pc' : Nat} {r : List Value} (hi : sa_lk e pc = some (.laload, 1)) (hk : k < 112) (hs : sa_SH k = (102, n)) (hj : i = nI j) (hn : j < n) (hN : n < 2 ^ 31) (hp : pc + 1 = pc') (kk : sa_W X C mi pc' lo (.long (J k j) :: r) (sa_mk c I J) Q) : sa_W X C mi pc lo (.int i :: .ref k :: r) (sa_mk c I J) Q := by
  subst hp
  subst hj
  obtain ⟨f1, o, h1, h2⟩ := kk
  refine sa_W.he he hi ⟨f1, o, ⟨nI j, k, r, rfl, hk, by show (sa_SH k).1 = 102; rw [hs], by show vp_in (nI j) (sa_SH k).2; rw [hs]; exact vp_in_nI hn hN, ?_⟩, h2⟩
  rw [nI_clamp (by omega)]
  exact h1
theorem aw_is (he : sa_Ma[mi]? = some e) {x i : Int32} {k n j pc' : Nat} {r : List Value} (hi : sa_lk e pc = some (.iastore, 1)) (hk : k < 112) (hs : sa_SH k = (101, n)) (hj : i = nI j) (hn : j < n) (hN : n < 2 ^ 31) (hp : pc + 1 = pc') (kk : sa_W X C mi pc' lo r (sa_mk c (wI I k j x) J) Q) : sa_W X C mi pc lo (.int x :: .int i :: .ref k :: r) (sa_mk c I J) Q := by
  subst hp
  subst hj
  obtain ⟨f1, o, h1, h2⟩ := kk
  refine sa_W.he he hi ⟨f1, o, ⟨x, nI j, k, r, rfl, hk, by show (sa_SH k).1 = 101; rw [hs], by show vp_in (nI j) (sa_SH k).2; rw [hs]; exact vp_in_nI hn hN, ?_⟩, h2⟩
  rw [nI_clamp (by omega)]
  exact h1
theorem aw_bs (he : sa_Ma[mi]? = some e) {x i : Int32} {k n j pc' : Nat} {r : List Value} (hi : sa_lk e pc = some (.bastore, 1)) (hk : k < 112) (hs : sa_SH k = (100, n)) (hj : i = nI j) (hn : j < n) (hN : n < 2 ^ 31) (hp : pc + 1 = pc') (kk : sa_W X C mi pc' lo r (sa_mk c (wI I k j (vp_nar .byte x)) J) Q) : sa_W X C mi pc lo (.int x :: .int i :: .ref k :: r) (sa_mk c I J) Q := by
  subst hp
  subst hj
  obtain ⟨f1, o, h1, h2⟩ := kk
  refine sa_W.he he hi ⟨f1, o, ⟨x, nI j, k, r, rfl, hk, by show vp_in (nI j) (sa_SH k).2; rw [hs]; exact vp_in_nI hn hN, Or.inl ⟨by show (sa_SH k).1 = 100; rw [hs], ?_⟩⟩, h2⟩
  rw [nI_clamp (by omega)]
  exact h1
theorem aw_zs (he : sa_Ma[mi]? = some e) {x i : Int32} {k n j pc' : Nat} {r : List Value} (hi : sa_lk e pc = some (.bastore, 1)) (hk : k < 112) (hs : sa_SH k = (103, n)) (hj : i = nI j) (hn : j < n) (hN : n < 2 ^ 31) (hp : pc + 1 = pc') (kk : sa_W X C mi pc' lo r (sa_mk c (wI I k j (vp_nar .boolean x)) J) Q) : sa_W X C mi pc lo (.int x :: .int i :: .ref k :: r) (sa_mk c I J) Q := by
  subst hp
  subst hj
  obtain ⟨f1, o, h1, h2⟩ := kk
  refine sa_W.he he hi ⟨f1, o, ⟨x, nI j, k, r, rfl, hk, by show vp_in (nI j) (sa_SH k).2; rw [hs]; exact vp_in_nI hn hN, Or.inr ⟨by show (sa_SH k).1 = 103; rw [hs], ?_⟩⟩, h2⟩
  rw [nI_clamp (by omega)]
  exact h1
theorem aw_ls (he : sa_Ma[mi]? = some e) {x : Int64} {i : Int32} {k n j pc' : Nat} {r : List Value} (hi : sa_lk e pc = some (.lastore, 1)) (hk : k < 112) (hs : sa_SH k = (102, n)) (hj : i = nI j) (hn : j < n) (hN : n < 2 ^ 31) (hp : pc + 1 = pc') (kk : sa_W X C mi pc' lo r (sa_mk c I (wJ J k j x)) Q) : sa_W X C mi pc lo (.long x :: .int i :: .ref k :: r) (sa_mk c I J) Q := by
  subst hp
  subst hj
  obtain ⟨f1, o, h1, h2⟩ := kk
  refine sa_W.he he hi ⟨f1, o, ⟨x, nI j, k, r, rfl, hk, by show (sa_SH k).1 = 102; rw [hs], by show vp_in (nI j) (sa_SH k).2; rw [hs]; exact vp_in_nI hn hN, ?_⟩, h2⟩
  rw [nI_clamp (by omega)]
  exact h1
theorem aw_dv (he : sa_Ma[mi]? = some e) {x y : Int32} {pc' : Nat} {r : List Value} (hi : sa_lk e pc = some (.idiv, 1)) (hy : ¬ y = 0) (hp : pc + 1 = pc') (kk : sa_W X C mi pc' lo (.int (x / y) :: r) m Q) : sa_W X C mi pc lo (.int y :: .int x :: r) m Q := by
  subst hp
  obtain ⟨f1, o, h1, h2⟩ := kk
  exact sa_W.he he hi ⟨f1, o, ⟨x, y, r, rfl, hy, h1⟩, h2⟩
theorem aw_rm (he : sa_Ma[mi]? = some e) {x y : Int32} {pc' : Nat} {r : List Value} (hi : sa_lk e pc = some (.irem, 1)) (hy : ¬ y = 0) (hp : pc + 1 = pc') (kk : sa_W X C mi pc' lo (.int (x - x / y * y) :: r) m Q) : sa_W X C mi pc lo (.int y :: .int x :: r) m Q := by
  subst hp
  obtain ⟨f1, o, h1, h2⟩ := kk
  exact sa_W.he he hi ⟨f1, o, ⟨x, y, r, rfl, hy, h1⟩, h2⟩
/-- calls that return: a virtual one, a static one -/
theorem aw_cv (he : sa_Ma[mi]? = some e) {idx mi2 n b pc' : Nat} {As r : List Value} {v : Option Value} {m' : sa_Mem} (hi : sa_lk e pc = some (.invokevirtual idx, 3)) (hI : sa_pI.lookup (e.1, idx) = some (0, mi2, n)) (hst : st = As.reverse ++ .ref b :: r) (hn : As.length = n) (hs : (r.map (fun v => v.category)).sum ≤ 8) (hb : b < sa_mN m ∧ (sa_M[mi2]?).map (fun z => z.1) = some (sa_sh m b).1) (hc : C mi2 (.ref b :: As) m (.inl v, m')) (hp : pc + 3 = pc') (kk : sa_W X C mi pc' lo (v.toList ++ r) m' Q) : sa_W X C mi pc lo st m Q := by
  subst hp
  obtain ⟨f1, o, h1, h2⟩ := kk
  refine sa_W.iv he hi ⟨f1, o, ⟨mi2, n, As, b, r, _, hI, hst, hn, hs, Or.inl hb, hc, ?_⟩, h2⟩
  cases v with
  | none => exact h1
  | some w => exact h1
theorem aw_cx (he : sa_Ma[mi]? = some e) {idx mi2 n b pc' : Nat} {As r : List Value} {v : Option Value} {m' : sa_Mem} (hi : sa_lk e pc = some (.invokevirtual idx, 3)) (hI : sa_pI.lookup (e.1, idx) = some (0, mi2, n)) (hst : st = As.reverse ++ .ref b :: r) (hn : As.length = n) (hs : (r.map (fun v => v.category)).sum ≤ 8) (hb : 100100 ≤ b ∧ b < 100100 + sa_txt.length ∧ (sa_M[mi2]?).map (fun z => z.1) = some 16) (hc : C mi2 (.ref b :: As) m (.inl v, m')) (hp : pc + 3 = pc') (kk : sa_W X C mi pc' lo (v.toList ++ r) m' Q) : sa_W X C mi pc lo st m Q := by
  subst hp
  obtain ⟨f1, o, h1, h2⟩ := kk
  refine sa_W.iv he hi ⟨f1, o, ⟨mi2, n, As, b, r, _, hI, hst, hn, hs, Or.inr hb, hc, ?_⟩, h2⟩
  cases v with
  | none => exact h1
  | some w => exact h1
theorem aw_cs (he : sa_Ma[mi]? = some e) {idx kk2 mi2 n pc' : Nat} {As r : List Value} {v : Option Value} {m' : sa_Mem} (hi : sa_lk e pc = some (.invokestatic idx, 3)) (hI : sa_pI.lookup (e.1, idx) = some (kk2, mi2, n)) (hk : kk2 = 1 ∨ kk2 = 4 ∨ kk2 = 5) (hst : st = As.reverse ++ r) (hn : As.length = n) (hs : (r.map (fun v => v.category)).sum ≤ 8) (hc : C mi2 As m (.inl v, m')) (hp : pc + 3 = pc') (kk : sa_W X C mi pc' lo (v.toList ++ r) m' Q) : sa_W X C mi pc lo st m Q := by
  subst hp
  obtain ⟨f1, o, h1, h2⟩ := kk
  refine sa_W.iv he hi ⟨f1, o, Or.inl ⟨kk2, mi2, n, As, r, _, hI, hk, hst, hn, hs, hc, ?_⟩, h2⟩
  cases v with
  | none => exact h1
  | some w => exact h1
/-- a call that throws, in a method without handlers: it goes on -/
theorem aw_ct (he : sa_Ma[mi]? = some e) {idx mi2 n b q0 : Nat} {As r : List Value} {m' : sa_Mem} (hi : sa_lk e pc = some (.invokevirtual idx, 3)) (hI : sa_pI.lookup (e.1, idx) = some (0, mi2, n)) (hst : st = As.reverse ++ .ref b :: r) (hn : As.length = n) (hs : (r.map (fun v => v.category)).sum ≤ 8) (hb : b < sa_mN m ∧ (sa_M[mi2]?).map (fun z => z.1) = some (sa_sh m b).1) (hh : e.2.2.2.2.2.1 = none) (hc : C mi2 (.ref b :: As) m (.inr q0, m')) (kk : Q (.inr q0, m')) : sa_W X C mi pc lo st m Q := by
  refine sa_W.iv he hi ⟨0, (.inr q0, m'), ⟨mi2, n, As, b, r, _, hI, hst, hn, hs, Or.inl hb, hc, ?_⟩, kk⟩
  unfold sa_af
  rw [hh]
/-- .. in a method with handlers -/
theorem aw_ch (he : sa_Ma[mi]? = some e) {idx mi2 n b q0 hp k len pc' : Nat} {As r lo' : List Value} {m' : sa_Mem} {hh : List (Nat × Nat × Nat × Nat)} (hi : sa_lk e pc = some (.invokevirtual idx, 3)) (hI : sa_pI.lookup (e.1, idx) = some (0, mi2, n)) (hst : st = As.reverse ++ .ref b :: r) (hn : As.length = n) (hs : (r.map (fun v => v.category)).sum ≤ 8) (hb : b < sa_mN m ∧ (sa_M[mi2]?).map (fun z => z.1) = some (sa_sh m b).1) (hhe : e.2.2.2.2.2.1 = some hh) (hc : C mi2 (.ref b :: As) m (.inr q0, m')) (h1 : sa_hd e.1 pc q0 hh = some hp) (h2 : k < lo.length) (h3 : ∀ x ∈ lo, x.category = 1) (h4 : sa_lk e hp = some (.astore k, len) ∧ len = 2 ∨ (∃ j : Fin 4, (j : Nat) = k ∧ sa_lk e hp = some (.astore_n j, len) ∧ len = 1)) (h5 : lo.set k sa_no = lo') (h6 : hp + len = pc') (kk : sa_W X C mi pc' lo' [] m' Q) : sa_W X C mi pc lo st m Q := by
  subst h5; subst h6
  obtain ⟨f1, o, g1, g2⟩ := kk
  refine sa_W.iv he hi ⟨f1, o, ⟨mi2, n, As, b, r, _, hI, hst, hn, hs, Or.inl hb, hc, ?_⟩, g2⟩
  unfold sa_af
  rw [hhe]
  exact ⟨hp, k, len, h1, h2, h3, h4, g1⟩
theorem aw_mx (he : sa_Ma[mi]? = some e) {idx pc' : Nat} {x y : Int32} {r : List Value} (hi : sa_lk e pc = some (.invokestatic idx, 3)) (hI : sa_pI.lookup (e.1, idx) = some (8, 0, 2)) (hs : (r.map (fun v => v.category)).sum ≤ 8) (hp : pc + 3 = pc') (kk : sa_W X C mi pc' lo (.int (if x < y then y else x) :: r) m Q) : sa_W X C mi pc lo (.int y :: .int x :: r) m Q := by
  subst hp
  obtain ⟨f1, o, h1, h2⟩ := kk
  exact sa_W.iv he hi ⟨f1, o, Or.inr (Or.inl ⟨x, y, r, hI, rfl, hs, h1⟩), h2⟩
theorem aw_mn (he : sa_Ma[mi]? = some e) {idx pc' : Nat} {x y : Int32} {r : List Value} (hi : sa_lk e pc = some (.invokestatic idx, 3)) (hI : sa_pI.lookup (e.1, idx) = some (9, 0, 2)) (hs : (r.map (fun v => v.category)).sum ≤ 8) (hp : pc + 3 = pc') (kk : sa_W X C mi pc' lo (.int (if y < x then y else x) :: r) m Q) : sa_W X C mi pc lo (.int y :: .int x :: r) m Q := by
  subst hp
  obtain ⟨f1, o, h1, h2⟩ := kk
  exact sa_W.iv he hi ⟨f1, o, Or.inr (Or.inr (Or.inl ⟨x, y, r, hI, rfl, hs, h1⟩)), h2⟩
theorem aw_cp (he : sa_Ma[mi]? = some e) {idx pc' a b na nb sp dp n : Nat} {r : List Value} {xs xd xn : Int32} (hi : sa_lk e pc = some (.invokestatic idx, 3)) (hI : sa_pI.lookup (e.1, idx) = some (7, 0, 5)) (hs : (r.map (fun v => v.category)).sum ≤ 8) (ha : a < 112) (hb : b < 112) (hsa : sa_SH a = (101, na)) (hsb : sa_SH b = (101, nb)) (h1 : xs = nI sp) (h2 : xd = nI dp) (h3 : xn = nI n) (hl : na < 2 ^ 31 ∧ nb < 2 ^ 31) (h4 : sp + n ≤ na) (h5 : dp + n ≤ nb) (hp : pc + 3 = pc') (kk : sa_W X C mi pc' lo r (sa_mk c (va_up I b (va_cpy (I a) (I b) sp dp n)) J) Q) : sa_W X C mi pc lo (.int xn :: .int xd :: .ref b :: .int xs :: .ref a :: r) (sa_mk c I J) Q := by
  subst hp; subst h1; subst h2; subst h3
  obtain ⟨f1, o, g1, g2⟩ := kk
  have c1 : (nI sp).toNatClampNeg = sp := nI_clamp (by omega)
  have c2 : (nI dp).toNatClampNeg = dp := nI_clamp (by omega)
  have c3 : (nI n).toNatClampNeg = n := nI_clamp (by omega)
  refine sa_W.iv he hi ⟨f1, o, Or.inr (Or.inr (Or.inr ⟨a, b, nI sp, nI dp, nI n, r, hI, rfl, hs, ha, hb, by show (sa_SH a).1 = 101; rw [hsa], by show (sa_SH b).1 = 101; rw [hsb], nI_pos (by omega), nI_pos (by omega), nI_pos (by omega), ?_, ?_, ?_⟩)), g2⟩
  · show _ ≤ (sa_SH a).2
    rw [c1, c3, hsa]
    exact h4
  · show _ ≤ (sa_SH b).2
    rw [c2, c3, hsb]
    exact h5
  · rw [c1, c2, c3]
    exact g1
end SAW
/-- a method's contract out of its body's walk -/
theorem sa_ex {X : Nat × (Nat → Int32)} {d mi : Nat} {e : sa_Me} {a lo : List Value} {m : sa_Mem} {P : sa_Out → Prop} (he : sa_M[mi]? = some e) (hl : (sa_lo a).length ≤ e.2.2.2.1) (hg : ∀ v ∈ a, sa_gv v = true) (hlo : sa_en a e.2.2.2.1 = lo) (h : sa_W X (sa_Ex X d) mi 0 lo [] m P) : ∃ o, sa_Ex X (d + 1) mi a m o ∧ P o := by
  subst hlo
  obtain ⟨f, o, h1, h2⟩ := h
  exact ⟨o, ⟨f, e, he, hl, hg, h1⟩, h2⟩
theorem sa_ex1 {X : Nat × (Nat → Int32)} {d mi : Nat} {e : sa_Me} {a lo : List Value} {m : sa_Mem} {o : sa_Out} (he : sa_M[mi]? = some e) (hl : (sa_lo a).length ≤ e.2.2.2.1) (hg : ∀ v ∈ a, sa_gv v = true) (hlo : sa_en a e.2.2.2.1 = lo) (h : sa_W X (sa_Ex X d) mi 0 lo [] m (fun o' => o' = o)) : sa_Ex X (d + 1) mi a m o := by
  obtain ⟨o', h1, rfl⟩ := sa_ex he hl hg hlo h
  exact h1

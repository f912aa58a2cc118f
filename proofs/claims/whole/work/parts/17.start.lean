/-! ===== from the law's entry: what stands outside, the classes; the claim out of one pure run of the law ===== -/
def sa_fl : List Cond := flatC (Jvm.Cond.and given_1 narrow_1)
def sa_tm (i : Nat) : Term := .string RX9 ((sa_pStr.map (fun q => q.1.2)).getD i 0)
set_option maxRecDepth 100000 in
theorem sa_f1 : ∀ i, i < 4 → Cond.arrayOf (.static RX11 (sa_limn i) "[I") .int ∈ sa_fl := by decide +kernel
set_option maxRecDepth 100000 in
theorem sa_f2 : ∀ i, i < 4 → Cond.eq (.length (.static RX11 (sa_limn i) "[I")) (.int (Int32.ofNat (sa_lim.getD i []).length)) ∈ sa_fl := by decide +kernel
set_option maxRecDepth 100000 in
theorem sa_f3 : ∀ i, i < 4 → ∀ j, j < (sa_lim.getD i []).length → Cond.eq (.elem (.static RX11 (sa_limn i) "[I") (.int (Int32.ofNat j))) (.int ((sa_lim.getD i []).getD j 0)) ∈ sa_fl := by decide +kernel
set_option maxRecDepth 100000 in
theorem sa_f4 : ∀ i, i < 4 → Cond.laysStatic RX11 (sa_limn i) "[I" ∈ lw_tbl := by decide +kernel
set_option maxRecDepth 100000 in
theorem sa_f5 : Cond.eq (.static "java/lang/String" "COMPACT_STRINGS" "Z") (.int 1) ∈ sa_fl ∧ Cond.laysStatic "java/lang/String" "COMPACT_STRINGS" "Z" ∈ lw_tbl ∧ Cond.isRef (.static "jdk/internal/util/Preconditions" "SIOOBE_FORMATTER" "Ljava/util/function/BiFunction;") ∈ sa_fl ∧ Cond.laysStatic "jdk/internal/util/Preconditions" "SIOOBE_FORMATTER" "Ljava/util/function/BiFunction;" ∈ lw_tbl := by decide +kernel
set_option maxRecDepth 100000 in
theorem sa_f6 : Cond.isRef (.static Bundle.tN "UNASSIGNED_STACK" Bundle.steD) ∈ sa_fl ∧ Cond.isRef (.static Bundle.tN "SUPPRESSED_SENTINEL" Bundle.listD) ∈ sa_fl ∧ Cond.laysStatic Bundle.tN "UNASSIGNED_STACK" Bundle.steD ∈ lw_tbl ∧ Cond.laysStatic Bundle.tN "SUPPRESSED_SENTINEL" Bundle.listD ∈ lw_tbl ∧ Cond.initialized Bundle.tN ∈ lw_tbl ∧ Cond.not (.castable (sa_exn 0) (sa_exn 1)) ∈ sa_fl ∧ Cond.not (.castable (sa_exn 1) (sa_exn 0)) ∈ sa_fl := by decide +kernel
set_option maxRecDepth 100000 in
theorem sa_g1 : ∀ i, i < sa_txt.length → (sa_txt.getD i []).length < 2 ^ 31 ∧ Cond.exactly (sa_tm i) "java/lang/String" ∈ sa_fl ∧ Cond.eq (.field (sa_tm i) "java/lang/String" "coder" "B") (.int 0) ∈ sa_fl ∧ Cond.arrayOf (.field (sa_tm i) "java/lang/String" "value" "[B") .byte ∈ sa_fl ∧ Cond.eq (.length (.field (sa_tm i) "java/lang/String" "value" "[B")) (.int (Int32.ofNat (sa_txt.getD i []).length)) ∈ sa_fl := by decide +kernel
set_option maxRecDepth 100000 in
theorem sa_g2 : ∀ i, i < sa_txt.length → ∀ j, j < (sa_txt.getD i []).length → Cond.eq (.elem (.field (sa_tm i) "java/lang/String" "value" "[B") (.int (Int32.ofNat j))) (.int ((sa_txt.getD i []).getD j 0)) ∈ sa_fl := by decide +kernel
set_option maxRecDepth 100000 in
theorem sa_g4 : ∀ q ∈ sa_pStr, Cond.stringRef (sa_C q.1.1) q.1.2 q.2.2 ∈ lw_tbl ∧ Term.string (sa_C q.1.1) q.1.2 = sa_tm q.2.1 ∧ q.2.1 < sa_txt.length := by decide +kernel
theorem sa_g5 : ∀ q ∈ [Cond.initialized RX11, Cond.initialized "java/lang/String", Cond.initialized "jdk/internal/util/Preconditions"], q ∈ lw_tbl := by decide +kernel
theorem sa_f0 : ∀ i, i < 4 → (sa_lim.getD i []).length < 2 ^ 31 := by decide +kernel
theorem sa_arrK {args : Array Value} {s : State} {ty : FieldType} (h : (Cond.arrayClass ty).before args s = true) : ∃ c : ClassId, s.vm.findClass ("[" ++ ty.toString) = some c ∧ ArrOfT s c ty := by
  obtain ⟨c, k, comp, h1, h2, h3⟩ := Cond.arrayClass_spec (args := args) (first := s) (o := none) (s := s) (idx := []) h
  exact ⟨c, h1, fun n z => ⟨fun k h => (by cases h), k, h2, comp, h3⟩⟩
theorem sa_ent {s : State} {b L : Nat} {xs : Nat → Int32} (hts : ∀ w ∈ lw_tbl, w.before #[Value.ref b] s = true) (hgv : (Jvm.Cond.and given_1 narrow_1).before #[Value.ref b] s = true) (hX : va_X b L xs s s.heap) (hbl : b < s.heap.size) :
    ∃ G : sa_G, G.1 = s.heap.size ∧ G.2.1 100000 = b ∧ G.2.2.1.category = 1 ∧ va_K G.2.2.2.1 vwCl (sa_tl G) s ∧ sa_ext (L, xs) G s s.heap := by
  have hfl : ∀ w ∈ sa_fl, w.before #[Value.ref b] s = true := flat_of_before _ hgv
  have hbig : ∀ w ∈ sa_big, w.before #[Value.ref b] s = true := fun w hw => hts w (sa_big_in w hw)
  have hA : ∀ a : Nat, a < s.heap.size → ¬ (fun q : Nat => s.heap.size ≤ q) a := fun a h => Nat.not_le.mpr h
  -- the limits
  have hlim : ∀ i : Nat, ∃ t : Nat, i < 4 → (Term.static RX11 (sa_limn i) "[I").eval #[Value.ref b] s none [] s = some (.ref t) ∧ va_T .int t (sa_lim.getD i []).length (fun j => .int ((sa_lim.getD i []).getD j 0)) (fun q : Nat => s.heap.size ≤ q) s s.heap := by
    intro i
    by_cases hi : i < 4
    · obtain ⟨t, h1, h2⟩ := va_Tof (f := fun j => .int ((sa_lim.getD i []).getD j 0)) (A := fun q : Nat => s.heap.size ≤ q) (N := (sa_lim.getD i []).length) (sa_f0 i hi) (hfl _ (sa_f1 i hi)) (va_eqt (hfl _ (sa_f2 i hi))) (fun j hj => va_eqt (hfl _ (sa_f3 i hi j hj))) hA
      exact ⟨t, fun _ => ⟨h1, h2⟩⟩
    · exact ⟨0, fun h => absurd h hi⟩
  obtain ⟨tl, htl⟩ := Classical.axiomOfChoice hlim
  -- the texts
  have hst0 : ∀ i : Nat, ∃ q : Nat × Nat, i < sa_txt.length → (sa_tm i).eval #[Value.ref b] s none [] s = some (.ref q.1) ∧ va_O "java/lang/String" q.1 (fun q : Nat => s.heap.size ≤ q) s s.heap ∧ va_OF "java/lang/String" "coder" "B" (.int 0) q.1 (fun q : Nat => s.heap.size ≤ q) s s.heap ∧ va_OF "java/lang/String" "value" "[B" (.ref q.2) q.1 (fun q : Nat => s.heap.size ≤ q) s s.heap ∧ va_T .byte q.2 (sa_txt.getD i []).length (fun j => .int ((sa_txt.getD i []).getD j 0)) (fun q : Nat => s.heap.size ≤ q) s s.heap := by
    intro i
    by_cases hi : i < sa_txt.length
    · obtain ⟨g1, g2, g3, g4, g5⟩ := sa_g1 i hi
      obtain ⟨a, c, cA, kA, q1, q2, q3, q4, q5, q6, -⟩ := Cond.exactly_spec (args := #[Value.ref b]) (first := s) (o := none) (s := s) (idx := []) (t := sa_tm i) (cls := "java/lang/String") (hfl _ g2)
      obtain ⟨t, ht, hT⟩ := va_Tof (f := fun j => .int ((sa_txt.getD i []).getD j 0)) (A := fun q : Nat => s.heap.size ≤ q) (N := (sa_txt.getD i []).length) g1 (hfl _ g4) (va_eqt (hfl _ g5)) (fun j hj => va_eqt (hfl _ (sa_g2 i hi j hj))) hA
      exact ⟨(a, t), fun _ => ⟨q1, ⟨cA, q3, q5, by rw [q6]; exact q2, hA a (Array.getElem?_eq_some_iff.mp q3).1⟩, vk_OFof q1 (va_eqt (hfl _ g3)) hA, vk_OFof q1 ht hA, hT⟩⟩
    · exact ⟨(0, 0), fun h => absurd h hi⟩
  obtain ⟨adS, hstr⟩ := Classical.axiomOfChoice hst0
  -- the formatter
  obtain ⟨sv, hsv, hsvc⟩ : ∃ sv : Value, va_Z "jdk/internal/util/Preconditions" "SIOOBE_FORMATTER" "Ljava/util/function/BiFunction;" sv (fun q : Nat => s.heap.size ≤ q) s s.heap ∧ sv.category = 1 := by
    rcases va_Zqof (A := fun q : Nat => s.heap.size ≤ q) (hts _ sa_f5.2.2.2) (hts _ (sa_g5 _ (by simp))) (hfl _ sa_f5.2.2.1) hA with h | ⟨t, h⟩
    · exact ⟨.null, h, rfl⟩
    · exact ⟨.ref t, h, rfl⟩
  -- the classes
  have hcl : ∀ ci : Nat, ∃ q : ClassId × (Nat → Nat), ∀ C T N, vwCl[ci]? = some (C, T, N) → u_Kn s C T N q.1 q.2 := by
    intro ci
    cases hc : vwCl[ci]? with
    | none => exact ⟨(0, fun _ => 0), fun C T N h => by cases h⟩
    | some q =>
      obtain ⟨C, T, N⟩ := q
      obtain ⟨cC, iS, h⟩ := u_known (C := C) (T := T) (N := N) (n := N) hbig (sa_big_lay (List.mem_of_getElem? hc)) (hbig _ (sa_big_ins (List.mem_of_getElem? hc)))
      exact ⟨(cC, iS), fun C' T' N' h' => by cases h'; exact h⟩
  obtain ⟨cf, hcf⟩ := Classical.axiomOfChoice hcl
  -- the arrays
  obtain ⟨a0, h0, k0⟩ := sa_arrK (hbig (.arrayClass .byte) (sa_big_ar (by simp)))
  obtain ⟨a1, h1, k1⟩ := sa_arrK (hbig (.arrayClass .int) (sa_big_ar (by simp)))
  obtain ⟨a2, h2, k2⟩ := sa_arrK (hbig (.arrayClass .long) (sa_big_ar (by simp)))
  obtain ⟨a3, h3, k3⟩ := sa_arrK (hbig (.arrayClass .boolean) (sa_big_ar (by simp)))
  have xd0 : ∃ xd : Nat → Nat, xd 100000 = b ∧ (∀ i, i < 4 → xd (100001 + i) = tl i) ∧ (∀ i, i < 16 → xd (100100 + i) = (adS i).1) ∧ (∀ i, i < 16 → xd (100200 + i) = (adS i).2) := by
    refine ⟨fun k => if k = 100000 then b else if k < 100005 then tl (k - 100001) else if k < 100200 then (adS (k - 100100)).1 else (adS (k - 100200)).2, rfl, fun i hi => ?_, fun i hi => ?_, fun i hi => ?_⟩
    · dsimp only
      rw [if_neg (by omega), if_pos (by omega), show 100001 + i - 100001 = i by omega]
    · dsimp only
      rw [if_neg (by omega), if_neg (by omega), if_pos (by omega), show 100100 + i - 100100 = i by omega]
    · dsimp only
      rw [if_neg (by omega), if_neg (by omega), if_neg (by omega), show 100200 + i - 100200 = i by omega]
  obtain ⟨xd, x0, x1, x2, x3⟩ := xd0
  refine ⟨(s.heap.size, xd, sv, (fun c => (cf c).1, fun c => (cf c).2), fun q => if q = 100 then a0 else if q = 101 then a1 else if q = 102 then a2 else a3), rfl, x0, hsvc, ⟨fun c q hq => ?_, fun k q hk => ?_⟩, ?_⟩
  · obtain ⟨C, T, N⟩ := q
    exact hcf c C T N hq
  · match k, hk with
    | 0, hk => cases hk; exact ⟨k0, h0⟩
    | 1, hk => cases hk; exact ⟨k1, h1⟩
    | 2, hk => cases hk; exact ⟨k2, h2⟩
    | 3, hk => cases hk; exact ⟨k3, h3⟩
    | n + 4, hk => simp [sa_tl] at hk
  · have h16 : sa_txt.length = 16 := rfl
    refine ⟨⟨?_, ?_, ?_⟩, fun i hi => ?_, fun i hi => ?_, ?_, hsv, ?_, fun q hq => ?_, fun w hw => ?_, ⟨?_, ?_⟩, ?_, ?_⟩
    · dsimp only; rw [x0]; exact hX
    · dsimp only; rw [x0]; exact hbl
    · dsimp only [sa_A]; rw [x0]; exact Nat.not_le.mpr hbl
    · dsimp only; rw [x1 i hi]; exact (htl i hi).2
    · dsimp only; rw [x1 i hi]
      exact va_Zof (hts _ (sa_f4 i hi)) (hts _ (sa_g5 _ (by simp))) (htl i hi).1 hA
    · exact va_Zof (hts _ sa_f5.2.1) (hts _ (sa_g5 _ (by simp))) (va_eqi (hfl _ sa_f5.1)) hA
    · intro i hi
      dsimp only
      rw [x2 i (by omega), x3 i (by omega)]
      exact (hstr i hi).2
    · obtain ⟨q1, q2, q3⟩ := sa_g4 q hq
      dsimp only
      rw [x2 _ (by omega)]
      have hr := (hstr q.2.1 q3).1
      rw [← q2] at hr
      exact vk_R.of (hts _ q1) hr
    · exact va_Nw.of (sa_bk_on (sa_bad_k w hw)) (hts w (sa_bad_in w hw))
    · exact vx_Zqof (hts _ sa_f6.2.2.1) (hts _ sa_f6.2.2.2.2.1) (hfl _ sa_f6.1) hA
    · exact vx_Zqof (hts _ sa_f6.2.2.2.1) (hts _ sa_f6.2.2.2.2.1) (hfl _ sa_f6.2.1) hA
    · exact va_Nc.of (hfl _ sa_f6.2.2.2.2.2.1)
    · exact va_Nc.of (hfl _ sa_f6.2.2.2.2.2.2)

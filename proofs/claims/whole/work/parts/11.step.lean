/-! ===== soundness 5: memory instructions and jumps, as the machine's relation has them ===== -/
theorem sa_pSv : sa_pS = [((6, 11), .ref 100001), ((6, 24), .ref 100002), ((6, 30), .ref 100003), ((6, 36), .ref 100004), ((16, 38), .int 1), ((16, 1053), .ref 100005)] := rfl
section SAD
variable {p : Program} {l : Launch} {e : Env} {R : Room} {s : State} {mm : MethodId} {args : Array Value} {below : List Frame} {meth : Method} {c : Code} {H : Heap} {locs : List Loc} {cells slots : Nat} {Q : State → Prop}
variable {pc : Nat} {ls : Array Slot} {X : Nat × (Nat → Int32)} {G : sa_G} {e0 : sa_Me} {m0 m : sa_Mem} {st : List Value}
theorem sa_gets_ok (hA : sa_At X G p l R s mm args meth c e0 m0) (hS : sa_St G s m0 m H locs cells slots) {idx : Nat} {v : Value} (h : sa_pS.lookup (e0.1, idx) = some v) (hd : decode e0.2.2.1 pc = .ok (.getstatic idx, 3)) {r : List Value}
    (kk : W p l e R s mm args below meth c H locs cells slots Q (F0 mm (pc + 3) ls (sa_cv (sa_av G) v :: r))) : W p l e R s mm args below meth c H locs cells slots Q (F0 mm pc ls r) := by
  obtain ⟨hx, hb, -, -, hown, hts, -, -, -, -, hK, hE, hbs, -⟩ := hA
  obtain ⟨-, -, hS0, -⟩ := hS
  obtain ⟨-, -, e3, e4, e5, -, -, hbad, -⟩ := hE
  have hm := sa_lkm h
  rw [sa_pSv] at hm
  have nest : ∀ (o i j : Nat), j < 4 → (o, i, j) ∈ sa_pSN → e0.1 = o → idx = i → v = .ref (100001 + j) → W p l e R s mm args below meth c H locs cells slots Q (F0 mm pc ls r) := by
    intro o i j hj hmem h1 h2 h3
    subst h1; subst h2; subst h3
    have hl := va_Nw.use (A := args) rfl (hbad (Cond.fieldLinkNest (sa_C e0.1) idx RX11 (sa_limn j) "[I" RX11) (List.mem_append_right _ (List.mem_append_right _ (List.mem_append_left _ (List.mem_map.mpr ⟨_, hmem, rfl⟩)))))
    have ee : sa_cv (sa_av G) (.ref (100001 + j)) = .ref (G.2.1 (100001 + j)) := sa_av_hi (by omega) (by omega)
    rw [ee] at kk
    exact va_getsN hx hb (e3 j hj) hS0 hown hl (fun x h => h) hd kk
  simp only [List.mem_cons, List.not_mem_nil, or_false, Prod.mk.injEq] at hm
  rcases hm with ⟨⟨h1, h2⟩, h3⟩ | ⟨⟨h1, h2⟩, h3⟩ | ⟨⟨h1, h2⟩, h3⟩ | ⟨⟨h1, h2⟩, h3⟩ | ⟨⟨h1, h2⟩, h3⟩ | ⟨⟨h1, h2⟩, h3⟩
  · exact nest 6 11 0 (by omega) (by decide +kernel) h1 h2 h3
  · exact nest 6 24 1 (by omega) (by decide +kernel) h1 h2 h3
  · exact nest 6 30 2 (by omega) (by decide +kernel) h1 h2 h3
  · exact nest 6 36 3 (by omega) (by decide +kernel) h1 h2 h3
  · subst h2; subst h3
    have hl := hts (.fieldLink (sa_C 16) 38 "java/lang/String" "COMPACT_STRINGS" "Z") (sa_big_S List.mem_cons_self)
    rw [← h1] at hl
    exact va_gets hx hb e4 hS0 hown hl (fun x h => h) hd kk
  · subst h2; subst h3
    have hl := hts (.fieldLink (sa_C 16) 1053 "jdk/internal/util/Preconditions" "SIOOBE_FORMATTER" "Ljava/util/function/BiFunction;") (sa_big_S (List.mem_cons_of_mem _ List.mem_cons_self))
    rw [← h1] at hl
    have ee : sa_cv (sa_av G) (.ref 100005) = G.2.2.1 := by show sa_av G 100005 = _; simp [sa_av]
    rw [ee] at kk
    exact va_gets hx hb e5 hS0 hown hl (fun x h => h) hd kk
theorem sa_pXv : ∀ q ∈ sa_pX, q.2 = 0 ∨ q.2 = 1 := by decide +kernel
theorem sa_pStrv : ∀ q ∈ sa_pStr, q.2.1 < sa_txt.length := by decide +kernel
theorem sa_txtv : sa_txt.length = 16 := rfl
set_option maxHeartbeats 4000000 in
theorem sa_he_ok (hA : sa_At X G p l R s mm args meth c e0 m0) (hS : sa_St G s m0 m H locs cells slots) {i : Instr} {len : Nat} {K : List Value → sa_Mem → Prop} (h : sa_he X e0.1 (e0.2.1.name = "<init>") i st m K) (hd : decode e0.2.2.1 pc = .ok (i, len)) (hn : sa_ln i len = true)
    (hR : ∀ st' m', K st' m' → sa_mC m' ≤ sa_mC m0 + R.cells ∧ sa_mS m' ≤ sa_mS m0 + R.slots)
    (kk : ∀ (st' : List Value) (m' : sa_Mem) (H1 : Heap) (locs1 : List Loc) (cells1 slots1 : Nat), K st' m' → sa_St G s m0 m' H1 locs1 cells1 slots1 → W p l e R s mm args below meth c H1 locs1 cells1 slots1 Q (F0 mm (pc + len) ls (st'.map (sa_cv (sa_av G))))) :
    W p l e R s mm args below meth c H locs cells slots Q (F0 mm pc ls (st.map (sa_cv (sa_av G)))) := by
  have hlo : ∀ k, k < sa_mN m → sa_cv (sa_av G) (.ref k) = .ref (G.1 + k) := fun k hk => sa_av_lo (by have := hS.2.2.2.2.2.2; omega)
  cases i with
  | getfield idx =>
    obtain rfl := sa_len hn
    obtain ⟨k, r, rfl, (⟨ci, j, b, hF, hk, hs, hK⟩ | ⟨t, hX, h1, h2, hK⟩)⟩ := h
    · rw [List.map_cons, hlo k hk]
      exact sa_getf_ok hA hS hF hk hs hd (kk _ _ _ _ _ _ hK hS)
    · obtain ⟨hx, hb, -, -, hown, hts, -, -, -, -, -, hE, -⟩ := hA
      obtain ⟨-, -, -, -, -, e6, -⟩ := hE
      have h1 : 100100 ≤ k := h1
      have h2 : k < 100100 + sa_txt.length := h2
      have h3 := (e6 (k - 100100) (by omega)).2
      rw [show 100100 + (k - 100100) = k by omega, show 100200 + (k - 100100) = k + 100 by omega] at h3
      have hm := sa_lkm hX
      have hl := hts _ (sa_big_X hm)
      have ek : sa_cv (sa_av G) (.ref k) = .ref (G.2.1 k) := sa_av_hi (by omega) (by rw [sa_txtv] at h2; omega)
      rw [List.map_cons, ek]
      have h4 := kk _ _ _ _ _ _ hK hS
      rcases sa_pXv _ hm with ht | ht <;> (dsimp only at ht; subst ht)
      · have e2 : sa_cv (sa_av G) (.ref (k + 100)) = .ref (G.2.1 (k + 100)) := sa_av_hi (by omega) (by rw [sa_txtv] at h2; omega)
        rw [if_pos rfl, List.map_cons, e2] at h4
        exact vk_getf hx hb h3.2.1 hS.2.2.1 hown hl (fun x h => h) hd h4
      · rw [if_neg (by decide)] at h4
        exact vk_getf hx hb h3.1 hS.2.2.1 hown hl (fun x h => h) hd h4
  | putfield idx =>
    obtain rfl := sa_len hn
    obtain ⟨v, k, r, ci, j, m', rfl, hF, hk, hs, hfn, hp, hK⟩ := h
    rw [List.map_cons, List.map_cons, hlo k hk]
    exact sa_putf_ok hA hS hF hk hs hfn hp hd (fun H1 locs1 h1 => kk _ _ _ _ _ _ hK h1)
  | iaload =>
    obtain rfl := sa_len hn
    obtain ⟨i, k, r, n, f, rfl, ha, hin, hK⟩ := h
    exact sa_ial_ok hA hS ha hin hd (kk _ _ _ _ _ _ hK hS)
  | baload =>
    obtain rfl := sa_len hn
    obtain ⟨i, k, r, n, f, rfl, ha, hin, hK⟩ := h
    exact sa_bal_ok hA hS ha hin hd (kk _ _ _ _ _ _ hK hS)
  | laload =>
    obtain rfl := sa_len hn
    obtain ⟨i, k, r, rfl, hk, hs, hin, hK⟩ := h
    obtain ⟨hx, hb, -, -, -, -, -, -, -, -, hKk, -⟩ := hA
    rw [List.map_cons, List.map_cons, hlo k hk]
    exact va_lald hx hb hKk hS.1 k 2 (by rw [sa_wd_get hk, sa_cell_long hs]) rfl hin hd (kk _ _ _ _ _ _ hK hS)
  | iastore =>
    obtain rfl := sa_len hn
    obtain ⟨x, i, k, r, rfl, hk, hs, hin, hK⟩ := h
    obtain ⟨hx, hb, -, -, -, -, -, -, -, -, hKk, -⟩ := hA
    rw [List.map_cons, List.map_cons, List.map_cons, hlo k hk]
    exact va_iast hx hb hKk hS.1 hS.2.1 hS.2.2.1 k 1 (by rw [sa_wd_get hk, sa_cell_int hs (by omega)]) rfl hin hd (fun H1 locs1 a1 a2 a3 => kk _ _ _ _ _ _ hK (sa_ist_ok hS hk hs (by omega) a1 a2 a3))
  | bastore =>
    obtain rfl := sa_len hn
    obtain ⟨x, i, k, r, rfl, hk, hin, (⟨hs, hK⟩ | ⟨hs, hK⟩)⟩ := h
    · obtain ⟨hx, hb, -, -, -, -, -, -, -, -, hKk, -⟩ := hA
      rw [List.map_cons, List.map_cons, List.map_cons, hlo k hk]
      exact va_bast hx hb hKk hS.1 hS.2.1 hS.2.2.1 k 0 (by rw [sa_wd_get hk, sa_cell_int hs (by omega)]) rfl hin hd (fun H1 locs1 a1 a2 a3 => kk _ _ _ _ _ _ hK (sa_ist_ok hS hk hs (by omega) a1 a2 a3))
    · obtain ⟨hx, hb, -, -, -, -, -, -, -, -, hKk, -⟩ := hA
      rw [List.map_cons, List.map_cons, List.map_cons, hlo k hk]
      exact va_zast hx hb hKk hS.1 hS.2.1 hS.2.2.1 k 3 (by rw [sa_wd_get hk, sa_cell_int hs (by omega)]) rfl hin hd (fun H1 locs1 a1 a2 a3 => kk _ _ _ _ _ _ hK (sa_ist_ok hS hk hs (by omega) a1 a2 a3))
  | lastore =>
    obtain rfl := sa_len hn
    obtain ⟨x, i, k, r, rfl, hk, hs, hin, hK⟩ := h
    obtain ⟨hx, hb, -, -, -, -, -, -, -, -, hKk, -⟩ := hA
    rw [List.map_cons, List.map_cons, List.map_cons, hlo k hk]
    exact va_last hx hb hKk hS.1 hS.2.1 hS.2.2.1 k 2 (by rw [sa_wd_get hk, sa_cell_long hs]) rfl hin hd (fun H1 locs1 a1 a2 a3 => kk _ _ _ _ _ _ hK (sa_jst_ok hS hk hs a1 a2 a3))
  | arraylength =>
    obtain rfl := sa_len hn
    obtain ⟨k, r, q, n, f, rfl, ha, hq, hK⟩ := h
    exact sa_aln_ok hA hS ha hq hd (kk _ _ _ _ _ _ hK hS)
  | new idx =>
    obtain rfl := sa_len hn
    obtain ⟨ci, hN, hF, hn1, hK⟩ := h
    obtain ⟨r1, r2⟩ := hR _ _ hK
    have r1' : sa_mC m + 1 ≤ sa_mC m0 + R.cells := r1
    have r2' : sa_mS m + sa_nF ci ≤ sa_mS m0 + R.slots := r2
    have c1 := hS.2.2.2.1
    have c2 := hS.2.2.2.2.1
    refine sa_new_ok hA hS hN hF hn1 ⟨by omega, by omega⟩ hd (fun H1 h1 => ?_)
    have h2 := kk _ _ _ _ _ _ hK h1
    rw [List.map_cons, show sa_cv (sa_av G) (.ref (sa_mN m)) = .ref (G.1 + sa_mN m) from sa_av_lo hn1] at h2
    exact h2
  | newarray ty =>
    obtain rfl := sa_len hn
    obtain ⟨n, r, q, rfl, hq, hn0, hn2, hF, hn1, hK⟩ := h
    obtain ⟨r1, r2⟩ := hR _ _ hK
    have r1' : sa_mC m + 1 ≤ sa_mC m0 + R.cells := r1
    have r2' : sa_mS m + n.toNatClampNeg ≤ sa_mS m0 + R.slots := r2
    have c1 := hS.2.2.2.1
    have c2 := hS.2.2.2.2.1
    refine sa_newa_ok hA hS hq hn0 hn2 hF hn1 ⟨by omega, by omega⟩ hd (fun H1 h1 => ?_)
    have h2 := kk _ _ _ _ _ _ hK h1
    rw [List.map_cons, show sa_cv (sa_av G) (.ref (sa_mN m)) = .ref (G.1 + sa_mN m) from sa_av_lo hn1] at h2
    exact h2
  | getstatic idx =>
    obtain rfl := sa_len hn
    obtain ⟨v, hv, hK⟩ := h
    exact sa_gets_ok hA hS hv hd (kk _ _ _ _ _ _ hK hS)
  | ldc idx =>
    obtain rfl := sa_len hn
    obtain (⟨v, hv, hK⟩ | ⟨t, tx, hv, hK⟩) := h
    · obtain ⟨hx, hb, -, -, hown, hts, -⟩ := hA
      exact lv_ldc hx hb hown (hts _ (sa_big_K (sa_lkm hv))) hd (kk _ _ _ _ _ _ hK hS)
    · obtain ⟨hx, hb, -, -, hown, hts, -, -, -, -, -, hE, -⟩ := hA
      obtain ⟨-, -, -, -, -, -, e7, -⟩ := hE
      have hm := sa_lkm hv
      have h2 := kk _ _ _ _ _ _ hK hS
      have h3 := sa_pStrv _ hm
      rw [sa_txtv] at h3
      dsimp only at h3
      rw [List.map_cons, show sa_cv (sa_av G) (.ref (100100 + t)) = .ref (G.2.1 (100100 + t)) from sa_av_hi (by omega) (by omega)] at h2
      exact va_ldcS hx hb hown (e7 _ hm) hd h2
  | ldc_w idx =>
    obtain rfl := sa_len hn
    obtain ⟨v, hv, hK⟩ := h
    obtain ⟨hx, hb, -, -, hown, hts, -⟩ := hA
    exact lv_ldcw hx hb hown (hts _ (sa_big_K (sa_lkm hv))) hd (kk _ _ _ _ _ _ hK hS)
  | ldc2_w idx =>
    obtain rfl := sa_len hn
    obtain ⟨v, hv, hK⟩ := h
    obtain ⟨hx, hb, -, -, hown, hts, -⟩ := hA
    exact lv_ldc2 hx hb hown (hts _ (sa_big_KL (sa_lkm hv))) hd (kk _ _ _ _ _ _ hK hS)
  | idiv =>
    obtain rfl := sa_len hn
    obtain ⟨x, y, r, rfl, hne, hK⟩ := h
    obtain ⟨hx, hb, -⟩ := hA
    exact lv_idiv hx hb hd hne (kk _ _ _ _ _ _ hK hS)
  | irem =>
    obtain rfl := sa_len hn
    obtain ⟨x, y, r, rfl, hne, hK⟩ := h
    obtain ⟨hx, hb, -⟩ := hA
    exact lv_irem hx hb hd hne (kk _ _ _ _ _ _ hK hS)
  | _ => exact h.elim
theorem sa_ct_ok (hx : p.tables.exec = Jvm.exec) {cc : ByteArray} (hb : c.code = cc) {av : Nat → Value} {i : Instr} {len : Nat} {K : Nat → List Value → Prop} (h : sa_ct i pc st K) (hd : decode cc pc = .ok (i, len)) (hn : sa_ln i len = true)
    (kk : ∀ (pc' : Nat) (st' : List Value), K pc' st' → W p l e R s mm args below meth c H locs cells slots Q (F0 mm pc' ls (st'.map (sa_cv av)))) :
    W p l e R s mm args below meth c H locs cells slots Q (F0 mm pc ls (st.map (sa_cv av))) := by
  cases i with
  | goto off =>
    obtain rfl := sa_len hn
    obtain ⟨t, ht, hK⟩ := h
    exact lv_goto hx hb hd ht (kk _ _ hK)
  | ifCond cd off =>
    obtain rfl := sa_len hn
    obtain ⟨x, r, t, rfl, ht, h1, h2⟩ := h
    cases cd with
    | eq => exact lv_if_eq hx hb hd ht (fun q => kk _ _ (h1 q)) (fun q => kk _ _ (h2 q))
    | ne => exact lv_if_ne hx hb hd ht (fun q => kk _ _ (h1 q)) (fun q => kk _ _ (h2 (fun z => z q)))
    | lt => exact lv_if_lt hx hb hd ht (fun q => kk _ _ (h1 q)) (fun q => kk _ _ (h2 q))
    | ge => exact lv_if_ge hx hb hd ht (fun q => kk _ _ (h1 q)) (fun q => kk _ _ (h2 q))
    | gt => exact lv_if_gt hx hb hd ht (fun q => kk _ _ (h1 q)) (fun q => kk _ _ (h2 q))
    | le => exact lv_if_le hx hb hd ht (fun q => kk _ _ (h1 q)) (fun q => kk _ _ (h2 q))
  | if_icmp cd off =>
    obtain rfl := sa_len hn
    obtain ⟨x, y, r, t, rfl, ht, h1, h2⟩ := h
    cases cd with
    | eq => exact lv_icmp_eq hx hb hd ht (fun q => kk _ _ (h1 q)) (fun q => kk _ _ (h2 q))
    | ne => exact lv_icmp_ne hx hb hd ht (fun q => kk _ _ (h1 q)) (fun q => kk _ _ (h2 (fun z => z q)))
    | lt => exact lv_icmp_lt hx hb hd ht (fun q => kk _ _ (h1 q)) (fun q => kk _ _ (h2 q))
    | ge => exact lv_icmp_ge hx hb hd ht (fun q => kk _ _ (h1 q)) (fun q => kk _ _ (h2 q))
    | gt => exact lv_icmp_gt hx hb hd ht (fun q => kk _ _ (h1 q)) (fun q => kk _ _ (h2 q))
    | le => exact lv_icmp_le hx hb hd ht (fun q => kk _ _ (h1 q)) (fun q => kk _ _ (h2 q))
  | tableswitch d lo hi offs =>
    obtain ⟨x, r, rfl, h1, h2⟩ := h
    by_cases hq : x.toInt < lo ∨ hi < x.toInt
    · obtain ⟨t, ht, hK⟩ := h1 hq
      exact lv_tableOut hx hb hd hq ht (kk _ _ hK)
    · have q1 : ¬ x.toInt < lo := fun z => hq (Or.inl z)
      have q2 : ¬ hi < x.toInt := fun z => hq (Or.inr z)
      obtain ⟨off, t, ho, ht, hK⟩ := h2 q1 q2
      exact lv_tableIn hx hb hd q1 q2 ho ht (kk _ _ hK)
  | _ => exact h.elim
end SAD

/-! ===== soundness 8: invocations ===== -/
theorem sa_vw13 : vwCl.length = 13 := rfl
theorem sa_nfw : nativeFrameWords "java/lang/System" "arraycopy" 5 + 11 ≤ 150 := by decide +kernel
section SAI
variable {p : Program} {l : Launch} {e : Env} {R : Room} {s : State} {mm : MethodId} {args : Array Value} {below : List Frame} {meth : Method} {c : Code} {H : Heap} {locs : List Loc} {cells slots : Nat} {Q : State → Prop}
variable {pc : Nat} {ls : Array Slot} {X : Nat × (Nat → Int32)} {G : sa_G} {e0 : sa_Me} {m0 m : sa_Mem} {lo st : List Value} {o : sa_Out} {d : Nat} {C : Nat → List Value → sa_Mem → sa_Out → Prop}
theorem sa_recv_in (hA : sa_At X G p l R s mm args meth c e0 m0) (hS : sa_St G s m0 m H locs cells slots) {b : Nat} {e1 : sa_Me} (he1 : e1 ∈ sa_M) (hb : b < sa_mN m) (hk : e1.1 = (sa_sh m b).1) : ∃ cellB : Cell, H[G.1 + b]? = some cellB ∧ cellB.vm.isStatics = false ∧ s.vm.findClass e1.2.1.cls = some cellB.cls := by
  obtain ⟨-, -, -, -, -, -, -, -, -, -, hK, -⟩ := hA
  obtain ⟨hP, -⟩ := hS
  obtain ⟨hcls, -, -, h19, -⟩ := sa_Mcls e1 he1
  have he := sa_wd_get (G := G) hb
  rw [sa_cell_obj (ci := e1.1) hk.symm (by omega)] at he
  obtain ⟨q, hq, -⟩ := hP b _ he
  have h13 : e1.1 < 13 := (List.getElem?_eq_some_iff.mp hq).1
  obtain ⟨C1, T, N, hc, hC, -⟩ := sa_clv e1.1 h13
  have := va_recv hK hP hc he
  rw [hcls, hC]
  exact this
theorem sa_recv_ex (hA : sa_At X G p l R s mm args meth c e0 m0) (hS : sa_St G s m0 m H locs cells slots) {b : Nat} {e1 : sa_Me} (he1 : e1 ∈ sa_M) (h1 : 100100 ≤ b) (h2 : b < 100100 + sa_txt.length) (hk : e1.1 = 16) : ∃ cellB : Cell, H[G.2.1 b]? = some cellB ∧ cellB.vm.isStatics = false ∧ s.vm.findClass e1.2.1.cls = some cellB.cls := by
  obtain ⟨-, -, -, -, -, -, -, -, -, -, -, hE, -⟩ := hA
  obtain ⟨-, -, -, -, -, e6, -⟩ := hE
  obtain ⟨hcls, -⟩ := sa_Mcls e1 he1
  obtain ⟨cell, c1, c2, c3, -⟩ := (e6 (b - 100100) (by omega)).1.kept hS.2.2.1.2.1
  rw [show 100100 + (b - 100100) = b by omega] at c1
  rw [hcls, hk]
  exact ⟨cell, c1, c2, c3⟩
theorem sa_stk (av : Nat → Value) (As : List Value) (v : Value) (r : List Value) : (As.reverse ++ v :: r).map (sa_cv av) = (As.map (sa_cv av)).reverse ++ sa_cv av v :: r.map (sa_cv av) := by simp
theorem sa_stk2 (av : Nat → Value) (As r : List Value) : (As.reverse ++ r).map (sa_cv av) = (As.map (sa_cv av)).reverse ++ r.map (sa_cv av) := by simp
theorem sa_sum {av : Nat → Value} (hav : ∀ k, (av k).category = 1) (r : List Value) : ((r.map (sa_cv av)).map (fun v => v.category)).sum = (r.map (fun v => v.category)).sum := by
  congr 1
  rw [List.map_map]
  apply List.map_congr_left
  intro v _
  exact sa_cv_cat hav v
set_option maxHeartbeats 8000000 in
theorem sa_iv_ok (hC : sa_Cs l X G d C) (hMh : ∀ h ∈ e0.2.2.2.2.2.1.getD [], h.2.2.2 ≠ 0 ∧ (sa_pE.lookup (e0.1, h.2.2.2)).isSome = true) (hA : sa_At X G p l R s mm args meth c e0 m0) (hS : sa_St G s m0 m H locs cells slots) (hl : sa_LR (sa_av G) lo ls) (hlen : lo.length = e0.2.2.2.1)
    (hRd : d + 9 ≤ R.frames ∧ 64 * (d + 1) + 200 ≤ R.locals) (hRo : sa_mC o.2 ≤ sa_mC m0 + R.cells ∧ sa_mS o.2 ≤ sa_mS m0 + R.slots) {i : Instr} {len : Nat} {K : Nat → List Value → List Value → sa_Mem → Prop} (h : sa_iv C e0 pc i lo st m o K) (hd : decode e0.2.2.1 pc = .ok (i, len)) (hn : sa_ln i len = true)
    (hKm : ∀ a b c m1, K a b c m1 → sa_ok m1 o.2)
    (kk : ∀ (pc' : Nat) (lo' st' : List Value) (m' : sa_Mem) (H1 : Heap) (locs1 : List Loc) (cells1 slots1 : Nat) (ls' : Array Slot), K pc' lo' st' m' → sa_St G s m0 m' H1 locs1 cells1 slots1 → sa_LR (sa_av G) lo' ls' → lo'.length = lo.length → W p l e R s mm args below meth c H1 locs1 cells1 slots1 Q (F0 mm pc' ls' (st'.map (sa_cv (sa_av G)))))
    (kx : ∀ (r : List Value) (q : Nat) (m' : sa_Mem) (H1 : Heap) (locs1 : List Loc) (cells1 slots1 : Nat) (z : Addr) (ce : Cell), o = (.inr q, m') → e0.2.2.2.2.2.1 = none → (q = 0 ∨ q = 1) → sa_St G s m0 m' H1 locs1 cells1 slots1 → H1[z]? = some ce → ce.vm = .none → s.vm.findClass (sa_exn q) = some ce.cls → (sa_mF m' = false → H1.size = G.1 + sa_mN m') → vx_W p l e R s mm args below meth c H1 locs1 cells1 slots1 Q (F0 mm pc ls (r.map (sa_cv (sa_av G)))) z) :
    W p l e R s mm args below meth c H locs cells slots Q (F0 mm pc ls (st.map (sa_cv (sa_av G)))) := by
  obtain ⟨hx, hb, -, hml, hown, hts, -, -, -, -, hKk, hE, -, -, -, -, hcat⟩ := id hA
  have hbad : ∀ w ∈ sa_bad, va_Nw w s := by obtain ⟨-, -, -, -, -, -, -, h, -⟩ := hE; exact h
  have hav := sa_av_cat hcat
  have hsz : ls.size = e0.2.2.2.1 := by rw [← hlen]; exact hl.1
  have cN := hS.2.2.2.1
  have cS := hS.2.2.2.2.1
  have hmet : ∀ (q : (Nat × Nat) × (Nat × Nat × Nat)), q ∈ sa_pI → q.2.1 ≤ 5 → ∃ e1, e1 ∈ sa_M ∧ sa_M[q.2.2.1]? = some e1 ∧ sa_y q.2.2.1 = e1.2.1 ∧ (parseMethodDescriptor e1.2.1.desc).map (fun d => d.parameters.length) = some q.2.2.2 ∧ (q.2.1 ≠ 5 → e1.2.2.2.2.2.1 = none ∧ sa_ws e1 = Cond.code e1.2.1 e1.2.2.1 e1.2.2.2.1 e1.2.2.2.2.1 :: sa_big) ∧ (q.2.1 = 5 → ∃ hh, e1.2.2.2.2.2.1 = some hh ∧ sa_ws e1 = Cond.codeWith e1.2.1 e1.2.2.1 e1.2.2.2.1 e1.2.2.2.2.1 hh :: sa_big) ∧ (q.2.1 = 2 ∨ q.2.1 = 3 → e1.2.1.name = "<init>" ∧ e1.2.2.2.2.1 = none) ∧ (e1.2.1.cls ≠ "java/lang/invoke/MethodHandle" ∧ e1.2.1.cls ≠ "java/lang/invoke/VarHandle") ∧ e1.2.2.2.1 ≤ 45 := by
    intro q hq h5
    obtain ⟨e1, he1, h1, h2, h3, h4⟩ := sa_iok_spec hq h5
    have hm := List.mem_of_getElem? he1
    obtain ⟨-, -, h6, -, h7⟩ := sa_Mcls e1 hm
    refine ⟨e1, hm, he1, sa_yof he1, h1, fun h => ⟨h2 h, ?_⟩, fun h => ?_, h4, h7, h6⟩
    · unfold sa_ws sa_cw
      rw [h2 h]
    · obtain ⟨hh, hhe⟩ := h3 h
      refine ⟨hh, hhe, ?_⟩
      unfold sa_ws sa_cw
      rw [hhe]
  have room : ∀ (o' : sa_Out), sa_ok m o'.2 → sa_ok o'.2 o.2 → cells + (sa_mC o'.2 - sa_mC m) ≤ R.cells ∧ slots + (sa_mS o'.2 - sa_mS m) ≤ R.slots := by
    intro o' h1 h2
    have a1 := h1.1
    have a2 := h1.2.1
    have a3 := h2.1
    have a4 := h2.2.1
    exact ⟨by omega, by omega⟩
  cases i with
  | invokevirtual idx =>
    obtain rfl := sa_len hn
    obtain ⟨mi, n, As, b, r, o', hI, rfl, hAs, hsum, hrecv, hc, haf⟩ := h
    have hm := sa_lkm hI
    obtain ⟨e1, he1m, he1, hyy, hdesc, hcode, -, -, hmh, hmx⟩ := hmet _ hm (by dsimp only; omega)
    obtain ⟨hok, hM⟩ := hC _ _ _ _ hc
    have hM := hM e1 he1
    have hw : ∀ w ∈ ([.methodLink (sa_C e0.1) idx (sa_y mi), .instanceMethod (sa_y mi), .selects (sa_y mi).cls (sa_y mi) (sa_y mi), .initialized (sa_y mi).cls] : List Cond), w ∈ sa_big := sa_big_I hm
    have hyy : sa_y mi = e1.2.1 := hyy
    rw [hyy] at hw
    obtain ⟨B, hB, hrc⟩ : ∃ B, sa_cv (sa_av G) (.ref b) = .ref B ∧ ∃ cellB : Cell, H[B]? = some cellB ∧ cellB.vm.isStatics = false ∧ s.vm.findClass e1.2.1.cls = some cellB.cls := by
      rcases hrecv with ⟨h1, h2⟩ | ⟨h1, h2, h3⟩
      · refine ⟨G.1 + b, sa_av_lo (by have := hS.2.2.2.2.2.2; omega), sa_recv_in hA hS he1m h1 ?_⟩
        rw [he1] at h2
        exact Option.some.inj h2
      · refine ⟨G.2.1 b, sa_av_hi (by omega) (by rw [sa_txtv] at h2; omega), sa_recv_ex hA hS he1m h1 h2 ?_⟩
        rw [he1] at h3
        exact Option.some.inj h3
    rw [sa_stk, hB]
    refine sa_call_ok hMh hA hS hl (fun hz => vx_runV (As := As.map (sa_cv (sa_av G))) (rest := r.map (sa_cv (sa_av G))) ⟨hx, hb, hml, hown, hts⟩ hM (cwV n hts (sa_good he1m _ hw) (hcode (by dsimp only; omega)).2 rfl rfl ⟨rfl, hmh.1, hmh.2, hdesc⟩ ⟨?_, ?_⟩) ⟨sa_blind, hrc, fun U hU hW => ?_⟩ rfl (by rw [List.length_map]; exact hAs) hsz rfl ?_ hd (room o' hok (sa_af_mono haf hKm))) hok haf kk (fun q m' H1 locs1 c1 s1 z ce h1 h2 h3 h4 h5 h6 h7 _ h8 => kx r q m' H1 locs1 c1 s1 z ce h1 h2 h3 h4 h5 h6 h7 h8)
    · show d + 8 + 1 ≤ R.frames
      omega
    · show 8 + (e1.2.2.2.1 + 11) + (64 * d + 200) ≤ R.locals
      omega
    · have := sa_pre hA hS hz (.ref b :: As) U hU hW
      rw [List.map_cons, hB] at this
      exact this
    · show 2 * 0 + _ ≤ 8
      rw [sa_sum hav]
      omega
  | invokestatic idx =>
    obtain rfl := sa_len hn
    obtain (⟨k1, mi, n, As, r, o', hI, hk1, rfl, hAs, hsum, hc, haf⟩ | ⟨x, y, r, hI, rfl, hsum, hK⟩ | ⟨x, y, r, hI, rfl, hsum, hK⟩ | ⟨a, b, sp, dp, n, r, hI, rfl, hsum, ha, hb2, hsa, hsb, g1, g2, g3, g4, g5, hK⟩) := h
    · have hm := sa_lkm hI
      obtain ⟨e1, he1m, he1, hyy, hdesc, hcode, hcodeW, -, hmh, hmx⟩ := hmet _ hm (by rcases hk1 with rfl | rfl | rfl <;> (dsimp only; omega))
      obtain ⟨hok, hM⟩ := hC _ _ _ _ hc
      have hM := hM e1 he1
      have hyy : sa_y mi = e1.2.1 := hyy
      rw [sa_stk2]
      refine sa_call_ok hMh hA hS hl (fun hz => ?_) (a := (As.map (sa_cv (sa_av G))).toArray) hok haf kk (fun q m' H1 locs1 c1 s1 z ce h1 h2 h3 h4 h5 h6 h7 _ h8 => kx r q m' H1 locs1 c1 s1 z ce h1 h2 h3 h4 h5 h6 h7 h8)
      have hpre : PreS s H (sa_Pc X G As m) (As.map (sa_cv (sa_av G))) := ⟨sa_blind, sa_pre hA hS hz As⟩
      have hWr : 2 * (F0 mm pc ls ((As.map (sa_cv (sa_av G))).reverse ++ r.map (sa_cv (sa_av G)))).monitorRoom + ((r.map (sa_cv (sa_av G))).map fun v => v.category).sum ≤ 8 := by
        show 2 * 0 + _ ≤ 8
        rw [sa_sum hav]
        omega
      have hRm : (sa_rm d (sa_mC o'.2 - sa_mC m) (sa_mS o'.2 - sa_mS m)).frames + 1 ≤ R.frames ∧ 8 + (e1.2.2.2.1 + 11) + (sa_rm d (sa_mC o'.2 - sa_mC m) (sa_mS o'.2 - sa_mS m)).locals ≤ R.locals := ⟨by show d + 8 + 1 ≤ R.frames; omega, by show 8 + (e1.2.2.2.1 + 11) + (64 * d + 200) ≤ R.locals; omega⟩
      rcases hk1 with rfl | rfl | rfl
      · have hw : ∀ w ∈ ([.methodLink (sa_C e0.1) idx (sa_y mi), .static (sa_y mi), .initialized (sa_y mi).cls] : List Cond), w ∈ sa_big := sa_big_I hm
        rw [hyy] at hw
        exact vx_runS ⟨hx, hb, hml, hown, hts⟩ hM (va_cwS n hts (sa_good he1m _ hw) (hcode (by dsimp only; omega)).2 rfl rfl ⟨hmh.1, hmh.2, hdesc⟩ hRm) hpre rfl (by rw [List.length_map]; exact hAs) hsz rfl hWr hd (room o' hok (sa_af_mono haf hKm))
      · have hw : ∀ w ∈ ([.static (sa_y mi), .initialized (sa_y mi).cls] : List Cond), w ∈ sa_big := sa_big_I hm
        rw [hyy] at hw
        have hnest := sa_pNest_of _ hm (Or.inr rfl)
        have hl9 := hbad (Cond.methodLinkNest (sa_C e0.1) idx (sa_y mi) RX11) (List.mem_append_right _ (List.mem_append_left _ (List.mem_map.mpr ⟨_, hnest, rfl⟩)))
        rw [hyy] at hl9
        exact vx_runSN ⟨hx, hb, hml, hown, hts⟩ hM ⟨va_cnB n hts (sa_good he1m [] (fun w h => by cases h)) (hcode (by dsimp only; omega)).2 rfl rfl hl9 (hts _ (hw _ (by simp))) ⟨hmh.1, hmh.2, hdesc⟩ hRm, hts _ (hw _ (by simp)), trivial⟩ hpre rfl (by rw [List.length_map]; exact hAs) hsz rfl hWr hd (room o' hok (sa_af_mono haf hKm))
      · have hw : ∀ w ∈ ([.methodLink (sa_C e0.1) idx (sa_y mi), .static (sa_y mi), .initialized (sa_y mi).cls] : List Cond), w ∈ sa_big := sa_big_I hm
        rw [hyy] at hw
        obtain ⟨hh, -, hcw⟩ := hcodeW rfl
        exact vx_runSX ⟨hx, hb, hml, hown, hts⟩ hM (vx_cwSW n hts (sa_good he1m _ hw) hcw rfl rfl ⟨hmh.1, hmh.2, hdesc⟩ hRm) hpre rfl (by rw [List.length_map]; exact hAs) hsz rfl hWr hd (room o' hok (sa_af_mono haf hKm))
    · have hw : ∀ w ∈ ([.methodLink (sa_C e0.1) idx Lib.Math.max.name, .static Lib.Math.max.name, .initialized "java/lang/Math", .code Lib.Math.max.name Lib.Math.max.code 2 (some .int)] : List Cond), w ∈ sa_big := sa_big_I (sa_lkm hI)
      have h1 := (hKm _ _ _ _ hK).1
      have h2 := (hKm _ _ _ _ hK).2.1
      exact va_mmax hx hb (hml.trans hsz.symm) hown (hts _ (hw _ (by simp))) (hts _ (hw _ (by simp))) (hts _ (hw _ (by simp))) (hts _ (hw _ (by simp))) (by omega) (by rw [sa_sum hav]; omega) (by omega) (by omega) hd (kk _ _ _ _ _ _ _ _ ls hK hS hl rfl)
    · have hw : ∀ w ∈ ([.methodLink (sa_C e0.1) idx Lib.Math.min.name, .static Lib.Math.min.name, .initialized "java/lang/Math", .code Lib.Math.min.name Lib.Math.min.code 2 (some .int)] : List Cond), w ∈ sa_big := sa_big_I (sa_lkm hI)
      have h1 := (hKm _ _ _ _ hK).1
      have h2 := (hKm _ _ _ _ hK).2.1
      exact va_mmin hx hb (hml.trans hsz.symm) hown (hts _ (hw _ (by simp))) (hts _ (hw _ (by simp))) (hts _ (hw _ (by simp))) (hts _ (hw _ (by simp))) (by omega) (by rw [sa_sum hav]; omega) (by omega) (by omega) hd (kk _ _ _ _ _ _ _ _ ls hK hS hl rfl)
    · have hw : ∀ w ∈ ([.methodLink (sa_C e0.1) idx arraycopyName, .native arraycopyName, .static arraycopyName, .initialized "java/lang/System"] : List Cond), w ∈ sa_big := sa_big_I (sa_lkm hI)
      have h100 := hS.2.2.2.2.2.2
      have hnf := sa_nfw
      rw [List.map_cons, List.map_cons, List.map_cons, List.map_cons, List.map_cons, show sa_cv (sa_av G) (.ref a) = .ref (G.1 + a) from sa_av_lo (by omega), show sa_cv (sa_av G) (.ref b) = .ref (G.1 + b) from sa_av_lo (by omega)]
      refine va_copyi hx hb (hml.trans hsz.symm) hown (hts _ (hw _ (by simp))) (hts _ (hw _ (by simp))) (hts _ (hw _ (by simp))) (hts _ (hw _ (by simp))) hKk hS.1 hS.2.1 hS.2.2.1 a b 1 1 (ty := .int) (by rw [sa_wd_get ha, sa_cell_int hsa (by omega)]) (by rw [sa_wd_get hb2, sa_cell_int hsb (by omega)]) rfl rfl rfl g1 g2 g3 g4 g5 (fun _ _ => rfl) (by omega) (by rw [sa_sum hav]; omega) hd (fun H1 locs1 a1 a2 a3 => kk _ _ _ _ _ _ _ _ ls hK (sa_ist_ok hS hb2 hsb (by omega) a1 a2 a3) hl rfl)
  | invokespecial idx =>
    obtain rfl := sa_len hn
    obtain (⟨k1, mi, n, As, b, r, o', hI, hk1, rfl, hAs, hb5, hsum, hc, haf⟩ | ⟨b, r, hI, rfl, hb5, hsum, hK⟩) := h
    · have hm := sa_lkm hI
      obtain ⟨e1, he1m, he1, hyy, hdesc, hcode, -, hini, hmh, hmx⟩ := hmet _ hm (by rcases hk1 with rfl | rfl <;> (dsimp only; omega))
      obtain ⟨hok, hM⟩ := hC _ _ _ _ hc
      have hM := hM e1 he1
      have hyy : sa_y mi = e1.2.1 := hyy
      have hB : sa_cv (sa_av G) (.ref b) = .ref (G.1 + b) := sa_av_lo hb5
      obtain ⟨hnm, hret⟩ := hini hk1
      have hcd : sa_ws e1 = Cond.code e1.2.1 e1.2.2.1 e1.2.2.2.1 none :: sa_big := by rw [← hret]; exact (hcode (by rcases hk1 with rfl | rfl <;> (dsimp only; omega))).2
      rw [sa_stk, hB]
      refine sa_call_ok hMh hA hS hl (fun hz => ?_) (a := (Value.ref (G.1 + b) :: As.map (sa_cv (sa_av G))).toArray) hok haf kk (fun q m' H1 locs1 c1 s1 z ce h1 h2 h3 h4 h5 h6 h7 _ h8 => kx r q m' H1 locs1 c1 s1 z ce h1 h2 h3 h4 h5 h6 h7 h8)
      have hpre : PreS s H (sa_Pc X G (.ref b :: As) m) (.ref (G.1 + b) :: As.map (sa_cv (sa_av G))) := ⟨sa_blind, fun U hU hW => by
        have := sa_pre hA hS hz (.ref b :: As) U hU hW
        rw [List.map_cons, hB] at this
        exact this⟩
      have hWr : 2 * (F0 mm pc ls ((As.map (sa_cv (sa_av G))).reverse ++ .ref (G.1 + b) :: r.map (sa_cv (sa_av G)))).monitorRoom + ((r.map (sa_cv (sa_av G))).map fun v => v.category).sum ≤ 8 := by
        show 2 * 0 + _ ≤ 8
        rw [sa_sum hav]
        omega
      have hRm : (sa_rm d (sa_mC o'.2 - sa_mC m) (sa_mS o'.2 - sa_mS m)).frames + 1 ≤ R.frames ∧ 8 + (e1.2.2.2.1 + 11) + (sa_rm d (sa_mC o'.2 - sa_mC m) (sa_mS o'.2 - sa_mS m)).locals ≤ R.locals := ⟨by show d + 8 + 1 ≤ R.frames; omega, by show 8 + (e1.2.2.2.1 + 11) + (64 * d + 200) ≤ R.locals; omega⟩
      rcases hk1 with rfl | rfl
      · have hw : ∀ w ∈ ([.methodLink (sa_C e0.1) idx (sa_y mi), .instanceMethod (sa_y mi), .initialized (sa_y mi).cls] : List Cond), w ∈ sa_big := sa_big_I hm
        rw [hyy] at hw
        exact vx_runI ⟨hx, hb, hml, hown, hts⟩ hM (cwI n hts (sa_good he1m [] (fun w h => by cases h)) hcd rfl rfl (hts _ (hw _ (by simp))) (hts _ (hw _ (by simp))) (hts _ (hw _ (by simp))) hnm ⟨hmh.1, hmh.2, hdesc⟩ hRm) hpre rfl (by rw [List.length_map]; exact hAs) hsz rfl hWr hd (room o' hok (sa_af_mono haf hKm))
      · have hw : ∀ w ∈ ([.instanceMethod (sa_y mi), .initialized (sa_y mi).cls] : List Cond), w ∈ sa_big := sa_big_I hm
        rw [hyy] at hw
        have hnest := sa_pNest_of _ hm (Or.inl rfl)
        have hl9 := hbad (Cond.methodLinkNest (sa_C e0.1) idx (sa_y mi) RX11) (List.mem_append_right _ (List.mem_append_left _ (List.mem_map.mpr ⟨_, hnest, rfl⟩)))
        rw [hyy] at hl9
        exact vx_runIN ⟨hx, hb, hml, hown, hts⟩ hM ⟨va_cnB n hts (sa_good he1m [] (fun w h => by cases h)) hcd rfl rfl hl9 (hts _ (hw _ (by simp))) ⟨hmh.1, hmh.2, hdesc⟩ hRm, hnm, hts _ (hw _ (by simp))⟩ hpre rfl (by rw [List.length_map]; exact hAs) hsz rfl hWr hd (room o' hok (sa_af_mono haf hKm))
    · have hw : ∀ w ∈ ([.methodLink (sa_C e0.1) idx objectInit, .instanceMethod objectInit, .code objectInit ⟨#[0xb1]⟩ 1 none] : List Cond), w ∈ sa_big := sa_big_I (sa_lkm hI)
      rw [List.map_cons, show sa_cv (sa_av G) (.ref b) = .ref (G.1 + b) from sa_av_lo hb5]
      exact W.objInit hx hb hown (hts _ (hw _ (by simp))) (hts _ (hw _ (by simp))) (hts _ (hw _ (by simp))) rfl (hsz.trans hml.symm) rfl hd (by omega) (by show 2 * 0 + _ + 12 ≤ _; rw [sa_sum hav]; omega) (kk _ _ _ _ _ _ _ _ ls hK hS hl rfl)
  | _ => exact h.elim
end SAI

/-! ===== soundness 10: a method's contract; all calls, by depth ===== -/
section SAZ
variable {p : Program} {l : Launch} {e : Env} {R : Room} {s : State} {mm : MethodId} {args : Array Value} {below : List Frame} {meth : Method} {c : Code} {H : Heap} {locs : List Loc} {cells slots : Nat}
variable {X : Nat × (Nat → Int32)} {G : sa_G} {e0 : sa_Me} {m0 m : sa_Mem} {o : sa_Out} {pc : Nat} {ls : Array Slot} {st : List Value}
theorem sa_F (hS : sa_St G s m0 m H locs cells slots) {t : State} (ht : t.heap = H) : va_F (sa_A G) s t := hS.2.2.1.F ht
theorem sa_ret_ok (hA : sa_At X G p l R s mm args meth c e0 m0) (hS : sa_St G s m0 m H locs cells slots) {i : Instr} {len : Nat} (hd : decode e0.2.2.1 pc = .ok (i, len)) (hn : sa_ln i len = true) (h : sa_rt e0 i st m o) :
    W p l e R s mm args below meth c H locs cells slots (vx_MQ below (sa_Qc G o) (sa_XC G o) args s (sa_mC o.2 - sa_mC m0) (sa_mS o.2 - sa_mS m0) (sa_A G)) (F0 mm pc ls (st.map (sa_cv (sa_av G)))) := by
  have e2 := sa_rt_mono h
  have c1 : sa_mC o.2 - sa_mC m0 = cells := by rw [e2]; have := hS.2.2.2.1; omega
  have c2 : sa_mS o.2 - sa_mS m0 = slots := by rw [e2]; have := hS.2.2.2.2.1; omega
  rw [c1, c2]
  intro T hT Z
  have hz := sa_size hA hS hT Z
  obtain ⟨hx, hb, hr, -, -, -, hlocks, -⟩ := hA
  have hrep : ∀ t : State, t.heap = H → sa_rep G o.2 t.heap ∧ sa_inv G o.2 t.heap ∧ va_F (sa_A G) s t := by
    intro t ht
    rw [e2, ht]
    exact ⟨⟨hS.1, hS.2.1, hS.2.2.2.2.2.2⟩, fun hF => ⟨(hS.2.2.2.2.2.1 hF).2, hz hF⟩, sa_F hS ht⟩
  cases i with
  | ireturn =>
    obtain rfl := sa_len hn
    obtain ⟨v, ty, rfl, hty, hso, hnar, ho⟩ := h
    exact vx_ret (W.zret (Qc := sa_Qc G o) hx hb (by rw [hr, hty]) hnar (fun t ht hW => ⟨⟨some (.int v), by rw [ho], rfl⟩, hrep t ht⟩) hS.2.2.1.2.2 hd hlocks) T hT Z
  | lreturn =>
    obtain rfl := sa_len hn
    obtain ⟨v, rfl, hty, ho⟩ := h
    exact vx_ret (W.lret (Qc := sa_Qc G o) hx hb (by rw [hr, hty]) (fun t ht hW => ⟨⟨some (.long v), by rw [ho], rfl⟩, hrep t ht⟩) hS.2.2.1.2.2 hd hlocks) T hT Z
  | return_ =>
    obtain rfl := sa_len hn
    obtain ⟨rfl, hty, ho⟩ := h
    exact vx_ret (W.vret (Qc := sa_Qc G o) hx hb (by rw [hr, hty]) (fun t ht hW => ⟨⟨none, by rw [ho], rfl⟩, hrep t ht⟩) hS.2.2.1.2.2 hd hlocks) T hT Z
  | _ => exact h.elim
theorem sa_out_ok (hA : sa_At X G p l R s mm args meth c e0 m0) {q : Nat} {m' : sa_Mem} {z : Addr} {ce : Cell} {r : List Value} (ho : o = (.inr q, m')) (hh : e0.2.2.2.2.2.1 = none) (hq : q = 0 ∨ q = 1) (hS : sa_St G s m0 m' H locs cells slots) (hce : H[z]? = some ce) (hcv : ce.vm = .none) (hcl : s.vm.findClass (sa_exn q) = some ce.cls) (hz : sa_mF m' = false → H.size = G.1 + sa_mN m') :
    vx_W p l e R s mm args below meth c H locs cells slots (vx_MQ below (sa_Qc G o) (sa_XC G o) args s (sa_mC o.2 - sa_mC m0) (sa_mS o.2 - sa_mS m0) (sa_A G)) (F0 mm pc ls (r.map (sa_cv (sa_av G)))) z := by
  obtain ⟨-, -, -, -, -, -, hlocks, -, htab, -⟩ := hA
  rw [hh] at htab
  have c1 := hS.2.2.2.1
  have c2 := hS.2.2.2.2.1
  subst ho
  refine vx_out (fun x hx => ?_) hlocks hce hcv hcl (fun t ht hW => ⟨⟨q, rfl, rfl, hq⟩, ?_, ?_, sa_F hS ht⟩) hS.2.2.1.2.2 (by dsimp only; omega) (by dsimp only; omega)
  · rw [htab] at hx
    cases hx
  · rw [ht]
    exact ⟨hS.1, hS.2.1, hS.2.2.2.2.2.2⟩
  · intro hF
    rw [ht]
    exact ⟨(hS.2.2.2.2.2.1 hF).2, hz hF⟩
theorem sa_thr_ok (hA : sa_At X G p l R s mm args meth c e0 m0) (hS : sa_St G s m0 m H locs cells slots) {i : Instr} {len : Nat} (hd : decode e0.2.2.1 pc = .ok (i, len)) (hn : sa_ln i len = true) (h : sa_th e0 pc i st m o) (hsz : ls.size = c.maxLocals) (hRc : sa_mC o.2 ≤ sa_mC m0 + R.cells ∧ sa_mS o.2 ≤ sa_mS m0 + R.slots) :
    W p l e R s mm args below meth c H locs cells slots (vx_MQ below (sa_Qc G o) (sa_XC G o) args s (sa_mC o.2 - sa_mC m0) (sa_mS o.2 - sa_mS m0) (sa_A G)) (F0 mm pc ls (st.map (sa_cv (sa_av G)))) := by
  cases i with
  | new idx =>
    obtain rfl := sa_len hn
    obtain ⟨q, ic, rfl, hE, hic, hh, l3, l4, l7, ho⟩ := h
    obtain ⟨hx, hb, -, -, hown, hts, hlocks, -, htab, hdec, -, hEx, -, -, hst, hRr, -⟩ := hA
    obtain ⟨-, -, -, -, -, -, -, hbad, ⟨hU, hN⟩, -⟩ := hEx
    have hm := sa_lkm hE
    obtain ⟨h11, hq01, hicn⟩ := sa_pEc _ hm hic
    dsimp only at h11 hq01 hicn
    have hk := hts _ (sa_big_E hm)
    dsimp only at hk
    have hini : (Cond.initialized (sa_exn q)).before args s = true := hts _ (sa_big_Ei (by rcases hq01 with rfl | rfl <;> simp))
    rw [hh] at htab
    have hin : ∀ w ∈ vx_at0 (sa_C e0.1) ic (sa_exn q) sa_sup, w ∈ vx_at0 RX11 (sa_icn 0) (sa_exn 0) sa_sup ++ vx_at0 RX11 (sa_icn 1) (sa_exn 1) sa_sup := by
      intro w hw
      rw [h11, hicn] at hw
      rcases hq01 with rfl | rfl
      · exact List.mem_append_left _ hw
      · exact List.mem_append_right _ hw
    have c1 := hS.2.2.2.1
    have c2 := hS.2.2.2.2.1
    have eC : sa_mC o.2 = sa_mC m + 1 := by rw [ho]; rfl
    have eS : sa_mS o.2 = sa_mS m + 6 := by rw [ho]; rfl
    refine vx_throw0 hx hb hst hown (cls := sa_exn q) (names := sa_sup) (ik := idx) (ic := ic) (A := sa_A G) (by rcases hq01 with rfl | rfl <;> decide +kernel) (by decide +kernel) hk hini (fun w hw => ?_) (fun w hw => ?_) hU hN hS.2.2.1 hsz hd (hdec _ (sa_lkn l3)).1 (hdec _ (sa_lkn l4)).1 (hdec _ (sa_lkn l7)).1 (fun x hx => ?_) ?_ ?_ (by omega) (by omega) hlocks (fun t hvm hle hq => ?_) hS.2.2.1.2.2 (by omega) (by omega)
    · rcases sa_at_in (hin w hw) with h | h
      · exact hts w h
      · exact va_Nw.use (sa_bk_on (sa_bad_k w h)) (hbad w h)
    · rcases List.mem_cons.mp hw with rfl | hw
      · rfl
      · rcases List.mem_cons.mp hw with rfl | hw
        · rfl
        · exact sa_at_ot w (hin w hw)
    · rw [htab] at hx
      cases hx
    · show 2 + 3 < R.frames
      have := hRr.1
      omega
    · show 0 + (13 * (2 + 1) + 42) ≤ R.locals
      have := hRr.2
      omega
    · have hP := hS.1
      have hkp : ∀ (k : Nat) (x : Nat × va_E), (sa_wd G m)[k]? = some x → t.heap[x.1]? = H[x.1]? := fun k x hx => hq x.1 ((hP k x hx).lt)
      refine ⟨⟨q, by rw [ho], rfl, hq01⟩, ?_, ?_, ?_⟩
      · rw [ho]
        exact ⟨hP.kept hkp, hS.2.1, hS.2.2.2.2.2.2⟩
      · rw [ho]
        intro hF
        cases hF
      · refine ⟨Nat.le_trans hS.2.2.1.1 hle, fun a h1 h2 => ?_⟩
        rw [hq a (Nat.lt_of_lt_of_le h1 hS.2.2.1.1)]
        exact hS.2.2.1.2.1 a h1 h2
  | _ => exact h.elim
end SAZ
theorem sa_no_dbl {a : List Value} (h : ∀ v ∈ a, sa_gv v = true) : ∀ v ∈ a, ∀ x, v ≠ .double x := by
  intro v hv x e
  have := h v hv
  rw [e] at this
  cases this
theorem sa_Ma_of {mi : Nat} {e0 : sa_Me} (h : sa_M[mi]? = some e0) : sa_Ma[mi]? = some e0 := by
  unfold sa_Ma
  rw [List.getElem?_append_left (List.getElem?_eq_some_iff.mp h).1]
  exact h
set_option maxHeartbeats 4000000 in
theorem sa_met {l : Launch} (hst : l.stackTraces = false) {X : Nat × (Nat → Int32)} {G : sa_G} {d : Nat} {C : Nat → List Value → sa_Mem → sa_Out → Prop} (hC : sa_Cs l X G d C) {mi f : Nat} {e0 : sa_Me} {a : List Value} {m : sa_Mem} {o : sa_Out} (hM : sa_M[mi]? = some e0) (hlen : (sa_lo a).length ≤ e0.2.2.2.1) (hgv : ∀ v ∈ a, sa_gv v = true) (h : sa_run X C mi f 0 (sa_en a e0.2.2.2.1) [] m o) :
    vx_Met l e0.2.1 (sa_ws e0) (sa_rm (d + 1) (sa_mC o.2 - sa_mC m) (sa_mS o.2 - sa_mS m)) (sa_Pc X G a m) (sa_Qc G o) (sa_XC G o) (sa_mC o.2 - sa_mC m) (sa_mS o.2 - sa_mS m) (sa_A G) := by
  have hCm : ∀ mi a m o, C mi a m o → sa_ok m o.2 := fun mi a m o h => (hC mi a m o h).1
  have hmono := sa_run_mono hCm f _ _ _ _ h
  have he := List.mem_of_getElem? hM
  obtain ⟨hcls, hpl, -⟩ := sa_Mcls e0 he
  have body : ∀ (p : Program) (e : Env) (s : State) (mm : MethodId) (args : Array Value) (below : List Frame) (meth : Method) (c : Code) (s₁ : State), BodyLoose p l e0.2.1 (headSpec (sa_ws e0) (sa_rm (d + 1) (sa_mC o.2 - sa_mC m) (sa_mS o.2 - sa_mS m))) e0.2.2.1 e0.2.2.2.1 e0.2.2.2.2.1 e s mm args below meth c s₁ → c.maxLocals = e0.2.2.2.1 → c.exceptionTable.toList = tableOf (e0.2.2.2.2.2.1.getD []) → sa_Pc X G a m args s →
      W p l e (headSpec (sa_ws e0) (sa_rm (d + 1) (sa_mC o.2 - sa_mC m) (sa_mS o.2 - sa_mS m))).room s mm args below meth c s.heap [] 0 0 (vx_MQ below (sa_Qc G o) (sa_XC G o) args s (sa_mC o.2 - sa_mC m) (sa_mS o.2 - sa_mS m) (sa_A G)) (entryFrame mm args e0.2.2.2.1) := by
    intro p e s mm args below meth c s₁ B hml htab hP
    obtain ⟨rfl, hK, hE, hbs, hinv, hrep, hcat⟩ := hP
    have hts := atoms_spec (ws := sa_ws e0) B.pre
    have hown : s.vm.findClass (sa_C e0.1) = some mm.cls := by rw [← hcls]; exact findClass_of_methodNamed B.named
    have hA : sa_At X G p l (headSpec (sa_ws e0) (sa_rm (d + 1) (sa_mC o.2 - sa_mC m) (sa_mS o.2 - sa_mS m))).room s mm (a.map (sa_cv (sa_av G))).toArray meth c e0 m :=
      ⟨B.exec, B.bytes, B.returns, hml, hown, fun w hw => hts w (List.mem_cons_of_mem _ hw), B.notSynchronized, (name_of_methodNamed B.named B.method).1, htab, sa_Mv e0 he, hK, hE, hbs, hinv, hst, ⟨by show 8 ≤ d + 1 + 8; omega, by show 200 ≤ 64 * (d + 1) + 200; omega⟩, hcat⟩
    have hS : sa_St G s m m s.heap [] 0 0 := ⟨hrep.1, hrep.2.1, va_S.rf, Nat.add_zero _, Nat.add_zero _, fun hF => ⟨hF, (hinv hF).1⟩, hrep.2.2⟩
    have hRo : sa_mC o.2 ≤ sa_mC m + (headSpec (sa_ws e0) (sa_rm (d + 1) (sa_mC o.2 - sa_mC m) (sa_mS o.2 - sa_mS m))).room.cells ∧ sa_mS o.2 ≤ sa_mS m + (headSpec (sa_ws e0) (sa_rm (d + 1) (sa_mC o.2 - sa_mC m) (sa_mS o.2 - sa_mS m))).room.slots := by
      have h1 := hmono.1
      have h2 := hmono.2.1
      exact ⟨by show sa_mC o.2 ≤ sa_mC m + (sa_mC o.2 - sa_mC m); omega, by show sa_mS o.2 ≤ sa_mS m + (sa_mS o.2 - sa_mS m); omega⟩
    obtain ⟨hL, hL2⟩ := sa_entry hcat hlen (sa_no_dbl hgv)
    rw [lg_entry_eq]
    exact sa_run_ok hC (sa_Mhh e0 he) hA (sa_Ma_of hM) ⟨by show d + 9 ≤ d + 1 + 8; omega, by show 64 * (d + 1) + 200 ≤ 64 * (d + 1) + 200; omega⟩ hRo
      (fun pc i len st m' H locs cells slots ls hd hn hrt hS' => sa_ret_ok hA hS' hd hn hrt)
      (fun pc i len st m' H locs cells slots ls hd hn hth hS' hsz => sa_thr_ok hA hS' hd hn hth hsz hRo)
      (fun pc ls r q m' H1 locs1 c1 s1 z ce ho hh hq hS' hce hcv hcl hz => sa_out_ok hA ho hh hq hS' hce hcv hcl hz)
      f 0 _ [] m h s.heap [] 0 0 _ hS hL hL2
  cases hh : e0.2.2.2.2.2.1 with
  | none =>
    refine vx_ofW (cc := e0.2.2.1) (maxL := e0.2.2.2.1) (ret := e0.2.2.2.2.1) (ws' := sa_big) hpl (by unfold sa_ws sa_cw; rw [hh]) ?_
    intro p e s mm args below meth c s₁ B hml htab hP
    refine body p e s mm args below meth c s₁ B hml ?_ hP
    rw [hh]
    cases hl : c.exceptionTable.toList with
    | nil => rfl
    | cons x r => exact (htab x (by rw [hl]; exact List.mem_cons_self)).elim
  | some hs =>
    refine vx_ofWH (cc := e0.2.2.1) (maxL := e0.2.2.2.1) (ret := e0.2.2.2.2.1) (hh := hs) (ws' := sa_big) hpl (by unfold sa_ws sa_cw; rw [hh]) ?_
    intro p e s mm args below meth c s₁ B hml hP
    refine body p e s mm args below meth c s₁ B hml ?_ hP
    rw [hh]
    exact vx_table (x := e0.2.1) B (atoms_spec (ws := sa_ws e0) B.pre (Cond.codeWith e0.2.1 e0.2.2.1 e0.2.2.2.1 e0.2.2.2.2.1 hs) (by unfold sa_ws sa_cw; rw [hh]; exact List.mem_cons_self))
theorem sa_sound {l : Launch} (hst : l.stackTraces = false) {X : Nat × (Nat → Int32)} {G : sa_G} : ∀ d, sa_Cs l X G d (sa_Ex X d) := by
  intro d
  induction d with
  | zero => intro mi a m o h; exact h.elim
  | succ d ih =>
    intro mi a m o h
    refine ⟨sa_Ex_mono _ _ _ _ _ h, fun e0 he => ?_⟩
    obtain ⟨f, e1, he1, hlen, hgv, hr⟩ := h
    cases Option.some.inj (he1.symm.trans he)
    exact sa_met hst ih he hlen hgv hr

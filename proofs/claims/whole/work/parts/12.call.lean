/-! ===== soundness 6: contracts, calls ===== -/
def sa_rep (G : sa_G) (m : sa_Mem) (H : Heap) : Prop := va_P G.2.2.2.1 vwCl (sa_wd G m) H ∧ va_D (sa_A G) (sa_wd G m) ∧ sa_mN m ≤ 100000
def sa_Pc (X : Nat × (Nat → Int32)) (G : sa_G) (a : List Value) (m : sa_Mem) : Array Value → State → Prop := va_Pc (a.map (sa_cv (sa_av G))) (fun U => va_K G.2.2.2.1 vwCl (sa_tl G) U ∧ sa_ext X G U U.heap ∧ G.1 ≤ U.heap.size ∧ sa_inv G m U.heap ∧ sa_rep G m U.heap ∧ G.2.2.1.category = 1)
theorem sa_blind {X : Nat × (Nat → Int32)} {G : sa_G} {a : List Value} {m : sa_Mem} : FrameBlind (sa_Pc X G a m) := fun v U g mk h => ⟨h.1, va_K.moved (u := U) (U := U.calling g mk v) (Vm.Alike.refl U.vm) h.2.1, sa_ext_moved (s := U) (U := U.calling g mk v) (State.WarmedH.refl U) (Nat.le_refl _) (fun _ _ _ => rfl) h.2.2.1, h.2.2.2⟩
def sa_Qc (G : sa_G) (o : sa_Out) : Array Value → State → Outcome → State → Prop := fun _ st oc t => (∃ v, o.1 = .inl v ∧ oc = .returned (v.map (sa_cv (sa_av G)))) ∧ sa_rep G o.2 t.heap ∧ sa_inv G o.2 t.heap ∧ va_F (sa_A G) st t
def sa_XC (G : sa_G) (o : sa_Out) : String → State → State → Prop := fun E st t => (∃ q, o.1 = .inr q ∧ E = sa_exn q ∧ (q = 0 ∨ q = 1)) ∧ sa_rep G o.2 t.heap ∧ sa_inv G o.2 t.heap ∧ va_F (sa_A G) st t
def sa_ws (e : sa_Me) : List Cond := sa_cw e :: sa_big
def sa_rm (d mc ms : Nat) : Room := { frames := d + 8, cells := mc, slots := ms, locals := 64 * d + 200 }
def sa_ok (m m' : sa_Mem) : Prop := sa_mC m ≤ sa_mC m' ∧ sa_mS m ≤ sa_mS m' ∧ (sa_mF m' = false → sa_mF m = false)
theorem sa_ok.rf (m : sa_Mem) : sa_ok m m := ⟨Nat.le_refl _, Nat.le_refl _, id⟩
theorem sa_ok.tr {a b c : sa_Mem} (h : sa_ok a b) (k : sa_ok b c) : sa_ok a c := ⟨Nat.le_trans h.1 k.1, Nat.le_trans h.2.1 k.2.1, fun z => h.2.2 (k.2.2 z)⟩
/-- the calls by C keep the kit's contracts -/
def sa_Cs (l : Launch) (X : Nat × (Nat → Int32)) (G : sa_G) (d : Nat) (C : Nat → List Value → sa_Mem → sa_Out → Prop) : Prop :=
  ∀ mi a m o, C mi a m o → sa_ok m o.2 ∧ ∀ e, sa_M[mi]? = some e → vx_Met l e.2.1 (sa_ws e) (sa_rm d (sa_mC o.2 - sa_mC m) (sa_mS o.2 - sa_mS m)) (sa_Pc X G a m) (sa_Qc G o) (sa_XC G o) (sa_mC o.2 - sa_mC m) (sa_mS o.2 - sa_mS m) (sa_A G)
theorem sa_Mcls : ∀ e ∈ sa_M, e.2.1.cls = sa_C e.1 ∧ plainName e.2.1.cls = true ∧ e.2.2.2.1 ≤ 45 ∧ e.1 < 19 ∧ (e.2.1.cls ≠ "java/lang/invoke/MethodHandle" ∧ e.2.1.cls ≠ "java/lang/invoke/VarHandle") := by decide +kernel
def sa_iok (q : (Nat × Nat) × (Nat × Nat × Nat)) : Bool := match sa_M[q.2.2.1]? with
  | some e => decide ((parseMethodDescriptor e.2.1.desc).map (fun d => d.parameters.length) = some q.2.2.2) && (e.2.2.2.2.2.1.isSome == (q.2.1 == 5)) && (!(q.2.1 == 2 || q.2.1 == 3) || (e.2.1.name == "<init>" && e.2.2.2.2.1.isNone))
  | none => false
theorem sa_pIv : ∀ q ∈ sa_pI, q.2.1 ≤ 5 → sa_iok q = true := by decide +kernel
theorem sa_Mhh : ∀ e ∈ sa_M, ∀ h ∈ e.2.2.2.2.2.1.getD [], h.2.2.2 ≠ 0 ∧ (sa_pE.lookup (e.1, h.2.2.2)).isSome = true := by decide +kernel
theorem sa_pEv : ∀ q ∈ sa_pE, q.2.1 = 0 ∨ q.2.1 = 1 := by decide +kernel
theorem sa_yof {mi : Nat} {e : sa_Me} (h : sa_M[mi]? = some e) : sa_y mi = e.2.1 := by unfold sa_y; rw [h]; rfl
theorem sa_iok_spec {q : (Nat × Nat) × (Nat × Nat × Nat)} (h : q ∈ sa_pI) (hk : q.2.1 ≤ 5) : ∃ e, sa_M[q.2.2.1]? = some e ∧ (parseMethodDescriptor e.2.1.desc).map (fun d => d.parameters.length) = some q.2.2.2 ∧ (q.2.1 ≠ 5 → e.2.2.2.2.2.1 = none) ∧ (q.2.1 = 5 → ∃ hh, e.2.2.2.2.2.1 = some hh) ∧ (q.2.1 = 2 ∨ q.2.1 = 3 → e.2.1.name = "<init>" ∧ e.2.2.2.2.1 = none) := by
  have h1 := sa_pIv q h hk
  unfold sa_iok at h1
  cases he : sa_M[q.2.2.1]? with
  | none => rw [he] at h1; cases h1
  | some e =>
    rw [he] at h1
    simp only [Bool.and_eq_true, decide_eq_true_eq, Bool.or_eq_true, Bool.not_eq_true', beq_iff_eq, Bool.or_eq_false_iff, beq_eq_false_iff_ne] at h1
    obtain ⟨⟨h2, h3⟩, h4⟩ := h1
    refine ⟨e, rfl, h2, fun h5 => ?_, fun h5 => ?_, fun h5 => ?_⟩
    · cases hh : e.2.2.2.2.2.1 with
      | none => rfl
      | some z =>
        rw [hh] at h3
        have : (q.2.1 == 5) = true := h3.symm
        exact absurd (by simpa using this) h5
    · cases hh : e.2.2.2.2.2.1 with
      | none =>
        rw [hh, h5] at h3
        cases h3
      | some z => exact ⟨z, rfl⟩
    · rcases h4 with h4 | h4
      · rcases h5 with h5 | h5
        · exact absurd h5 h4.1
        · exact absurd h5 h4.2
      · exact ⟨h4.1, by simpa using h4.2⟩
theorem sa_good {e : sa_Me} (he : e ∈ sa_M) (ex : List Cond) (hx : ∀ w ∈ ex, w ∈ sa_big) : GoodIn sa_big (ex ++ sa_ws e) := by
  intro w hw
  have hb : w ∈ sa_big := by
    rcases List.mem_append.mp hw with h | h
    · exact hx w h
    · rcases List.mem_cons.mp h with h | h
      · rw [h]; exact sa_big_code he
      · exact h
  exact ⟨hb, good_of_word (sa_big_good w hb)⟩
theorem sa_hd_spec {own pc q : Nat} : ∀ {hh : List (Nat × Nat × Nat × Nat)} {hp : Nat}, sa_hd own pc q hh = some hp → ∃ pre x suf, hh = pre ++ x :: suf ∧ x.2.2.1 = hp ∧ x.1 ≤ pc ∧ pc < x.2.1 ∧ (sa_pE.lookup (own, x.2.2.2)).map (fun z => z.1) = some q ∧ ∀ z ∈ pre, ¬ (z.1 ≤ pc ∧ pc < z.2.1 ∧ (sa_pE.lookup (own, z.2.2.2)).map (fun z => z.1) = some q)
  | [], hp, h => by cases h
  | y :: r, hp, h => by
    unfold sa_hd at h
    by_cases hc : y.1 ≤ pc ∧ pc < y.2.1 ∧ (sa_pE.lookup (own, y.2.2.2)).map (fun z => z.1) = some q
    · rw [if_pos hc] at h
      exact ⟨[], y, r, rfl, Option.some.inj h, hc.1, hc.2.1, hc.2.2, fun z hz => by cases hz⟩
    · rw [if_neg hc] at h
      obtain ⟨pre, x, suf, h1, h2, h3, h4, h5, h6⟩ := sa_hd_spec h
      refine ⟨y :: pre, x, suf, by rw [h1]; rfl, h2, h3, h4, h5, fun z hz => ?_⟩
      rcases List.mem_cons.mp hz with rfl | hz
      · exact hc
      · exact h6 z hz
theorem sa_lo_no {av : Nat → Value} {lo : List Value} {k : Nat} {ls' : Array Slot} {w : Value} (hav : ∀ k, (av k).category = 1) (hc : ∀ x ∈ lo, x.category = 1) (h : lv_has ls' lo.length ((k, w) :: (sa_lv av lo).filter (fun q => !(q.1 == k) && !(q.1 + 1 == k && q.2.category == 2)))) : sa_LR av (lo.set k sa_no) ls' := by
  refine ⟨by rw [List.length_set]; exact h.1, h.2.1, ?_⟩
  rintro ⟨j, u⟩ hq
  obtain ⟨v, h1, h2, rfl⟩ := sa_lv_mem.mp hq
  by_cases hj : j = k
  · subst hj
    have hl : j < lo.length := by have := (List.getElem?_eq_some_iff.mp h1).1; rwa [List.length_set] at this
    rw [List.getElem?_set_self hl] at h1
    cases h1
    cases h2
  · rw [List.getElem?_set_ne (Ne.symm hj)] at h1
    refine h.2.2 _ (List.mem_cons_of_mem _ (List.mem_filter.mpr ⟨sa_lv_mem.mpr ⟨v, h1, h2, rfl⟩, ?_⟩))
    simp only [Bool.and_eq_true, Bool.not_eq_true', beq_eq_false_iff_ne, ne_eq, Bool.and_eq_false_iff, sa_cv_cat hav]
    exact ⟨hj, Or.inr (by rw [hc v (List.mem_of_getElem? h1)]; decide)⟩
section SAC
variable {p : Program} {l : Launch} {e : Env} {R : Room} {s : State} {mm : MethodId} {args : Array Value} {below : List Frame} {meth : Method} {c : Code} {H : Heap} {locs : List Loc} {cells slots : Nat} {Q : State → Prop}
variable {pc : Nat} {ls : Array Slot} {X : Nat × (Nat → Int32)} {G : sa_G} {e0 : sa_Me} {m0 m : sa_Mem} {lo r st0 : List Value} {o o' : sa_Out}
theorem sa_pre (hA : sa_At X G p l R s mm args meth c e0 m0) (hS : sa_St G s m0 m H locs cells slots) (hz : sa_mF m = false → H.size = G.1 + sa_mN m) (a : List Value) : ∀ U : State, U.heap = H → s.WarmedH U.vm → sa_Pc X G a m (a.map (sa_cv (sa_av G))).toArray U := by
  intro U hU hW
  obtain ⟨-, -, -, -, -, -, -, -, -, -, hK, hE, hbs, -, -, -, hcat⟩ := hA
  obtain ⟨hP, hD, hS0, -, -, hf, hn⟩ := hS
  refine ⟨rfl, va_K.moved hW.alike hK, ?_, ?_, ?_, ?_, hcat⟩
  · rw [hU]
    exact sa_ext_moved hW hS0.1 hS0.2.1 hE
  · rw [hU]
    exact Nat.le_trans hbs hS0.1
  · intro hF
    rw [hU]
    exact ⟨(hf hF).2, hz hF⟩
  · rw [hU]
    exact ⟨hP, hD, hn⟩
theorem sa_St_after (hS : sa_St G s m0 m H locs cells slots) (hok : sa_ok m o'.2) {H1 : Heap} {locs1 : List Loc} (hrep : sa_rep G o'.2 H1) (hinv : sa_inv G o'.2 H1) (hs : va_S (sa_A G) s.heap H1 locs1) : sa_St G s m0 o'.2 H1 locs1 (cells + (sa_mC o'.2 - sa_mC m)) (slots + (sa_mS o'.2 - sa_mS m)) := by
  obtain ⟨-, -, -, hc1, hc2, hf, -⟩ := hS
  obtain ⟨k1, k2, k3⟩ := hok
  refine ⟨hrep.1, hrep.2.1, hs, by omega, by omega, fun h => ⟨(hf (k3 h)).1, (hinv h).1⟩, hrep.2.2⟩
set_option maxHeartbeats 4000000 in
theorem sa_call_ok (hMh : ∀ h ∈ e0.2.2.2.2.2.1.getD [], h.2.2.2 ≠ 0 ∧ (sa_pE.lookup (e0.1, h.2.2.2)).isSome = true) (hA : sa_At X G p l R s mm args meth c e0 m0) (hS : sa_St G s m0 m H locs cells slots) (hl : sa_LR (sa_av G) lo ls) {a : Array Value}
    (hr : (sa_mF m = false → H.size = G.1 + sa_mN m) → vx_Run p l e R s mm args below meth c H locs cells slots (sa_mC o'.2 - sa_mC m) (sa_mS o'.2 - sa_mS m) (F0 mm pc ls st0) (r.map (sa_cv (sa_av G))) (sa_Qc G o' a) (sa_XC G o') (sa_A G))
    (hok : sa_ok m o'.2) {K : Nat → List Value → List Value → sa_Mem → Prop} (haf : sa_af e0 pc lo r o' o K)
    (kk : ∀ (pc' : Nat) (lo' st' : List Value) (m' : sa_Mem) (H1 : Heap) (locs1 : List Loc) (cells1 slots1 : Nat) (ls' : Array Slot), K pc' lo' st' m' → sa_St G s m0 m' H1 locs1 cells1 slots1 → sa_LR (sa_av G) lo' ls' → lo'.length = lo.length → W p l e R s mm args below meth c H1 locs1 cells1 slots1 Q (F0 mm pc' ls' (st'.map (sa_cv (sa_av G)))))
    (kx : ∀ (q : Nat) (m' : sa_Mem) (H1 : Heap) (locs1 : List Loc) (cells1 slots1 : Nat) (z : Addr) (ce : Cell), o = (.inr q, m') → e0.2.2.2.2.2.1 = none → (q = 0 ∨ q = 1) → sa_St G s m0 m' H1 locs1 cells1 slots1 → H1[z]? = some ce → ce.vm = .none → s.vm.findClass (sa_exn q) = some ce.cls → sa_mF m' = sa_mF m' → (sa_mF m' = false → H1.size = G.1 + sa_mN m') → vx_W p l e R s mm args below meth c H1 locs1 cells1 slots1 Q (F0 mm pc ls (r.map (sa_cv (sa_av G)))) z) :
    W p l e R s mm args below meth c H locs cells slots Q (F0 mm pc ls st0) := by
  intro T hT Z
  have hcat : G.2.2.1.category = 1 := by obtain ⟨-, -, -, -, -, -, -, -, -, -, -, -, -, -, -, -, h⟩ := hA; exact h
  rcases hr (sa_size hA hS hT Z) T hT Z with ⟨v, st₀, t, T', L, h0, X', hL, e1, e2, hq, st⟩ | ⟨z, st₀, t, T', L, E, ce, h0, X', hL, e1, e2, hq, hce, hcv, hcl, st⟩
  · obtain ⟨⟨v', hv1, hv2⟩, hrep, hinv, hF⟩ := hq
    cases hv2
    obtain ⟨-, -, k3⟩ := vx_keep h0 e1 hS.2.2.1 (fun q _ h => h) (fun q h => h) hL hF
    rw [← e1] at hrep hinv
    have hS' := sa_St_after hS hok hrep hinv k3
    unfold sa_af at haf
    rw [hv1] at haf
    cases v' with
    | none =>
      obtain ⟨t2, a1, b1⟩ := kk _ _ _ _ _ _ _ _ ls haf hS' hl rfl T' rfl X'
      exact ⟨t2, st t2 a1, b1⟩
    | some w =>
      obtain ⟨t2, a1, b1⟩ := kk _ _ _ _ _ _ _ _ ls haf hS' hl rfl T' rfl X'
      exact ⟨t2, st t2 a1, b1⟩
  · obtain ⟨⟨q, hq1, rfl, hq01⟩, hrep, hinv, hF⟩ := hq
    obtain ⟨-, -, k3⟩ := vx_keep h0 e1 hS.2.2.1 (fun q _ h => h) (fun q h => h) hL hF
    rw [← e1] at hrep hinv hce
    have hS' := sa_St_after hS hok hrep hinv k3
    unfold sa_af at haf
    rw [hq1] at haf
    dsimp only at haf
    have key : vx_W p l e R s mm args below meth c T'.heap (locs ++ L) (cells + (sa_mC o'.2 - sa_mC m)) (slots + (sa_mS o'.2 - sa_mS m)) Q (F0 mm pc ls (r.map (sa_cv (sa_av G)))) z := by
      split at haf
      · rename_i hh
        exact kx q o'.2 T'.heap _ _ _ z ce haf hh hq01 hS' hce hcv hcl rfl (fun h => (hinv h).2)
      · rename_i hh hhe
        obtain ⟨hp, k, len, h1, hk, hcats, hast, hK⟩ := haf
        obtain ⟨pre, x, suf, g1, g2, g3, g4, g5, g6⟩ := sa_hd_spec h1
        obtain ⟨hx, hb, -, -, hown, hts, -, -, htab, hdec, -, hE, -⟩ := hA
        obtain ⟨-, -, -, -, -, -, -, hbad, -, n1, n2⟩ := hE
        rw [hhe] at htab hMh
        dsimp only [Option.getD] at htab hMh
        subst g2
        have htab2 : c.exceptionTable.toList = tableOf pre ++ (⟨x.1, x.2.1, x.2.2.1, x.2.2.2⟩ : ExceptionTableEntry) :: tableOf suf := by
          rw [htab, g1]
          simp [tableOf]
        obtain ⟨ic, hic⟩ : ∃ ic, sa_pE.lookup (e0.1, x.2.2.2) = some (q, ic) := by
          cases hlk : sa_pE.lookup (e0.1, x.2.2.2) with
          | none => rw [hlk] at g5; cases g5
          | some w =>
            rw [hlk] at g5
            refine ⟨w.2, ?_⟩
            have : w.1 = q := Option.some.inj g5
            rw [← this]
        have hcw : ∀ q', (q' = 0 ∨ q' = 1) → Cond.castable (sa_exn q') (sa_exn q') ∈ sa_bad := by
          rintro q' (rfl | rfl)
          · exact List.mem_append_right _ (List.mem_append_right _ (List.mem_append_right _ (List.mem_append_right _ List.mem_cons_self)))
          · exact List.mem_append_right _ (List.mem_append_right _ (List.mem_append_right _ (List.mem_append_right _ (List.mem_cons_of_mem _ List.mem_cons_self))))
        refine vx_catch hown (tableOf pre) ⟨x.1, x.2.1, x.2.2.1, x.2.2.2⟩ (tableOf suf) htab2 ?_ ?_ ?_ (name := sa_exn q) ?_ ?_ hce hcv hcl ?_
        · intro zz hzz
          obtain ⟨w, hw, rfl⟩ := List.mem_map.mp hzz
          have hmem : w ∈ hh := by rw [g1]; exact List.mem_append_left _ hw
          obtain ⟨hw0, hws⟩ := hMh w hmem
          by_cases hcov : w.1 ≤ pc ∧ pc < w.2.1
          · refine Or.inr ⟨hw0, ?_⟩
            cases hlk : sa_pE.lookup (e0.1, w.2.2.2) with
            | none => rw [hlk] at hws; cases hws
            | some u =>
              have hu := sa_lkm hlk
              have hne : u.1 ≠ q := fun h => g6 w hw ⟨hcov.1, hcov.2, by rw [hlk]; exact congrArg some h⟩
              refine ⟨sa_exn u.1, hts _ (sa_big_E hu), ?_⟩
              have hu01 := sa_pEv _ hu
              dsimp only at hu01
              rcases hq01 with rfl | rfl <;> rcases hu01 with h | h <;> rw [h] at hne ⊢
              · exact absurd rfl hne
              · exact n1
              · exact n2
              · exact absurd rfl hne
          · refine Or.inl ?_
            simp only [covers, Bool.and_eq_false_iff, decide_eq_false_iff_not]
            by_cases h9 : w.1 ≤ pc
            · exact Or.inr (fun h8 => hcov ⟨h9, h8⟩)
            · exact Or.inl h9
        · simp [covers, g3, g4]
        · exact (hMh x (by rw [g1]; exact List.mem_append_right _ List.mem_cons_self)).1
        · exact hts _ (sa_big_E (sa_lkm hic))
        · exact va_Nw.use (sa_bk_on (sa_bad_k _ (hcw q hq01))) (hbad _ (hcw q hq01))
        · rcases hast with ⟨hast, rfl⟩ | ⟨j, rfl, hast, rfl⟩
          · have hd := (hdec _ (sa_lkn hast)).1
            exact lv_astore hx hb hd hl hk rfl (fun ls' h => kk _ _ _ _ _ _ _ _ ls' hK hS' (sa_lo_no (sa_av_cat hcat) hcats h) (by rw [List.length_set]))
          · have hd := (hdec _ (sa_lkn hast)).1
            exact lv_astore_n hx hb hd rfl hl hk rfl (fun ls' h => kk _ _ _ _ _ _ _ _ ls' hK hS' (sa_lo_no (sa_av_cat hcat) hcats h) (by rw [List.length_set]))
    obtain ⟨t2, a1, b1⟩ := key T' rfl X'
    exact ⟨t2, st.trans a1, b1⟩
end SAC

/-! ===== soundness 9: a whole body; every call ===== -/
section SAM
variable {p : Program} {l : Launch} {e : Env} {R : Room} {s : State} {mm : MethodId} {args : Array Value} {below : List Frame} {meth : Method} {c : Code} {Q : State → Prop}
variable {X : Nat × (Nat → Int32)} {G : sa_G} {e0 : sa_Me} {m0 : sa_Mem} {o : sa_Out} {d mi : Nat} {C : Nat → List Value → sa_Mem → sa_Out → Prop}
set_option maxHeartbeats 4000000 in
theorem sa_run_ok (hC : sa_Cs l X G d C) (hMh : ∀ h ∈ e0.2.2.2.2.2.1.getD [], h.2.2.2 ≠ 0 ∧ (sa_pE.lookup (e0.1, h.2.2.2)).isSome = true) (hA : sa_At X G p l R s mm args meth c e0 m0) (hMi : sa_Ma[mi]? = some e0)
    (hRd : d + 9 ≤ R.frames ∧ 64 * (d + 1) + 200 ≤ R.locals) (hRo : sa_mC o.2 ≤ sa_mC m0 + R.cells ∧ sa_mS o.2 ≤ sa_mS m0 + R.slots)
    (kret : ∀ (pc : Nat) (i : Instr) (len : Nat) (st : List Value) (m : sa_Mem) (H : Heap) (locs : List Loc) (cells slots : Nat) (ls : Array Slot), decode e0.2.2.1 pc = .ok (i, len) → sa_ln i len = true → sa_rt e0 i st m o → sa_St G s m0 m H locs cells slots → W p l e R s mm args below meth c H locs cells slots Q (F0 mm pc ls (st.map (sa_cv (sa_av G)))))
    (kthr : ∀ (pc : Nat) (i : Instr) (len : Nat) (st : List Value) (m : sa_Mem) (H : Heap) (locs : List Loc) (cells slots : Nat) (ls : Array Slot), decode e0.2.2.1 pc = .ok (i, len) → sa_ln i len = true → sa_th e0 pc i st m o → sa_St G s m0 m H locs cells slots → ls.size = c.maxLocals → W p l e R s mm args below meth c H locs cells slots Q (F0 mm pc ls (st.map (sa_cv (sa_av G)))))
    (kx : ∀ (pc : Nat) (ls : Array Slot) (r : List Value) (q : Nat) (m' : sa_Mem) (H1 : Heap) (locs1 : List Loc) (cells1 slots1 : Nat) (z : Addr) (ce : Cell), o = (.inr q, m') → e0.2.2.2.2.2.1 = none → (q = 0 ∨ q = 1) → sa_St G s m0 m' H1 locs1 cells1 slots1 → H1[z]? = some ce → ce.vm = .none → s.vm.findClass (sa_exn q) = some ce.cls → (sa_mF m' = false → H1.size = G.1 + sa_mN m') → vx_W p l e R s mm args below meth c H1 locs1 cells1 slots1 Q (F0 mm pc ls (r.map (sa_cv (sa_av G)))) z) :
    ∀ (f pc : Nat) (lo st : List Value) (m : sa_Mem), sa_run X C mi f pc lo st m o → ∀ (H : Heap) (locs : List Loc) (cells slots : Nat) (ls : Array Slot), sa_St G s m0 m H locs cells slots → sa_LR (sa_av G) lo ls → lo.length = e0.2.2.2.1 → W p l e R s mm args below meth c H locs cells slots Q (F0 mm pc ls (st.map (sa_cv (sa_av G)))) := by
  obtain ⟨hx, hb, -, hml, -, -, -, -, -, hdec, -, -, -, -, -, -, hcat⟩ := id hA
  have hCm : ∀ mi a m o, C mi a m o → sa_ok m o.2 := fun mi a m o h => (hC mi a m o h).1
  intro f
  induction f with
  | zero => intro pc lo st m h; exact h.elim
  | succ f ih =>
    intro pc lo st m h H locs cells slots ls hS hl hlen
    obtain ⟨e1, i, len, he1, hlk, h⟩ := h
    cases Option.some.inj (he1.symm.trans hMi)
    obtain ⟨hd, hn⟩ := hdec _ (sa_lkn hlk)
    dsimp only at hd hn
    obtain (⟨lo', st', hp, h⟩ | h | h | h | h | h) := h
    · exact sa_pu_ok (sa_av_cat hcat) sa_av_ref hx hb hd hn hp hl (fun ls' hl' => ih _ _ _ _ h H locs cells slots ls' hS hl' ((sa_pu_len hp).trans hlen))
    · refine sa_he_ok hA hS h hd hn (fun st' m' hK => ?_) (fun st' m' H1 locs1 c1 s1 hK hS' => ih _ _ _ _ hK H1 locs1 c1 s1 ls hS' hl hlen)
      have := sa_run_mono hCm f _ _ _ _ hK
      exact ⟨Nat.le_trans this.1 hRo.1, Nat.le_trans this.2.1 hRo.2⟩
    · exact sa_ct_ok hx hb h hd hn (fun pc' st' hK => ih _ _ _ _ hK H locs cells slots ls hS hl hlen)
    · exact kret _ _ _ _ _ _ _ _ _ ls hd hn h hS
    · exact kthr _ _ _ _ _ _ _ _ _ ls hd hn h hS (by rw [hml, ← hlen]; exact hl.1)
    · exact sa_iv_ok hC hMh hA hS hl hlen hRd hRo h hd hn (fun a b c m1 hK => sa_run_mono hCm f _ _ _ _ hK) (fun pc' lo' st' m' H1 locs1 c1 s1 ls' hK hS' hl' hlen' => ih _ _ _ _ hK H1 locs1 c1 s1 ls' hS' hl' (hlen'.trans hlen)) (fun r q m' H1 locs1 c1 s1 z ce => kx pc ls r q m' H1 locs1 c1 s1 z ce)
end SAM
theorem sa_lo_len (av : Nat → Value) (hav : ∀ k, (av k).category = 1) : ∀ a : List Value, (∀ v ∈ a, ∀ x, v ≠ .double x) → (lg_sl (a.map (sa_cv av))).length = (sa_lo a).length
  | [], _ => rfl
  | v :: r, h => by
    have ih := sa_lo_len av hav r (fun w hw => h w (List.mem_cons_of_mem _ hw))
    unfold lg_sl at ih ⊢
    rw [List.map_cons, List.flatMap_cons, List.length_append, ih, sa_cv_cat hav]
    cases v with
    | long x => simp [sa_lo, Value.category]; omega
    | double x => exact absurd rfl (h _ List.mem_cons_self x)
    | int x => simp [sa_lo, Value.category]; omega
    | float x => simp [sa_lo, Value.category]; omega
    | null => simp [sa_lo, Value.category]; omega
    | ref x => simp [sa_lo, Value.category]; omega
    | retAddr x => simp [sa_lo, Value.category]; omega
/-- what the locals hold at the entry -/
theorem sa_lo_args (av : Nat → Value) (hav : ∀ k, (av k).category = 1) : ∀ (a : List Value) (n : Nat), (∀ v ∈ a, ∀ x, v ≠ .double x) → ∀ (j : Nat) (v : Value), (sa_lo a)[j]? = some v → sa_isn v = false → (n + j, sa_cv av v) ∈ lv_args n (a.map (sa_cv av))
  | [], n, _, j, v, h, _ => by simp [sa_lo] at h
  | w :: r, n, hd, j, v, h, hn => by
    have hd' : ∀ v ∈ r, ∀ x, v ≠ .double x := fun u hu => hd u (List.mem_cons_of_mem _ hu)
    rw [List.map_cons]
    unfold lv_args
    rw [sa_cv_cat hav]
    by_cases hw : ∃ x, w = .long x
    · obtain ⟨x, rfl⟩ := hw
      rw [if_pos (show (Value.long x).category = 2 from rfl)]
      cases j with
      | zero =>
        simp [sa_lo] at h
        subst h
        exact List.mem_cons_self
      | succ j =>
        cases j with
        | zero =>
          simp [sa_lo] at h
          subst h
          cases hn
        | succ j =>
          have h2 : (sa_lo r)[j]? = some v := by simpa [sa_lo] using h
          have := sa_lo_args av hav r (n + 2) hd' j v h2 hn
          rw [show n + 2 + j = n + (j + 1 + 1) by omega] at this
          exact List.mem_cons_of_mem _ this
    · have hc : ¬ w.category = 2 := by
        cases w with
        | long x => exact absurd ⟨x, rfl⟩ hw
        | double x => exact absurd rfl (hd _ List.mem_cons_self x)
        | _ => simp [Value.category]
      have hs : sa_lo (w :: r) = w :: sa_lo r := by
        cases w with
        | long x => exact absurd ⟨x, rfl⟩ hw
        | _ => rfl
      rw [if_neg hc]
      rw [hs] at h
      cases j with
      | zero =>
        simp at h
        subst h
        exact List.mem_cons_self
      | succ j =>
        have h2 : (sa_lo r)[j]? = some v := by simpa using h
        have := sa_lo_args av hav r (n + 1) hd' j v h2 hn
        rw [show n + 1 + j = n + (j + 1) by omega] at this
        exact List.mem_cons_of_mem _ this
theorem sa_entry {G : sa_G} (hcat : G.2.2.1.category = 1) {a : List Value} {n : Nat} (ha : (sa_lo a).length ≤ n) (hd : ∀ v ∈ a, ∀ x, v ≠ .double x) : sa_LR (sa_av G) (sa_en a n) ((lg_sl (a.map (sa_cv (sa_av G))) ++ List.replicate (n - (lg_sl (a.map (sa_cv (sa_av G)))).length) Slot.unset).toArray) ∧ (sa_en a n).length = n := by
  have hav := sa_av_cat hcat
  have e1 := sa_lo_len (sa_av G) hav a hd
  have hlen : (sa_en a n).length = n := by
    unfold sa_en
    rw [List.length_append, List.length_replicate]
    omega
  refine ⟨?_, hlen⟩
  have h := lv_entry (a.map (sa_cv (sa_av G))) (n := n) (by rw [e1]; exact ha)
  refine ⟨by rw [hlen]; exact h.1, h.2.1, ?_⟩
  rintro ⟨j, u⟩ hq
  obtain ⟨v, h1, h2, rfl⟩ := sa_lv_mem.mp hq
  unfold sa_en at h1
  by_cases hj : j < (sa_lo a).length
  · rw [List.getElem?_append_left hj] at h1
    have := sa_lo_args (sa_av G) hav a 0 hd j v h1 h2
    rw [Nat.zero_add] at this
    exact h.2.2 _ this
  · rw [List.getElem?_append_right (by omega)] at h1
    have := List.eq_of_mem_replicate (List.mem_of_getElem? h1)
    subst this
    cases h2

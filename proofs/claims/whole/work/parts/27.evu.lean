/-! ===== the reckoner is sound: the whole ===== -/
section RSU
variable {X : Nat × (Nat → Int32)} {C : Nat → List rq → rM → Option rO} {C' : Nat → List Value → sa_Mem → sa_Out → Prop} {mi pc len : Nat} {lo : List (Option rq)} {st : List rq} {M : rM} {o : rO} {e : sa_Me} {nx : rK} {i : Instr}
theorem r_inv_ok (hnx : ∀ pc lo st M o, nx pc lo st M = some o → rOK X C' mi pc lo st M o) (hC : ∀ mi2 args M o, C mi2 args M = some o → rgs args → rgM M → C' mi2 (args.map cvq) (cvM M) (cvO o) ∧ rgO o) (he : sa_Ma[mi]? = some e) {idx : Nat} (hi : sa_lk e pc = some (.invokevirtual idx, len)) (h : r_inv C e idx pc lo st M nx = some o) : rOK X C' mi pc lo st M o := by
  intro hl hs hM
  unfold r_inv at h
  split at h
  · rename_i mi2 n hI
    split at h
    · rename_i b r e2 hd hm
      split at h
      · rename_i hc
        have hargs : rgs (.inr (.inr b) :: (st.take n).reverse) := rgs_c trivial (fun v hv => hs v (List.mem_of_mem_take (List.mem_reverse.1 hv)))
        have hr : rgs r := fun v hv => hs v (List.mem_of_mem_drop (by rw [hd]; exact List.mem_cons_of_mem _ hv))
        obtain ⟨o1, h1, ⟨f, h2⟩, h3⟩ := r_af_ok hnx hl hr (fun o1 h1 => (hC _ _ _ _ h1 hargs hM).2) h
        obtain ⟨c1, c2⟩ := hC _ _ _ _ h1 hargs hM
        have hn : n < st.length := by
          have := congrArg List.length hd
          rw [List.length_drop, List.length_cons] at this
          omega
        refine ⟨sa_W.iv he hi ⟨f, cvO o, ⟨mi2, n, ((st.take n).reverse).map cvq, b, r.map cvq, cvO o1, hI, ?_, ?_, ?_, ?_, c1, h2⟩, rfl⟩, h3⟩
        · rw [← List.map_reverse, List.reverse_reverse]
          conv => lhs; rw [← List.take_append_drop n st, hd]
          rw [List.map_append]
          rfl
        · rw [List.length_map, List.length_reverse, List.length_take]
          omega
        · rw [r_cs_ok]
          exact hc.1
        · rcases hc.2 with ⟨z1, z2⟩ | ⟨z1, z2, z3⟩
          · refine Or.inl ⟨z1, ?_⟩
            rw [hm]
            exact congrArg some z2
          · refine Or.inr ⟨z1, z2, ?_⟩
            rw [hm]
            exact congrArg some z3
      · cases h
    · cases h
  · cases h
theorem r_max_ok {x y : Int} (hx : rgi x) (hy : rgi y) : (if Int32.ofInt x < Int32.ofInt y then Int32.ofInt y else Int32.ofInt x) = Int32.ofInt (max x y) := by
  split
  · rename_i h
    have := (of_lt hx hy).1 h
    congr 1
    omega
  · rename_i h
    have : ¬ x < y := fun z => h ((of_lt hx hy).2 z)
    congr 1
    omega
theorem r_min_ok {x y : Int} (hx : rgi x) (hy : rgi y) : (if Int32.ofInt y < Int32.ofInt x then Int32.ofInt y else Int32.ofInt x) = Int32.ofInt (min x y) := by
  split
  · rename_i h
    have := (of_lt hy hx).1 h
    congr 1
    omega
  · rename_i h
    have : ¬ y < x := fun z => h ((of_lt hy hx).2 z)
    congr 1
    omega
theorem rgi_mx {x y : Int} (hx : rgi x) (hy : rgi y) : rgi (max x y) ∧ rgi (min x y) := by
  unfold rgi at *
  omega
theorem of_nn {x : Int} (hx : rgi x) (h : 0 ≤ x) : ¬ Int32.ofInt x < 0 := by
  rw [of_0, of_lt hx rgi_0]
  omega
theorem r_ins_ok (hnx : ∀ pc lo st M o, nx pc lo st M = some o → rOK X C' mi pc lo st M o) (hC : ∀ mi2 args M o, C mi2 args M = some o → rgs args → rgM M → C' mi2 (args.map cvq) (cvM M) (cvO o) ∧ rgO o) (he : sa_Ma[mi]? = some e) {idx : Nat} (hi : sa_lk e pc = some (.invokestatic idx, len)) (h : r_ins C e idx pc lo st M nx = some o) : rOK X C' mi pc lo st M o := by
  intro hl hs hM
  unfold r_ins at h
  split at h
  · rename_i kk mi2 n hI
    split at h
    · rename_i hk
      obtain ⟨rfl, rfl, rfl⟩ := hk
      split at h
      · rename_i y x r
        split at h
        · rename_i hc
          have hy := rgs_h hs
          have hx := rgs_h (rgs_t hs)
          obtain ⟨⟨f, o', g1, rfl⟩, g2⟩ := hnx _ _ _ _ _ h hl (rgs_c (v := .inl (max x y)) (rgi_mx hx hy).1 (rgs_t (rgs_t hs))) hM
          refine ⟨sa_W.iv he hi ⟨f, cvO o, Or.inr (Or.inl ⟨Int32.ofInt x, Int32.ofInt y, r.map cvq, hI, rfl, by rw [r_cs_ok]; exact hc, ?_⟩), rfl⟩, g2⟩
          rw [r_max_ok hx hy]
          exact g1
        · cases h
      · cases h
    · split at h
      · rename_i hk
        obtain ⟨rfl, rfl, rfl⟩ := hk
        split at h
        · rename_i y x r
          split at h
          · rename_i hc
            have hy := rgs_h hs
            have hx := rgs_h (rgs_t hs)
            obtain ⟨⟨f, o', g1, rfl⟩, g2⟩ := hnx _ _ _ _ _ h hl (rgs_c (v := .inl (min x y)) (rgi_mx hx hy).2 (rgs_t (rgs_t hs))) hM
            refine ⟨sa_W.iv he hi ⟨f, cvO o, Or.inr (Or.inr (Or.inl ⟨Int32.ofInt x, Int32.ofInt y, r.map cvq, hI, rfl, by rw [r_cs_ok]; exact hc, ?_⟩)), rfl⟩, g2⟩
            rw [r_min_ok hx hy]
            exact g1
          · cases h
        · cases h
      · split at h
        · rename_i hk
          obtain ⟨rfl, rfl, rfl⟩ := hk
          split at h
          · rename_i n dp b sp a r
            split at h
            · rename_i hc
              obtain ⟨hc0, ha, hb, sha, shb⟩ := hc
              obtain ⟨⟨p1, p2, p3, p4, p5⟩, h⟩ := gd_ok h
              have hn : rgi n := rgs_h hs
              have hd : rgi dp := rgs_h (rgs_t hs)
              have hsp : rgi sp := rgs_h (rgs_t (rgs_t (rgs_t hs)))
              obtain ⟨⟨f, o', g1, rfl⟩, g2⟩ := hnx _ _ _ _ _ h hl (rgs_t (rgs_t (rgs_t (rgs_t (rgs_t hs))))) (rgM_puA hM b (fun j => by unfold va_cpy; split <;> exact hM _ _))
              refine ⟨sa_W.iv he hi ⟨f, cvO o, Or.inr (Or.inr (Or.inr ⟨a, b, Int32.ofInt sp, Int32.ofInt dp, Int32.ofInt n, r.map cvq, hI, rfl, by rw [r_cs_ok]; exact hc0, ha, hb, sha, shb, of_nn hsp p1, of_nn hd p2, of_nn hn p3, ?_, ?_, ?_⟩)), rfl⟩, g2⟩
              · rw [of_clamp hsp, of_clamp hn]
                show _ ≤ (sa_SH a).2
                omega
              · rw [of_clamp hd, of_clamp hn]
                show _ ≤ (sa_SH b).2
                omega
              · rw [of_clamp hsp, of_clamp hd, of_clamp hn]
                rw [cvM_puA] at g1
                have e1 : (fun j => Int32.ofInt (va_cpy (M.2.1 a) (M.2.1 b) sp.toNat dp.toNat n.toNat j)) = va_cpy (sa_mI (cvM M) a) (sa_mI (cvM M) b) sp.toNat dp.toNat n.toNat := by
                  funext j
                  unfold va_cpy
                  split <;> rfl
                rw [e1] at g1
                exact g1
            · cases h
          · cases h
        · split at h
          · rename_i hk
            split at h
            · rename_i e2 hm
              split at h
              · rename_i hc
                have hargs : rgs (st.take n).reverse := fun v hv => hs v (List.mem_of_mem_take (List.mem_reverse.1 hv))
                have hr : rgs (st.drop n) := fun v hv => hs v (List.mem_of_mem_drop hv)
                obtain ⟨o1, h1, ⟨f, h2⟩, h3⟩ := r_af_ok hnx hl hr (fun o1 h1 => (hC _ _ _ _ h1 hargs hM).2) h
                obtain ⟨c1, c2⟩ := hC _ _ _ _ h1 hargs hM
                refine ⟨sa_W.iv he hi ⟨f, cvO o, Or.inl ⟨kk, mi2, n, ((st.take n).reverse).map cvq, (st.drop n).map cvq, cvO o1, hI, hk, ?_, ?_, ?_, c1, h2⟩, rfl⟩, h3⟩
                · rw [← List.map_reverse, List.reverse_reverse, ← List.map_append, List.take_append_drop]
                · rw [List.length_map, List.length_reverse, List.length_take]
                  omega
                · rw [r_cs_ok]
                  exact hc.1
              · cases h
            · cases h
          · cases h
  · cases h
theorem of_char {x : Int} (h : 0 ≤ x ∧ x < 65536) : (Int32.ofInt x).toUInt32.toUInt16.toUInt32.toInt32 = Int32.ofInt x := by
  obtain ⟨n, rfl⟩ := Int.eq_ofNat_of_zero_le h.1
  apply Int32.toBitVec.inj
  apply BitVec.eq_of_toNat_eq
  simp
  omega
theorem r_ret_ok (he : sa_Ma[mi]? = some e) (hi : sa_lk e pc = some (.ireturn, len)) {t : FieldType} {v : Int} (ht : e.2.2.2.2.1 = some t) (h : r_ret t v M = some o) : rOK X C' mi pc lo [.inl v] M o := by
  intro hl hs hM
  have hv : rgi v := rgs_h hs
  have go : sa_so t = 0 → narrow t (.int (Int32.ofInt v)) = .int (Int32.ofInt v) → oI v M = some o → sa_W X C' mi pc (lo.map cvl) (List.map cvq [.inl v]) (cvM M) (fun z => z = cvO o) ∧ rgO o := by
    intro h1 h2 h3
    cases h3
    exact ⟨sa_W.rt he hi (o := cvO (.inl (some (.inl v)), M)) ⟨Int32.ofInt v, t, rfl, ht, h1, h2, rfl⟩ rfl, hM, fun w hw => by cases hw; exact hv⟩
  unfold r_ret at h
  split at h
  · exact go rfl rfl h
  · obtain ⟨hx, h⟩ := gd_ok h
    refine go rfl ?_ h
    rcases hx with rfl | rfl <;> rfl
  · obtain ⟨hx, h⟩ := gd_ok h
    refine go rfl ?_ h
    show Value.int ((Int32.ofInt v).toInt8.toInt32) = _
    have := congrArg Int32.ofInt hx
    rw [bnar_df, of_t] at this
    rw [this]
  · obtain ⟨hx, h⟩ := gd_ok h
    refine go rfl ?_ h
    show Value.int ((Int32.ofInt v).toUInt32.toUInt16.toUInt32.toInt32) = _
    rw [of_char hx]
  · cases h
theorem rg_znar (x : Int) : rgi (znar x) := by
  unfold znar
  split
  · exact rgi_0
  · split
    · unfold rgi; omega
    · exact rg_wr _
theorem of_and1 (x : Int) : Int32.ofInt x &&& 1 = Int32.ofInt (x % 2) := by
  apply Int32.toBitVec.inj
  apply BitVec.eq_of_toNat_eq
  have e1 : (Int32.ofInt x &&& 1).toBitVec.toNat = (BitVec.ofInt 32 x).toNat % 2 := by
    show (BitVec.ofInt 32 x &&& 1#32).toNat = _
    rw [BitVec.toNat_and]
    exact Nat.and_one_is_mod _
  rw [e1]
  show _ = (BitVec.ofInt 32 (x % 2)).toNat
  rw [BitVec.toNat_ofInt, BitVec.toNat_ofInt]
  omega
theorem vp_nar_b (x : Int) : vp_nar .byte (Int32.ofInt x) = Int32.ofInt (bnar x) := by
  rw [bnar_df, of_t]
  rfl
theorem vp_nar_z (x : Int) : vp_nar .boolean (Int32.ofInt x) = Int32.ofInt (znar x) := by
  show Int32.ofInt x &&& 1 = _
  unfold znar
  split
  · rename_i h
    subst h
    rfl
  · split
    · rename_i h
      subst h
      rfl
    · rw [of_wr]
      exact of_and1 x
set_option maxHeartbeats 4000000 in
theorem rst_ok (hnx : ∀ pc lo st M o, nx pc lo st M = some o → rOK X C' mi pc lo st M o) (hC : ∀ mi2 args M o, C mi2 args M = some o → rgs args → rgM M → C' mi2 (args.map cvq) (cvM M) (cvO o) ∧ rgO o) (he : sa_Ma[mi]? = some e) (hi : sa_lk e pc = some (i, len)) (h : rst X C e pc i len lo st M nx = some o) : rOK X C' mi pc lo st M o := by
  unfold rst at h
  split at h
  · exact r_get_ok hnx he hi h
  · exact r_put_ok hnx he hi h
  · intro hl hs hM
    split at h
    · rename_i j k r
      split at h
      · rename_i q n f ha
        split at h
        · rename_i hq
          subst hq
          obtain ⟨hp, h⟩ := gd_ok h
          obtain ⟨a1, a2⟩ := rarr_ok ha
          obtain ⟨h1, h2⟩ := hnx _ _ _ _ _ h hl (rgs_c (v := .inl (f j.toNat)) (a2 hM _) (rgs_t (rgs_t hs))) hM
          have hj : rgi j := rgs_h hs
          refine ⟨r_he he hi h1 (fun K hK => ⟨Int32.ofInt j, k, r.map cvq, n, _, rfl, a1, of_in hj hp.1 hp.2, ?_⟩), h2⟩
          try dsimp only
          rw [of_clamp hj]
          exact hK
        · cases h
      · cases h
    · cases h
  · intro hl hs hM
    split at h
    · rename_i j k r
      split at h
      · rename_i q n f ha
        split at h
        · rename_i hq
          obtain ⟨hp, h⟩ := gd_ok h
          obtain ⟨a1, a2⟩ := rarr_ok ha
          obtain ⟨h1, h2⟩ := hnx _ _ _ _ _ h hl (rgs_c (v := .inl (f j.toNat)) (a2 hM _) (rgs_t (rgs_t hs))) hM
          have hj : rgi j := rgs_h hs
          refine ⟨r_he he hi h1 (fun K hK => ⟨Int32.ofInt j, k, r.map cvq, n, fun j => Int32.ofInt (f j), rfl, ?_, of_in hj hp.1 hp.2, ?_⟩), h2⟩
          · rcases hq with rfl | ⟨rfl, hk⟩
            · exact Or.inl a1
            · exact Or.inr ⟨hk, a1⟩
          · try dsimp only
            rw [of_clamp hj]
            exact hK
        · cases h
      · cases h
    · cases h
  · intro hl hs hM
    split at h
    · rename_i j k r
      split at h
      · rename_i hk
        obtain ⟨hp, h⟩ := gd_ok h
        obtain ⟨h1, h2⟩ := hnx _ _ _ _ _ h hl (rgs_c (v := .inr (.inl (M.2.2 k j.toNat))) trivial (rgs_t (rgs_t hs))) hM
        have hj : rgi j := rgs_h hs
        refine ⟨r_he he hi h1 (fun K hK => ⟨Int32.ofInt j, k, r.map cvq, rfl, hk.1, hk.2, of_in hj hp.1 hp.2, ?_⟩), h2⟩
        rw [of_clamp hj]
        exact hK
      · cases h
    · cases h
  · intro hl hs hM
    split at h
    · rename_i x j k r
      split at h
      · rename_i hk
        obtain ⟨hp, h⟩ := gd_ok h
        have hx : rgi x := rgs_h hs
        have hj : rgi j := rgs_h (rgs_t hs)
        obtain ⟨h1, h2⟩ := hnx _ _ _ _ _ h hl (rgs_t (rgs_t (rgs_t hs))) (rgM_puI hM k j.toNat hx)
        rw [cvM_puI] at h1
        refine ⟨r_he he hi h1 (fun K hK => ⟨Int32.ofInt x, Int32.ofInt j, k, r.map cvq, rfl, hk.1, hk.2, of_in hj hp.1 hp.2, ?_⟩), h2⟩
        rw [of_clamp hj]
        exact hK
      · cases h
    · cases h
  · intro hl hs hM
    split at h
    · rename_i x j k r
      have hj : rgi j := rgs_h (rgs_t hs)
      split at h
      · rename_i hk
        obtain ⟨hp, h⟩ := gd_ok h
        obtain ⟨h1, h2⟩ := hnx _ _ _ _ _ h hl (rgs_t (rgs_t (rgs_t hs))) (rgM_puI hM k j.toNat (by rw [bnar_df]; exact rg_t _))
        rw [cvM_puI] at h1
        refine ⟨r_he he hi h1 (fun K hK => ⟨Int32.ofInt x, Int32.ofInt j, k, r.map cvq, rfl, hk.1, of_in hj hp.1 hp.2, Or.inl ⟨hk.2, ?_⟩⟩), h2⟩
        rw [of_clamp hj, vp_nar_b]
        exact hK
      · split at h
        · rename_i hk
          obtain ⟨hp, h⟩ := gd_ok h
          obtain ⟨h1, h2⟩ := hnx _ _ _ _ _ h hl (rgs_t (rgs_t (rgs_t hs))) (rgM_puI hM k j.toNat (rg_znar x))
          rw [cvM_puI] at h1
          refine ⟨r_he he hi h1 (fun K hK => ⟨Int32.ofInt x, Int32.ofInt j, k, r.map cvq, rfl, hk.1, of_in hj hp.1 hp.2, Or.inr ⟨hk.2, ?_⟩⟩), h2⟩
          rw [of_clamp hj, vp_nar_z]
          exact hK
        · cases h
    · cases h
  · intro hl hs hM
    split at h
    · rename_i x j k r
      split at h
      · rename_i hk
        obtain ⟨hp, h⟩ := gd_ok h
        have hj : rgi j := rgs_h (rgs_t hs)
        obtain ⟨h1, h2⟩ := hnx _ _ _ _ _ h hl (rgs_t (rgs_t (rgs_t hs))) (rgM_puJ hM k j.toNat x)
        rw [cvM_puJ] at h1
        refine ⟨r_he he hi h1 (fun K hK => ⟨x, Int32.ofInt j, k, r.map cvq, rfl, hk.1, hk.2, of_in hj hp.1 hp.2, ?_⟩), h2⟩
        rw [of_clamp hj]
        exact hK
      · cases h
    · cases h
  · intro hl hs hM
    split at h
    · rename_i k r
      split at h
      · rename_i q n f ha
        split at h
        · rename_i hq
          obtain ⟨a1, a2⟩ := rarr_ok ha
          have hn : rgi (n : Int) := by unfold rgi; omega
          obtain ⟨h1, h2⟩ := hnx _ _ _ _ _ h hl (rgs_c (v := .inl (n : Int)) hn (rgs_t hs)) hM
          refine ⟨r_he he hi h1 (fun K hK => ⟨k, r.map cvq, q, n, _, rfl, a1, hq.1, ?_⟩), h2⟩
          rw [← Int32.ofInt_eq_ofNat]
          exact hK
        · cases h
      · cases h
    · cases h
  · intro hl hs hM
    split at h
    · rename_i a ha
      obtain ⟨h1, h2⟩ := hnx _ _ _ _ _ h hl (rgs_c (v := .inr (.inr a)) trivial hs) hM
      exact ⟨r_he he hi h1 (fun K hK => ⟨_, ha, hK⟩), h2⟩
    · rename_i x hx
      obtain ⟨h1, h2⟩ := hnx _ _ _ _ _ h hl (rgs_c (v := .inl x.toInt) (rg_t x) hs) hM
      refine ⟨r_he he hi h1 (fun K hK => ⟨_, hx, ?_⟩), h2⟩
      simp only [List.map_cons, cvq, of_t] at hK
      exact hK
    · cases h
  · intro hl hs hM
    split at h
    · rename_i x hx
      obtain ⟨h1, h2⟩ := hnx _ _ _ _ _ h hl (rgs_c (v := .inl x.toInt) (rg_t x) hs) hM
      refine ⟨r_he he hi h1 (fun K hK => Or.inl ⟨x, hx, ?_⟩), h2⟩
      simp only [List.map_cons, cvq, of_t] at hK
      exact hK
    · split at h
      · rename_i q hq
        obtain ⟨h1, h2⟩ := hnx _ _ _ _ _ h hl (rgs_c (v := .inr (.inr (100100 + q.1))) trivial hs) hM
        exact ⟨r_he he hi h1 (fun K hK => Or.inr ⟨q.1, q.2, hq, hK⟩), h2⟩
      · cases h
  · intro hl hs hM
    split at h
    · rename_i x hx
      obtain ⟨h1, h2⟩ := hnx _ _ _ _ _ h hl (rgs_c (v := .inl x.toInt) (rg_t x) hs) hM
      refine ⟨r_he he hi h1 (fun K hK => ⟨x, hx, ?_⟩), h2⟩
      simp only [List.map_cons, cvq, of_t] at hK
      exact hK
    · cases h
  · intro hl hs hM
    split at h
    · rename_i x hx
      obtain ⟨h1, h2⟩ := hnx _ _ _ _ _ h hl (rgs_c (v := .inr (.inl x)) trivial hs) hM
      exact ⟨r_he he hi h1 (fun K hK => ⟨x, hx, hK⟩), h2⟩
    · cases h
  · intro hl hs hM
    split at h
    · rename_i y x r
      split at h
      · cases h
      · rename_i hy
        obtain ⟨h1, h2⟩ := hnx _ _ _ _ _ h hl (rgs_c (v := .inl (idv x y)) (by rw [idv_df]; exact rg_t _) (rgs_t (rgs_t hs))) hM
        refine ⟨r_he he hi h1 (fun K hK => ⟨Int32.ofInt x, Int32.ofInt y, r.map cvq, rfl, ?_, ?_⟩), h2⟩
        · rw [of_0, of_eq (rgs_h hs) rgi_0]
          exact hy
        · simp only [List.map_cons, cvq, idv_df, of_t] at hK
          exact hK
    · cases h
  · intro hl hs hM
    split at h
    · rename_i y x r
      split at h
      · cases h
      · rename_i hy
        obtain ⟨h1, h2⟩ := hnx _ _ _ _ _ h hl (rgs_c (v := .inl (irm x y)) (by rw [irm_df]; exact rg_t _) (rgs_t (rgs_t hs))) hM
        refine ⟨r_he he hi h1 (fun K hK => ⟨Int32.ofInt x, Int32.ofInt y, r.map cvq, rfl, ?_, ?_⟩), h2⟩
        · rw [of_0, of_eq (rgs_h hs) rgi_0]
          exact hy
        · simp only [List.map_cons, cvq, irm_df, of_t] at hK
          exact hK
    · cases h
  · intro hl hs hM
    split at h
    · rename_i hz
      obtain ⟨⟨f, o', h1, rfl⟩, h2⟩ := hnx _ _ _ _ _ h hl hs hM
      exact ⟨sa_W.ct he hi ⟨f, cvO o, ⟨_, (Int.toNat_of_nonneg hz).symm, h1⟩, rfl⟩, h2⟩
    · cases h
  · intro hl hs hM
    split at h
    · rename_i x r
      split at h
      · rename_i hz
        rcases r_br_ok (rgs_h hs) rgi_0 h with ⟨hc, h⟩ | ⟨hc, h⟩
        · obtain ⟨⟨f, o', h1, rfl⟩, h2⟩ := hnx _ _ _ _ _ h hl (rgs_t hs) hM
          exact ⟨sa_W.ct he hi ⟨f, cvO o, ⟨_, _, _, rfl, (Int.toNat_of_nonneg hz).symm, fun _ => h1, fun z => absurd hc z⟩, rfl⟩, h2⟩
        · obtain ⟨⟨f, o', h1, rfl⟩, h2⟩ := hnx _ _ _ _ _ h hl (rgs_t hs) hM
          exact ⟨sa_W.ct he hi ⟨f, cvO o, ⟨_, _, _, rfl, (Int.toNat_of_nonneg hz).symm, fun z => absurd z hc, fun _ => h1⟩, rfl⟩, h2⟩
      · cases h
    · cases h
  · intro hl hs hM
    split at h
    · rename_i y x r
      split at h
      · rename_i hz
        rcases r_br_ok (rgs_h (rgs_t hs)) (rgs_h hs) h with ⟨hc, h⟩ | ⟨hc, h⟩
        · obtain ⟨⟨f, o', h1, rfl⟩, h2⟩ := hnx _ _ _ _ _ h hl (rgs_t (rgs_t hs)) hM
          exact ⟨sa_W.ct he hi ⟨f, cvO o, ⟨_, _, _, _, rfl, (Int.toNat_of_nonneg hz).symm, fun _ => h1, fun z => absurd hc z⟩, rfl⟩, h2⟩
        · obtain ⟨⟨f, o', h1, rfl⟩, h2⟩ := hnx _ _ _ _ _ h hl (rgs_t (rgs_t hs)) hM
          exact ⟨sa_W.ct he hi ⟨f, cvO o, ⟨_, _, _, _, rfl, (Int.toNat_of_nonneg hz).symm, fun z => absurd z hc, fun _ => h1⟩, rfl⟩, h2⟩
      · cases h
    · cases h
  · rename_i d l hh offs
    intro hl hs hM
    split at h
    · rename_i x r
      split at h
      · rename_i hz
        have hx : rgi x := rgs_h hs
        rcases r_sw_ok _ _ h with ⟨hc, h⟩ | ⟨hc1, hc2, off, hc3, h⟩
        · obtain ⟨⟨f, o', h1, rfl⟩, h2⟩ := hnx _ _ _ _ _ h hl (rgs_t hs) hM
          refine ⟨sa_W.ct he hi ⟨f, cvO o, ⟨Int32.ofInt x, r.map cvq, rfl, fun _ => ⟨_, (Int.toNat_of_nonneg hz.2).symm, h1⟩, fun z1 z2 => ?_⟩, rfl⟩, h2⟩
          rw [to_of hx] at z1 z2
          omega
        · split at h
          · rename_i hz2
            obtain ⟨⟨f, o', h1, rfl⟩, h2⟩ := hnx _ _ _ _ _ h hl (rgs_t hs) hM
            refine ⟨sa_W.ct he hi ⟨f, cvO o, ⟨Int32.ofInt x, r.map cvq, rfl, fun z => ?_, fun z1 z2 => ⟨off, _, ?_, (Int.toNat_of_nonneg hz2).symm, h1⟩⟩, rfl⟩, h2⟩
            · rw [to_of hx] at z
              omega
            · rw [to_of hx, ← Array.getElem?_toList]
              exact hc3
          · cases h
      · cases h
    · cases h
  · split at h
    · split at h
      · rename_i t ht
        exact r_ret_ok he hi ht h
      · cases h
    · cases h
  · intro hl hs hM
    split at h
    · rename_i v
      split at h
      · rename_i t ht
        split at h
        · rename_i h3
          cases h
          have := r_ty3_ok h3
          subst this
          exact ⟨sa_W.rt he hi (o := cvO (.inl (some (.inr (.inl v))), M)) ⟨v, rfl, ht, rfl⟩ rfl, hM, fun w hw => by cases hw; trivial⟩
        · cases h
      · cases h
    · cases h
  · intro hl hs hM
    split at h
    · split at h
      · rename_i ht
        cases h
        exact ⟨sa_W.rt he hi (o := cvO (.inl none, M)) ⟨rfl, ht, rfl⟩ rfl, hM, fun w hw => by cases hw⟩
      · cases h
    · cases h
  · intro hl hs hM
    split at h
    · split at h
      · rename_i q ic hE
        split at h
        · rename_i ic' hh h3 h4 h7
          split at h
          · rename_i hc
            obtain ⟨rfl, hc⟩ := hc
            cases h
            exact ⟨sa_W.th he hi (o := cvO (.inr q, thr M)) ⟨q, _, rfl, hE, hc, hh, h3, h4, h7, rfl⟩ rfl, hM, fun w hw => by cases hw⟩
          · cases h
        · cases h
      · cases h
    · cases h
  · exact r_inv_ok hnx hC he hi h
  · exact r_ins_ok hnx hC he hi h
  · cases h
theorem r_dk_len : ∀ (lo : List (Option rq)) (m : List Bool), (r_dk lo m).length = lo.length
  | [], _ => by unfold r_dk; rfl
  | _ :: _, [] => by unfold r_dk; rfl
  | v :: r, b :: m => by
    unfold r_dk
    rw [List.length_cons, List.length_cons, r_dk_len r m]
theorem r_dk_get : ∀ (lo : List (Option rq)) (m : List Bool) (k : Nat), (r_dk lo m)[k]? = lo[k]? ∨ ((r_dk lo m)[k]? = some none ∧ ∃ v, lo[k]? = some v ∧ (cvl v).category = 1)
  | [], _, _ => by unfold r_dk; exact Or.inl rfl
  | _ :: _, [], _ => by unfold r_dk; exact Or.inl rfl
  | v :: r, b :: m, 0 => by
    unfold r_dk
    cases b with
    | false => exact Or.inl rfl
    | true =>
      rcases v with _ | (x | (x | x))
      · exact Or.inl rfl
      · exact Or.inr ⟨rfl, _, rfl, rfl⟩
      · exact Or.inl rfl
      · exact Or.inr ⟨rfl, _, rfl, rfl⟩
  | v :: r, b :: m, k + 1 => by
    unfold r_dk
    exact r_dk_get r m k
theorem r_dk_ok {sv : List Value} {m : sa_Mem} {Q : sa_Out → Prop} (dead : List Bool) {lo : List (Option rq)} (h : sa_W X C' mi pc ((r_dk lo dead).map cvl) sv m Q) : sa_W X C' mi pc (lo.map cvl) sv m Q := by
  refine aw_fg (by rw [List.length_map, List.length_map, r_dk_len]) (fun k => ?_) h
  rw [List.getElem?_map, List.getElem?_map]
  rcases r_dk_get lo dead k with h | ⟨h1, v, h2, h3⟩
  · rw [h]
    exact Or.inl rfl
  · rw [h1, h2]
    exact Or.inr ⟨rfl, _, rfl, h3⟩
theorem rgl_dk (dead : List Bool) {lo : List (Option rq)} (h : rgl lo) : rgl (r_dk lo dead) := by
  intro k v hk
  rcases r_dk_get lo dead k with h1 | ⟨h1, -⟩
  · rw [h1] at hk
    exact h k v hk
  · rw [h1] at hk
    cases hk
theorem rtr_ok {sp : List (Nat × List Bool)} {K : rK} (hK : ∀ pc lo st M o, K pc lo st M = some o → rOK X C' mi pc lo st M o) (hC : ∀ mi2 args M o, C mi2 args M = some o → rgs args → rgM M → C' mi2 (args.map cvq) (cvM M) (cvO o) ∧ rgO o) (he : sa_Ma[mi]? = some e) : ∀ (f pc : Nat) (lo : List (Option rq)) (st : List rq) (M : rM) (o : rO), rtr X C e sp K f pc lo st M = some o → rOK X C' mi pc lo st M o
  | 0, _, _, _, _, _, h => by cases h
  | f + 1, pc, lo, st, M, o, h => by
    have ih := rtr_ok (sp := sp) hK hC he f
    have hd : ∀ (dead : List Bool) (pc : Nat) (lo : List (Option rq)) (st : List rq) (M : rM) (o : rO), K pc (r_dk lo dead) st M = some o → rOK X C' mi pc lo st M o := by
      intro dead pc lo st M o h hl hs hM
      obtain ⟨h1, h2⟩ := hK _ _ _ _ _ h (rgl_dk dead hl) hs hM
      exact ⟨r_dk_ok dead h1, h2⟩
    unfold rtr at h
    split at h
    · cases h
    · rename_i i len hi
      split at h
      · rename_i q hq
        intro hl hs hM
        obtain ⟨p1, p2, p3⟩ := rpu_ok i (show rpu i lo st = some (q.1, q.2) from hq) hl hs
        split at h
        · obtain ⟨h1, h2⟩ := hd _ _ _ _ _ _ h p2 p3 hM
          exact ⟨sa_W.pu he hi p1 h1, h2⟩
        · obtain ⟨h1, h2⟩ := ih _ _ _ _ _ h p2 p3 hM
          exact ⟨sa_W.pu he hi p1 h1, h2⟩
      · refine rst_ok (fun pc lo st M o h => ?_) hC he hi h
        try dsimp only at h
        split at h
        · exact hd _ _ _ _ _ _ h
        · exact ih _ _ _ _ _ h
theorem rKg_ok {sp : Nat → List (Nat × List Bool)} (hC : ∀ mi2 args M o, C mi2 args M = some o → rgs args → rgM M → C' mi2 (args.map cvq) (cvM M) (cvO o) ∧ rgO o) : ∀ (n pc : Nat) (lo : List (Option rq)) (st : List rq) (M : rM) (o : rO), rKg X C sp mi n pc lo st M = some o → rOK X C' mi pc lo st M o
  | 0, _, _, _, _, _, h => by cases h
  | n + 1, pc, lo, st, M, o, h => by
    unfold rKg at h
    split at h
    · rename_i e he
      exact rtr_ok (rKg_ok hC n) hC he _ _ _ _ _ _ h
    · cases h
end RSU
theorem r_lo_ok : ∀ a : List rq, sa_lo (a.map cvq) = (r_lo a).map cvl
  | [] => rfl
  | .inl x :: r => by
    show Value.int _ :: sa_lo (r.map cvq) = Value.int _ :: (r_lo r).map cvl
    rw [r_lo_ok r]
  | .inr (.inl x) :: r => by
    show Value.long _ :: sa_no :: sa_lo (r.map cvq) = Value.long _ :: sa_no :: (r_lo r).map cvl
    rw [r_lo_ok r]
  | .inr (.inr x) :: r => by
    show Value.ref _ :: sa_lo (r.map cvq) = Value.ref _ :: (r_lo r).map cvl
    rw [r_lo_ok r]
theorem r_en_ok (a : List rq) (n : Nat) : sa_en (a.map cvq) n = (r_en a n).map cvl := by
  unfold sa_en r_en
  rw [r_lo_ok, List.map_append, List.length_map, List.map_replicate]
  rfl
theorem rgl_lo : ∀ {a : List rq}, rgs a → ∀ v, some v ∈ r_lo a → rgq v
  | [], _, v, h => by cases h
  | .inl x :: r, hs, v, h => by
    rcases List.mem_cons.1 h with h | h
    · cases h
      exact rgs_h hs
    · exact rgl_lo (rgs_t hs) v h
  | .inr (.inl x) :: r, hs, v, h => by
    rcases List.mem_cons.1 h with h | h
    · cases h
      trivial
    · rcases List.mem_cons.1 h with h | h
      · cases h
      · exact rgl_lo (rgs_t hs) v h
  | .inr (.inr x) :: r, hs, v, h => by
    rcases List.mem_cons.1 h with h | h
    · cases h
      trivial
    · exact rgl_lo (rgs_t hs) v h
theorem rgl_en {a : List rq} (h : rgs a) (n : Nat) : rgl (r_en a n) := by
  intro k v hk
  have := List.mem_of_getElem? hk
  unfold r_en at this
  rcases List.mem_append.1 this with h1 | h1
  · exact rgl_lo h v h1
  · have := List.eq_of_mem_replicate h1
    cases this
theorem cvq_gv (v : rq) : sa_gv (cvq v) = true := by
  rcases v with x | (x | x) <;> rfl
theorem rFn_ok {X : Nat × (Nat → Int32)} {sp : Nat → List (Nat × List Bool)} : ∀ (d mi : Nat) (args : List rq) (M : rM) (o : rO), rFn X sp d mi args M = some o → rgs args → rgM M → sa_Ex X d mi (args.map cvq) (cvM M) (cvO o) ∧ rgO o
  | 0, _, _, _, _, h => by cases h
  | d + 1, mi, args, M, o, h => by
    intro hs hM
    unfold rFn at h
    split at h
    · rename_i e he
      split at h
      · rename_i hlen
        have hC := fun mi2 args M o h h1 h2 => rFn_ok (X := X) (sp := sp) d mi2 args M o h h1 h2
        obtain ⟨⟨f, o', h1, rfl⟩, h2⟩ := rtr_ok (rKg_ok hC FU) hC (sa_Ma_of he) _ _ _ _ _ _ h (rgl_en hs _) (fun v hv => by cases hv) hM
        refine ⟨⟨f, e, he, ?_, ?_, ?_⟩, h2⟩
        · rw [r_lo_ok, List.length_map]
          exact hlen
        · intro v hv
          obtain ⟨w, -, rfl⟩ := List.mem_map.1 hv
          exact cvq_gv w
        · rw [r_en_ok]
          exact h1
      · cases h
    · cases h

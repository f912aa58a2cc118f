/-! ===== the reckoner is sound: memory, jumps, calls ===== -/
section RST
variable {X : Nat × (Nat → Int32)} {C : Nat → List rq → rM → Option rO} {C' : Nat → List Value → sa_Mem → sa_Out → Prop} {mi pc len : Nat} {lo : List (Option rq)} {st : List rq} {M : rM} {o : rO} {e : sa_Me} {nx : rK} {i : Instr}
def rOK (X : Nat × (Nat → Int32)) (C' : Nat → List Value → sa_Mem → sa_Out → Prop) (mi pc : Nat) (lo : List (Option rq)) (st : List rq) (M : rM) (o : rO) : Prop :=
  rgl lo → rgs st → rgM M → sa_W X C' mi pc (lo.map cvl) (st.map cvq) (cvM M) (fun z => z = cvO o) ∧ rgO o
theorem r_he (he : sa_Ma[mi]? = some e) (hi : sa_lk e pc = some (i, len)) {lv : List Value} {sv sv' : List Value} {m m' : sa_Mem} {Q : sa_Out → Prop} (k : sa_W X C' mi (pc + len) lv sv' m' Q) (hh : ∀ K : List Value → sa_Mem → Prop, K sv' m' → sa_he X e.1 (e.2.1.name = "<init>") i sv m K) : sa_W X C' mi pc lv sv m Q := by
  obtain ⟨f, o, h1, h2⟩ := k
  exact sa_W.he he hi ⟨f, o, hh _ h1, h2⟩
theorem cvM_puI (M : rM) (k j : Nat) (x : Int) : cvM (puI M k j x) = sa_setI (cvM M) k (upd (sa_mI (cvM M) k) j (Int32.ofInt x)) := by
  unfold cvM puI
  rw [sa_mkI]
  congr 1
  funext a b
  show Int32.ofInt (va_up M.2.1 k (va_up (M.2.1 k) j x) a b) = va_up (fun k j => Int32.ofInt (M.2.1 k j)) k (upd (fun j => Int32.ofInt (M.2.1 k j)) j (Int32.ofInt x)) a b
  unfold va_up upd
  by_cases h1 : a = k
  · simp only [h1, if_true]
    by_cases h2 : b = j
    · simp only [h2, if_true]
    · simp only [h2, if_false]
  · simp only [h1, if_false]
theorem cvM_puJ (M : rM) (k j : Nat) (x : Int64) : cvM (puJ M k j x) = sa_setJ (cvM M) k (vp_updL (sa_mJ (cvM M) k) j x) := rfl
theorem cvM_puA (M : rM) (k : Nat) (f : Nat → Int) : cvM (puA M k f) = sa_setI (cvM M) k (fun j => Int32.ofInt (f j)) := by
  unfold cvM puA
  rw [sa_mkI]
  congr 1
  funext a b
  show Int32.ofInt (va_up M.2.1 k f a b) = va_up (fun k j => Int32.ofInt (M.2.1 k j)) k (fun j => Int32.ofInt (f j)) a b
  unfold va_up
  by_cases h1 : a = k
  · simp only [h1, if_true]
  · simp only [h1, if_false]
theorem rgM_puI (h : rgM M) (k j : Nat) {x : Int} (hx : rgi x) : rgM (puI M k j x) := by
  intro a b
  show rgi (va_up M.2.1 k (va_up (M.2.1 k) j x) a b)
  unfold va_up
  split
  · dsimp only
    split
    · exact hx
    · exact h _ _
  · exact h _ _
theorem rgM_puJ (h : rgM M) (k j : Nat) (x : Int64) : rgM (puJ M k j x) := h
theorem rgM_puA (h : rgM M) (k : Nat) {f : Nat → Int} (hf : ∀ j, rgi (f j)) : rgM (puA M k f) := by
  intro a b
  show rgi (va_up M.2.1 k f a b)
  unfold va_up
  split
  · exact hf _
  · exact h _ _
theorem gd_ok {p : Prop} [Decidable p] {t : Option rO} (h : gd p t = some o) : p ∧ t = some o := by
  unfold gd at h
  split at h
  · rename_i hp
    exact ⟨hp, h⟩
  · cases h
theorem rarr_ok {k q n : Nat} {f : Nat → Int} (h : rarr X M k = some (q, n, f)) : sa_arr X (cvM M) k = some (q, n, fun j => Int32.ofInt (f j)) ∧ (rgM M → ∀ j, rgi (f j)) := by
  unfold rarr at h
  unfold sa_arr
  split at h
  · rename_i hk
    split at h
    · rename_i h1
      cases h
      refine ⟨?_, fun hM j => hM _ _⟩
      rw [if_pos (show k < sa_mN (cvM M) from hk), if_pos (show 100 ≤ (sa_sh (cvM M) k).1 from h1)]
      rfl
    · cases h
  · rename_i hk
    rw [if_neg (show ¬ k < sa_mN (cvM M) from hk)]
    split at h
    · rename_i q' n' f' hx
      cases h
      rw [hx]
      exact ⟨by simp only [of_t], fun _ j => rg_t _⟩
    · cases h
theorem r_ty1_ok {t : FieldType} (h : r_ty1 t = true) : t = .int := by
  unfold r_ty1 at h
  split at h
  · rfl
  · cases h
theorem r_ty2_ok {t : FieldType} (h : r_ty2 t = true) : t = .boolean := by
  unfold r_ty2 at h
  split at h
  · rfl
  · cases h
theorem r_ty3_ok {t : FieldType} (h : r_ty3 t = true) : t = .long := by
  unfold r_ty3 at h
  split at h
  · rfl
  · cases h
theorem r_cs_ok : ∀ r : List rq, ((r.map cvq).map (fun v => v.category)).sum = r_cs r
  | [] => rfl
  | .inl x :: r => by
    show 1 + ((r.map cvq).map (fun v => v.category)).sum = 1 + r_cs r
    rw [r_cs_ok r]
  | .inr (.inl x) :: r => by
    show 2 + ((r.map cvq).map (fun v => v.category)).sum = 2 + r_cs r
    rw [r_cs_ok r]
  | .inr (.inr x) :: r => by
    show 1 + ((r.map cvq).map (fun v => v.category)).sum = 1 + r_cs r
    rw [r_cs_ok r]
variable (hnx : ∀ pc lo st M o, nx pc lo st M = some o → rOK X C' mi pc lo st M o)
theorem r_get_ok (hnx : ∀ pc lo st M o, nx pc lo st M = some o → rOK X C' mi pc lo st M o) (he : sa_Ma[mi]? = some e) {idx : Nat} (hi : sa_lk e pc = some (.getfield idx, len)) (h : r_get X e idx (pc + len) lo st M nx = some o) : rOK X C' mi pc lo st M o := by
  intro hl hs hM
  unfold r_get at h
  split at h
  · rename_i k r
    split at h
    · rename_i ci j b hF
      split at h
      · rename_i hc
        rw [Bool.and_eq_true, decide_eq_true_eq, beq_iff_eq] at hc
        have go : ∀ v : rq, rgq v → sa_gf (cvM M) k ci j = cvq v → nx (pc + len) lo (v :: r) M = some o → sa_W X C' mi pc (lo.map cvl) (List.map cvq (.inr (.inr k) :: r)) (cvM M) (fun z => z = cvO o) ∧ rgO o := by
          intro v hv hg hn
          obtain ⟨h1, h2⟩ := hnx _ _ _ _ _ hn hl (rgs_c hv (rgs_t hs)) hM
          refine ⟨r_he he hi h1 (fun K hK => ⟨k, r.map cvq, rfl, Or.inl ⟨ci, j, b, hF, hc.1, hc.2, ?_⟩⟩), h2⟩
          rw [hg]
          exact hK
        split at h
        · rename_i hz
          exact go (.inl (M.2.1 k j)) (hM k j) (by unfold sa_gf; rw [hz]; rfl) h
        · rename_i hz
          exact go (.inr (.inl (M.2.2 k j))) trivial (by unfold sa_gf; rw [hz]; rfl) h
        · rename_i n1 n2
          split at h
          · rename_i a ha
            refine go (.inr (.inr a)) trivial ?_ h
            unfold sa_gf
            split
            · rename_i z; exact absurd z n1
            · rename_i z; exact absurd z n2
            · show va_rf (sa_RR k j) = Value.ref a
              rw [ha]
              rfl
          · cases h
      · cases h
    · split at h
      · rename_i t hX
        split at h
        · rename_i hc
          rw [Bool.and_eq_true, decide_eq_true_eq, decide_eq_true_eq] at hc
          have hv : rgq (if t = 0 then .inr (.inr (k + 100)) else .inl 0) := by
            split
            · trivial
            · exact rgi_0
          obtain ⟨h1, h2⟩ := hnx _ _ _ _ _ h hl (rgs_c hv (rgs_t hs)) hM
          refine ⟨r_he he hi h1 (fun K hK => ⟨k, r.map cvq, rfl, Or.inr ⟨t, hX, hc.1, hc.2, ?_⟩⟩), h2⟩
          have e1 : (if t = 0 then Value.ref (k + 100) else Value.int 0) = cvq (if t = 0 then .inr (.inr (k + 100)) else .inl 0) := by
            split <;> rfl
          rw [e1]
          exact hK
        · cases h
      · cases h
  · cases h
theorem r_put_ok (hnx : ∀ pc lo st M o, nx pc lo st M = some o → rOK X C' mi pc lo st M o) (he : sa_Ma[mi]? = some e) {idx : Nat} (hi : sa_lk e pc = some (.putfield idx, len)) (h : r_put e idx (pc + len) lo st M nx = some o) : rOK X C' mi pc lo st M o := by
  intro hl hs hM
  unfold r_put at h
  split at h
  · rename_i x k r
    split at h
    · rename_i ci j hF
      split at h
      · rename_i hc
        simp only [Bool.and_eq_true, decide_eq_true_eq, beq_iff_eq, Bool.not_eq_true'] at hc
        have hx : rgi x := rgs_h hs
        have go : nx (pc + len) lo r (puI M k j x) = some o → (sa_so (sa_ty ci j) = 0 ∧ (narrow (sa_ty ci j) (.int (Int32.ofInt x)) = .int (Int32.ofInt x) ∧ fits (sa_ty ci j) (.int (Int32.ofInt x)) = true)) → sa_W X C' mi pc (lo.map cvl) (List.map cvq (.inl x :: .inr (.inr k) :: r)) (cvM M) (fun z => z = cvO o) ∧ rgO o := by
          intro hn hz
          obtain ⟨h1, h2⟩ := hnx _ _ _ _ _ hn hl (rgs_t (rgs_t hs)) (rgM_puI hM k j hx)
          rw [cvM_puI] at h1
          exact ⟨r_he he hi h1 (fun K hK => ⟨.int (Int32.ofInt x), k, r.map cvq, ci, j, _, rfl, hF, hc.1.1, hc.1.2, (fun z => by rw [hc.2] at z; cases z), ⟨hz.1, hz.2, rfl⟩, hK⟩), h2⟩
        split at h
        · rename_i ht
          have ht := r_ty1_ok ht
          exact go h (by rw [ht]; exact ⟨rfl, rfl, rfl⟩)
        · split at h
          · rename_i ht
            have ht := r_ty2_ok ht
            obtain ⟨hx, h⟩ := gd_ok h
            refine go h ?_
            rw [ht]
            rcases hx with rfl | rfl
            · exact ⟨rfl, rfl, rfl⟩
            · exact ⟨rfl, rfl, rfl⟩
          · cases h
      · cases h
    · cases h
  · rename_i x k r
    split at h
    · rename_i ci j hF
      split at h
      · rename_i hc
        simp only [Bool.and_eq_true, decide_eq_true_eq, beq_iff_eq, Bool.not_eq_true'] at hc
        obtain ⟨h1, h2⟩ := hnx _ _ _ _ _ h hl (rgs_t (rgs_t hs)) (rgM_puJ hM k j x)
        rw [cvM_puJ] at h1
        exact ⟨r_he he hi h1 (fun K hK => ⟨.long x, k, r.map cvq, ci, j, _, rfl, hF, hc.1.1.1, hc.1.1.2, (fun z => by rw [hc.1.2] at z; cases z), ⟨r_ty3_ok hc.2, rfl⟩, hK⟩), h2⟩
      · cases h
    · cases h
  · cases h
theorem r_br_ok {c : ClassFile.Cond} {x y : Int} {a b : Option rO} (hx : rgi x) (hy : rgi y) (h : r_br c x y a b = some o) : (sa_cmp c (Int32.ofInt x) (Int32.ofInt y) ∧ a = some o) ∨ (¬ sa_cmp c (Int32.ofInt x) (Int32.ofInt y) ∧ b = some o) := by
  unfold r_br at h
  unfold sa_cmp
  cases c <;> dsimp only at h ⊢ <;> split at h <;> rename_i hc
  · exact Or.inl ⟨(of_eq hx hy).2 hc, h⟩
  · exact Or.inr ⟨fun z => hc ((of_eq hx hy).1 z), h⟩
  · exact Or.inr ⟨fun z => z ((of_eq hx hy).2 hc), h⟩
  · exact Or.inl ⟨fun z => hc ((of_eq hx hy).1 z), h⟩
  · exact Or.inl ⟨(of_lt hx hy).2 hc, h⟩
  · exact Or.inr ⟨fun z => hc ((of_lt hx hy).1 z), h⟩
  · exact Or.inr ⟨fun z => by have := (of_le hy hx).1 z; omega, h⟩
  · exact Or.inl ⟨(of_le hy hx).2 (by omega), h⟩
  · exact Or.inl ⟨(of_lt hy hx).2 hc, h⟩
  · exact Or.inr ⟨fun z => hc ((of_lt hy hx).1 z), h⟩
  · exact Or.inr ⟨fun z => by have := (of_le hx hy).1 z; omega, h⟩
  · exact Or.inl ⟨(of_le hx hy).2 (by omega), h⟩
theorem r_sw_ok {x : Int} {d : Option rO} {f : Int → Option rO} : ∀ (l : List Int) (i : Int), r_sw x d f l i = some o → ((x < i ∨ i + l.length ≤ x) ∧ d = some o) ∨ (i ≤ x ∧ x < i + l.length ∧ ∃ off, l[(x - i).toNat]? = some off ∧ f off = some o)
  | [], i, h => by
    refine Or.inl ⟨?_, h⟩
    simp only [List.length_nil]
    omega
  | q :: l, i, h => by
    unfold r_sw at h
    split at h
    · rename_i hx
      refine Or.inr ⟨by omega, by simp only [List.length_cons]; omega, q, ?_, h⟩
      rw [hx, Int.sub_self]
      rfl
    · rename_i hx
      rcases r_sw_ok l (i + 1) h with ⟨h1, h2⟩ | ⟨h1, h2, off, h3, h4⟩
      · refine Or.inl ⟨?_, h2⟩
        simp only [List.length_cons]
        omega
      · refine Or.inr ⟨by omega, by simp only [List.length_cons]; omega, off, ?_, h4⟩
        have : (x - i).toNat = (x - (i + 1)).toNat + 1 := by omega
        rw [this]
        exact h3
theorem r_hd_ok (hnx : ∀ pc lo st M o, nx pc lo st M = some o → rOK X C' mi pc lo st M o) {q : Nat} (hl : rgl lo) (hM : rgM M) : ∀ hh : List (Nat × Nat × Nat × Nat), r_hd e pc lo nx q M hh = some o → (∃ hp k len, sa_hd e.1 pc q hh = some hp ∧ k < (lo.map cvl).length ∧ (∀ x ∈ lo.map cvl, x.category = 1) ∧ (sa_lk e hp = some (.astore k, len) ∧ len = 2 ∨ (∃ j : Fin 4, (j : Nat) = k ∧ sa_lk e hp = some (.astore_n j, len) ∧ len = 1)) ∧ sa_W X C' mi (hp + len) ((lo.map cvl).set k sa_no) [] (cvM M) (fun z => z = cvO o)) ∧ rgO o
  | [], h => by cases h
  | t :: r, h => by
    have hcat : (lo.all (fun v => match v with | some w => r_c1 w | none => true)) = true → ∀ x ∈ lo.map cvl, x.category = 1 := by
      intro ha x hx
      obtain ⟨v, hv, rfl⟩ := List.mem_map.1 hx
      have := List.all_eq_true.1 ha v hv
      cases v with
      | none => rfl
      | some w => exact r_c1_ok this
    have no : sa_hd e.1 pc q (t :: r) = sa_hd e.1 pc q r → r_hd e pc lo nx q M r = some o → _ := fun hz hr => by
      have ih := r_hd_ok hnx (q := q) hl hM r hr
      rw [← hz] at ih
      exact ih
    unfold r_hd at h
    split at h
    · rename_i hc
      rw [Bool.and_eq_true, decide_eq_true_eq, decide_eq_true_eq] at hc
      split at h
      · rename_i z hz
        split at h
        · rename_i hq
          have hh : sa_hd e.1 pc q (t :: r) = some t.2.2.1 := by
            unfold sa_hd
            rw [if_pos ⟨hc.1, hc.2, by rw [hz]; exact congrArg some hq⟩]
          split at h
          · rename_i k hk
            split at h
            · rename_i ha
              rw [Bool.and_eq_true, decide_eq_true_eq] at ha
              obtain ⟨h1, h2⟩ := hnx _ _ _ _ _ h (rgl_set hl _ (fun w hw => by cases hw)) (fun v hv => by cases hv) hM
              rw [List.map_set] at h1
              exact ⟨⟨_, k, 2, hh, by rw [List.length_map]; exact ha.1, hcat ha.2, Or.inl ⟨hk, rfl⟩, h1⟩, h2⟩
            · cases h
          · rename_i k hk
            split at h
            · rename_i ha
              rw [Bool.and_eq_true, decide_eq_true_eq] at ha
              obtain ⟨h1, h2⟩ := hnx _ _ _ _ _ h (rgl_set hl _ (fun w hw => by cases hw)) (fun v hv => by cases hv) hM
              rw [List.map_set] at h1
              exact ⟨⟨_, k, 1, hh, by rw [List.length_map]; exact ha.1, hcat ha.2, Or.inr ⟨k, rfl, hk, rfl⟩, h1⟩, h2⟩
            · cases h
          · cases h
        · rename_i hq
          refine no ?_ h
          conv => lhs; unfold sa_hd
          rw [if_neg]
          rintro ⟨-, -, z3⟩
          rw [hz] at z3
          exact hq (Option.some.inj z3)
      · rename_i hz
        refine no ?_ h
        conv => lhs; unfold sa_hd
        rw [if_neg]
        rintro ⟨-, -, z3⟩
        rw [hz] at z3
        cases z3
    · rename_i hc
      refine no ?_ h
      conv => lhs; unfold sa_hd
      rw [if_neg]
      rintro ⟨z1, z2, -⟩
      exact hc (by rw [Bool.and_eq_true, decide_eq_true_eq, decide_eq_true_eq]; exact ⟨z1, z2⟩)
theorem r_af_ok (hnx : ∀ pc lo st M o, nx pc lo st M = some o → rOK X C' mi pc lo st M o) {r : List rq} {ret : Option FieldType} {oo : Option rO} (hl : rgl lo) (hr : rgs r) (ho : ∀ o1, oo = some o1 → rgO o1) (h : r_af e pc lo r ret oo nx = some o) : ∃ o1, oo = some o1 ∧ (∃ f, sa_af e pc (lo.map cvl) (r.map cvq) (cvO o1) (cvO o) (fun pc' lo' st' m' => sa_run X C' mi f pc' lo' st' m' (cvO o))) ∧ rgO o := by
  have kx : ∀ (q : Nat) (M1 : rM), oo = some (.inr q, M1) → e.2.2.2.2.2.1 = none → oX q M1 = some o → ∃ o1, oo = some o1 ∧ (∃ f, sa_af e pc (lo.map cvl) (r.map cvq) (cvO o1) (cvO o) (fun pc' lo' st' m' => sa_run X C' mi f pc' lo' st' m' (cvO o))) ∧ rgO o := by
    intro q M1 h1 h2 h3
    cases h3
    refine ⟨_, h1, ⟨0, ?_⟩, ho _ h1⟩
    unfold sa_af
    simp only [cvO, cvo]
    rw [h2]
    trivial
  have kk : ∀ (v : Option rq) (M1 : rM) (s1 : List rq), oo = some (.inl v, M1) → (s1 = v.toList ++ r) → nx (pc + 3) lo s1 M1 = some o → ∃ o1, oo = some o1 ∧ (∃ f, sa_af e pc (lo.map cvl) (r.map cvq) (cvO o1) (cvO o) (fun pc' lo' st' m' => sa_run X C' mi f pc' lo' st' m' (cvO o))) ∧ rgO o := by
    intro v M1 s1 h1 h2 h3
    subst h2
    have hg := ho _ h1
    have hv : rgs (v.toList ++ r) := by
      cases v with
      | none => exact hr
      | some w => exact rgs_c (hg.2 w rfl) hr
    obtain ⟨⟨f, o', g1, rfl⟩, g2⟩ := hnx _ _ _ _ _ h3 hl hv hg.1
    refine ⟨_, h1, ⟨f, ?_⟩, g2⟩
    cases v with
    | none => exact g1
    | some w => exact g1
  unfold r_af at h
  split at h
  · rename_i hh
    split at h
    · unfold cV at h
      split at h
      · rename_i M1
        exact kk none M1 r rfl rfl h
      · rename_i q M1
        exact kx q M1 rfl hh h
      · cases h
    · split at h
      · unfold cJ at h
        split at h
        · rename_i x M1
          exact kk (some (.inr (.inl x))) M1 _ rfl rfl h
        · rename_i q M1
          exact kx q M1 rfl hh h
        · cases h
      · unfold cI at h
        split at h
        · rename_i x M1
          exact kk (some (.inl x)) M1 _ rfl rfl h
        · rename_i q M1
          exact kx q M1 rfl hh h
        · cases h
  · rename_i hh heh
    split at h
    · cases h
    · unfold cIh at h
      split at h
      · rename_i x M1
        exact kk (some (.inl x)) M1 _ rfl rfl h
      · rename_i q M1
        obtain ⟨⟨hp, k, ln, g1, g2, g3, g4, ⟨f, o', g5, rfl⟩⟩, g6⟩ := r_hd_ok hnx hl (ho _ rfl).1 hh h
        refine ⟨_, rfl, ⟨f, ?_⟩, g6⟩
        unfold sa_af
        simp only [cvO, cvo]
        rw [heh]
        exact ⟨hp, k, ln, g1, g2, g3, g4, g5⟩
      · cases h
end RST

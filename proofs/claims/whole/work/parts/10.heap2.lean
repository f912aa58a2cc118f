/-! ===== soundness 4: new cells, rows, things outside ===== -/
theorem sa_so3 : ∀ ci, ci < 13 → ∀ j, j < sa_nF ci → sa_so (sa_ty ci j) ≠ 3 := by decide +kernel
section SAN
variable {p : Program} {l : Launch} {e : Env} {R : Room} {s : State} {mm : MethodId} {args : Array Value} {below : List Frame} {meth : Method} {c : Code} {H : Heap} {locs : List Loc} {cells slots : Nat} {Q : State → Prop}
variable {pc : Nat} {ls : Array Slot} {X : Nat × (Nat → Int32)} {G : sa_G} {e0 : sa_Me} {m0 m : sa_Mem} {r : List Value}
theorem sa_St_alloc (hS : sa_St G s m0 m H locs cells slots) {kind len sl : Nat} {H1 : Heap} (hF : sa_mF m = false) (hn : sa_mN m < 100000) (hbs : G.1 ≤ s.heap.size) (hz : H.size = G.1 + sa_mN m) (z1 : H1.size = G.1 + sa_mN m + 1) (o1 : ∀ q, q < G.1 + sa_mN m → H1[q]? = H[q]?)
    (hc : va_at G.2.2.2.1 vwCl (G.1 + sa_mN m, sa_cell G (sa_alloc m kind len sl) (sa_mN m)) H1) : sa_St G s m0 (sa_alloc m kind len sl) H1 locs (cells + 1) (slots + sl) := by
  obtain ⟨hP, hD, hS0, hc1, hc2, hc3, hc4⟩ := hS
  have hk : ∀ (k : Nat) (x : Nat × va_E), (sa_wd G m)[k]? = some x → H1[x.1]? = H[x.1]? := fun k x hx => o1 x.1 (by rw [← hz]; exact (hP k x hx).lt)
  have hA : sa_A G (G.1 + sa_mN m) := Nat.le_add_right _ _
  refine ⟨?_, ?_, ?_, ?_, ?_, ?_, ?_⟩
  · rw [sa_wd_alloc]
    refine (hP.kept hk).app (fun k x hx => ?_)
    have hzz : k < 1 := (List.getElem?_eq_some_iff.mp hx).1
    rw [show k = 0 by omega] at hx
    cases hx
    exact hc
  · rw [sa_wd_alloc]
    exact hD.push hP hz.symm hA
  · refine ⟨by rw [z1]; have := hS0.1; omega, fun q h1 h2 => (o1 q (by have := hS0.1; omega)).trans (hS0.2.1 q h1 h2), hS0.2.2⟩
  · show sa_mC m0 + (cells + 1) = sa_mC m + 1
    omega
  · show sa_mS m0 + (slots + sl) = sa_mS m + sl
    omega
  · intro h
    obtain ⟨a, b⟩ := hc3 h
    refine ⟨a, ?_⟩
    show sa_mC m + 1 = sa_mN m + 1
    rw [b]
  · show sa_mN m + 1 ≤ 100000
    omega
theorem sa_new_ok (hA : sa_At X G p l R s mm args meth c e0 m0) (hS : sa_St G s m0 m H locs cells slots) {idx ci : Nat} (hN0 : sa_pN.lookup (e0.1, idx) = some ci) (hF : sa_mF m = false) (hn : sa_mN m < 100000) (hR : cells + 1 ≤ R.cells ∧ slots + sa_nF ci ≤ R.slots) (hd : decode e0.2.2.1 pc = .ok (.new idx, 3))
    (kk : ∀ H1 : Heap, sa_St G s m0 (sa_alloc m ci 0 (sa_nF ci)) H1 locs (cells + 1) (slots + sa_nF ci) → W p l e R s mm args below meth c H1 locs (cells + 1) (slots + sa_nF ci) Q (F0 mm (pc + 3) ls (.ref (G.1 + sa_mN m) :: r))) : W p l e R s mm args below meth c H locs cells slots Q (F0 mm pc ls r) := by
  intro T hT Z
  have hz := sa_size hA hS hT Z hF
  obtain ⟨hx, hb, -, -, hown, hts, -, -, -, -, hK, -, hbs, -⟩ := hA
  have hm := sa_lkm hN0
  have h13 : ci < 13 := sa_pNv _ hm
  obtain ⟨C, Tt, N, hc, hC, hN, hT', hfi, hty, hnm⟩ := sa_clv ci h13
  have hlink := hts _ (sa_big_N hm)
  dsimp only at hlink
  rw [hC] at hlink
  have hins := hts _ (sa_big_ins (List.mem_of_getElem? hc))
  dsimp only at hins
  have hini := hts _ (sa_big_ini (c := C) (by rw [← hC]; exact sa_Cmem ci (by omega)))
  have hKn := hK.1 ci _ hc
  refine (W.newcK hx hb hown hlink hins hini rfl hd hR.1 (by rw [← hN]; exact hR.2) hKn.2.1 hz (fun H1 kC hkC e1 z1 o1 => ?_) : W p l e R s mm args below meth c H locs cells slots Q (F0 mm pc ls r)) T hT Z
  rw [← hN]
  refine kk H1 (sa_St_alloc hS hF hn hbs hz z1 o1 ?_)
  rw [sa_cell_obj (ci := ci) (by show (va_up _ _ _ _ : Nat × Nat).1 = ci; rw [sa_up_eq]) (by omega)]
  refine ⟨_, hc, (u_born (sa_ty ci) hts (sa_big_lay (List.mem_of_getElem? hc)) hKn hkC e1 hty).to (fun j hj => ?_)⟩
  have hj' : j < sa_nF ci := by rw [hN]; exact hj
  have h3 := sa_so3 ci h13 j hj'
  unfold vp_V
  rw [List.getD_eq_getElem?_getD, sa_fs_get hj']
  simp only [Option.getD_some, sa_gf, sa_alloc, sa_mI, sa_mJ, sa_mR, sa_up_eq]
  generalize sa_ty ci j = ty at h3
  cases ty <;> first | rfl | exact absurd rfl h3
theorem sa_newa_ok (hA : sa_At X G p l R s mm args meth c e0 m0) (hS : sa_St G s m0 m H locs cells slots) {ty : ArrayType} {q : Nat} {n : Int32} (hq : sa_at 0 ty = some q) (hn0 : ¬ n < 0) (hn1 : n.toNatClampNeg ≤ 65536) (hF : sa_mF m = false) (hn : sa_mN m < 100000) (hR : cells + 1 ≤ R.cells ∧ slots + n.toNatClampNeg ≤ R.slots) (hd : decode e0.2.2.1 pc = .ok (.newarray ty, 2))
    (kk : ∀ H1 : Heap, sa_St G s m0 (sa_alloc m q n.toNatClampNeg n.toNatClampNeg) H1 locs (cells + 1) (slots + n.toNatClampNeg) → W p l e R s mm args below meth c H1 locs (cells + 1) (slots + n.toNatClampNeg) Q (F0 mm (pc + 2) ls (.ref (G.1 + sa_mN m) :: r))) : W p l e R s mm args below meth c H locs cells slots Q (F0 mm pc ls (.int n :: r)) := by
  intro T hT Z
  have hz := sa_size hA hS hT Z hF
  obtain ⟨hx, hb, -, -, hown, hts, -, -, -, -, hK, -, hbs, -⟩ := hA
  have key : ∀ (t : FieldType) (t0 : Nat), newarray.typeOf ty = t → (sa_tl G)[t0]? = some (G.2.2.2.2 q, t) → Cond.arrayClass t ∈ sa_big → componentBytes t ≤ 8 → (∀ U cA, va_RA U cA t → U.vm.findClass ("[" ++ t.toString) = some cA) →
      (∀ cA : ClassId, G.2.2.2.2 q = cA → (H1 : Heap) → H1[G.1 + sa_mN m]? = some (arrV cA n.toNatClampNeg (fun _ => defaultValue t)) → va_at G.2.2.2.1 vwCl (G.1 + sa_mN m, sa_cell G (sa_alloc m q n.toNatClampNeg n.toNatClampNeg) (sa_mN m)) H1) →
      ∃ t, Steps p.tables e below (T.setTop (F0 mm pc ls (.int n :: r))) t ∧ Q t := by
    intro t t0 e1 e2 e3 e4 e5 e6
    subst e1
    refine (va_newaK hx hb (atype := ty) (hts _ e3) rfl hd rfl hn0 rfl ?_ hR.1 hR.2 hz (fun H1 cA e1 z1 o1 hAr hNm => ?_) : W p l e R s mm args below meth c H locs cells slots Q (F0 mm pc ls (.int n :: r))) T hT Z
    · have : n.toNatClampNeg * componentBytes (newarray.typeOf ty) ≤ 65536 * 8 := Nat.mul_le_mul hn1 e4
      omega
    · have h7 := e5 s _ (hK.2 t0 _ e2).2
      have h8 : G.2.2.2.2 q = cA := Option.some.inj (h7.symm.trans hNm)
      exact kk H1 (sa_St_alloc hS hF hn hbs hz z1 o1 (e6 cA h8 H1 e1))
  have hsh : ∀ sl, (sa_sh (sa_alloc m q n.toNatClampNeg sl) (sa_mN m)) = (q, n.toNatClampNeg) := fun sl => sa_up_eq
  cases ty with
  | byte =>
    cases hq
    refine key .byte 0 rfl rfl (sa_big_ar (by simp)) (by decide) (fun U cA h => h) (fun cA hc H1 e1 => ?_)
    rw [sa_cell_int (q := 100) (by rw [hsh]) (by omega), hsh]
    show H1[_]? = some (vp_cell _ _)
    rw [e1, vp_cell_i, hc]
    simp only [sa_alloc, sa_mI, sa_mJ, sa_up_eq]
    rfl
  | int =>
    cases hq
    refine key .int 1 rfl rfl (sa_big_ar (by simp)) (by decide) (fun U cA h => h) (fun cA hc H1 e1 => ?_)
    rw [sa_cell_int (q := 101) (by rw [hsh]) (by omega), hsh]
    show H1[_]? = some (vp_cell _ _)
    rw [e1, vp_cell_i, hc]
    simp only [sa_alloc, sa_mI, sa_mJ, sa_up_eq]
    rfl
  | long =>
    cases hq
    refine key .long 2 rfl rfl (sa_big_ar (by simp)) (by decide) (fun U cA h => h) (fun cA hc H1 e1 => ?_)
    rw [sa_cell_long (by rw [hsh]), hsh]
    show H1[_]? = some (vp_cell _ _)
    rw [e1, vp_cell_l, hc]
    simp only [sa_alloc, sa_mI, sa_mJ, sa_up_eq]
    rfl
  | boolean =>
    cases hq
    refine key .boolean 3 rfl rfl (sa_big_ar (by simp)) (by decide) (fun U cA h => h) (fun cA hc H1 e1 => ?_)
    rw [sa_cell_int (q := 103) (by rw [hsh]) (by omega), hsh]
    show H1[_]? = some (vp_cell _ _)
    rw [e1, vp_cell_i, hc]
    simp only [sa_alloc, sa_mI, sa_mJ, sa_up_eq]
    rfl
  | _ => cases hq
theorem sa_ld_in {k q n : Nat} {f : Nat → Int32} (h : sa_arr X m k = some (q, n, f)) (hk : k < sa_mN m) : (sa_sh m k).1 = q ∧ (sa_sh m k).2 = n ∧ sa_mI m k = f ∧ 100 ≤ q := by
  unfold sa_arr at h
  rw [if_pos hk] at h
  split at h
  · rename_i h100
    injection h with h
    injection h with h1 h2
    injection h2 with h2 h3
    exact ⟨h1, h2, h3, h1 ▸ h100⟩
  · cases h
theorem sa_ial_ok (hA : sa_At X G p l R s mm args meth c e0 m0) (hS : sa_St G s m0 m H locs cells slots) {k n : Nat} {f : Nat → Int32} {i : Int32} (h : sa_arr X m k = some (101, n, f)) (hin : vp_in i n) (hd : decode e0.2.2.1 pc = .ok (.iaload, 1))
    (kk : W p l e R s mm args below meth c H locs cells slots Q (F0 mm (pc + 1) ls (.int (f i.toNatClampNeg) :: r))) : W p l e R s mm args below meth c H locs cells slots Q (F0 mm pc ls (.int i :: sa_av G k :: r)) := by
  obtain ⟨hx, hb, -, -, hown, hts, -, -, -, -, hK, hE, hbs, -⟩ := hA
  obtain ⟨hP, hD, hS0, -, -, -, hc4⟩ := hS
  by_cases hk : k < sa_mN m
  · obtain ⟨a1, a2, a3, -⟩ := sa_ld_in h hk
    subst a2; subst a3
    rw [sa_av_lo (by omega)]
    exact va_iald hx hb hK hP k 1 (by rw [sa_wd_get hk, sa_cell_int a1 (by omega)]) rfl hin hd kk
  · unfold sa_arr at h
    rw [if_neg hk] at h
    unfold sa_xa at h
    obtain ⟨⟨e1, e1b, e1c⟩, e2, -⟩ := hE
    split at h
    · rename_i hk0
      subst hk0
      injection h with h
      injection h with h1 h2
      injection h2 with h2 h3
      subst h2; subst h3
      rw [sa_av_hi (by omega) (by omega)]
      exact va_sld hx hb e1 e1b e1c hS0 hin hd kk
    · split at h
      · rename_i hk1
        injection h with h
        injection h with h1 h2
        injection h2 with h2 h3
        subst h2; subst h3
        rw [sa_av_hi (by omega) (by omega)]
        have e3 := e2 (k - 100001) (by omega)
        rw [show 100001 + (k - 100001) = k by omega] at e3
        exact va_ti hx hb e3 hS0 hin rfl hd kk
      · split at h
        · injection h with h
          injection h with h1 h2
          cases h1
        · cases h
theorem sa_txt_len (i : Nat) : (sa_txt.map List.length).getD i 0 = (sa_txt.getD i []).length := by
  rw [List.getD_eq_getElem?_getD, List.getD_eq_getElem?_getD, List.getElem?_map]
  cases sa_txt[i]? <;> rfl
theorem sa_bal_ok (hA : sa_At X G p l R s mm args meth c e0 m0) (hS : sa_St G s m0 m H locs cells slots) {k n : Nat} {f : Nat → Int32} {i : Int32} (h : sa_arr X m k = some (100, n, f) ∨ (k < sa_mN m ∧ sa_arr X m k = some (103, n, f))) (hin : vp_in i n) (hd : decode e0.2.2.1 pc = .ok (.baload, 1))
    (kk : W p l e R s mm args below meth c H locs cells slots Q (F0 mm (pc + 1) ls (.int (f i.toNatClampNeg) :: r))) : W p l e R s mm args below meth c H locs cells slots Q (F0 mm pc ls (.int i :: sa_av G k :: r)) := by
  obtain ⟨hx, hb, -, -, hown, hts, -, -, -, -, hK, hE, hbs, -⟩ := hA
  obtain ⟨hP, hD, hS0, -, -, -, hc4⟩ := hS
  by_cases hk : k < sa_mN m
  · rw [sa_av_lo (by omega)]
    rcases h with h | ⟨-, h⟩
    · obtain ⟨a1, a2, a3, -⟩ := sa_ld_in h hk
      subst a2; subst a3
      exact va_bald hx hb hK hP k 0 (by rw [sa_wd_get hk, sa_cell_int a1 (by omega)]) rfl hin hd kk
    · obtain ⟨a1, a2, a3, -⟩ := sa_ld_in h hk
      subst a2; subst a3
      exact va_zald hx hb hK hP k 3 (by rw [sa_wd_get hk, sa_cell_int a1 (by omega)]) rfl hin hd kk
  · rcases h with h | ⟨h, -⟩
    · unfold sa_arr at h
      rw [if_neg hk] at h
      unfold sa_xa at h
      obtain ⟨-, -, -, -, -, e6, -⟩ := hE
      split at h
      · injection h with h
        injection h with h1 h2
        cases h1
      · split at h
        · injection h with h
          injection h with h1 h2
          cases h1
        · split at h
          · rename_i hk1
            injection h with h
            injection h with h1 h2
            injection h2 with h2 h3
            subst h2; subst h3
            rw [sa_av_hi (by omega) (by omega)]
            have e3 := (e6 (k - 100200) (by omega)).2.2.2
            rw [show 100200 + (k - 100200) = k by omega] at e3
            exact va_tb hx hb e3 hS0 hin rfl hd kk
          · cases h
    · exact absurd h hk
theorem sa_aln_ok (hA : sa_At X G p l R s mm args meth c e0 m0) (hS : sa_St G s m0 m H locs cells slots) {k q n : Nat} {f : Nat → Int32} (h : sa_arr X m k = some (q, n, f)) (hq : q < 104) (hd : decode e0.2.2.1 pc = .ok (.arraylength, 1))
    (kk : W p l e R s mm args below meth c H locs cells slots Q (F0 mm (pc + 1) ls (.int (Int32.ofNat n) :: r))) : W p l e R s mm args below meth c H locs cells slots Q (F0 mm pc ls (sa_av G k :: r)) := by
  obtain ⟨hx, hb, -, -, hown, hts, -, -, -, -, hK, hE, hbs, -⟩ := hA
  obtain ⟨hP, hD, hS0, -, -, -, hc4⟩ := hS
  by_cases hk : k < sa_mN m
  · obtain ⟨a1, a2, a3, a4⟩ := sa_ld_in h hk
    subst a2
    rw [sa_av_lo (by omega)]
    have hq4 : q = 100 ∨ q = 101 ∨ q = 102 ∨ q = 103 := by omega
    rcases hq4 with rfl | rfl | rfl | rfl
    · exact va_alen hx hb hK hP k 0 (by rw [sa_wd_get hk, sa_cell_int a1 (by omega)]) (ty := .byte) rfl rfl hd kk
    · exact va_alen hx hb hK hP k 1 (by rw [sa_wd_get hk, sa_cell_int a1 (by omega)]) (ty := .int) rfl rfl hd kk
    · exact va_alen hx hb hK hP k 2 (by rw [sa_wd_get hk, sa_cell_long a1]) (ty := .long) rfl rfl hd kk
    · exact va_alen hx hb hK hP k 3 (by rw [sa_wd_get hk, sa_cell_int a1 (by omega)]) (ty := .boolean) rfl rfl hd kk
  · unfold sa_arr at h
    rw [if_neg hk] at h
    unfold sa_xa at h
    obtain ⟨⟨e1, e1b, e1c⟩, e2, -, -, -, e6, -⟩ := hE
    split at h
    · rename_i hk0
      subst hk0
      injection h with h
      injection h with h1 h2
      injection h2 with h2 h3
      subst h2
      rw [sa_av_hi (by omega) (by omega)]
      exact va_slen hx hb e1 e1b e1c hS0 hd kk
    · split at h
      · rename_i hk1
        injection h with h
        injection h with h1 h2
        injection h2 with h2 h3
        subst h2
        rw [sa_av_hi (by omega) (by omega)]
        have e3 := e2 (k - 100001) (by omega)
        rw [show 100001 + (k - 100001) = k by omega] at e3
        exact va_tlen hx hb e3 hS0 rfl hd kk
      · split at h
        · rename_i hk1
          injection h with h
          injection h with h1 h2
          injection h2 with h2 h3
          subst h2
          rw [sa_av_hi (by omega) (by omega)]
          have e3 := (e6 (k - 100200) (by omega)).2.2.2
          rw [show 100200 + (k - 100200) = k by omega] at e3
          exact va_tlen hx hb e3 hS0 rfl hd kk
        · cases h
end SAN

/-! ===== the reckoner is sound ===== -/
def cvq (v : rq) : Value := match v with
  | .inl x => .int (Int32.ofInt x)
  | .inr (.inl x) => .long x
  | .inr (.inr k) => .ref k
def cvl (v : Option rq) : Value := match v with
  | none => sa_no
  | some w => cvq w
def cvM (M : rM) : sa_Mem := sa_mk M.1 (fun k j => Int32.ofInt (M.2.1 k j)) M.2.2
def cvo (o : Option rq ⊕ Nat) : Option Value ⊕ Nat := match o with
  | .inl v => .inl (v.map cvq)
  | .inr q => .inr q
def cvO (o : rO) : sa_Out := (cvo o.1, cvM o.2)
def rgi (x : Int) : Prop := -2147483648 ≤ x ∧ x < 2147483648
def rgq (v : rq) : Prop := match v with
  | .inl x => rgi x
  | .inr _ => True
def rgs (st : List rq) : Prop := ∀ v ∈ st, rgq v
def rgl (lo : List (Option rq)) : Prop := ∀ (k : Nat) (v : rq), lo[k]? = some (some v) → rgq v
def rgM (M : rM) : Prop := ∀ k j, rgi (M.2.1 k j)
def rgO (o : rO) : Prop := rgM o.2 ∧ ∀ v, o.1 = .inl (some v) → rgq v
theorem rg_t (v : Int32) : rgi v.toInt := by
  have h1 := v.le_toInt
  have h2 := v.toInt_lt
  unfold rgi
  omega
theorem to_of {x : Int} (h : rgi x) : (Int32.ofInt x).toInt = x := by
  unfold rgi at h
  exact Int32.toInt_ofInt_of_le (by omega) (by omega)
theorem wr_id {x : Int} (h : rgi x) : wr x = x := by rw [wr_df]; exact to_of h
theorem rg_wr (x : Int) : rgi (wr x) := by rw [wr_df]; exact rg_t _
theorem of_wr (x : Int) : Int32.ofInt (wr x) = Int32.ofInt x := by rw [wr_df]; exact Int32.ofInt_toInt _
theorem of_lt {x y : Int} (hx : rgi x) (hy : rgi y) : Int32.ofInt x < Int32.ofInt y ↔ x < y := by rw [Int32.lt_iff_toInt_lt, to_of hx, to_of hy]
theorem of_le {x y : Int} (hx : rgi x) (hy : rgi y) : Int32.ofInt x ≤ Int32.ofInt y ↔ x ≤ y := by rw [Int32.le_iff_toInt_le, to_of hx, to_of hy]
theorem of_eq {x y : Int} (hx : rgi x) (hy : rgi y) : Int32.ofInt x = Int32.ofInt y ↔ x = y := by rw [← Int32.toInt_inj, to_of hx, to_of hy]
theorem rgi_0 : rgi 0 := by unfold rgi; omega
theorem of_0 : (0 : Int32) = Int32.ofInt 0 := by decide
theorem of_clamp {x : Int} (h : rgi x) : (Int32.ofInt x).toNatClampNeg = x.toNat := by rw [← Int32.toNat_toInt, to_of h]
theorem of_in {i : Int} {n : Nat} (h : rgi i) (h0 : 0 ≤ i) (h1 : i < (n : Int)) : vp_in (Int32.ofInt i) n := by
  unfold vp_in
  rw [of_clamp h, of_0, of_lt h rgi_0]
  omega
theorem cvl_get {lo : List (Option rq)} {k : Nat} {v : Option rq} (h : lo[k]? = some v) : (lo.map cvl)[k]? = some (cvl v) := by rw [List.getElem?_map, h]; rfl
theorem cv_kill (lo : List (Option rq)) (i : Nat) : sa_kill (lo.map cvl) i = (r_kill lo i).map cvl := by
  cases i with
  | zero => rfl
  | succ j =>
    unfold sa_kill r_kill
    dsimp only
    rw [List.getElem?_map]
    cases h : lo[j]? with
    | none => rfl
    | some v =>
      rcases v with _ | (x | (x | x))
      · rfl
      · rfl
      · simp [cvl, cvq, Value.category, List.map_set]
      · rfl
theorem cv_st1 (lo : List (Option rq)) (i : Nat) (v : rq) : sa_st1 (lo.map cvl) i (cvq v) = (r_st1 lo i v).map cvl := by
  unfold sa_st1
  rw [r_st1_eq, cv_kill, List.map_set]
  rfl
theorem cv_st2 (lo : List (Option rq)) (i : Nat) (v : rq) : sa_st2 (lo.map cvl) i (cvq v) = (r_st2 lo i v).map cvl := by
  unfold sa_st2 r_st2
  rw [r_st1_eq, cv_kill, List.map_set, List.map_set]
  rfl
theorem rgl_set {lo : List (Option rq)} (h : rgl lo) (i : Nat) {v : Option rq} (hv : ∀ w, v = some w → rgq w) : rgl (lo.set i v) := by
  intro k w hk
  rw [List.getElem?_set] at hk
  split at hk
  · split at hk
    · exact hv w (Option.some.inj hk)
    · cases hk
  · exact h k w hk
theorem rgl_kill {lo : List (Option rq)} (h : rgl lo) (i : Nat) : rgl (r_kill lo i) := by
  cases i with
  | zero => exact h
  | succ j =>
    unfold r_kill
    dsimp only
    split
    · exact rgl_set h _ (fun w hw => by cases hw)
    · exact h
theorem rgl_st1 {lo : List (Option rq)} (h : rgl lo) (i : Nat) {v : rq} (hv : rgq v) : rgl (r_st1 lo i v) := by
  rw [r_st1_eq]
  exact rgl_set (rgl_kill h i) _ (fun w hw => by cases hw; exact hv)
theorem rgl_st2 {lo : List (Option rq)} (h : rgl lo) (i : Nat) {v : rq} (hv : rgq v) : rgl (r_st2 lo i v) := rgl_set (rgl_st1 h i hv) _ (fun w hw => by cases hw)
theorem rgs_c {v : rq} {st : List rq} (hv : rgq v) (h : rgs st) : rgs (v :: st) := List.forall_mem_cons.2 ⟨hv, h⟩
theorem rgs_h {v : rq} {st : List rq} (h : rgs (v :: st)) : rgq v := (List.forall_mem_cons.1 h).1
theorem rgs_t {v : rq} {st : List rq} (h : rgs (v :: st)) : rgs st := (List.forall_mem_cons.1 h).2
section RPU
variable {lo lo' : List (Option rq)} {st st' : List rq}
theorem r_ldI_ok {k : Nat} (h : r_ldI lo st k = some (lo', st')) (hl : rgl lo) (hs : rgs st) : sa_ldI (lo.map cvl) (st.map cvq) k = some (lo'.map cvl, st'.map cvq) ∧ rgl lo' ∧ rgs st' := by
  unfold r_ldI at h
  split at h
  · rename_i x hx
    cases h
    refine ⟨?_, hl, rgs_c (hl k _ hx) hs⟩
    unfold sa_ldI
    rw [cvl_get hx]
    rfl
  · cases h
theorem r_ldL_ok {k : Nat} (h : r_ldL lo st k = some (lo', st')) (hl : rgl lo) (hs : rgs st) : sa_ldL (lo.map cvl) (st.map cvq) k = some (lo'.map cvl, st'.map cvq) ∧ rgl lo' ∧ rgs st' := by
  unfold r_ldL at h
  split at h
  · rename_i x hx
    cases h
    refine ⟨?_, hl, rgs_c trivial hs⟩
    unfold sa_ldL
    rw [cvl_get hx]
    rfl
  · cases h
theorem r_ldA_ok {k : Nat} (h : r_ldA lo st k = some (lo', st')) (hl : rgl lo) (hs : rgs st) : sa_ldA (lo.map cvl) (st.map cvq) k = some (lo'.map cvl, st'.map cvq) ∧ rgl lo' ∧ rgs st' := by
  unfold r_ldA at h
  split at h
  · rename_i x hx
    split at h
    · cases h
    · rename_i hne
      cases h
      refine ⟨?_, hl, rgs_c trivial hs⟩
      unfold sa_ldA
      rw [cvl_get hx]
      simp [cvl, cvq, hne]
  · cases h
theorem r_stI_ok {k : Nat} (h : r_stI lo st k = some (lo', st')) (hl : rgl lo) (hs : rgs st) : sa_stI (lo.map cvl) (st.map cvq) k = some (lo'.map cvl, st'.map cvq) ∧ rgl lo' ∧ rgs st' := by
  unfold r_stI at h
  split at h
  · rename_i x r
    split at h
    · rename_i hk
      cases h
      refine ⟨?_, rgl_st1 hl k (rgs_h hs), rgs_t hs⟩
      unfold sa_stI
      simp only [List.map_cons, cvq, List.length_map, if_pos hk]
      rw [← cv_st1]
      rfl
    · cases h
  · cases h
theorem r_stL_ok {k : Nat} (h : r_stL lo st k = some (lo', st')) (hl : rgl lo) (hs : rgs st) : sa_stL (lo.map cvl) (st.map cvq) k = some (lo'.map cvl, st'.map cvq) ∧ rgl lo' ∧ rgs st' := by
  unfold r_stL at h
  split at h
  · rename_i x r
    split at h
    · rename_i hk
      cases h
      refine ⟨?_, rgl_st2 hl k (rgs_h hs), rgs_t hs⟩
      unfold sa_stL
      simp only [List.map_cons, cvq, List.length_map, if_pos hk]
      rw [← cv_st2]
      rfl
    · cases h
  · cases h
theorem r_stA_ok {k : Nat} (h : r_stA lo st k = some (lo', st')) (hl : rgl lo) (hs : rgs st) : sa_stA (lo.map cvl) (st.map cvq) k = some (lo'.map cvl, st'.map cvq) ∧ rgl lo' ∧ rgs st' := by
  unfold r_stA at h
  split at h
  · rename_i x r
    split at h
    · cases h
    · rename_i hne
      split at h
      · rename_i hk
        cases h
        refine ⟨?_, rgl_st1 hl k (rgs_h hs), rgs_t hs⟩
        unfold sa_stA
        simp only [List.map_cons, cvq, List.length_map, if_pos hk, if_neg hne]
        rw [← cv_st1]
        rfl
      · cases h
  · cases h
theorem r_bi_ok {g : Int → Int → Int} {g' : Int32 → Int32 → Int32} (hg : ∀ x y, Int32.ofInt (g x y) = g' (Int32.ofInt x) (Int32.ofInt y)) (hr : ∀ x y, rgi (g x y)) (h : r_bi lo st g = some (lo', st')) (hl : rgl lo) (hs : rgs st) : sa_bi (lo.map cvl) (st.map cvq) g' = some (lo'.map cvl, st'.map cvq) ∧ rgl lo' ∧ rgs st' := by
  unfold r_bi at h
  split at h
  · rename_i y x r
    cases h
    refine ⟨?_, hl, rgs_c (hr x y) (rgs_t (rgs_t hs))⟩
    simp only [sa_bi, List.map_cons, cvq, hg]
  · cases h
theorem r_bl_ok {g : Int64 → Int64 → Int64} (h : r_bl lo st g = some (lo', st')) (hl : rgl lo) (hs : rgs st) : sa_bl (lo.map cvl) (st.map cvq) g = some (lo'.map cvl, st'.map cvq) ∧ rgl lo' ∧ rgs st' := by
  unfold r_bl at h
  split at h
  · rename_i y x r
    cases h
    exact ⟨rfl, hl, rgs_c trivial (rgs_t (rgs_t hs))⟩
  · cases h
theorem r_c1_ok {v : rq} (h : r_c1 v = true) : (cvq v).category = 1 := by
  rcases v with x | (x | x)
  · rfl
  · cases h
  · rfl
theorem of_t (x : Int32) : Int32.ofInt x.toInt = x := Int32.ofInt_toInt x
theorem of_i8 {n : Int} (h : -128 ≤ n ∧ n ≤ 127) : (Int8.ofInt n).toInt32 = Int32.ofInt n := by
  apply Int32.toInt_inj.1
  rw [Int8.toInt_toInt32, Int8.toInt_ofInt_of_le (by omega) (by omega), to_of (by unfold rgi; omega)]
theorem of_i16 {n : Int} (h : -32768 ≤ n ∧ n ≤ 32767) : (Int16.ofInt n).toInt32 = Int32.ofInt n := by
  apply Int32.toInt_inj.1
  rw [Int16.toInt_toInt32, Int16.toInt_ofInt_of_le (by omega) (by omega), to_of (by unfold rgi; omega)]
set_option maxHeartbeats 4000000 in
theorem rpu_ok (i : Instr) (h : rpu i lo st = some (lo', st')) (hl : rgl lo) (hs : rgs st) : sa_pu i (lo.map cvl) (st.map cvq) = some (lo'.map cvl, st'.map cvq) ∧ rgl lo' ∧ rgs st' := by
  unfold rpu at h
  split at h
  · split at h
    · rename_i n hn
      cases h
      exact ⟨rfl, hl, rgs_c (by show rgi n; unfold rgi; omega) hs⟩
    · cases h
  · split at h
    · rename_i n hn
      cases h
      refine ⟨?_, hl, rgs_c (by show rgi n; unfold rgi; omega) hs⟩
      simp only [sa_pu, of_i8 hn, List.map_cons, cvq]
    · cases h
  · split at h
    · rename_i n hn
      cases h
      refine ⟨?_, hl, rgs_c (by show rgi n; unfold rgi; omega) hs⟩
      simp only [sa_pu, of_i16 hn, List.map_cons, cvq]
    · cases h
  · cases h
    exact ⟨rfl, hl, rgs_c trivial hs⟩
  · exact r_ldI_ok h hl hs
  · exact r_ldI_ok h hl hs
  · exact r_ldL_ok h hl hs
  · exact r_ldL_ok h hl hs
  · exact r_ldA_ok h hl hs
  · exact r_ldA_ok h hl hs
  · exact r_stI_ok h hl hs
  · exact r_stI_ok h hl hs
  · exact r_stL_ok h hl hs
  · exact r_stL_ok h hl hs
  · exact r_stA_ok h hl hs
  · exact r_stA_ok h hl hs
  · split at h
    · rename_i k n _ x hx
      cases h
      refine ⟨?_, rgl_st1 hl k (rg_wr _), hs⟩
      simp only [sa_pu]
      rw [cvl_get hx]
      simp only [cvl, cvq]
      rw [← cv_st1]
      simp only [cvq, of_wr, Int32.ofInt_add]
    · cases h
  · exact r_bi_ok (fun x y => by simp only [of_wr, Int32.ofInt_add]) (fun x y => rg_wr _) h hl hs
  · exact r_bi_ok (fun x y => by simp only [of_wr, Int32.ofInt_sub]) (fun x y => rg_wr _) h hl hs
  · exact r_bi_ok (fun x y => by simp only [of_wr, Int32.ofInt_mul]) (fun x y => rg_wr _) h hl hs
  · exact r_bi_ok (fun x y => by rw [iand_df, of_t]) (fun x y => by rw [iand_df]; exact rg_t _) h hl hs
  · exact r_bi_ok (fun x y => by rw [ior_df, of_t]) (fun x y => by rw [ior_df]; exact rg_t _) h hl hs
  · exact r_bi_ok (fun x y => by rw [ixor_df, of_t]) (fun x y => by rw [ixor_df]; exact rg_t _) h hl hs
  · exact r_bi_ok (fun x y => by rw [ishl_df, of_t]) (fun x y => by rw [ishl_df]; exact rg_t _) h hl hs
  · exact r_bi_ok (fun x y => by rw [ishr_df, of_t]) (fun x y => by rw [ishr_df]; exact rg_t _) h hl hs
  · exact r_bi_ok (fun x y => by rw [iush_df, of_t]) (fun x y => by rw [iush_df]; exact rg_t _) h hl hs
  · exact r_bl_ok h hl hs
  · exact r_bl_ok h hl hs
  · exact r_bl_ok h hl hs
  · exact r_bl_ok h hl hs
  · exact r_bl_ok h hl hs
  · split at h
    · cases h
      refine ⟨?_, hl, rgs_c trivial (rgs_t (rgs_t hs))⟩
      simp only [sa_pu, List.map_cons, cvq, jshl_df]
    · cases h
  · split at h
    · cases h
      refine ⟨?_, hl, rgs_c trivial (rgs_t (rgs_t hs))⟩
      simp only [sa_pu, List.map_cons, cvq, jshr_df]
    · cases h
  · split at h
    · rename_i y x r
      cases h
      refine ⟨?_, hl, rgs_c (v := .inl (jcmp x y)) (by rw [jcmp_df]; exact rg_t _) (rgs_t (rgs_t hs))⟩
      simp only [sa_pu, List.map_cons, cvq, jcmp_df, of_t]
    · cases h
  · split at h
    · cases h
      refine ⟨?_, hl, rgs_c trivial (rgs_t hs)⟩
      simp only [sa_pu, List.map_cons, cvq, i2j_df]
    · cases h
  · split at h
    · rename_i x r
      cases h
      refine ⟨?_, hl, rgs_c (v := .inl (j2i x)) (by rw [j2i_df]; exact rg_t _) (rgs_t hs)⟩
      simp only [sa_pu, List.map_cons, cvq, j2i_df, of_t]
    · cases h
  · unfold r_ui at h
    split at h
    · rename_i x r
      cases h
      refine ⟨?_, hl, rgs_c (v := .inl (bnar x)) (by rw [bnar_df]; exact rg_t _) (rgs_t hs)⟩
      simp only [sa_pu, List.map_cons, cvq, bnar_df, of_t]
    · cases h
  · unfold r_ui at h
    split at h
    · rename_i x r
      cases h
      refine ⟨?_, hl, rgs_c (v := .inl (cnar x)) (by rw [cnar_df]; exact rg_t _) (rgs_t hs)⟩
      simp only [sa_pu, List.map_cons, cvq, cnar_df, of_t]
    · cases h
  · split at h
    · split at h
      · rename_i v r hc
        cases h
        refine ⟨?_, hl, rgs_c (rgs_h hs) hs⟩
        simp only [sa_pu, List.map_cons, r_c1_ok hc, if_true]
      · cases h
    · cases h
  · split at h
    · split at h
      · rename_i v r hc
        cases h
        refine ⟨?_, hl, rgs_t hs⟩
        simp only [sa_pu, List.map_cons, r_c1_ok hc, if_true]
      · cases h
    · cases h
  · split at h
    · split at h
      · rename_i v w r hc
        cases h
        rw [Bool.and_eq_true] at hc
        refine ⟨?_, hl, rgs_c (rgs_h hs) (rgs_c (rgs_h (rgs_t hs)) (rgs_c (rgs_h hs) (rgs_t (rgs_t hs))))⟩
        simp only [sa_pu, List.map_cons, r_c1_ok hc.1, r_c1_ok hc.2, and_self, if_true]
      · cases h
    · cases h
  · split at h
    · split at h
      · rename_i v w r hc
        cases h
        rw [Bool.and_eq_true] at hc
        refine ⟨?_, hl, rgs_c (rgs_h hs) (rgs_c (rgs_h (rgs_t hs)) hs)⟩
        simp only [sa_pu, List.map_cons, r_c1_ok hc.1, r_c1_ok hc.2, and_self, if_true]
      · cases h
    · cases h
  · cases h
end RPU

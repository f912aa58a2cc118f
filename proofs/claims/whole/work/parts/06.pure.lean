/-! ===== soundness 1: locals and stack ===== -/
def sa_cv (av : Nat → Value) (v : Value) : Value := match v with
  | .ref k => av k
  | v => v
def sa_lv (av : Nat → Value) (lo : List Value) : List (Nat × Value) := lo.zipIdx.filterMap (fun q => if sa_isn q.1 then none else some (q.2, sa_cv av q.1))
theorem sa_lv_mem {av : Nat → Value} {lo : List Value} {i : Nat} {w : Value} : (i, w) ∈ sa_lv av lo ↔ ∃ v, lo[i]? = some v ∧ sa_isn v = false ∧ w = sa_cv av v := by
  unfold sa_lv
  rw [List.mem_filterMap]
  constructor
  · rintro ⟨⟨v, j⟩, h1, h2⟩
    rw [List.mem_zipIdx_iff_getElem?] at h1
    by_cases hv : sa_isn v = true
    · simp [hv] at h2
    · have hv2 : sa_isn v = false := by simpa using hv
      simp [hv2] at h2
      obtain ⟨rfl, rfl⟩ := h2
      exact ⟨v, h1, hv2, rfl⟩
  · rintro ⟨v, h1, h2, rfl⟩
    exact ⟨(v, i), List.mem_zipIdx_iff_getElem?.mpr h1, by simp [h2]⟩
def sa_LR (av : Nat → Value) (lo : List Value) (ls : Array Slot) : Prop := lv_has ls lo.length (sa_lv av lo)
theorem sa_LR.get {av : Nat → Value} {lo : List Value} {ls : Array Slot} (h : sa_LR av lo ls) {i : Nat} {v : Value} (hv : lo[i]? = some v) (hn : sa_isn v = false) : ls[i]? = some (.val (sa_cv av v)) := h.2.2 (i, _) (sa_lv_mem.mpr ⟨v, hv, hn, rfl⟩)
theorem sa_cv_cat {av : Nat → Value} (hav : ∀ k, (av k).category = 1) (v : Value) : (sa_cv av v).category = v.category := by
  cases v with
  | ref k => exact hav k
  | _ => rfl
theorem sa_kill_len (lo : List Value) (i : Nat) : (sa_kill lo i).length = lo.length := by
  unfold sa_kill
  split
  · rfl
  · split
    · split
      · simp
      · rfl
    · rfl
theorem sa_kill_get {lo : List Value} {i j : Nat} {v : Value} (h : (sa_kill lo i)[j]? = some v) (hn : sa_isn v = false) : lo[j]? = some v ∧ ¬ (j + 1 = i ∧ v.category = 2) := by
  unfold sa_kill at h
  split at h
  · exact ⟨h, fun q => by omega⟩
  · rename_i k
    split at h
    · rename_i u hu
      split at h
      · rename_i hc
        by_cases hj : j = k
        · subst hj
          have hl := (List.getElem?_eq_some_iff.mp hu).1
          rw [List.getElem?_set_self hl] at h
          cases h
          cases hn
        · rw [List.getElem?_set_ne (Ne.symm hj)] at h
          exact ⟨h, fun q => hj (by omega)⟩
      · rename_i hc
        refine ⟨h, fun q => ?_⟩
        have hj : j = k := by omega
        subst hj
        rw [hu] at h
        cases h
        exact hc q.2
    · rename_i hu
      refine ⟨h, fun q => ?_⟩
      have hj : j = k := by omega
      subst hj
      rw [hu] at h
      cases h
theorem sa_LR.st1 {av : Nat → Value} {lo : List Value} {ls' : Array Slot} {i : Nat} {w : Value} (hav : ∀ k, (av k).category = 1) (hi : i < lo.length)
    (h : lv_has ls' lo.length ((i, sa_cv av w) :: (sa_lv av lo).filter (fun q => !(q.1 == i) && !(q.1 + 1 == i && q.2.category == 2)))) : sa_LR av (sa_st1 lo i w) ls' := by
  have hlen : (sa_st1 lo i w).length = lo.length := by unfold sa_st1; rw [List.length_set, sa_kill_len]
  refine ⟨by rw [hlen]; exact h.1, h.2.1, ?_⟩
  rintro ⟨j, u⟩ hq
  obtain ⟨v, h1, h2, rfl⟩ := sa_lv_mem.mp hq
  refine h.2.2 (j, sa_cv av v) ?_
  unfold sa_st1 at h1
  by_cases hj : j = i
  · subst hj
    rw [List.getElem?_set_self (by rw [sa_kill_len]; exact hi)] at h1
    cases h1
    exact List.mem_cons_self
  · rw [List.getElem?_set_ne (Ne.symm hj)] at h1
    obtain ⟨h3, h4⟩ := sa_kill_get h1 h2
    refine List.mem_cons_of_mem _ (List.mem_filter.mpr ⟨sa_lv_mem.mpr ⟨v, h3, h2, rfl⟩, ?_⟩)
    simp only [Bool.and_eq_true, Bool.not_eq_true', beq_eq_false_iff_ne, ne_eq, Bool.and_eq_false_iff, sa_cv_cat hav]
    refine ⟨hj, ?_⟩
    by_cases h5 : j + 1 = i
    · exact Or.inr (fun h6 => h4 ⟨h5, h6⟩)
    · exact Or.inl h5
theorem sa_LR.st2 {av : Nat → Value} {lo : List Value} {ls' : Array Slot} {i : Nat} {w : Value} (hav : ∀ k, (av k).category = 1) (hi : i + 1 < lo.length)
    (h : lv_has ls' lo.length ((i, sa_cv av w) :: (sa_lv av lo).filter (fun q => !(q.1 == i) && (!(q.1 == i + 1) && !(q.1 + 1 == i && q.2.category == 2))))) : sa_LR av (sa_st2 lo i w) ls' := by
  have hlen : (sa_st2 lo i w).length = lo.length := by unfold sa_st2; rw [List.length_set, List.length_set, sa_kill_len]
  refine ⟨by rw [hlen]; exact h.1, h.2.1, ?_⟩
  rintro ⟨j, u⟩ hq
  obtain ⟨v, h1, h2, rfl⟩ := sa_lv_mem.mp hq
  refine h.2.2 (j, sa_cv av v) ?_
  unfold sa_st2 at h1
  by_cases hj1 : j = i + 1
  · subst hj1
    rw [List.getElem?_set_self (by rw [List.length_set, sa_kill_len]; exact hi)] at h1
    cases h1
    cases h2
  · rw [List.getElem?_set_ne (Ne.symm hj1)] at h1
    by_cases hj : j = i
    · subst hj
      rw [List.getElem?_set_self (by rw [sa_kill_len]; omega)] at h1
      cases h1
      exact List.mem_cons_self
    · rw [List.getElem?_set_ne (Ne.symm hj)] at h1
      obtain ⟨h3, h4⟩ := sa_kill_get h1 h2
      refine List.mem_cons_of_mem _ (List.mem_filter.mpr ⟨sa_lv_mem.mpr ⟨v, h3, h2, rfl⟩, ?_⟩)
      simp only [Bool.and_eq_true, Bool.not_eq_true', beq_eq_false_iff_ne, ne_eq, Bool.and_eq_false_iff, sa_cv_cat hav]
      refine ⟨hj, hj1, ?_⟩
      by_cases h5 : j + 1 = i
      · exact Or.inr (fun h6 => h4 ⟨h5, h6⟩)
      · exact Or.inl h5
section SAP
variable {p : Program} {l : Launch} {e : Env} {R : Room} {s : State} {mm : MethodId} {args : Array Value} {below : List Frame} {meth : Method} {c : Code} {H : Heap} {locs : List Loc} {cells slots : Nat} {Q : State → Prop}
variable {cc : ByteArray} {pc : Nat} {ls : Array Slot} {av : Nat → Value} {lo st lo' st' : List Value}
theorem sa_bi_ok {g : Int32 → Int32 → Int32} {n : Nat} (hp : sa_bi lo st g = some (lo', st')) (hl : sa_LR av lo ls)
    (k : ∀ ls' : Array Slot, sa_LR av lo' ls' → W p l e R s mm args below meth c H locs cells slots Q (F0 mm n ls' (st'.map (sa_cv av))))
    (row : ∀ (x y : Int32) (r : List Value), W p l e R s mm args below meth c H locs cells slots Q (F0 mm n ls (.int (g x y) :: r)) → W p l e R s mm args below meth c H locs cells slots Q (F0 mm pc ls (.int y :: .int x :: r))) :
    W p l e R s mm args below meth c H locs cells slots Q (F0 mm pc ls (st.map (sa_cv av))) := by
  unfold sa_bi at hp
  split at hp
  · cases hp
    exact row _ _ _ (k ls hl)
  · cases hp
theorem sa_bl_ok {g : Int64 → Int64 → Int64} {n : Nat} (hp : sa_bl lo st g = some (lo', st')) (hl : sa_LR av lo ls)
    (k : ∀ ls' : Array Slot, sa_LR av lo' ls' → W p l e R s mm args below meth c H locs cells slots Q (F0 mm n ls' (st'.map (sa_cv av))))
    (row : ∀ (x y : Int64) (r : List Value), W p l e R s mm args below meth c H locs cells slots Q (F0 mm n ls (.long (g x y) :: r)) → W p l e R s mm args below meth c H locs cells slots Q (F0 mm pc ls (.long y :: .long x :: r))) :
    W p l e R s mm args below meth c H locs cells slots Q (F0 mm pc ls (st.map (sa_cv av))) := by
  unfold sa_bl at hp
  split at hp
  · cases hp
    exact row _ _ _ (k ls hl)
  · cases hp
theorem sa_ldI_ok {n i : Nat} (hp : sa_ldI lo st i = some (lo', st')) (hl : sa_LR av lo ls)
    (k : ∀ ls' : Array Slot, sa_LR av lo' ls' → W p l e R s mm args below meth c H locs cells slots Q (F0 mm n ls' (st'.map (sa_cv av))))
    (row : ∀ (x : Int32), ls[i]? = some (.val (.int x)) → W p l e R s mm args below meth c H locs cells slots Q (F0 mm n ls (.int x :: st.map (sa_cv av))) → W p l e R s mm args below meth c H locs cells slots Q (F0 mm pc ls (st.map (sa_cv av)))) :
    W p l e R s mm args below meth c H locs cells slots Q (F0 mm pc ls (st.map (sa_cv av))) := by
  unfold sa_ldI at hp
  split at hp
  · rename_i x hx
    cases hp
    exact row x (hl.get hx rfl) (k ls hl)
  · cases hp
theorem sa_ldL_ok {n i : Nat} (hp : sa_ldL lo st i = some (lo', st')) (hl : sa_LR av lo ls)
    (k : ∀ ls' : Array Slot, sa_LR av lo' ls' → W p l e R s mm args below meth c H locs cells slots Q (F0 mm n ls' (st'.map (sa_cv av))))
    (row : ∀ (x : Int64), ls[i]? = some (.val (.long x)) → W p l e R s mm args below meth c H locs cells slots Q (F0 mm n ls (.long x :: st.map (sa_cv av))) → W p l e R s mm args below meth c H locs cells slots Q (F0 mm pc ls (st.map (sa_cv av)))) :
    W p l e R s mm args below meth c H locs cells slots Q (F0 mm pc ls (st.map (sa_cv av))) := by
  unfold sa_ldL at hp
  split at hp
  · rename_i x hx
    cases hp
    exact row x (hl.get hx rfl) (k ls hl)
  · cases hp
theorem sa_ldA_ok {n i : Nat} (hr : ∀ k, k ≠ 100005 → ∃ a, av k = .ref a) (hp : sa_ldA lo st i = some (lo', st')) (hl : sa_LR av lo ls)
    (k : ∀ ls' : Array Slot, sa_LR av lo' ls' → W p l e R s mm args below meth c H locs cells slots Q (F0 mm n ls' (st'.map (sa_cv av))))
    (row : ∀ (x : Nat), ls[i]? = some (.val (.ref x)) → W p l e R s mm args below meth c H locs cells slots Q (F0 mm n ls (.ref x :: st.map (sa_cv av))) → W p l e R s mm args below meth c H locs cells slots Q (F0 mm pc ls (st.map (sa_cv av)))) :
    W p l e R s mm args below meth c H locs cells slots Q (F0 mm pc ls (st.map (sa_cv av))) := by
  unfold sa_ldA at hp
  split at hp
  · rename_i x hx
    split at hp
    · cases hp
    · rename_i hne
      cases hp
      obtain ⟨a, ha⟩ := hr x hne
      have h1 := hl.get hx rfl
      have h2 := k ls hl
      have e1 : sa_cv av (.ref x) = .ref a := ha
      rw [e1] at h1
      rw [List.map_cons, e1] at h2
      exact row a h1 h2
  · cases hp
theorem sa_stI_ok {n i : Nat} (hav : ∀ k, (av k).category = 1) (hp : sa_stI lo st i = some (lo', st'))
    (k : ∀ ls' : Array Slot, sa_LR av lo' ls' → W p l e R s mm args below meth c H locs cells slots Q (F0 mm n ls' (st'.map (sa_cv av))))
    (row : ∀ (x : Int32) (r : List Value), i < lo.length → (∀ ls' : Array Slot, lv_has ls' lo.length ((i, .int x) :: (sa_lv av lo).filter (fun q => !(q.1 == i) && !(q.1 + 1 == i && q.2.category == 2))) → W p l e R s mm args below meth c H locs cells slots Q (F0 mm n ls' r)) → W p l e R s mm args below meth c H locs cells slots Q (F0 mm pc ls (.int x :: r))) :
    W p l e R s mm args below meth c H locs cells slots Q (F0 mm pc ls (st.map (sa_cv av))) := by
  unfold sa_stI at hp
  split at hp
  · split at hp
    · rename_i hi
      cases hp
      exact row _ _ hi (fun ls' h => k ls' (sa_LR.st1 hav hi h))
    · cases hp
  · cases hp
theorem sa_stL_ok {n i : Nat} (hav : ∀ k, (av k).category = 1) (hp : sa_stL lo st i = some (lo', st'))
    (k : ∀ ls' : Array Slot, sa_LR av lo' ls' → W p l e R s mm args below meth c H locs cells slots Q (F0 mm n ls' (st'.map (sa_cv av))))
    (row : ∀ (x : Int64) (r : List Value), i + 1 < lo.length → (∀ ls' : Array Slot, lv_has ls' lo.length ((i, .long x) :: (sa_lv av lo).filter (fun q => !(q.1 == i) && (!(q.1 == i + 1) && !(q.1 + 1 == i && q.2.category == 2)))) → W p l e R s mm args below meth c H locs cells slots Q (F0 mm n ls' r)) → W p l e R s mm args below meth c H locs cells slots Q (F0 mm pc ls (.long x :: r))) :
    W p l e R s mm args below meth c H locs cells slots Q (F0 mm pc ls (st.map (sa_cv av))) := by
  unfold sa_stL at hp
  split at hp
  · split at hp
    · rename_i hi
      cases hp
      exact row _ _ hi (fun ls' h => k ls' (sa_LR.st2 hav hi h))
    · cases hp
  · cases hp
theorem sa_stA_ok {n i : Nat} (hav : ∀ k, (av k).category = 1) (hr : ∀ k, k ≠ 100005 → ∃ a, av k = .ref a) (hp : sa_stA lo st i = some (lo', st'))
    (k : ∀ ls' : Array Slot, sa_LR av lo' ls' → W p l e R s mm args below meth c H locs cells slots Q (F0 mm n ls' (st'.map (sa_cv av))))
    (row : ∀ (x : Nat) (r : List Value), i < lo.length → (∀ ls' : Array Slot, lv_has ls' lo.length ((i, .ref x) :: (sa_lv av lo).filter (fun q => !(q.1 == i) && !(q.1 + 1 == i && q.2.category == 2))) → W p l e R s mm args below meth c H locs cells slots Q (F0 mm n ls' r)) → W p l e R s mm args below meth c H locs cells slots Q (F0 mm pc ls (.ref x :: r))) :
    W p l e R s mm args below meth c H locs cells slots Q (F0 mm pc ls (st.map (sa_cv av))) := by
  unfold sa_stA at hp
  split at hp
  · rename_i x r
    split at hp
    · cases hp
    · rename_i hne
      split at hp
      · rename_i hi
        cases hp
        obtain ⟨a, ha⟩ := hr x hne
        have e1 : sa_cv av (.ref x) = .ref a := ha
        rw [List.map_cons, e1]
        exact row _ _ hi (fun ls' h => k ls' (sa_LR.st1 hav hi (by rw [e1]; exact h)))
      · cases hp
  · cases hp
theorem sa_len {n k : Nat} (h : (n == k) = true) : n = k := by simpa using h
set_option maxHeartbeats 4000000 in
theorem sa_pu_ok (hav : ∀ k, (av k).category = 1) (hr : ∀ k, k ≠ 100005 → ∃ a, av k = .ref a) (hx : p.tables.exec = Jvm.exec) (hb : c.code = cc) {i : Instr} {len : Nat} (hd : decode cc pc = .ok (i, len)) (hn : sa_ln i len = true)
    (hp : sa_pu i lo st = some (lo', st')) (hl : sa_LR av lo ls)
    (k : ∀ ls' : Array Slot, sa_LR av lo' ls' → W p l e R s mm args below meth c H locs cells slots Q (F0 mm (pc + len) ls' (st'.map (sa_cv av)))) :
    W p l e R s mm args below meth c H locs cells slots Q (F0 mm pc ls (st.map (sa_cv av))) := by
  cases i with
  | iconst n => obtain rfl := sa_len hn; cases hp; exact lv_iconst hx hb hd rfl (k ls hl)
  | bipush n => obtain rfl := sa_len hn; cases hp; exact lv_bipush hx hb hd rfl (k ls hl)
  | sipush n => obtain rfl := sa_len hn; cases hp; exact lv_sipush hx hb hd rfl (k ls hl)
  | lconst n => obtain rfl := sa_len hn; cases hp; exact lv_lconst hx hb hd rfl (k ls hl)
  | iload_n n => obtain rfl := sa_len hn; exact sa_ldI_ok hp hl k (fun x h k => lv_iload_n hx hb hd rfl h k)
  | iload n => obtain rfl := sa_len hn; exact sa_ldI_ok hp hl k (fun x h k => lv_iload hx hb hd h k)
  | lload_n n => obtain rfl := sa_len hn; exact sa_ldL_ok hp hl k (fun x h k => lv_lload_n hx hb hd rfl h k)
  | lload n => obtain rfl := sa_len hn; exact sa_ldL_ok hp hl k (fun x h k => lv_lload hx hb hd h k)
  | aload_n n => obtain rfl := sa_len hn; exact sa_ldA_ok hr hp hl k (fun x h k => lv_aload_n hx hb hd rfl h k)
  | aload n => obtain rfl := sa_len hn; exact sa_ldA_ok hr hp hl k (fun x h k => lv_aload hx hb hd h k)
  | istore_n n => obtain rfl := sa_len hn; exact sa_stI_ok hav hp k (fun x r hi k => lv_istore_n hx hb hd rfl hl hi rfl k)
  | istore n => obtain rfl := sa_len hn; exact sa_stI_ok hav hp k (fun x r hi k => lv_istore hx hb hd hl hi rfl k)
  | lstore_n n => obtain rfl := sa_len hn; exact sa_stL_ok hav hp k (fun x r hi k => lv_lstore_n hx hb hd rfl hl hi rfl k)
  | lstore n => obtain rfl := sa_len hn; exact sa_stL_ok hav hp k (fun x r hi k => lv_lstore hx hb hd hl hi rfl k)
  | astore_n n => obtain rfl := sa_len hn; exact sa_stA_ok hav hr hp k (fun x r hi k => lv_astore_n hx hb hd rfl hl hi rfl k)
  | astore n => obtain rfl := sa_len hn; exact sa_stA_ok hav hr hp k (fun x r hi k => lv_astore hx hb hd hl hi rfl k)
  | iinc n q =>
    obtain rfl := sa_len hn
    unfold sa_pu at hp
    dsimp only at hp
    split at hp
    · rename_i x hq
      cases hp
      have hi : n < lo.length := (List.getElem?_eq_some_iff.mp hq).1
      obtain ⟨kk, hkk⟩ := List.getElem?_of_mem (sa_lv_mem.mpr ⟨_, hq, rfl, rfl⟩ : (n, sa_cv av (.int x)) ∈ sa_lv av lo)
      exact lv_iinc hx hb hd hl hkk rfl hi rfl (fun ls' h => k ls' (sa_LR.st1 hav hi h))
    · cases hp
  | iadd => obtain rfl := sa_len hn; exact sa_bi_ok hp hl k (fun x y r k => lv_iadd hx hb hd k)
  | isub => obtain rfl := sa_len hn; exact sa_bi_ok hp hl k (fun x y r k => lv_isub hx hb hd k)
  | imul => obtain rfl := sa_len hn; exact sa_bi_ok hp hl k (fun x y r k => lv_imul hx hb hd k)
  | iand => obtain rfl := sa_len hn; exact sa_bi_ok hp hl k (fun x y r k => lv_iand hx hb hd k)
  | ior => obtain rfl := sa_len hn; exact sa_bi_ok hp hl k (fun x y r k => lv_ior hx hb hd k)
  | ixor => obtain rfl := sa_len hn; exact sa_bi_ok hp hl k (fun x y r k => lv_ixor hx hb hd k)
  | ishl => obtain rfl := sa_len hn; exact sa_bi_ok hp hl k (fun x y r k => lv_ishl hx hb hd k)
  | ishr => obtain rfl := sa_len hn; exact sa_bi_ok hp hl k (fun x y r k => lv_ishr hx hb hd k)
  | iushr => obtain rfl := sa_len hn; exact sa_bi_ok hp hl k (fun x y r k => lv_iushr hx hb hd rfl k)
  | ladd => obtain rfl := sa_len hn; exact sa_bl_ok hp hl k (fun x y r k => lv_ladd hx hb hd k)
  | lsub => obtain rfl := sa_len hn; exact sa_bl_ok hp hl k (fun x y r k => lv_lsub hx hb hd k)
  | land => obtain rfl := sa_len hn; exact sa_bl_ok hp hl k (fun x y r k => lv_land hx hb hd k)
  | lor => obtain rfl := sa_len hn; exact sa_bl_ok hp hl k (fun x y r k => lv_lor hx hb hd k)
  | lxor => obtain rfl := sa_len hn; exact sa_bl_ok hp hl k (fun x y r k => lv_lxor hx hb hd k)
  | lshl =>
    obtain rfl := sa_len hn
    unfold sa_pu at hp
    dsimp only at hp
    split at hp
    · cases hp; exact lv_lshl hx hb hd rfl (k ls hl)
    · cases hp
  | lshr =>
    obtain rfl := sa_len hn
    unfold sa_pu at hp
    dsimp only at hp
    split at hp
    · cases hp; exact lv_lshr hx hb hd rfl (k ls hl)
    · cases hp
  | lcmp =>
    obtain rfl := sa_len hn
    unfold sa_pu at hp
    dsimp only at hp
    split at hp
    · cases hp; exact W.lcmp hx hb hd (k ls hl)
    · cases hp
  | i2l =>
    obtain rfl := sa_len hn
    unfold sa_pu at hp
    dsimp only at hp
    split at hp
    · cases hp; exact lv_i2l hx hb hd rfl (k ls hl)
    · cases hp
  | l2i =>
    obtain rfl := sa_len hn
    unfold sa_pu at hp
    dsimp only at hp
    split at hp
    · cases hp; exact lv_l2i hx hb hd rfl (k ls hl)
    · cases hp
  | i2b =>
    obtain rfl := sa_len hn
    unfold sa_pu at hp
    dsimp only at hp
    split at hp
    · cases hp; exact lv_i2b hx hb hd rfl (k ls hl)
    · cases hp
  | i2c =>
    obtain rfl := sa_len hn
    unfold sa_pu at hp
    dsimp only at hp
    split at hp
    · cases hp; exact lv_i2c hx hb hd rfl (k ls hl)
    · cases hp
  | dup =>
    obtain rfl := sa_len hn
    unfold sa_pu at hp
    dsimp only at hp
    split at hp
    · split at hp
      · rename_i hc
        cases hp; exact lv_dup hx hb hd (by rw [sa_cv_cat hav]; exact hc) (k ls hl)
      · cases hp
    · cases hp
  | pop =>
    obtain rfl := sa_len hn
    unfold sa_pu at hp
    dsimp only at hp
    split at hp
    · split at hp
      · rename_i hc
        cases hp; exact lv_pop hx hb hd (by rw [sa_cv_cat hav]; exact hc) (k ls hl)
      · cases hp
    · cases hp
  | dup_x1 =>
    obtain rfl := sa_len hn
    unfold sa_pu at hp
    dsimp only at hp
    split at hp
    · split at hp
      · rename_i hc
        cases hp; exact lv_dup_x1 hx hb hd (by rw [sa_cv_cat hav]; exact hc.1) (by rw [sa_cv_cat hav]; exact hc.2) (k ls hl)
      · cases hp
    · cases hp
  | dup2 =>
    obtain rfl := sa_len hn
    unfold sa_pu at hp
    dsimp only at hp
    split at hp
    · split at hp
      · rename_i hc
        cases hp; exact lv_dup2_11 hx hb hd (by rw [sa_cv_cat hav]; exact hc.1) (by rw [sa_cv_cat hav]; exact hc.2) (k ls hl)
      · cases hp
    · cases hp
  | _ => cases hp
end SAP

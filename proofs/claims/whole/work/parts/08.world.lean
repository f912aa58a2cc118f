/-! ===== soundness 2: the memory as a world ===== -/
/-- base of the abstract cells' addresses, addresses of things outside, the value of 100005, class numbers and slots, array classes -/
abbrev sa_G : Type := Nat × (Nat → Nat) × Value × va_G × (Nat → ClassId)
def sa_av (G : sa_G) (k : Nat) : Value := if k < 100000 then .ref (G.1 + k) else if k = 100005 then G.2.2.1 else .ref (G.2.1 k)
def sa_tl (G : sa_G) : List (ClassId × FieldType) := [(G.2.2.2.2 100, .byte), (G.2.2.2.2 101, .int), (G.2.2.2.2 102, .long), (G.2.2.2.2 103, .boolean)]
def sa_fs (G : sa_G) (m : sa_Mem) (k ci : Nat) : List Value := (List.range (sa_nF ci)).map (fun j => sa_cv (sa_av G) (sa_gf m k ci j))
def sa_cell (G : sa_G) (m : sa_Mem) (k : Nat) : va_E :=
  if (sa_sh m k).1 < 100 then .inr ((sa_sh m k).1, sa_fs G m k (sa_sh m k).1)
  else if (sa_sh m k).1 = 102 then .inl (G.2.2.2.2 102, (sa_sh m k).2, .inr (.inl (sa_mJ m k)))
  else .inl (G.2.2.2.2 (sa_sh m k).1, (sa_sh m k).2, .inl (sa_mI m k))
def sa_wd (G : sa_G) (m : sa_Mem) : va_W := (List.range (sa_mN m)).map (fun k => (G.1 + k, sa_cell G m k))
abbrev sa_A (G : sa_G) : Nat → Prop := fun q => G.1 ≤ q
theorem sa_wd_get {G : sa_G} {m : sa_Mem} {k : Nat} (hk : k < sa_mN m) : (sa_wd G m)[k]? = some (G.1 + k, sa_cell G m k) := by
  unfold sa_wd
  rw [List.getElem?_map, List.getElem?_range hk]
  rfl
theorem sa_wd_some {G : sa_G} {m : sa_Mem} {k : Nat} {q : Nat × va_E} (h : (sa_wd G m)[k]? = some q) : k < sa_mN m ∧ q = (G.1 + k, sa_cell G m k) := by
  have hl : k < (sa_wd G m).length := (List.getElem?_eq_some_iff.mp h).1
  have hk : k < sa_mN m := by simpa [sa_wd] using hl
  rw [sa_wd_get hk] at h
  exact ⟨hk, (Option.some.inj h).symm⟩
theorem sa_wd_set {G : sa_G} {m m' : sa_Mem} {k : Nat} {c : va_E} (hn : sa_mN m' = sa_mN m) (hk : k < sa_mN m) (hc : c = sa_cell G m' k) (ho : ∀ q, q ≠ k → sa_cell G m' q = sa_cell G m q) : (sa_wd G m).set k (G.1 + k, c) = sa_wd G m' := by
  subst hc
  apply List.ext_getElem?
  intro q
  by_cases hq : q < sa_mN m
  · rw [sa_wd_get (m := m') (by rw [hn]; exact hq)]
    by_cases e : q = k
    · subst e
      rw [List.getElem?_set_self (by simpa [sa_wd] using hq)]
    · rw [List.getElem?_set_ne (Ne.symm e), sa_wd_get hq, ho q e]
  · rw [List.getElem?_eq_none (by simp [sa_wd]; omega), List.getElem?_eq_none (by simp [sa_wd]; omega)]
theorem sa_up_ne {α : Type} {f : Nat → α} {k j : Nat} {x : α} (h : j ≠ k) : va_up f k x j = f j := by simp [va_up, h]
theorem sa_up_eq {α : Type} {f : Nat → α} {k : Nat} {x : α} : va_up f k x k = x := by simp [va_up]
theorem sa_setI_o {G : sa_G} {m : sa_Mem} {k : Nat} {f : Nat → Int32} {q : Nat} (h : q ≠ k) : sa_cell G (sa_setI m k f) q = sa_cell G m q := by
  simp only [sa_cell, sa_fs, sa_gf, sa_setI, sa_sh, sa_mI, sa_mJ, sa_mR, sa_up_ne h]
theorem sa_setJ_o {G : sa_G} {m : sa_Mem} {k : Nat} {f : Nat → Int64} {q : Nat} (h : q ≠ k) : sa_cell G (sa_setJ m k f) q = sa_cell G m q := by
  simp only [sa_cell, sa_fs, sa_gf, sa_setJ, sa_sh, sa_mI, sa_mJ, sa_mR, sa_up_ne h]
theorem sa_setR_o {G : sa_G} {m : sa_Mem} {k : Nat} {f : Nat → Option Nat} {q : Nat} (h : q ≠ k) : sa_cell G (sa_setR m k f) q = sa_cell G m q := by
  have e1 : va_up m.2.2.2.2 k f q = m.2.2.2.2 q := sa_up_ne h
  simp only [sa_cell, sa_fs, sa_gf, sa_setR, sa_sh, sa_mI, sa_mJ, sa_mR]
  rw [e1]
  rfl
theorem sa_cell_obj {G : sa_G} {m : sa_Mem} {k ci : Nat} (h : (sa_sh m k).1 = ci) (hc : ci < 100) : sa_cell G m k = .inr (ci, sa_fs G m k ci) := by
  subst h
  unfold sa_cell
  rw [if_pos hc]
theorem sa_cell_int {G : sa_G} {m : sa_Mem} {k q : Nat} (h : (sa_sh m k).1 = q) (hq : q = 100 ∨ q = 101 ∨ q = 103) : sa_cell G m k = .inl (G.2.2.2.2 q, (sa_sh m k).2, .inl (sa_mI m k)) := by
  subst h
  unfold sa_cell
  rw [if_neg (by omega), if_neg (by omega)]
theorem sa_cell_long {G : sa_G} {m : sa_Mem} {k : Nat} (h : (sa_sh m k).1 = 102) : sa_cell G m k = .inl (G.2.2.2.2 102, (sa_sh m k).2, .inr (.inl (sa_mJ m k))) := by
  unfold sa_cell
  rw [if_neg (by omega), if_pos h]
theorem sa_fs_get {G : sa_G} {m : sa_Mem} {k ci j : Nat} (h : j < sa_nF ci) : (sa_fs G m k ci)[j]? = some (sa_cv (sa_av G) (sa_gf m k ci j)) := by
  unfold sa_fs
  rw [List.getElem?_map, List.getElem?_range h]
  rfl
theorem sa_fs_len {G : sa_G} {m : sa_Mem} {k ci : Nat} : (sa_fs G m k ci).length = sa_nF ci := by simp [sa_fs]
theorem sa_cv_rf (G : sa_G) (r : Option Nat) : sa_cv (sa_av G) (va_rf r) = match r with
    | none => .null
    | some a => sa_av G a := by
  cases r <;> rfl
/-- a field stored -/
theorem sa_fs_set {G : sa_G} {m m' : sa_Mem} {k ci j : Nat} {v : Value} (hj : j < sa_nF ci) (hp : sa_pf m k ci j v m') : (sa_fs G m k ci).set j (sa_cv (sa_av G) v) = sa_fs G m' k ci := by
  apply List.ext_getElem?
  intro q
  by_cases hq : q < sa_nF ci
  · rw [sa_fs_get (m := m') hq]
    by_cases e : q = j
    · subst e
      rw [List.getElem?_set_self (by rw [sa_fs_len]; exact hq)]
      congr 1
      cases v with
      | int x => obtain ⟨h1, h2, rfl⟩ := hp; simp [sa_gf, h1, sa_setI, sa_mI, va_up, upd, sa_cv]
      | long x => obtain ⟨h1, rfl⟩ := hp; simp [sa_gf, h1, sa_so, sa_setJ, sa_mJ, va_up, vp_updL, sa_cv]
      | ref a => obtain ⟨h1, h2, rfl⟩ := hp; simp [sa_gf, h1, sa_setR, sa_mR, va_up, sa_cv, va_rf]
      | _ => exact hp.elim
    · rw [List.getElem?_set_ne (Ne.symm e), sa_fs_get hq]
      congr 2
      cases v with
      | int x => obtain ⟨h1, h2, rfl⟩ := hp; simp [sa_gf, sa_setI, sa_mI, sa_mJ, sa_mR, va_up, upd, e]
      | long x => obtain ⟨h1, rfl⟩ := hp; simp [sa_gf, sa_setJ, sa_mI, sa_mJ, sa_mR, va_up, vp_updL, e]
      | ref a => obtain ⟨h1, h2, rfl⟩ := hp; simp [sa_gf, sa_setR, sa_mI, sa_mJ, sa_mR, va_up, e]
      | _ => exact hp.elim
  · rw [List.getElem?_eq_none (by rw [List.length_set, sa_fs_len]; omega), List.getElem?_eq_none (by rw [sa_fs_len]; omega)]
theorem sa_pf_same {m m' : sa_Mem} {k ci j : Nat} {v : Value} (hp : sa_pf m k ci j v m') : m'.1 = m.1 ∧ sa_sh m' = sa_sh m := by
  cases v with
  | int x => obtain ⟨h1, h2, rfl⟩ := hp; exact ⟨rfl, rfl⟩
  | long x => obtain ⟨h1, rfl⟩ := hp; exact ⟨rfl, rfl⟩
  | ref a => obtain ⟨h1, h2, rfl⟩ := hp; exact ⟨rfl, rfl⟩
  | _ => exact hp.elim
theorem sa_pf_o {G : sa_G} {m m' : sa_Mem} {k ci j : Nat} {v : Value} (hp : sa_pf m k ci j v m') {q : Nat} (h : q ≠ k) : sa_cell G m' q = sa_cell G m q := by
  cases v with
  | int x => obtain ⟨h1, h2, rfl⟩ := hp; exact sa_setI_o h
  | long x => obtain ⟨h1, rfl⟩ := hp; exact sa_setJ_o h
  | ref a => obtain ⟨h1, h2, rfl⟩ := hp; exact sa_setR_o h
  | _ => exact hp.elim
theorem sa_wd_pf {G : sa_G} {m m' : sa_Mem} {k ci j : Nat} {v : Value} (hk : k < sa_mN m) (hs : (sa_sh m k).1 = ci) (hc : ci < 100) (hj : j < sa_nF ci) (hp : sa_pf m k ci j v m') : (sa_wd G m).set k (G.1 + k, .inr (ci, (sa_fs G m k ci).set j (sa_cv (sa_av G) v))) = sa_wd G m' := by
  obtain ⟨h1, h2⟩ := sa_pf_same hp
  refine sa_wd_set (by unfold sa_mN; rw [h1]) hk ?_ (fun q hq => sa_pf_o hp hq)
  rw [sa_cell_obj (m := m') (by rw [h2]; exact hs) hc, sa_fs_set hj hp]
theorem sa_wd_setI {G : sa_G} {m : sa_Mem} {k q : Nat} {f : Nat → Int32} (hk : k < sa_mN m) (hs : (sa_sh m k).1 = q) (hq : q = 100 ∨ q = 101 ∨ q = 103) : (sa_wd G m).set k (G.1 + k, .inl (G.2.2.2.2 q, (sa_sh m k).2, .inl f)) = sa_wd G (sa_setI m k f) := by
  refine sa_wd_set rfl hk ?_ (fun q hq => sa_setI_o hq)
  rw [sa_cell_int (m := sa_setI m k f) (q := q) hs hq]
  simp [sa_setI, sa_mI, sa_sh, va_up]
theorem sa_wd_setJ {G : sa_G} {m : sa_Mem} {k : Nat} {f : Nat → Int64} (hk : k < sa_mN m) (hs : (sa_sh m k).1 = 102) : (sa_wd G m).set k (G.1 + k, .inl (G.2.2.2.2 102, (sa_sh m k).2, .inr (.inl f))) = sa_wd G (sa_setJ m k f) := by
  refine sa_wd_set rfl hk ?_ (fun q hq => sa_setJ_o hq)
  rw [sa_cell_long (m := sa_setJ m k f) hs]
  simp [sa_setJ, sa_mJ, sa_sh, va_up]
/-- a new cell at the end -/
theorem sa_wd_alloc {G : sa_G} {m : sa_Mem} {kind len sl : Nat} : sa_wd G (sa_alloc m kind len sl) = sa_wd G m ++ [(G.1 + sa_mN m, sa_cell G (sa_alloc m kind len sl) (sa_mN m))] := by
  have h1 : sa_mN (sa_alloc m kind len sl) = sa_mN m + 1 := rfl
  unfold sa_wd
  rw [h1, List.range_succ, List.map_append]
  congr 1
  apply List.map_congr_left
  intro q hq
  have hq' : q ≠ sa_mN m := Nat.ne_of_lt (List.mem_range.mp hq)
  simp only [sa_cell, sa_fs, sa_gf, sa_alloc, sa_sh, sa_mI, sa_mJ, sa_mR, sa_up_ne hq']

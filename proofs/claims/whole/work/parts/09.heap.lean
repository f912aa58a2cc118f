/-! ===== soundness 3: what stands outside, what a method's body knows, memory instructions ===== -/
def sa_vk (xd : Nat → Nat) (A : Nat → Prop) (U : State) (H : Heap) : Prop := ∀ i : Nat, i < sa_txt.length → va_O "java/lang/String" (xd (100100 + i)) A U H ∧ va_OF "java/lang/String" "coder" "B" (.int 0) (xd (100100 + i)) A U H ∧ va_OF "java/lang/String" "value" "[B" (.ref (xd (100200 + i))) (xd (100100 + i)) A U H ∧ va_T .byte (xd (100200 + i)) (sa_txt.getD i []).length (fun j => .int ((sa_txt.getD i []).getD j 0)) A U H
theorem sa_vk_moved {xd : Nat → Nat} {A : Nat → Prop} {s U : State} {H H1 : Heap} (ha : s.vm.Alike U.vm) (hq : ∀ a : Nat, a < H.size → ¬ A a → H1[a]? = H[a]?) (h : sa_vk xd A s H) : sa_vk xd A U H1 := fun i hi => ⟨(va_O.moved ha (h i hi).1).kept hq, (va_OF.moved ha (h i hi).2.1).kept hq, (va_OF.moved ha (h i hi).2.2.1).kept hq, (va_T.moved ha (h i hi).2.2.2).kept hq⟩
def sa_ext (X : Nat × (Nat → Int32)) (G : sa_G) (U : State) (H : Heap) : Prop :=
  (va_X (G.2.1 100000) X.1 X.2 U H ∧ G.2.1 100000 < H.size ∧ ¬ sa_A G (G.2.1 100000)) ∧
  (∀ i, i < 4 → va_T .int (G.2.1 (100001 + i)) (sa_lim.getD i []).length (fun j => .int ((sa_lim.getD i []).getD j 0)) (sa_A G) U H) ∧
  (∀ i, i < 4 → va_Z RX11 (sa_limn i) "[I" (.ref (G.2.1 (100001 + i))) (sa_A G) U H) ∧
  va_Z "java/lang/String" "COMPACT_STRINGS" "Z" (.int 1) (sa_A G) U H ∧
  va_Z "jdk/internal/util/Preconditions" "SIOOBE_FORMATTER" "Ljava/util/function/BiFunction;" G.2.2.1 (sa_A G) U H ∧
  sa_vk G.2.1 (sa_A G) U H ∧
  (∀ q ∈ sa_pStr, vk_R (sa_C q.1.1) q.1.2 q.2.2 (G.2.1 (100100 + q.2.1)) U) ∧
  (∀ w ∈ sa_bad, va_Nw w U) ∧
  (vx_Zq Bundle.tN "UNASSIGNED_STACK" Bundle.steD (sa_A G) U H ∧ vx_Zq Bundle.tN "SUPPRESSED_SENTINEL" Bundle.listD (sa_A G) U H) ∧
  va_Nc (sa_exn 0) (sa_exn 1) U ∧ va_Nc (sa_exn 1) (sa_exn 0) U
theorem sa_ext_moved {X : Nat × (Nat → Int32)} {G : sa_G} {s U : State} {H H1 : Heap} (hW : s.WarmedH U.vm) (hz : H.size ≤ H1.size) (hq : ∀ a : Nat, a < H.size → ¬ sa_A G a → H1[a]? = H[a]?) (h : sa_ext X G s H) : sa_ext X G U H1 := by
  obtain ⟨⟨h1, h1b, h1c⟩, h2, h3, h4, h5, h6, h7, h8, ⟨h9, h10⟩, h11, h12⟩ := h
  have ha := hW.alike
  refine ⟨⟨(va_X.moved ha h1).kept (hq _ h1b h1c), Nat.lt_of_lt_of_le h1b hz, h1c⟩, fun i hi => (va_T.moved ha (h2 i hi)).kept hq, fun i hi => (va_Z.moved ha (h3 i hi)).kept hq, (va_Z.moved ha h4).kept hq, (va_Z.moved ha h5).kept hq, sa_vk_moved ha hq h6, fun q hm => vk_R.warm hW (h7 q hm), fun w hw => sa_warm (sa_bad_k w hw) hW (h8 w hw), ⟨(vx_Zq.moved ha h9).kept hq, (vx_Zq.moved ha h10).kept hq⟩, va_Nc.moved ha h11, va_Nc.moved ha h12⟩
def sa_inv (G : sa_G) (m : sa_Mem) (H : Heap) : Prop := sa_mF m = false → sa_mC m = sa_mN m ∧ H.size = G.1 + sa_mN m
/-- what a method's body knows from its entry on -/
def sa_At (X : Nat × (Nat → Int32)) (G : sa_G) (p : Program) (l : Launch) (R : Room) (s : State) (mm : MethodId) (args : Array Value) (meth : Method) (c : Code) (e0 : sa_Me) (m0 : sa_Mem) : Prop :=
  p.tables.exec = Jvm.exec ∧ c.code = e0.2.2.1 ∧ meth.sig.returnType = e0.2.2.2.2.1 ∧ c.maxLocals = e0.2.2.2.1 ∧ s.vm.findClass (sa_C e0.1) = some mm.cls ∧ (∀ w ∈ sa_big, w.before args s = true) ∧ meth.locks = false ∧ meth.name = e0.2.1.name ∧
  c.exceptionTable.toList = tableOf (e0.2.2.2.2.2.1.getD []) ∧ (∀ q ∈ e0.2.2.2.2.2.2, decode e0.2.2.1 q.1 = .ok q.2 ∧ sa_ln q.2.1 q.2.2 = true) ∧ va_K G.2.2.2.1 vwCl (sa_tl G) s ∧ sa_ext X G s s.heap ∧ G.1 ≤ s.heap.size ∧ sa_inv G m0 s.heap ∧ l.stackTraces = false ∧ (8 ≤ R.frames ∧ 200 ≤ R.locals) ∧ G.2.2.1.category = 1
/-- where the walk stands -/
def sa_St (G : sa_G) (s : State) (m0 m : sa_Mem) (H : Heap) (locs : List Loc) (cells slots : Nat) : Prop :=
  va_P G.2.2.2.1 vwCl (sa_wd G m) H ∧ va_D (sa_A G) (sa_wd G m) ∧ va_S (sa_A G) s.heap H locs ∧ sa_mC m0 + cells = sa_mC m ∧ sa_mS m0 + slots = sa_mS m ∧ (sa_mF m = false → sa_mF m0 = false ∧ sa_mC m = sa_mN m) ∧ sa_mN m ≤ 100000
theorem sa_lkm {β : Type} : ∀ {l : List ((Nat × Nat) × β)} {a : Nat × Nat} {b : β}, l.lookup a = some b → (a, b) ∈ l
  | [], a, b, h => by simp at h
  | (k, v) :: l, a, b, h => by
    rw [List.lookup_cons] at h
    cases hk : a == k with
    | true =>
      rw [hk] at h
      cases h
      have : a = k := by simpa using hk
      subst this
      exact List.mem_cons_self
    | false =>
      rw [hk] at h
      exact List.mem_cons_of_mem _ (sa_lkm h)
theorem sa_lkn {β : Type} : ∀ {l : List (Nat × β)} {a : Nat} {b : β}, l.lookup a = some b → (a, b) ∈ l
  | [], a, b, h => by simp at h
  | (k, v) :: l, a, b, h => by
    rw [List.lookup_cons] at h
    cases hk : a == k with
    | true =>
      rw [hk] at h
      cases h
      have : a = k := by simpa using hk
      subst this
      exact List.mem_cons_self
    | false =>
      rw [hk] at h
      exact List.mem_cons_of_mem _ (sa_lkn h)
theorem sa_av_lo {G : sa_G} {k : Nat} (h : k < 100000) : sa_av G k = .ref (G.1 + k) := by simp [sa_av, h]
theorem sa_av_hi {G : sa_G} {k : Nat} (h : 100000 ≤ k) (h2 : k ≠ 100005) : sa_av G k = .ref (G.2.1 k) := by
  unfold sa_av
  rw [if_neg (by omega), if_neg h2]
theorem sa_av_cat {G : sa_G} (h : G.2.2.1.category = 1) (k : Nat) : (sa_av G k).category = 1 := by
  unfold sa_av
  split
  · rfl
  · split
    · exact h
    · rfl
theorem sa_av_ref {G : sa_G} (k : Nat) (h : k ≠ 100005) : ∃ a, sa_av G k = .ref a := by
  unfold sa_av
  split
  · exact ⟨_, rfl⟩
  · first | exact ⟨_, rfl⟩ | exact ⟨_, if_neg h⟩
section SAH
variable {p : Program} {l : Launch} {e : Env} {R : Room} {s : State} {mm : MethodId} {args : Array Value} {below : List Frame} {meth : Method} {c : Code} {H : Heap} {locs : List Loc} {cells slots : Nat} {Q : State → Prop}
variable {pc : Nat} {ls : Array Slot} {X : Nat × (Nat → Int32)} {G : sa_G} {e0 : sa_Me} {m0 m : sa_Mem} {r : List Value}
theorem sa_size {T : State} (hA : sa_At X G p l R s mm args meth c e0 m0) (hS : sa_St G s m0 m H locs cells slots) (hT : T.heap = H) (Z : Stand p l e R s mm args below meth c T locs cells slots) (hF : sa_mF m = false) : H.size = G.1 + sa_mN m := by
  obtain ⟨-, -, -, -, -, -, -, -, -, -, -, -, hbs, hinv, -⟩ := hA
  obtain ⟨hP, hD, hS, hc, hs, hf, -⟩ := hS
  obtain ⟨hf0, hcn⟩ := hf hF
  obtain ⟨h1, h2⟩ := hinv hf0
  have hu := Z.heapSize
  rw [hT] at hu
  have hlo : G.1 + sa_mN m ≤ H.size := by
    cases hn : sa_mN m with
    | zero => exact Nat.le_trans hbs hS.1
    | succ n =>
      have := (hP n _ (sa_wd_get (by omega))).lt
      dsimp only at this
      omega
  omega
theorem sa_getf_ok (hA : sa_At X G p l R s mm args meth c e0 m0) (hS : sa_St G s m0 m H locs cells slots) {idx ci j k : Nat} {b : Bool} (hF : sa_pF.lookup (e0.1, idx) = some (ci, j, b)) (hk : k < sa_mN m) (hs : (sa_sh m k).1 = ci) (hd : decode e0.2.2.1 pc = .ok (.getfield idx, 3))
    (kk : W p l e R s mm args below meth c H locs cells slots Q (F0 mm (pc + 3) ls (sa_cv (sa_av G) (sa_gf m k ci j) :: r))) : W p l e R s mm args below meth c H locs cells slots Q (F0 mm pc ls (.ref (G.1 + k) :: r)) := by
  obtain ⟨hx, hb, -, -, hown, hts, -, -, -, -, hK, hE, -⟩ := hA
  obtain ⟨-, -, -, -, -, -, -, hbad, -⟩ := hE
  obtain ⟨hP, -⟩ := hS
  have hm := sa_lkm hF
  obtain ⟨h13, hj⟩ := sa_pFv _ hm
  obtain ⟨C, T, N, hc, hC, hN, hT, hfi, hty, hnm⟩ := sa_clv ci h13
  dsimp only at h13 hj
  have hjN : j < N := by omega
  cases b with
  | false =>
    have hl := hts _ (sa_big_F hm rfl)
    have hl : (Cond.fieldLink (sa_C e0.1) idx (T j).1 (T j).2.1 (T j).2.2.1).before args s = true := by rw [← hT j]; exact hl
    exact va_get hx hb hts (sa_big_lay (List.mem_of_getElem? hc)) hown hK hP k (fs := sa_fs G m k ci) (by rw [sa_wd_get hk, sa_cell_obj hs (by omega)]) hc j hjN hl (fun x h => h) (sa_fs_get hj) hd kk
  | true =>
    have hl := va_Nw.use (A := args) rfl (hbad _ (List.mem_append_left _ (List.mem_map.mpr ⟨_, List.mem_filter.mpr ⟨hm, rfl⟩, rfl⟩)))
    have hl : (Cond.fieldLinkNest (sa_C e0.1) idx (T j).1 (T j).2.1 (T j).2.2.1 RX11).before args s = true := by rw [← hT j]; exact hl
    exact va_getN hx hb hts (sa_big_lay (List.mem_of_getElem? hc)) hown hK hP k (fs := sa_fs G m k ci) (by rw [sa_wd_get hk, sa_cell_obj hs (by omega)]) hc j hjN hl (fun x h => h) (sa_fs_get hj) hd kk
theorem sa_pf_fit {m' : sa_Mem} {k ci j : Nat} {v : Value} (hp : sa_pf m k ci j v m') : narrow (sa_ty ci j) (sa_cv (sa_av G) v) = sa_cv (sa_av G) v ∧ fits (sa_ty ci j) (sa_cv (sa_av G) v) = true := by
  cases v with
  | int x => exact hp.2.1
  | long x =>
    obtain ⟨h1, -⟩ := hp
    rw [h1]
    exact ⟨rfl, rfl⟩
  | ref a =>
    obtain ⟨h1, h2, -⟩ := hp
    obtain ⟨q, hq⟩ := sa_av_ref (G := G) a h2
    show narrow (sa_ty ci j) (sa_av G a) = sa_av G a ∧ fits (sa_ty ci j) (sa_av G a) = true
    rw [hq]
    generalize sa_ty ci j = ty at h1
    cases ty <;> first | exact ⟨rfl, rfl⟩ | (simp [sa_so] at h1)
  | _ => exact hp.elim
theorem sa_putf_ok (hA : sa_At X G p l R s mm args meth c e0 m0) (hS : sa_St G s m0 m H locs cells slots) {idx ci j k : Nat} {v : Value} {m' : sa_Mem} (hF : sa_pF.lookup (e0.1, idx) = some (ci, j, false)) (hk : k < sa_mN m) (hs : (sa_sh m k).1 = ci) (hfn : sa_fin ci j = true → e0.2.1.name = "<init>" ∧ ci = e0.1) (hp : sa_pf m k ci j v m') (hd : decode e0.2.2.1 pc = .ok (.putfield idx, 3))
    (kk : ∀ (H1 : Heap) (locs1 : List Loc), sa_St G s m0 m' H1 locs1 cells slots → W p l e R s mm args below meth c H1 locs1 cells slots Q (F0 mm (pc + 3) ls r)) : W p l e R s mm args below meth c H locs cells slots Q (F0 mm pc ls (sa_cv (sa_av G) v :: .ref (G.1 + k) :: r)) := by
  obtain ⟨hx, hb, -, -, hown, hts, -, hmn, -, -, hK, hE, -⟩ := hA
  obtain ⟨hP, hD, hS0, hc1, hc2, hc3, hc4⟩ := hS
  have hm := sa_lkm hF
  obtain ⟨h13, hj⟩ := sa_pFv _ hm
  obtain ⟨C, T, N, hc, hC, hN, hT, hfi, hty, hnm⟩ := sa_clv ci h13
  dsimp only at h13 hj
  have hjN : j < N := by omega
  have hl := hts _ (sa_big_F hm rfl)
  have hl : (Cond.fieldLink (sa_C e0.1) idx (T j).1 (T j).2.1 (T j).2.2.1).before args s = true := by rw [← hT j]; exact hl
  obtain ⟨q1, q2⟩ := sa_pf_same hp
  have kk2 : ∀ (H1 : Heap) (locs1 : List Loc), va_P G.2.2.2.1 vwCl ((sa_wd G m).set k (G.1 + k, .inr (ci, (sa_fs G m k ci).set j (sa_cv (sa_av G) v)))) H1 → va_D (sa_A G) ((sa_wd G m).set k (G.1 + k, .inr (ci, (sa_fs G m k ci).set j (sa_cv (sa_av G) v)))) → va_S (sa_A G) s.heap H1 locs1 → W p l e R s mm args below meth c H1 locs1 cells slots Q (F0 mm (pc + 3) ls r) := by
    intro H1 locs1 a1 a2 a3
    rw [sa_wd_pf hk hs (by omega) hj hp] at a1 a2
    exact kk H1 locs1 ⟨a1, a2, a3, by unfold sa_mC; rw [q1]; exact hc1, by unfold sa_mS; rw [q1]; exact hc2, by unfold sa_mF sa_mC sa_mN; rw [q1]; exact hc3, by unfold sa_mN; rw [q1]; exact hc4⟩
  cases hfc : sa_fin ci j with
  | false => exact va_put hx hb hts (sa_big_lay (List.mem_of_getElem? hc)) (sa_ty ci) hty hnm hown hK hP hD hS0 k (fs := sa_fs G m k ci) (by rw [sa_wd_get hk, sa_cell_obj hs (by omega)]) hc j hjN hl (fun x h => h) (by rw [← hfi j]; exact hfc) (hty j hjN) (sa_pf_fit hp).1 (sa_pf_fit hp).2 (by rw [sa_fs_len]; exact hj) hd kk2
  | true =>
    obtain ⟨i1, i2⟩ := hfn hfc
    have hdecl : (T j).1 = sa_C e0.1 := by
      rw [← i2, ← hT j]
      exact sa_fdv ci h13 j hj
    exact va_putF hx hb hts (sa_big_lay (List.mem_of_getElem? hc)) (sa_ty ci) hty hnm hown hK hP hD hS0 k (fs := sa_fs G m k ci) (by rw [sa_wd_get hk, sa_cell_obj hs (by omega)]) hc j hjN hl (fun x h => h) (by rw [← hfi j]; exact hfc) (by rw [hmn]; exact i1) hdecl (hty j hjN) (sa_pf_fit hp).1 (sa_pf_fit hp).2 (by rw [sa_fs_len]; exact hj) hd kk2
theorem sa_tl_get {q : Nat} (t : Nat) {ty : FieldType} (h : (sa_tl G)[t]? = some (G.2.2.2.2 q, ty)) : (sa_tl G)[t]? = some (G.2.2.2.2 q, ty) := h
/-- stores into a row of ints, bytes, booleans -/
theorem sa_ist_ok (hS : sa_St G s m0 m H locs cells slots) {k q : Nat} {f : Nat → Int32} (hk : k < sa_mN m) (hs : (sa_sh m k).1 = q) (hq : q = 100 ∨ q = 101 ∨ q = 103) {H1 : Heap} {locs1 : List Loc}
    (a1 : va_P G.2.2.2.1 vwCl ((sa_wd G m).set k (G.1 + k, .inl (G.2.2.2.2 q, (sa_sh m k).2, .inl f))) H1) (a2 : va_D (sa_A G) ((sa_wd G m).set k (G.1 + k, .inl (G.2.2.2.2 q, (sa_sh m k).2, .inl f)))) (a3 : va_S (sa_A G) s.heap H1 locs1) : sa_St G s m0 (sa_setI m k f) H1 locs1 cells slots := by
  rw [sa_wd_setI hk hs hq] at a1 a2
  exact ⟨a1, a2, a3, hS.2.2.2.1, hS.2.2.2.2.1, hS.2.2.2.2.2⟩
theorem sa_jst_ok (hS : sa_St G s m0 m H locs cells slots) {k : Nat} {f : Nat → Int64} (hk : k < sa_mN m) (hs : (sa_sh m k).1 = 102) {H1 : Heap} {locs1 : List Loc}
    (a1 : va_P G.2.2.2.1 vwCl ((sa_wd G m).set k (G.1 + k, .inl (G.2.2.2.2 102, (sa_sh m k).2, .inr (.inl f)))) H1) (a2 : va_D (sa_A G) ((sa_wd G m).set k (G.1 + k, .inl (G.2.2.2.2 102, (sa_sh m k).2, .inr (.inl f))))) (a3 : va_S (sa_A G) s.heap H1 locs1) : sa_St G s m0 (sa_setJ m k f) H1 locs1 cells slots := by
  rw [sa_wd_setJ hk hs] at a1 a2
  exact ⟨a1, a2, a3, hS.2.2.2.1, hS.2.2.2.2.1, hS.2.2.2.2.2⟩
end SAH

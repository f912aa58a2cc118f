/-! ===== soundness 7: the memory's counters grow; a whole run ===== -/
theorem sa_ok_alloc {m : sa_Mem} {a b c : Nat} : sa_ok m (sa_alloc m a b c) := ⟨Nat.le_succ _, Nat.le_add_right _ _, id⟩
theorem sa_ok_I {m : sa_Mem} {k : Nat} {f : Nat → Int32} : sa_ok m (sa_setI m k f) := ⟨Nat.le_refl _, Nat.le_refl _, id⟩
theorem sa_ok_J {m : sa_Mem} {k : Nat} {f : Nat → Int64} : sa_ok m (sa_setJ m k f) := ⟨Nat.le_refl _, Nat.le_refl _, id⟩
theorem sa_he_mono {X : Nat × (Nat → Int32)} {own : Nat} {ini : Prop} {i : Instr} {st : List Value} {m : sa_Mem} {K : List Value → sa_Mem → Prop} {m' : sa_Mem} (h : sa_he X own ini i st m K) (hK : ∀ st' m1, K st' m1 → sa_ok m1 m') : sa_ok m m' := by
  cases i with
  | getfield idx =>
    obtain ⟨k, r, -, (⟨ci, j, b, -, -, -, h⟩ | ⟨t, -, -, -, h⟩)⟩ := h
    · exact hK _ _ h
    · exact hK _ _ h
  | putfield idx =>
    obtain ⟨v, k, r, ci, j, m1, -, -, -, -, -, hp, h⟩ := h
    refine sa_ok.tr ?_ (hK _ _ h)
    obtain ⟨q1, -⟩ := sa_pf_same hp
    unfold sa_ok sa_mC sa_mS sa_mF
    rw [q1]
    exact ⟨Nat.le_refl _, Nat.le_refl _, id⟩
  | iaload => obtain ⟨_, _, _, _, _, -, -, -, h⟩ := h; exact hK _ _ h
  | baload => obtain ⟨_, _, _, _, _, -, -, -, h⟩ := h; exact hK _ _ h
  | laload => obtain ⟨_, _, _, -, -, -, -, h⟩ := h; exact hK _ _ h
  | iastore => obtain ⟨_, _, _, _, -, -, -, -, h⟩ := h; exact sa_ok.tr sa_ok_I (hK _ _ h)
  | bastore =>
    obtain ⟨_, _, _, _, -, -, -, (⟨-, h⟩ | ⟨-, h⟩)⟩ := h
    · exact sa_ok.tr sa_ok_I (hK _ _ h)
    · exact sa_ok.tr sa_ok_I (hK _ _ h)
  | lastore => obtain ⟨_, _, _, _, -, -, -, -, h⟩ := h; exact sa_ok.tr sa_ok_J (hK _ _ h)
  | arraylength => obtain ⟨_, _, _, _, _, -, -, -, h⟩ := h; exact hK _ _ h
  | new idx => obtain ⟨_, -, -, -, h⟩ := h; exact sa_ok.tr sa_ok_alloc (hK _ _ h)
  | newarray ty => obtain ⟨_, _, _, -, -, -, -, -, -, h⟩ := h; exact sa_ok.tr sa_ok_alloc (hK _ _ h)
  | getstatic idx => obtain ⟨_, -, h⟩ := h; exact hK _ _ h
  | ldc idx =>
    obtain (⟨_, -, h⟩ | ⟨_, _, -, h⟩) := h
    · exact hK _ _ h
    · exact hK _ _ h
  | ldc_w idx => obtain ⟨_, -, h⟩ := h; exact hK _ _ h
  | ldc2_w idx => obtain ⟨_, -, h⟩ := h; exact hK _ _ h
  | idiv => obtain ⟨_, _, _, -, -, h⟩ := h; exact hK _ _ h
  | irem => obtain ⟨_, _, _, -, -, h⟩ := h; exact hK _ _ h
  | _ => exact h.elim
theorem sa_ct_mono {i : Instr} {pc : Nat} {st : List Value} {K : Nat → List Value → Prop} {P : Prop} (h : sa_ct i pc st K) (hK : ∀ pc' st', K pc' st' → P) : P := by
  cases i with
  | goto off => obtain ⟨_, -, h⟩ := h; exact hK _ _ h
  | ifCond cd off =>
    obtain ⟨x, _, _, -, -, h1, h2⟩ := h
    by_cases hc : sa_cmp cd x 0
    · exact hK _ _ (h1 hc)
    · exact hK _ _ (h2 hc)
  | if_icmp cd off =>
    obtain ⟨x, y, _, _, -, -, h1, h2⟩ := h
    by_cases hc : sa_cmp cd x y
    · exact hK _ _ (h1 hc)
    · exact hK _ _ (h2 hc)
  | tableswitch d lo hi offs =>
    obtain ⟨x, r, -, h1, h2⟩ := h
    by_cases hq : x.toInt < lo ∨ hi < x.toInt
    · obtain ⟨_, -, h⟩ := h1 hq; exact hK _ _ h
    · obtain ⟨_, _, -, -, h⟩ := h2 (fun z => hq (Or.inl z)) (fun z => hq (Or.inr z)); exact hK _ _ h
  | _ => exact h.elim
theorem sa_rt_mono {e : sa_Me} {i : Instr} {st : List Value} {m : sa_Mem} {o : sa_Out} (h : sa_rt e i st m o) : o.2 = m := by
  cases i with
  | ireturn => obtain ⟨_, _, -, -, -, -, rfl⟩ := h; rfl
  | lreturn => obtain ⟨_, -, -, rfl⟩ := h; rfl
  | return_ => obtain ⟨-, -, rfl⟩ := h; rfl
  | _ => exact h.elim
theorem sa_th_mono {e : sa_Me} {pc : Nat} {i : Instr} {st : List Value} {m : sa_Mem} {o : sa_Out} (h : sa_th e pc i st m o) : o.2 = sa_thrown m := by
  cases i with
  | new idx => obtain ⟨_, _, -, -, -, -, -, -, -, rfl⟩ := h; rfl
  | _ => exact h.elim
theorem sa_af_mono {e : sa_Me} {pc : Nat} {lo r : List Value} {o' o : sa_Out} {K : Nat → List Value → List Value → sa_Mem → Prop} (h : sa_af e pc lo r o' o K) (hK : ∀ a b c m1, K a b c m1 → sa_ok m1 o.2) : sa_ok o'.2 o.2 := by
  unfold sa_af at h
  split at h
  · exact hK _ _ _ _ h
  · exact hK _ _ _ _ h
  · split at h
    · rw [h]; exact sa_ok.rf _
    · obtain ⟨_, _, _, -, -, -, -, h⟩ := h; exact hK _ _ _ _ h
theorem sa_iv_mono {C : Nat → List Value → sa_Mem → sa_Out → Prop} (hC : ∀ mi a m o, C mi a m o → sa_ok m o.2) {e : sa_Me} {pc : Nat} {i : Instr} {lo st : List Value} {m : sa_Mem} {o : sa_Out} {K : Nat → List Value → List Value → sa_Mem → Prop} (h : sa_iv C e pc i lo st m o K) (hK : ∀ a b c m1, K a b c m1 → sa_ok m1 o.2) : sa_ok m o.2 := by
  cases i with
  | invokevirtual idx =>
    obtain ⟨_, _, _, _, _, o', -, -, -, -, -, hc, h⟩ := h
    exact sa_ok.tr (hC _ _ _ _ hc) (sa_af_mono h hK)
  | invokestatic idx =>
    obtain (⟨_, _, _, _, _, o', -, -, -, -, -, hc, h⟩ | ⟨_, _, _, -, -, -, h⟩ | ⟨_, _, _, -, -, -, h⟩ | ⟨_, _, _, _, _, _, -, -, -, -, -, -, -, -, -, -, -, -, h⟩) := h
    · exact sa_ok.tr (hC _ _ _ _ hc) (sa_af_mono h hK)
    · exact hK _ _ _ _ h
    · exact hK _ _ _ _ h
    · exact sa_ok.tr sa_ok_I (hK _ _ _ _ h)
  | invokespecial idx =>
    obtain (⟨_, _, _, _, _, _, o', -, -, -, -, -, -, hc, h⟩ | ⟨_, _, -, -, -, -, h⟩) := h
    · exact sa_ok.tr (hC _ _ _ _ hc) (sa_af_mono h hK)
    · exact hK _ _ _ _ h
  | _ => exact h.elim
theorem sa_run_mono {X : Nat × (Nat → Int32)} {C : Nat → List Value → sa_Mem → sa_Out → Prop} (hC : ∀ mi a m o, C mi a m o → sa_ok m o.2) {mi : Nat} {o : sa_Out} : ∀ (f pc : Nat) (lo st : List Value) (m : sa_Mem), sa_run X C mi f pc lo st m o → sa_ok m o.2 := by
  intro f
  induction f with
  | zero => intro pc lo st m h; exact h.elim
  | succ f ih =>
    intro pc lo st m h
    obtain ⟨e, i, len, -, -, (⟨lo', st', -, h⟩ | h | h | h | h | h)⟩ := h
    · exact ih _ _ _ _ h
    · exact sa_he_mono h (fun st' m1 h => ih _ _ _ _ h)
    · exact sa_ct_mono h (fun pc' st' h => ih _ _ _ _ h)
    · rw [sa_rt_mono h]; exact sa_ok.rf _
    · rw [sa_th_mono h]; exact ⟨Nat.le_succ _, Nat.le_add_right _ _, fun z => by cases z⟩
    · exact sa_iv_mono hC h (fun a b c m1 h => ih _ _ _ _ h)
theorem sa_Ex_mono {X : Nat × (Nat → Int32)} : ∀ (d mi : Nat) (a : List Value) (m : sa_Mem) (o : sa_Out), sa_Ex X d mi a m o → sa_ok m o.2 := by
  intro d
  induction d with
  | zero => intro mi a m o h; exact h.elim
  | succ d ih =>
    intro mi a m o h
    obtain ⟨f, e, -, -, -, h⟩ := h
    exact sa_run_mono ih f _ _ _ _ h
theorem sa_st1_len (lo : List Value) (k : Nat) (v : Value) : (sa_st1 lo k v).length = lo.length := by unfold sa_st1; rw [List.length_set, sa_kill_len]
theorem sa_st2_len (lo : List Value) (k : Nat) (v : Value) : (sa_st2 lo k v).length = lo.length := by unfold sa_st2; rw [List.length_set, List.length_set, sa_kill_len]
section SAL
variable {lo st lo' st' : List Value} {k : Nat}
theorem sa_ldI_len (h : sa_ldI lo st k = some (lo', st')) : lo'.length = lo.length := by
  unfold sa_ldI at h
  split at h
  · cases h; rfl
  · cases h
theorem sa_ldL_len (h : sa_ldL lo st k = some (lo', st')) : lo'.length = lo.length := by
  unfold sa_ldL at h
  split at h
  · cases h; rfl
  · cases h
theorem sa_ldA_len (h : sa_ldA lo st k = some (lo', st')) : lo'.length = lo.length := by
  unfold sa_ldA at h
  split at h
  · split at h
    · cases h
    · cases h; rfl
  · cases h
theorem sa_stI_len (h : sa_stI lo st k = some (lo', st')) : lo'.length = lo.length := by
  unfold sa_stI at h
  split at h
  · split at h
    · cases h; exact sa_st1_len _ _ _
    · cases h
  · cases h
theorem sa_stL_len (h : sa_stL lo st k = some (lo', st')) : lo'.length = lo.length := by
  unfold sa_stL at h
  split at h
  · split at h
    · cases h; exact sa_st2_len _ _ _
    · cases h
  · cases h
theorem sa_stA_len (h : sa_stA lo st k = some (lo', st')) : lo'.length = lo.length := by
  unfold sa_stA at h
  split at h
  · split at h
    · cases h
    · split at h
      · cases h; exact sa_st1_len _ _ _
      · cases h
  · cases h
theorem sa_bi_len {g : Int32 → Int32 → Int32} (h : sa_bi lo st g = some (lo', st')) : lo'.length = lo.length := by
  unfold sa_bi at h
  split at h
  · cases h; rfl
  · cases h
theorem sa_bl_len {g : Int64 → Int64 → Int64} (h : sa_bl lo st g = some (lo', st')) : lo'.length = lo.length := by
  unfold sa_bl at h
  split at h
  · cases h; rfl
  · cases h
theorem sa_pu_len {i : Instr} (h : sa_pu i lo st = some (lo', st')) : lo'.length = lo.length := by
  unfold sa_pu at h
  split at h <;> first
    | exact sa_ldI_len h
    | exact sa_ldL_len h
    | exact sa_ldA_len h
    | exact sa_stI_len h
    | exact sa_stL_len h
    | exact sa_stA_len h
    | exact sa_bi_len h
    | exact sa_bl_len h
    | (cases h; done)
    | (cases h; rfl)
    | (split at h <;> first | (cases h; done) | (cases h; rfl) | (cases h; exact sa_st1_len _ _ _))
    | (split at h <;> first | (cases h; done) | (split at h <;> first | (cases h; done) | (cases h; rfl)))
end SAL

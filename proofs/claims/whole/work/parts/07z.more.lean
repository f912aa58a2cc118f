theorem sa_clv : ∀ ci, ci < 13 → ∃ C T N, vwCl[ci]? = some (C, T, N) ∧ sa_C ci = C ∧ sa_nF ci = N ∧ (∀ j, sa_fd ci j = T j) ∧ (∀ j, sa_fin ci j = (T j).2.2.2) ∧ (∀ k, k < N → parseFieldDescriptor (T k).2.2.1 = some (sa_ty ci k)) ∧ ∀ a, a < N → ∀ b, b < N → a ≠ b → (T a).2.1 ≠ (T b).2.1
  | 0, _ => ⟨RX0, TX0, 4, rfl, rfl, rfl, fun _ => rfl, fun _ => rfl, tyX0_ok, nmX0⟩
  | 1, _ => ⟨RX1, TX1, 6, rfl, rfl, rfl, fun _ => rfl, fun _ => rfl, tyX1_ok, nmX1⟩
  | 2, _ => ⟨RX2, TX2, 6, rfl, rfl, rfl, fun _ => rfl, fun _ => rfl, tyX2_ok, nmX2⟩
  | 3, _ => ⟨RX3, TX3, 6, rfl, rfl, rfl, fun _ => rfl, fun _ => rfl, tyX3_ok, nmX3⟩
  | 4, _ => ⟨RX4, TX4, 4, rfl, rfl, rfl, fun _ => rfl, fun _ => rfl, tyX4_ok, nmX4⟩
  | 5, _ => ⟨RX5, TX5, 17, rfl, rfl, rfl, fun _ => rfl, fun _ => rfl, tyX5_ok, nmX5⟩
  | 6, _ => ⟨RX6, TX6, 7, rfl, rfl, rfl, fun _ => rfl, fun _ => rfl, tyX6_ok, nmX6⟩
  | 7, _ => ⟨RX7, TX7, 2, rfl, rfl, rfl, fun _ => rfl, fun _ => rfl, tyX7_ok, nmX7⟩
  | 8, _ => ⟨RX8, TX8, 4, rfl, rfl, rfl, fun _ => rfl, fun _ => rfl, tyX8_ok, nmX8⟩
  | 9, _ => ⟨RX9, TX9, 7, rfl, rfl, rfl, fun _ => rfl, fun _ => rfl, tyX9_ok, nmX9⟩
  | 10, _ => ⟨RX10, TX10, 6, rfl, rfl, rfl, fun _ => rfl, fun _ => rfl, tyX10_ok, nmX10⟩
  | 11, _ => ⟨RX11, TX11, 14, rfl, rfl, rfl, fun _ => rfl, fun _ => rfl, tyX11_ok, nmX11⟩
  | 12, _ => ⟨RX12, TX12, 91, rfl, rfl, rfl, fun _ => rfl, fun _ => rfl, tyX12_ok, nmX12⟩
  | n + 13, h => absurd h (by omega)
theorem sa_pFv : ∀ q ∈ sa_pF, q.2.1 < 13 ∧ q.2.2.1 < sa_nF q.2.1 := by decide +kernel
theorem sa_pNv : ∀ q ∈ sa_pN, q.2 < 13 := by decide +kernel
def sa_pNest : List (Nat × Nat × Nat) := [(11, 26, 63), (6, 44, 42), (3, 63, 197)]
theorem sa_pNest_of : ∀ q ∈ sa_pI, q.2.1 = 3 ∨ q.2.1 = 4 → (q.1.1, q.1.2, q.2.2.1) ∈ sa_pNest := by decide +kernel
def sa_limn (i : Nat) : String := ["CREATURE_LIMITS", "TRICK_LIMITS", "HUNTER_LIMITS", "TALE_LIMITS"].getD i ""
def sa_pSN : List (Nat × Nat × Nat) := [(6, 11, 0), (6, 24, 1), (6, 30, 2), (6, 36, 3)]
/-- words that are no good ones, but stay -/
def sa_bad : List Cond := (sa_pF.filter (fun q => q.2.2.2)).map sa_wF ++ (sa_pNest.map (fun q => Cond.methodLinkNest (sa_C q.1) q.2.1 (sa_y q.2.2) RX11) ++ (sa_pSN.map (fun q => Cond.fieldLinkNest (sa_C q.1) q.2.1 RX11 (sa_limn q.2.2) "[I" RX11) ++ ((vx_at0 RX11 160 (sa_exn 0) sa_sup ++ vx_at0 RX11 103 (sa_exn 1) sa_sup).filter (fun w => !goodWord w) ++ [Cond.castable (sa_exn 0) (sa_exn 0), Cond.castable (sa_exn 1) (sa_exn 1)])))
def sa_bk (w : Cond) : Bool := match w with
  | .fieldLinkNest .. => true
  | .methodLinkNest .. => true
  | w => w.onTables && w.keepsFace
set_option maxRecDepth 100000 in
theorem sa_bad_in : ∀ w ∈ sa_bad, w ∈ lw_tbl := by decide +kernel
set_option maxRecDepth 100000 in
theorem sa_bad_k : ∀ w ∈ sa_bad, sa_bk w = true := by decide +kernel
theorem sa_bk_on {w : Cond} (hk : sa_bk w = true) : w.onTables = true := by
  cases w <;> first | rfl | (simp only [sa_bk, Bool.and_eq_true] at hk; exact hk.1)
theorem sa_warm {w : Cond} (hk : sa_bk w = true) {s U : State} (hW : s.WarmedH U.vm) (h : va_Nw w s) : va_Nw w U := by
  have gen : w.keepsFace = true → va_Nw w U := fun h2 => va_tabs (sa_bk_on hk) (rfl : (s.setVm U.vm).vm = U.vm) (Cond.before_shiftedFace (args := #[]) (State.Shifted.of_warmed hW) w h2 h)
  cases w <;> first | exact va_Nw.warmF hW h | exact va_Nw.warmM hW h | (simp only [sa_bk, Bool.and_eq_true] at hk; exact gen hk.2)
def sa_icn (q : Nat) : Nat := if q = 0 then 160 else 103
theorem sa_pEc : ∀ q ∈ sa_pE, q.2.2 ≠ 0 → q.1.1 = 11 ∧ (q.2.1 = 0 ∨ q.2.1 = 1) ∧ q.2.2 = sa_icn q.2.1 := by decide +kernel
theorem sa_at_ot : ∀ w ∈ vx_at0 RX11 (sa_icn 0) (sa_exn 0) sa_sup ++ vx_at0 RX11 (sa_icn 1) (sa_exn 1) sa_sup, vx_ot w = true := by decide +kernel
theorem sa_at_in {w : Cond} (h : w ∈ vx_at0 RX11 (sa_icn 0) (sa_exn 0) sa_sup ++ vx_at0 RX11 (sa_icn 1) (sa_exn 1) sa_sup) : w ∈ sa_big ∨ w ∈ sa_bad := by
  by_cases g : goodWord w = true
  · exact Or.inl (sa_big_T (List.mem_filter.mpr ⟨h, g⟩))
  · refine Or.inr (List.mem_append_right _ (List.mem_append_right _ (List.mem_append_right _ (List.mem_append_left _ (List.mem_filter.mpr ⟨h, ?_⟩)))))
    cases hg : goodWord w
    · rfl
    · exact absurd hg g
theorem sa_Cmem : ∀ k, k < 19 → sa_C k ∈ sa_cn := by decide +kernel
theorem sa_fdv : ∀ ci, ci < 13 → ∀ j, j < sa_nF ci → (sa_fd ci j).1 = sa_C ci := by decide +kernel

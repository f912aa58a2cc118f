/-! ===== what is left of the claim: the law's loop, by reckoning ===== -/
def sa_Iw : List ((Nat × Nat) × Int32) := [((91, 2), -1), ((91, 0), 50), ((59, 23), -1), ((59, 6), -1), ((58, 2), -1), ((58, 0), 50), ((56, 3), 0), ((53, 5), 0), ((53, 4), 0), ((41, 16), 0), ((41, 14), -1), ((41, 13), 0), ((41, 12), 0), ((41, 11), 0), ((41, 10), 0), ((41, 9), 0), ((41, 8), 0), ((0, 9), 0), ((40, 2), -1), ((40, 0), 50), ((36, 5), 0), ((36, 3), 0), ((36, 2), 0), ((35, 2), -1), ((35, 0), 50), ((31, 5), 0), ((31, 3), 0), ((31, 2), 0), ((30, 6), 0), ((30, 5), 0), ((30, 4), 0), ((30, 3), 0), ((30, 2), 0), ((30, 1), 0), ((29, 5), 0), ((29, 4), 0), ((29, 3), -1), ((29, 2), 0), ((16, 6), 0), ((16, 5), 50), ((25, 3), 0), ((23, 2), 8), ((23, 3), 0), ((21, 2), 6), ((21, 3), 0), ((19, 2), 8), ((19, 3), 0), ((17, 2), 6), ((17, 3), 0), ((3, 6), 0), ((3, 5), 50), ((12, 3), 0), ((10, 2), 8), ((10, 3), 0), ((8, 2), 6), ((8, 3), 0), ((6, 2), 8), ((6, 3), 0), ((4, 2), 6), ((4, 3), 0), ((0, 2), -1), ((0, 1), 0)]
def c_law : Option (Nat × List Value × List Value × cS) := cn (ce 100) sa_law 13 (0, sa_en [.ref 100000] 7, [], ([], [], [], 0))
def c_lo (lo : List Value) : Bool := match lo with
  | [.ref a, .ref b, .ref c, .ref d, .int x, .retAddr 0, .retAddr 0] => a == 100000 && b == 0 && c == 59 && d == 111 && x == 0
  | _ => false
def c_chk : Bool := match c_law with
  | some (pc, lo, st, s) => pc == 23 && c_lo lo && st.isEmpty && s.1 == sa_SHl && s.2.1 == sa_RRl && s.2.2.1 == sa_Iw && s.2.2.2 == 53216
  | none => false
theorem c_chk_ok : c_chk = true := by decide +kernel
theorem c_lo_ok {lo : List Value} (h : c_lo lo = true) : lo = [.ref 100000, .ref 0, .ref 59, .ref 111, .int 0, sa_no, sa_no] := by
  unfold c_lo at h
  split at h
  · simp only [Bool.and_eq_true, beq_iff_eq] at h
    obtain ⟨⟨⟨⟨rfl, rfl⟩, rfl⟩, rfl⟩, rfl⟩ := h
    rfl
  · cases h
theorem c_law_ok : c_law = some (23, [.ref 100000, .ref 0, .ref 59, .ref 111, .int 0, sa_no, sa_no], [], (sa_SHl, sa_RRl, sa_Iw, 53216)) := by
  have h := c_chk_ok
  unfold c_chk at h
  split at h
  · rename_i pc lo st s hc
    obtain ⟨s1, s2, s3, s4⟩ := s
    simp only [Bool.and_eq_true, beq_iff_eq, List.isEmpty_iff] at h
    obtain ⟨⟨⟨⟨⟨⟨rfl, h2⟩, rfl⟩, rfl⟩, rfl⟩, rfl⟩, rfl⟩ := h
    rw [hc, c_lo_ok h2]
  · cases h
def M0 : rM := ((112, 53216, false), fun k j => ((sa_Iw.lookup (k, j)).getD 0).toInt, fun _ _ => 0)
theorem cv_M0 : cvM M0 = cvS (sa_SHl, sa_RRl, sa_Iw, 53216) := by
  have : (fun k j => Int32.ofInt (M0.2.1 k j)) = fun k j => (sa_Iw.lookup (k, j)).getD 0 := by
    funext k j
    exact of_t _
  unfold cvM
  rw [this]
  rfl
theorem rg_M0 : rgM M0 := fun k j => rg_t _
abbrev lw_lo (i : Int) : List (Option rq) := [some (rv 100000), some (rv 0), some (rv 59), some (rv 111), some (iv i), none, none]
theorem sa_goal_of (H : ∀ X : Nat × (Nat → Int32), X.1 ≤ 3072 → ∃ n M', kb X 100 362 n 23 (lw_lo 0) [] M0 = oI 1 M' ∧ M'.1.1 ≤ 601024 ∧ M'.1.2.1 ≤ 7293034) : sa_Goal := by
  intro L xs hL
  obtain ⟨n, M', h, h1, h2⟩ := H (L, xs) hL
  have hC := fun mi2 args M o h h1 h2 => rFn_ok (X := (L, xs)) (sp := sp0) 100 mi2 args M o h h1 h2
  have hl : rgl (lw_lo 0) := by
    intro k v hk
    rcases k with _ | _ | _ | _ | _ | _ | _ | k
    · cases hk; trivial
    · cases hk; trivial
    · cases hk; trivial
    · cases hk; trivial
    · cases hk; exact rgi_0
    · cases hk
    · cases hk
    · cases hk
  obtain ⟨hw, -⟩ := rKg_ok (mi := 362) hC n 23 _ [] M0 _ h hl (fun v hv => by cases hv) rg_M0
  rw [cv_M0] at hw
  have hw2 := cn_ok (X := (L, xs)) (C' := sa_Ex (L, xs) 100) (ce_ok 100) sa_lawi 13 c_law_ok hw
  obtain ⟨f, o, g1, rfl⟩ := hw2
  exact ⟨f, cvM M', g1, h1, h2⟩

/-! ===== all that both sides hold between two calls ===== -/
abbrev MK : Type := Nat × Nat × Nat × Nat
/-- sky, state, past (oldest first), marks, image, tape, fault's place, refused -/
abbrev AS : Type := SK × WD × List WD × List MK × Option (WD × List WD × List MK) × List Nat × Int × (Nat → Int)
def aS (A : AS) : SK := A.1
def aW (A : AS) : WD := A.2.1
def aP (A : AS) : List WD := A.2.2.1
def aK (A : AS) : List MK := A.2.2.2.1
def aI (A : AS) : Option (WD × List WD × List MK) := A.2.2.2.2.1
def aT (A : AS) : List Nat := A.2.2.2.2.2.1
def aF (A : AS) : Int := A.2.2.2.2.2.2.1
def aR (A : AS) : Nat → Int := A.2.2.2.2.2.2.2
def W00 : WD := fun _ => 0
def K00 : MK := (0, 0, 0, 0)
def okK (S : SK) (K : List MK) : Prop := K.length ≤ 8 ∧ ∀ m ∈ K, m.1 < nC S ∧ 1 ≤ m.2.1 ∧ m.2.1 ≤ 4 ∧ m.2.2.1 < 6 ∧ m.2.2.2 ≤ 1
def okP (S : SK) (P : List WD) : Prop := P.length ≤ 40 ∧ ∀ V ∈ P, WW S V ∧ V 1 ≤ 999
def okW (S : SK) (W : WD) : Prop := WW S W ∧ W 1 ≤ 999
/-- it is well -/
def OKA (A : AS) : Prop := WF (aS A) ∧ WR (aS A) ∧ okW (aS A) (aW A) ∧ okP (aS A) (aP A) ∧ okK (aS A) (aK A) ∧ (∀ V P K, aI A = some (V, P, K) → okW (aS A) V ∧ okP (aS A) P ∧ okK (aS A) K) ∧ (aT A).length ≤ 700 ∧ ∀ b ∈ aT A, b ≤ 255
def mkc (m : MK) : Int := ((m.1 * 256 + m.2.1 * 32 + m.2.2.1 * 2 + m.2.2.2 : Nat) : Int)
/-- one of the class's two worlds -/
def CWd (w n : Nat) (W : WD) (P : List WD) (K : List MK) (M : rM) : Prop := CW (w + 4) 0 n W M ∧ (∃ o : Nat, M.2.1 w 2 = (o : Int) ∧ o < 40 ∧ ∀ i, i < P.length → CW (w + 1) (27 * ((o + i) % 40)) n (P.getD i W00) M) ∧ M.2.1 w 3 = (P.length : Int) ∧ M.2.1 w 5 = (K.length : Int) ∧ ∀ i, i < K.length → M.2.1 (w + 2) i = mkc (K.getD i K00)
def sby (b : Nat) : Int := if b < 128 then (b : Int) else (b : Int) - 256
def CH (A : AS) (M : rM) : Prop := CS (aS A) M ∧ CWd 31 (nC (aS A)) (aW A) (aP A) (aK A) M ∧
  ((aI A = none ∧ M.2.1 0 9 = 0) ∨ (∃ V P K, aI A = some (V, P, K) ∧ M.2.1 0 9 = 1 ∧ CWd 36 (nC (aS A)) V P K M)) ∧
  M.2.1 0 1 = ((aT A).length : Int) ∧ (∀ i, i < (aT A).length → M.2.1 1 i = sby ((aT A).getD i 0)) ∧ M.2.1 0 2 = aF A ∧ (∀ j, j < 3 → M.2.1 2 j = aR A j) ∧
  M.2.1 17 2 = 6 ∧ M.2.1 19 2 = 8 ∧ M.2.1 21 2 = 6 ∧ M.2.1 23 2 = 8
def MWd (r a k fa fk n : Nat) (W : WD) (P : List WD) (K : List MK) (M : rM) : Prop := MW r 0 n W M ∧ M.2.1 59 fa = (P.length : Int) ∧ (∀ i, i < P.length → MW a (27 * i) n (P.getD i W00) M) ∧ M.2.1 59 fk = (K.length : Int) ∧
  ∀ i, i < K.length → M.2.1 k (4 * i) = ((K.getD i K00).1 : Int) ∧ M.2.1 k (4 * i + 1) = ((K.getD i K00).2.1 : Int) ∧ M.2.1 k (4 * i + 2) = ((K.getD i K00).2.2.1 : Int) ∧ M.2.1 k (4 * i + 3) = ((K.getD i K00).2.2.2 : Int)
def MH (A : AS) (M : rM) : Prop := MS (aS A) M ∧ MWd 91 92 104 61 76 (nC (aS A)) (aW A) (aP A) (aK A) M ∧
  ((aI A = none ∧ M.2.1 59 85 = 0) ∨ (∃ V P K, aI A = some (V, P, K) ∧ M.2.1 59 85 = 1 ∧ MWd 108 109 110 86 87 (nC (aS A)) V P K M)) ∧
  M.2.1 59 21 = ((aT A).length : Int) ∧ (∀ i, i < (aT A).length → M.2.1 73 i = ((aT A).getD i 0 : Int)) ∧ M.2.1 59 23 = aF A ∧ (∀ j, j < 3 → M.2.1 74 j = aR A j)
section C43
variable {M M' : rM} {A : AS} {W : WD} {P : List WD} {K : List MK} {n : Nat}
theorem CWd.fr {w : Nat} (h : CWd w n W P K M) (e : ∀ k, k = w ∨ k = w + 1 ∨ k = w + 2 ∨ k = w + 4 → M'.2.1 k = M.2.1 k) : CWd w n W P K M' := by
  obtain ⟨h1, ⟨o, h2, h3, h4⟩, h5, h6, h7⟩ := h
  have e0 := e w (by omega)
  refine ⟨h1.fr (e _ (by omega)), ⟨o, by rw [e0]; exact h2, h3, fun i hi => (h4 i hi).fr (e _ (by omega))⟩, by rw [e0]; exact h5, by rw [e0]; exact h6, fun i hi => by rw [e (w + 2) (by omega)]; exact h7 i hi⟩
/-- cells of the class that matter between calls -/
def eC (k j : Nat) : Bool := (k == 0 && (j == 1 || j == 2 || j == 9)) || k == 1 || k == 2 || (3 ≤ k && k ≤ 13) || ((k == 17 || k == 19 || k == 21 || k == 23) && j == 2) || (31 ≤ k && k ≤ 33) || k == 35 || (36 ≤ k && k ≤ 38) || k == 40
theorem CH.fr (h : CH A M) (e : ∀ k j, eC k j = true → M'.2.1 k j = M.2.1 k j) : CH A M' := by
  have ek : ∀ k, (∀ j, eC k j = true) → M'.2.1 k = M.2.1 k := fun k hk => by
    funext j
    exact e k j (hk j)
  have e31 : ∀ k, k = 31 ∨ k = 31 + 1 ∨ k = 31 + 2 ∨ k = 31 + 4 → M'.2.1 k = M.2.1 k := by
    rintro k (rfl | rfl | rfl | rfl) <;> exact ek _ (fun j => by simp [eC])
  have e36 : ∀ k, k = 36 ∨ k = 36 + 1 ∨ k = 36 + 2 ∨ k = 36 + 4 → M'.2.1 k = M.2.1 k := by
    rintro k (rfl | rfl | rfl | rfl) <;> exact ek _ (fun j => by simp [eC])
  obtain ⟨h1, h2, h3, h4, h5, h6, h7, h8, h9, h10, h11⟩ := h
  refine ⟨h1.fr (fun k z1 z2 => ek k (fun j => by simp [eC, z1, z2])), h2.fr e31, ?_, ?_, ?_, ?_, ?_, ?_, ?_, ?_, ?_⟩
  · rcases h3 with ⟨z1, z2⟩ | ⟨V, P, K, z1, z2, z3⟩
    · exact Or.inl ⟨z1, by rw [e 0 9 (by decide)]; exact z2⟩
    · exact Or.inr ⟨V, P, K, z1, by rw [e 0 9 (by decide)]; exact z2, z3.fr e36⟩
  · rw [e 0 1 (by decide)]; exact h4
  · intro i hi
    rw [ek 1 (fun j => by simp [eC])]; exact h5 i hi
  · rw [e 0 2 (by decide)]; exact h6
  · intro j hj
    rw [ek 2 (fun j => by simp [eC])]; exact h7 j hj
  · rw [e 17 2 (by decide)]; exact h8
  · rw [e 19 2 (by decide)]; exact h9
  · rw [e 21 2 (by decide)]; exact h10
  · rw [e 23 2 (by decide)]; exact h11
theorem MWd.fr {r a k fa fk : Nat} (h : MWd r a k fa fk n W P K M) (er : ∀ j, j < 27 → M'.2.1 r j = M.2.1 r j) (ea : M'.2.1 a = M.2.1 a) (ek : M'.2.1 k = M.2.1 k) (e1 : M'.2.1 59 fa = M.2.1 59 fa) (e2 : M'.2.1 59 fk = M.2.1 59 fk) : MWd r a k fa fk n W P K M' := by
  obtain ⟨h1, h2, h3, h4, h5⟩ := h
  exact ⟨h1.fr (fun j _ z => er j (by omega)), by rw [e1]; exact h2, fun i hi => (h3 i hi).fr (fun j _ _ => by rw [ea]), by rw [e2]; exact h4, fun i hi => by rw [ek]; exact h5 i hi⟩
/-- cells of the model that matter between calls -/
def eM (k j : Nat) : Bool := (k == 59 && ((1 ≤ j && j ≤ 6) || j == 21 || j == 23 || j == 61 || j == 76 || j == 85 || j == 86 || j == 87)) || (60 ≤ k && k ≤ 74) || (k == 91 && decide (j < 27)) || k == 92 || k == 104 || (108 ≤ k && k ≤ 110)
theorem MH.fr (h : MH A M) (e : ∀ k j, eM k j = true → M'.2.1 k j = M.2.1 k j) : MH A M' := by
  have ek : ∀ k, (∀ j, eM k j = true) → M'.2.1 k = M.2.1 k := fun k hk => by
    funext j
    exact e k j (hk j)
  obtain ⟨h1, h2, h3, h4, h5, h6, h7⟩ := h
  refine ⟨h1.fr (fun k z1 z2 => ek k (fun j => by simp [eM]; omega)) (fun j z1 z2 => e 59 j (by simp [eM]; omega)), h2.fr (fun j hj => e 91 j (by simp [eM, hj])) (ek 92 (fun j => by simp [eM])) (ek 104 (fun j => by simp [eM])) (e 59 61 (by decide)) (e 59 76 (by decide)), ?_, ?_, ?_, ?_, ?_⟩
  · rcases h3 with ⟨z1, z2⟩ | ⟨V, P, K, z1, z2, z3⟩
    · exact Or.inl ⟨z1, by rw [e 59 85 (by decide)]; exact z2⟩
    · exact Or.inr ⟨V, P, K, z1, by rw [e 59 85 (by decide)]; exact z2, z3.fr (fun j _ => e 108 j (by simp [eM])) (ek 109 (fun j => by simp [eM])) (ek 110 (fun j => by simp [eM])) (e 59 86 (by decide)) (e 59 87 (by decide))⟩
  · rw [e 59 21 (by decide)]; exact h4
  · intro i hi
    rw [ek 73 (fun j => by simp [eM])]; exact h5 i hi
  · rw [e 59 23 (by decide)]; exact h6
  · intro j hj
    rw [ek 74 (fun j => by simp [eM])]; exact h7 j hj
/-- a call of the class leaves the model's cells alone -/
def kC (M M' : rM) : Prop := ∀ k, 59 ≤ k → M'.2.1 k = M.2.1 k
/-- a call of the model leaves the class's cells, and the answer that waits, alone -/
def kM (M M' : rM) : Prop := M'.1 = M.1 ∧ (∀ k, k < 59 → M'.2.1 k = M.2.1 k) ∧ M'.2.2 111 = M.2.2 111
theorem MH.kc (h : MH A M) (e : kC M M') : MH A M' := h.fr (fun k j z => by
  rw [e k ?_]
  unfold eM at z
  simp only [Bool.or_eq_true, Bool.and_eq_true, beq_iff_eq, decide_eq_true_eq] at z
  omega)
theorem CH.km (h : CH A M) (e : kM M M') : CH A M' := h.fr (fun k j z => by
  rw [e.2.1 k ?_]
  unfold eC at z
  simp only [Bool.or_eq_true, Bool.and_eq_true, beq_iff_eq, decide_eq_true_eq] at z
  omega)
theorem kC.rf : kC M M := fun _ _ => rfl
theorem kC.tr {M1 M2 : rM} (h1 : kC M M1) (h2 : kC M1 M2) : kC M M2 := fun k hk => (h2 k hk).trans (h1 k hk)
theorem kM.rf : kM M M := ⟨rfl, fun _ _ => rfl, rfl⟩
theorem kM.tr {M1 M2 : rM} (h1 : kM M M1) (h2 : kM M1 M2) : kM M M2 := ⟨h2.1.trans h1.1, fun k hk => (h2.2.1 k hk).trans (h1.2.1 k hk), h2.2.2.trans h1.2.2⟩
theorem kM.pu {M1 : rM} (h : kM M M1) {k : Nat} (hk : 59 ≤ k) (j : Nat) (x : Int) : kM M (puI M1 k j x) := ⟨h.1, fun a ha => (puI_k (by omega)).trans (h.2.1 a ha), h.2.2⟩
theorem kC.pu {M1 : rM} (h : kC M M1) {k : Nat} (hk : k < 59) (j : Nat) (x : Int) : kC M (puI M1 k j x) := fun a ha => (puI_k (by omega)).trans (h a ha)
theorem kM.sf {Q : Nat → Nat → Bool} (h : sf Q M M') (hq : ∀ k j, k < 59 ∨ k = 111 → Q k j = false) : kM M M' := ⟨h.1, fun k hk => by
  funext j
  exact (h.2 k j (hq k j (Or.inl hk))).1, by
  funext j
  exact (h.2 111 j (hq 111 j (Or.inr rfl))).2⟩
theorem kC.sf {Q : Nat → Nat → Bool} (h : sf Q M M') (hq : ∀ k j, 59 ≤ k → Q k j = false) : kC M M' := fun k hk => by
  funext j
  exact (h.2 k j (hq k j hk)).1
/-- the model's 'thrown = 0' -/
theorem MH.p0 (h : MH A M) (x : Int) : MH A (puI M 59 0 x) := h.fr (fun k j z => by
  rw [puI_at]
  by_cases h1 : k = 59
  · by_cases h2 : j = 0
    · subst h1; subst h2
      cases z
    · rw [if_pos h1, if_neg h2, h1]
  · rw [if_neg h1])
theorem MH.sf {Q : Nat → Nat → Bool} (h : MH A M) (e : sf Q M M') (hq : ∀ k j, eM k j = true → Q k j = false) : MH A M' := h.fr (fun k j z => (e.2 k j (hq k j z)).1)
theorem CH.sf {Q : Nat → Nat → Bool} (h : CH A M) (e : sf Q M M') (hq : ∀ k j, eC k j = true → Q k j = false) : CH A M' := h.fr (fun k j z => (e.2 k j (hq k j z)).1)
end C43

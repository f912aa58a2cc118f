section C84b
variable {t : TS} {L D B : Nat} {sub : Nat → List Int → PZ} {W O S : List Int} {te : List Bool} {k : Nat}
theorem nots_le (t : TS) : ∀ (f k : Nat), nots t f k ≤ f ∧ (nots t f k < f → tkK t (k + nots t f k) ≠ 110)
  | 0, k => ⟨Nat.le_refl 0, fun h => absurd h (Nat.lt_irrefl 0)⟩
  | f + 1, k => by
    have ih := nots_le t f (k + 1)
    unfold nots
    by_cases h : tkK t k = 110
    · rw [if_pos h]
      refine ⟨by omega, fun z => ?_⟩
      have := ih.2 (by omega)
      rw [show k + (nots t f (k + 1) + 1) = k + 1 + nots t f (k + 1) by omega]
      exact this
    · rw [if_neg h]
      exact ⟨by omega, fun _ => h⟩
theorem nots_run : ∀ (f c k : Nat) (W : List Int), c + f = 6 → Rn t (some (true, c), k, W, O, te) (some (true, c + nots t f k), k + nots t f k, List.replicate (nots t f k) 3 ++ W, O, te)
  | 0, c, k, W, _ => Rn_rf
  | f + 1, c, k, W, h => by
    unfold nots
    by_cases h1 : tkK t k = 110
    · rw [if_pos h1]
      have ih := nots_run f (c + 1) (k + 1) (3 :: W) (by omega)
      have hs : Rn t (some (true, c), k, W, O, te) (some (true, c + 1), k + 1, 3 :: W, O, te) := by
        refine Rn_st ?_ rfl
        show (if true = true ∧ tkK t k = 110 then _ else _) = _
        rw [if_pos ⟨rfl, h1⟩, if_neg (by omega)]
      have := Rn_tr hs ih
      rw [show c + (nots t f (k + 1) + 1) = c + 1 + nots t f (k + 1) by omega, show k + (nots t f (k + 1) + 1) = k + 1 + nots t f (k + 1) by omega, List.replicate_succ', List.append_assoc]
      exact this
    · rw [if_neg h1]
      exact Rn_rf
theorem encs_rep (n : Nat) : encs (List.replicate n (-12)) = List.replicate n 3 := by
  induction n with
  | zero => rfl
  | succ n ih =>
    rw [List.replicate_succ, encs_cons, ih, List.replicate_succ]
    rfl
theorem not_sim (hs : Sm t 4 D sub) (hD : D ≤ 6) : Sm t 3 D (pNot t sub) := by
  intro nt c k W O te r he hW hd
  obtain ⟨rfl, rfl⟩ := he.1 (by omega)
  have hf := he.2.1 (by omega)
  have hr := nots_run (t := t) (O := O) (te := te) 6 0 k W (by omega)
  have hl := nots_le t 6 k
  unfold pNot
  generalize nots t 6 k = n at hr hl
  rw [Nat.zero_add] at hr
  by_cases h1 : tkK t (k + n) = 110
  · rw [if_pos h1]
    refine ⟨fun y z => ?_, fun k' r' z => (by cases z)⟩
    cases z
    refine Rf_tr hr (Rf_st ?_ (Nat.le_refl _))
    show (if true = true ∧ tkK t (k + n) = 110 then _ else _) = _
    have : n = 6 := by
      apply Classical.byContradiction
      intro h
      exact hl.2 (by omega) h1
    rw [if_pos ⟨rfl, h1⟩, if_pos this]
  · rw [if_neg h1]
    have htop : topO 4 (List.replicate n 3 ++ W) := by
      intro a W' z
      cases n with
      | zero =>
        have := hW a W' z
        omega
      | succ n =>
        rw [List.replicate_succ] at z
        cases z
        exact Or.inr (by decide)
    obtain ⟨g1, g2⟩ := hs true n (k + n) (List.replicate n 3 ++ W) O te r ⟨fun z => by omega, fun _ => hf, fun _ _ => h1⟩ htop hd
    cases hp : sub (k + n) r with
    | inl x =>
      rw [hp] at g1
      refine ⟨fun y z => ?_, fun k' r' z => (by cases z)⟩
      cases z
      exact Rf_tr hr (g1 x rfl)
    | inr v =>
      obtain ⟨k2, r2⟩ := v
      rw [hp] at g2
      obtain ⟨nw, S2, O2, te3, a1, a2, a3, a4, a5, a6, a7, a8, a9⟩ := g2 k2 r2 rfl
      refine ⟨fun x z => (by cases z), fun k' r' z => ?_⟩
      cases z
      rw [← List.append_assoc] at a2
      refine ⟨nw ++ List.replicate n (-12), S2 ++ List.replicate n 3, O2, te3, by rw [a1, List.append_assoc], Rn_tr hr a2, ?_, ?_, a5, a6, fun z => by omega, ?_, by omega⟩
      · intro b hb
        rcases List.mem_append.1 hb with hb | hb
        · have := a3 b hb
          exact ⟨this.1, by omega⟩
        · rw [List.eq_of_mem_replicate hb]
          decide
      · rw [← List.append_assoc, a4, encs_app, encs_rep, List.append_assoc]
      · have := lev_in (tkK t k2)
        rcases a8 with h | ⟨h, h', h''⟩
        · exact Or.inl (by omega)
        · exact Or.inr ⟨h, h', by omega⟩
theorem stg_le (a : Int) : stg a ≤ 6 := by
  unfold stg
  repeat' split
  all_goals omega
theorem part_leaf {nt : Bool} {c : Nat} {r : List Int} {x : Int} (h : stM t (some (nt, c), k, W, O, te) = .inl (none, k + 1, W, O ++ enc x, te)) : Ps t 7 (some (nt, c), k, W, O, te) (k + 1) W O te r (.inr (k + 1, r ++ [x])) := by
  refine ⟨fun y z => (by cases z), fun k' r' z => ?_⟩
  cases z
  refine ⟨[x], [], O ++ enc x, te, rfl, Rn_st h rfl, fun a ha => (by cases ha), ?_, rfl, rfl, fun _ => rfl, Or.inl ?_, Nat.le_refl _⟩
  · rw [List.append_nil, encs_one]
  · have := lev_in (tkK t (k + 1))
    omega
theorem part_flt {nt : Bool} {c : Nat} {r : List Int} {x : Nat × Nat} (h : stM t (some (nt, c), k, W, O, te) = .inr (.inl x)) (hk : k ≤ x.2) : Ps t 7 (some (nt, c), k, W, O, te) (k + 1) W O te r (.inl x) := by
  refine ⟨fun y z => ?_, fun k' r' z => (by cases z)⟩
  cases z
  exact Rf_st h hk
theorem enc_pos {n : Nat} : enc (n : Int) = [1, (n : Int)] := by
  unfold enc
  rw [if_pos (by omega)]
theorem enc_val {q : Nat} (h1 : 111 ≤ q) (h2 : q ≤ 116) : enc (110 - (q : Int)) = [2, (q : Int) - 111] := by
  unfold enc
  rw [if_neg (by omega), if_pos (by omega)]
  congr 2
  omega
theorem part_sim (hd : D = 0 ∨ Sm t 1 D (pE t D)) (hD : D + 1 ≤ 6) : Sm t 7 (D + 1) (pPart t (pE t D)) := by
  intro nt c k W O te r he hW hl
  have h110 : ¬ (nt = true ∧ tkK t k = 110) := fun z => he.2.2 (by omega) z.1 z.2
  unfold pPart
  by_cases h2 : tkK t k = 2
  · rw [if_pos h2]
    have e1 : stM t (some (nt, c), k, W, O, te) = if 4 < tkD t k then .inr (.inl (2, k)) else .inl (none, k + 1, W, O ++ [1, (tkV t k : Int)], te) := by
      show (if nt = true ∧ tkK t k = 110 then _ else if tkK t k = 40 then _ else if tkK t k = 2 then _ else _) = _
      rw [if_neg h110, if_neg (by omega), if_pos h2]
    by_cases h4 : 4 < tkD t k
    · rw [if_pos h4] at e1 ⊢
      exact part_flt e1 (Nat.le_refl _)
    · rw [if_neg h4] at e1 ⊢
      exact part_leaf (by rw [enc_pos]; exact e1)
  rw [if_neg h2]
  by_cases hv : 111 ≤ tkK t k ∧ tkK t k ≤ 116
  · rw [if_pos hv]
    refine part_leaf ?_
    rw [enc_val hv.1 hv.2]
    show (if nt = true ∧ tkK t k = 110 then _ else if tkK t k = 40 then _ else if tkK t k = 2 then _ else if 111 ≤ tkK t k ∧ tkK t k ≤ 116 then _ else _) = _
    rw [if_neg h110, if_neg (by omega), if_neg h2, if_pos hv]
  rw [if_neg hv]
  by_cases hw : 100 ≤ tkK t k
  · rw [if_pos hw]
    refine part_flt ?_ (Nat.le_refl _)
    show (if nt = true ∧ tkK t k = 110 then _ else if tkK t k = 40 then _ else if tkK t k = 2 then _ else if 111 ≤ tkK t k ∧ tkK t k ≤ 116 then _ else if 100 ≤ tkK t k then _ else _) = _
    rw [if_neg h110, if_neg (by omega), if_neg h2, if_neg hv, if_pos hw]
  rw [if_neg hw]
  by_cases h40 : tkK t k = 40
  · rw [if_pos h40]
    rcases hd with rfl | hd
    · show Ps t 7 _ _ W O te r (.inl (if canB (tkK t (k + 1)) then 2 else 1, k + 1))
      refine part_flt ?_ (Nat.le_succ _)
      show (if nt = true ∧ tkK t k = 110 then _ else if tkK t k = 40 then (if te.length < 6 then _ else _) else _) = _
      rw [if_neg h110, if_pos h40, if_neg (by omega)]
    · have hD1 : D ≠ 0 ∨ D = 0 := by omega
      by_cases h6 : te.length < 6
      · have hs : Rn t (some (nt, c), k, W, O, te) (some (true, 0), k + 1, 14 :: W, O, false :: te) := by
          refine Rn_st ?_ rfl
          show (if nt = true ∧ tkK t k = 110 then _ else if tkK t k = 40 then (if te.length < 6 then _ else _) else _) = _
          rw [if_neg h110, if_pos h40, if_pos h6]
        have htop : topO 1 (14 :: W) := by
          intro a W' z
          cases z
          exact Or.inl rfl
        obtain ⟨g1, g2⟩ := hd true 0 (k + 1) (14 :: W) O (false :: te) r ⟨fun _ => ⟨rfl, rfl⟩, fun _ => rfl, fun z => by omega⟩ htop (by rw [List.length_cons]; omega)
        cases hp : pE t D (k + 1) r with
        | inl x =>
          rw [hp] at g1
          refine ⟨fun y z => ?_, fun k' r' z => (by cases z)⟩
          cases z
          exact Rf_tr hs (g1 x rfl)
        | inr v =>
          obtain ⟨k2, r2⟩ := v
          rw [hp] at g2
          obtain ⟨nw, S2, O2, te3, a1, a2, a3, a4, a5, a6, a7, a8, a9⟩ := g2 k2 r2 rfl
          dsimp only
          have hn := Rn_tr hs a2
          have a5' : te3.tail = te := a5
          rw [List.length_cons] at a6
          have hlv : lev (tkK t k2) = 0 ∨ (lev (tkK t k2) ≠ 0 ∧ lev (tkK t k2) = 4 ∧ te3.headD false = true) := by
            rcases a8 with h | ⟨h, h', h''⟩
            · exact Or.inl (by omega)
            · exact Or.inr ⟨by omega, h, h'⟩
          by_cases h41 : tkK t k2 = 41
          · rw [if_pos h41]
            have hs2 : Rn t (none, k2, S2 ++ 14 :: W, O2, te3) (none, k2 + 1, W, O2 ++ S2, te) := by
              refine Rn_st ?_ rfl
              show (if lev (tkK t k2) = 0 then (if tkK t k2 = 41 ∧ 14 ∈ S2 ++ 14 :: W then _ else _) else _) = _
              have e0 : lev (tkK t k2) = 0 := by
                rw [h41]
                decide
              rw [if_pos e0, if_pos ⟨h41, List.mem_append_right _ (List.mem_cons_self ..)⟩, drp_app 0 S2 (14 :: W) O2 (fun a ha => ⟨(a3 a ha).1, Nat.zero_le _⟩) (fun a W' z => by cases z; exact Or.inl rfl), a5']
              rfl
            refine ⟨fun x z => (by cases z), fun k' r' z => ?_⟩
            cases z
            refine ⟨nw, [], O2 ++ S2, te, a1, Rn_tr hn hs2, fun a ha => (by cases ha), ?_, rfl, rfl, fun _ => rfl, Or.inl ?_, by omega⟩
            · rw [List.append_nil, a4]
            · have := lev_in (tkK t (k2 + 1))
              omega
          · rw [if_neg h41]
            refine ⟨fun y z => ?_, fun k' r' z => (by cases z)⟩
            cases z
            refine Rf_tr hn (Rf_st ?_ (Nat.le_refl _))
            have eh : hlt k2 (S2 ++ 14 :: W) O2 te3 = .inl (1, k2) := by
              unfold hlt
              rw [if_pos (by omega)]
            show (if lev (tkK t k2) = 0 then (if tkK t k2 = 41 ∧ 14 ∈ S2 ++ 14 :: W then _ else Sum.inr (hlt k2 (S2 ++ 14 :: W) O2 te3)) else if lev (tkK t k2) = 4 ∧ te3.headD false = true then Sum.inr (hlt k2 (S2 ++ 14 :: W) O2 te3) else _) = _
            rcases hlv with h | ⟨h, h'⟩
            · rw [if_pos h, if_neg (fun z => h41 z.1), eh]
            · rw [if_neg h, if_pos h', eh]
      · have : D = 0 := by omega
        subst this
        show Ps t 7 _ _ W O te r (.inl (if canB (tkK t (k + 1)) then 2 else 1, k + 1))
        refine part_flt ?_ (Nat.le_succ _)
        show (if nt = true ∧ tkK t k = 110 then _ else if tkK t k = 40 then (if te.length < 6 then _ else _) else _) = _
        rw [if_neg h110, if_pos h40, if_neg h6]
  · rw [if_neg h40]
    refine part_flt ?_ (Nat.le_refl _)
    show (if nt = true ∧ tkK t k = 110 then _ else if tkK t k = 40 then _ else if tkK t k = 2 then _ else if 111 ≤ tkK t k ∧ tkK t k ≤ 116 then _ else if 100 ≤ tkK t k then _ else _) = _
    rw [if_neg h110, if_neg h40, if_neg h2, if_neg hv, if_neg hw]
theorem pE_sim (hT : Tok t) : ∀ D, D + 1 ≤ 6 → Sm t 1 (D + 1) (pE t (D + 1))
  | 0, h => ch_sim hT (ch_sim hT (not_sim (test_sim (ch_sim hT (ch_sim hT (part_sim (Or.inl rfl) h) (by omega) h) (by omega) h) h) h) (by omega) h) (by omega) h
  | D + 1, h => ch_sim hT (ch_sim hT (not_sim (test_sim (ch_sim hT (ch_sim hT (part_sim (Or.inr (pE_sim hT D (by omega))) h) (by omega) h) (by omega) h) h) h) (by omega) h) (by omega) h
/-- a whole rule -/
theorem pE_fin (hT : Tok t) (k : Nat) (r : List Int) : (∀ x, pE t 6 k r = .inl x → ∃ m, ex t m (some (true, 0), k, [], [], [false]) = some (.inl x)) ∧ ∀ k' r', pE t 6 k r = .inr (k', r') → ∃ nw m, r' = r ++ nw ∧ ex t m (some (true, 0), k, [], [], [false]) = some (.inr (k', encs nw ++ [0])) := by
  obtain ⟨g1, g2⟩ := pE_sim hT 5 (by omega) true 0 k [] [] [false] r ⟨fun _ => ⟨rfl, rfl⟩, fun _ => rfl, fun z => by omega⟩ (fun a W' z => by cases z) rfl
  refine ⟨fun x z => ?_, fun k' r' z => ?_⟩
  · obtain ⟨m, _, h⟩ := g1 x z
    exact ⟨0 + m, h 0⟩
  · obtain ⟨nw, S2, O2, te3, a1, ⟨m, _, a2⟩, a3, a4, a5, a6, a7, a8, a9⟩ := g2 k' r' z
    refine ⟨nw, 1 + m, a1, ?_⟩
    rw [a2, List.append_nil]
    rw [List.nil_append] at a4
    have a6' : te3.length = 1 := a6
    have eh : hlt k' S2 O2 te3 = .inr (k', encs nw ++ [0]) := by
      unfold hlt
      have := drp_app 0 S2 [] O2 (fun a ha => ⟨(a3 a ha).1, Nat.zero_le _⟩) (fun a W' z => by cases z)
      rw [List.append_nil] at this
      rw [if_neg (by omega), this, a4]
    have hs : stM t (none, k', S2, O2, te3) = .inr (hlt k' S2 O2 te3) := by
      show (if lev (tkK t k') = 0 then (if tkK t k' = 41 ∧ 14 ∈ S2 then _ else Sum.inr (hlt k' S2 O2 te3)) else if lev (tkK t k') = 4 ∧ te3.headD false = true then Sum.inr (hlt k' S2 O2 te3) else _) = _
      rcases a8 with h | ⟨h, h', h''⟩
      · rw [if_pos (by omega), if_neg (fun z => (a3 14 z.2).1 rfl)]
      · rw [if_neg (by omega), if_pos ⟨h, h'⟩]
    show (match stM t (none, k', S2, O2, te3) with
      | .inl s' => ex t 0 s'
      | .inr x => some x) = _
    rw [hs, eh]
end C84b

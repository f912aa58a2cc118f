/-! ===== the constructors: a memory of lists, run by reckoning ===== -/
abbrev cS : Type := List (Nat × Nat) × List (List (Option Nat)) × List ((Nat × Nat) × Int32) × Nat
def cvS (s : cS) : sa_Mem := ((s.1.length, s.1.length, s.2.2.2, false), fun k => s.1.getD k (0, 0), fun k j => (s.2.2.1.lookup (k, j)).getD 0, fun _ _ => 0, fun k j => (s.2.1.getD k []).getD j none)
def c_al (s : cS) (kind len slots nF : Nat) : Option cS := if s.2.1.length = s.1.length ∧ (s.2.2.1.all (fun q => decide (q.1.1 < s.1.length))) = true ∧ s.1.length < 100000 then some (s.1 ++ [(kind, len)], s.2.1 ++ [List.replicate nF none], s.2.2.1, s.2.2.2 + slots) else none
def c_wi (s : cS) (k j : Nat) (x : Int32) : cS := (s.1, s.2.1, ((k, j), x) :: s.2.2.1, s.2.2.2)
def c_wr (s : cS) (k j a : Nat) : cS := (s.1, s.2.1.set k ((s.2.1.getD k []).set j (some a)), s.2.2.1, s.2.2.2)
theorem c_al_ok {s s' : cS} {kind len slots nF : Nat} (h : c_al s kind len slots nF = some s') : sa_alloc (cvS s) kind len slots = cvS s' ∧ s.1.length < 100000 := by
  unfold c_al at h
  split at h
  · rename_i hc
    obtain ⟨h1, h2, h3⟩ := hc
    cases h
    refine ⟨?_, h3⟩
    unfold sa_alloc cvS
    have a1 : va_up (fun k => s.1.getD k (0, 0)) s.1.length (kind, len) = fun k => (s.1 ++ [(kind, len)]).getD k (0, 0) := by
      funext k
      unfold va_up
      simp only [List.getD_eq_getElem?_getD]
      by_cases hk : k = s.1.length
      · subst hk
        simp
      · rw [if_neg hk]
        by_cases hl : k < s.1.length
        · rw [List.getElem?_append_left hl]
        · have h1 : s.1[k]? = none := List.getElem?_eq_none_iff.2 (by omega)
          have h2 : (s.1 ++ [(kind, len)])[k]? = none := List.getElem?_eq_none_iff.2 (by simp; omega)
          rw [h1, h2]
    have a2 : va_up (fun k j => (s.2.2.1.lookup (k, j)).getD 0) s.1.length (fun _ => 0) = fun k j => (s.2.2.1.lookup (k, j)).getD 0 := by
      funext k j
      unfold va_up
      by_cases hk : k = s.1.length
      · rw [if_pos hk]
        have : s.2.2.1.lookup (k, j) = none := by
          rw [List.lookup_eq_none_iff]
          intro p hp
          have := List.all_eq_true.1 h2 p hp
          rw [decide_eq_true_eq] at this
          rw [bne_iff_ne]
          intro e
          rw [← e] at this
          dsimp only at this
          omega
        rw [this]
        rfl
      · rw [if_neg hk]
    have a3 : va_up (fun (_ : Nat) (_ : Nat) => (0 : Int64)) s.1.length (fun _ => 0) = fun _ _ => 0 := by
      funext k j
      unfold va_up
      split <;> rfl
    have a4 : va_up (fun k j => (s.2.1.getD k []).getD j none) s.1.length (fun _ => none) = fun k j => ((s.2.1 ++ [List.replicate nF none]).getD k []).getD j none := by
      funext k j
      unfold va_up
      rw [← h1]
      simp only [List.getD_eq_getElem?_getD]
      by_cases hk : k = s.2.1.length
      · subst hk
        rw [if_pos rfl, List.getElem?_append_right (Nat.le_refl _), Nat.sub_self]
        show none = ((List.replicate nF none)[j]?).getD none
        rw [List.getElem?_replicate]
        split <;> rfl
      · rw [if_neg hk]
        by_cases hl : k < s.2.1.length
        · rw [List.getElem?_append_left hl]
        · have h1 : s.2.1[k]? = none := List.getElem?_eq_none_iff.2 (by omega)
          have h2 : (s.2.1 ++ [List.replicate nF none])[k]? = none := List.getElem?_eq_none_iff.2 (by simp; omega)
          rw [h1, h2]
    show ((s.1.length + 1, s.1.length + 1, s.2.2.2 + slots, false), va_up (fun k => s.1.getD k (0, 0)) s.1.length (kind, len), va_up (fun k j => (s.2.2.1.lookup (k, j)).getD 0) s.1.length (fun _ => 0), va_up (fun (_ : Nat) (_ : Nat) => (0 : Int64)) s.1.length (fun _ => 0), va_up (fun k j => (s.2.1.getD k []).getD j none) s.1.length (fun _ => none)) = _
    rw [a1, a2, a3, a4]
    simp only [List.length_append, List.length_cons, List.length_nil, Nat.zero_add]
  · cases h
theorem c_wi_ok (s : cS) (k j : Nat) (x : Int32) : sa_setI (cvS s) k (upd (sa_mI (cvS s) k) j x) = cvS (c_wi s k j x) := by
  unfold sa_setI cvS c_wi
  have : va_up (fun k j => (s.2.2.1.lookup (k, j)).getD 0) k (upd (fun j => (s.2.2.1.lookup (k, j)).getD 0) j x) = fun a b => ((((k, j), x) :: s.2.2.1).lookup (a, b)).getD 0 := by
    funext a b
    unfold va_up upd
    simp only [List.lookup_cons]
    by_cases h1 : a = k
    · subst h1
      rw [if_pos rfl]
      by_cases h2 : b = j
      · subst h2
        simp
      · rw [if_neg h2]
        have : ((a, b) == (a, j)) = false := by
          rw [beq_eq_false_iff_ne]
          intro e
          exact h2 (congrArg Prod.snd e)
        rw [this]
    · rw [if_neg h1]
      have : ((a, b) == (k, j)) = false := by
        rw [beq_eq_false_iff_ne]
        intro e
        exact h1 (congrArg Prod.fst e)
      rw [this]
  rw [← this]
theorem c_wr_ok (s : cS) (k j a : Nat) (hk : k < s.2.1.length) (hj : j < (s.2.1.getD k []).length) : sa_setR (cvS s) k (va_up (sa_mR (cvS s) k) j (some a)) = cvS (c_wr s k j a) := by
  unfold sa_setR cvS c_wr
  have : va_up (fun k j => (s.2.1.getD k []).getD j none) k (va_up (fun j => (s.2.1.getD k []).getD j none) j (some a)) = fun p q => ((s.2.1.set k ((s.2.1.getD k []).set j (some a))).getD p []).getD q none := by
    funext p q
    unfold va_up
    by_cases h1 : p = k
    · subst h1
      rw [if_pos rfl]
      have e1 : (s.2.1.set p ((s.2.1.getD p []).set j (some a))).getD p [] = (s.2.1.getD p []).set j (some a) := by
        rw [List.getD_eq_getElem?_getD, List.getElem?_set_self hk]
        rfl
      rw [e1]
      by_cases h2 : q = j
      · subst h2
        rw [if_pos rfl, List.getD_eq_getElem?_getD, List.getElem?_set_self hj]
        rfl
      · rw [if_neg h2]
        simp only [List.getD_eq_getElem?_getD]
        rw [List.getElem?_set_ne (Ne.symm h2)]
    · rw [if_neg h1]
      have e1 : (s.2.1.set k ((s.2.1.getD k []).set j (some a))).getD p [] = s.2.1.getD p [] := by
        simp only [List.getD_eq_getElem?_getD]
        rw [List.getElem?_set_ne (Ne.symm h1)]
      rw [e1]
  rw [← this]
def c_ty (t : FieldType) (x : Int32) : Bool := match t with
  | .int => true
  | .boolean => x == 0 || x == 1
  | _ => false
def c1 (C : Nat → List Value → cS → Option cS) (e : sa_Me) (pc : Nat) (lo st : List Value) (s : cS) : Option (Nat × List Value × List Value × cS) := match sa_lk e pc with
  | none => none
  | some (i, len) => match sa_pu i lo st with
    | some q => some (pc + len, q.1, q.2, s)
    | none => match i with
      | .getfield idx => match st with
        | .ref k :: r => match sa_pF.lookup (e.1, idx) with
          | some (ci, j, _) => if k < s.1.length ∧ (s.1.getD k (0, 0)).1 = ci ∧ sa_so (sa_ty ci j) = 2 then (match (s.2.1.getD k []).getD j none with
            | some a => some (pc + len, lo, .ref a :: r, s)
            | none => none) else none
          | none => none
        | _ => none
      | .putfield idx => match st with
        | .int x :: .ref k :: r => match sa_pF.lookup (e.1, idx) with
          | some (ci, j, false) => if k < s.1.length ∧ (s.1.getD k (0, 0)).1 = ci ∧ e.2.1.name = "<init>" ∧ ci = e.1 ∧ c_ty (sa_ty ci j) x = true then some (pc + len, lo, r, c_wi s k j x) else none
          | _ => none
        | .long x :: .ref k :: r => match sa_pF.lookup (e.1, idx) with
          | some (ci, j, false) => if k < s.1.length ∧ (s.1.getD k (0, 0)).1 = ci ∧ e.2.1.name = "<init>" ∧ ci = e.1 ∧ r_ty3 (sa_ty ci j) = true ∧ x = 0 then some (pc + len, lo, r, s) else none
          | _ => none
        | .ref a :: .ref k :: r => match sa_pF.lookup (e.1, idx) with
          | some (ci, j, false) => if k < s.1.length ∧ (s.1.getD k (0, 0)).1 = ci ∧ e.2.1.name = "<init>" ∧ ci = e.1 ∧ sa_so (sa_ty ci j) = 2 ∧ a ≠ 100005 ∧ k < s.2.1.length ∧ j < (s.2.1.getD k []).length then some (pc + len, lo, r, c_wr s k j a) else none
          | _ => none
        | _ => none
      | .iastore => match st with
        | .int x :: .int i :: .ref k :: r => if k < s.1.length ∧ (s.1.getD k (0, 0)).1 = 101 ∧ ¬ i < 0 ∧ i.toNatClampNeg < (s.1.getD k (0, 0)).2 then some (pc + len, lo, r, c_wi s k i.toNatClampNeg x) else none
        | _ => none
      | .arraylength => match st with
        | .ref k :: r => if k < s.1.length then none else (match sa_xa (0, fun _ => 0) k with
          | some (q, n, _) => if q < 104 ∧ k ≠ 100000 then some (pc + len, lo, .int (Int32.ofNat n) :: r, s) else none
          | none => none)
        | _ => none
      | .new idx => match sa_pN.lookup (e.1, idx) with
        | some ci => match c_al s ci 0 (sa_nF ci) (sa_nF ci) with
          | some s' => some (pc + len, lo, .ref s.1.length :: st, s')
          | none => none
        | none => none
      | .newarray ty => match st with
        | .int n :: r => match sa_at 0 ty with
          | some q => if ¬ n < 0 ∧ n.toNatClampNeg ≤ 65536 then (match c_al s q n.toNatClampNeg n.toNatClampNeg 0 with
            | some s' => some (pc + len, lo, .ref s.1.length :: r, s')
            | none => none) else none
          | none => none
        | _ => none
      | .getstatic idx => match sa_pS.lookup (e.1, idx) with
        | some v => some (pc + len, lo, v :: st, s)
        | none => none
      | .invokespecial idx => match sa_pI.lookup (e.1, idx) with
        | some (kk, mi, n) => if kk = 6 ∧ mi = 0 ∧ n = 0 then (match st with
            | .ref b :: r => if b < 100000 ∧ (r.map (fun v => v.category)).sum ≤ 8 then some (pc + 3, lo, r, s) else none
            | _ => none)
          else if kk = 2 ∨ kk = 3 then (match st.drop n with
            | .ref b :: r => if b < 100000 ∧ (r.map (fun v => v.category)).sum ≤ 8 then (match C mi (.ref b :: (st.take n).reverse) s with
              | some s' => some (pc + 3, lo, r, s')
              | none => none) else none
            | _ => none)
          else none
        | none => none
      | _ => none
section CON
variable {X : Nat × (Nat → Int32)} {C : Nat → List Value → cS → Option cS} {C' : Nat → List Value → sa_Mem → sa_Out → Prop} {mi pc : Nat} {lo st : List Value} {s : cS} {e : sa_Me} {Q : sa_Out → Prop}
set_option maxHeartbeats 4000000 in
theorem c1_ok (hC : ∀ mi a s s', C mi a s = some s' → C' mi a (cvS s) (.inl none, cvS s')) (he : sa_Ma[mi]? = some e) {q : Nat × List Value × List Value × cS} (h : c1 C e pc lo st s = some q) (k : sa_W X C' mi q.1 q.2.1 q.2.2.1 (cvS q.2.2.2) Q) : sa_W X C' mi pc lo st (cvS s) Q := by
  unfold c1 at h
  split at h
  · cases h
  · rename_i i len hi
    have heK : ∀ {st' : List Value} {m' : sa_Mem}, sa_W X C' mi (pc + len) lo st' m' Q → (∀ K : List Value → sa_Mem → Prop, K st' m' → sa_he X e.1 (e.2.1.name = "<init>") i st (cvS s) K) → sa_W X C' mi pc lo st (cvS s) Q := by
      intro st' m' kw hh
      obtain ⟨f, o, h1, h2⟩ := kw
      exact sa_W.he he hi ⟨f, o, hh _ h1, h2⟩
    split at h
    · rename_i q0 hp
      cases h
      exact sa_W.pu he hi hp k
    · split at h
      · split at h
        · rename_i kk r _
          split at h
          · rename_i ci j b hF
            split at h
            · rename_i hc
              split at h
              · rename_i a ha
                cases h
                refine heK k (fun K hK => ⟨kk, r, rfl, Or.inl ⟨ci, j, b, hF, hc.1, hc.2.1, ?_⟩⟩)
                have : sa_gf (cvS s) kk ci j = .ref a := by
                  unfold sa_gf
                  rw [hc.2.2]
                  show va_rf ((s.2.1.getD kk []).getD j none) = _
                  rw [ha]
                  rfl
                rw [this]
                exact hK
              · cases h
            · cases h
          · cases h
        · cases h
      · split at h
        · rename_i x kk r _
          split at h
          · rename_i ci j hF
            split at h
            · rename_i hc
              cases h
              obtain ⟨c1, c2, c3, c4, c5⟩ := hc
              dsimp only at k
              rw [← c_wi_ok] at k
              refine heK k (fun K hK => ⟨.int x, kk, r, ci, j, _, rfl, hF, c1, c2, fun _ => ⟨c3, c4⟩, ?_, hK⟩)
              unfold c_ty at c5
              split at c5
              · rename_i ht
                exact ⟨by rw [ht]; rfl, ⟨by rw [ht]; rfl, by rw [ht]; rfl⟩, rfl⟩
              · rename_i ht
                rw [Bool.or_eq_true, beq_iff_eq, beq_iff_eq] at c5
                refine ⟨by rw [ht]; rfl, ⟨?_, ?_⟩, rfl⟩
                · rw [ht]
                  rcases c5 with rfl | rfl <;> rfl
                · rw [ht]
                  rcases c5 with rfl | rfl <;> rfl
              · cases c5
            · cases h
          · cases h
        · rename_i x kk r _
          split at h
          · rename_i ci j hF
            split at h
            · rename_i hc
              cases h
              obtain ⟨c1, c2, c3, c4, c5, rfl⟩ := hc
              have e1 : cvS s = sa_setJ (cvS s) kk (vp_updL (sa_mJ (cvS s) kk) j 0) := by
                unfold sa_setJ cvS
                have : (fun (_ : Nat) (_ : Nat) => (0 : Int64)) = va_up (fun (_ : Nat) (_ : Nat) => (0 : Int64)) kk (vp_updL (fun _ => 0) j 0) := by
                  funext a b
                  unfold va_up vp_updL
                  split
                  · dsimp only
                    split <;> rfl
                  · rfl
                exact congrArg (fun z => ((s.1.length, s.1.length, s.2.2.2, false), (fun k => s.1.getD k (0, 0)), (fun k j => (s.2.2.1.lookup (k, j)).getD 0), z, fun k j => (s.2.1.getD k []).getD j none)) this
              dsimp only at k
              rw [e1] at k
              exact heK k (fun K hK => ⟨.long 0, kk, r, ci, j, _, rfl, hF, c1, c2, fun _ => ⟨c3, c4⟩, ⟨r_ty3_ok c5, rfl⟩, hK⟩)
            · cases h
          · cases h
        · rename_i a kk r _
          split at h
          · rename_i ci j hF
            split at h
            · rename_i hc
              cases h
              obtain ⟨c1, c2, c3, c4, c5, c6, c7, c8⟩ := hc
              dsimp only at k
              rw [← c_wr_ok s kk j a c7 c8] at k
              exact heK k (fun K hK => ⟨.ref a, kk, r, ci, j, _, rfl, hF, c1, c2, fun _ => ⟨c3, c4⟩, ⟨c5, c6, rfl⟩, hK⟩)
            · cases h
          · cases h
        · cases h
      · split at h
        · rename_i x ii kk r _
          split at h
          · rename_i hc
            cases h
            dsimp only at k
            rw [← c_wi_ok] at k
            refine heK k (fun K hK => ⟨x, ii, kk, r, rfl, hc.1, hc.2.1, ?_, hK⟩)
            unfold vp_in
            intro z
            rcases z with z | z
            · exact hc.2.2.1 z
            · have := hc.2.2.2
              have z : (s.1.getD kk (0, 0)).2 ≤ ii.toNatClampNeg := z
              omega
          · cases h
        · cases h
      · split at h
        · rename_i kk r _
          split at h
          · cases h
          · rename_i hk
            split at h
            · rename_i q n f hx
              split at h
              · rename_i hq
                cases h
                have hx2 : ∃ f', sa_xa X kk = some (q, n, f') := by
                  unfold sa_xa at hx ⊢
                  rw [if_neg hq.2] at hx ⊢
                  exact ⟨f, hx⟩
                obtain ⟨f', hx2⟩ := hx2
                refine heK k (fun K hK => ⟨kk, r, q, n, f', rfl, ?_, hq.1, hK⟩)
                unfold sa_arr
                rw [if_neg (show ¬ kk < sa_mN (cvS s) from hk)]
                exact hx2
              · cases h
            · cases h
        · cases h
      · split at h
        · rename_i ci hN
          split at h
          · rename_i s' hs
            cases h
            obtain ⟨a1, a2⟩ := c_al_ok hs
            dsimp only at k
            rw [← a1] at k
            exact heK k (fun K hK => ⟨ci, hN, rfl, a2, hK⟩)
          · cases h
        · cases h
      · split at h
        · rename_i n r _
          split at h
          · rename_i q hq
            split at h
            · rename_i hc
              split at h
              · rename_i s' hs
                cases h
                obtain ⟨a1, a2⟩ := c_al_ok hs
                dsimp only at k
                rw [← a1] at k
                exact heK k (fun K hK => ⟨n, r, q, rfl, hq, hc.1, hc.2, rfl, a2, hK⟩)
              · cases h
            · cases h
          · cases h
        · cases h
      · split at h
        · rename_i v hv
          cases h
          exact heK k (fun K hK => ⟨v, hv, hK⟩)
        · cases h
      · split at h
        · rename_i kk mi2 n hI
          split at h
          · rename_i hk
            obtain ⟨rfl, rfl, rfl⟩ := hk
            split at h
            · rename_i b r _
              split at h
              · rename_i hc
                cases h
                obtain ⟨f, o, h1, h2⟩ := k
                exact sa_W.iv he hi ⟨f, o, Or.inr ⟨b, r, hI, rfl, hc.1, hc.2, h1⟩, h2⟩
              · cases h
            · cases h
          · split at h
            · rename_i hk
              split at h
              · rename_i b r hd
                split at h
                · rename_i hc
                  split at h
                  · rename_i s' hs
                    cases h
                    obtain ⟨f, o, h1, h2⟩ := k
                    have hn : n < st.length := by
                      have := congrArg List.length hd
                      rw [List.length_drop, List.length_cons] at this
                      omega
                    refine sa_W.iv he hi ⟨f, o, Or.inl ⟨kk, mi2, n, (st.take n).reverse, b, r, _, hI, hk, ?_, ?_, hc.1, hc.2, hC _ _ _ _ hs, h1⟩, h2⟩
                    · rw [List.reverse_reverse]
                      conv => lhs; rw [← List.take_append_drop n st, hd]
                    · rw [List.length_reverse, List.length_take]
                      omega
                  · cases h
                · cases h
              · cases h
            · cases h
        · cases h
      · cases h
end CON
def cn (C : Nat → List Value → cS → Option cS) (e : sa_Me) : Nat → Nat × List Value × List Value × cS → Option (Nat × List Value × List Value × cS)
  | 0, q => some q
  | n + 1, q => match c1 C e q.1 q.2.1 q.2.2.1 q.2.2.2 with
    | some q' => cn C e n q'
    | none => none
theorem cn_ok {X : Nat × (Nat → Int32)} {C : Nat → List Value → cS → Option cS} {C' : Nat → List Value → sa_Mem → sa_Out → Prop} {mi : Nat} {e : sa_Me} {Q : sa_Out → Prop} (hC : ∀ mi a s s', C mi a s = some s' → C' mi a (cvS s) (.inl none, cvS s')) (he : sa_Ma[mi]? = some e) : ∀ (n : Nat) {q q' : Nat × List Value × List Value × cS}, cn C e n q = some q' → sa_W X C' mi q'.1 q'.2.1 q'.2.2.1 (cvS q'.2.2.2) Q → sa_W X C' mi q.1 q.2.1 q.2.2.1 (cvS q.2.2.2) Q
  | 0, q, q', h, k => by cases h; exact k
  | n + 1, q, q', h, k => by
    unfold cn at h
    split at h
    · rename_i q1 h1
      exact c1_ok hC he h1 (cn_ok hC he n h k)
    · cases h
/-- a constructor: its instructions one behind another, the last one 'return' -/
def ce : Nat → Nat → List Value → cS → Option cS
  | 0, _, _, _ => none
  | d + 1, mi, a, s => match sa_M[mi]? with
    | some e => if (sa_lo a).length ≤ e.2.2.2.1 ∧ a.all sa_gv = true ∧ e.2.2.2.2.1 = none then (match cn (ce d) e (e.2.2.2.2.2.2.length - 1) (0, sa_en a e.2.2.2.1, [], s) with
      | some (pc, _, [], s') => (match sa_lk e pc with
        | some (.return_, _) => some s'
        | _ => none)
      | _ => none) else none
    | none => none
theorem ce_ok {X : Nat × (Nat → Int32)} : ∀ (d mi : Nat) (a : List Value) (s s' : cS), ce d mi a s = some s' → sa_Ex X d mi a (cvS s) (.inl none, cvS s')
  | 0, _, _, _, _, h => by cases h
  | d + 1, mi, a, s, s', h => by
    unfold ce at h
    split at h
    · rename_i e he
      split at h
      · rename_i hc
        split at h
        · rename_i pc lo' s1 hn
          split at h
          · rename_i len hr
            cases h
            have k : sa_W X (sa_Ex X d) mi pc lo' [] (cvS s') (fun o => o = (.inl none, cvS s')) := sa_W.rt (sa_Ma_of he) hr ⟨rfl, hc.2.2, rfl⟩ rfl
            exact sa_ex1 he hc.1 (List.all_eq_true.1 hc.2.1) rfl (cn_ok (ce_ok d) (sa_Ma_of he) _ hn k)
          · cases h
        · cases h
      · cases h
    · cases h

/-! the words that the program needs: they stand in lw_tbl, they are good -/
def sa_tk (k : Nat) : List Cond := match k with
  | 0 => k2_sels lw_privs
  | 1 => tables_1_1
  | 2 => tables_1_2
  | 3 => tables_1_3
  | 4 => tables_1_4
  | 5 => tables_1_5
  | 6 => tables_1_6
  | 7 => tables_1_7
  | 8 => tables_1_8
  | 9 => tables_1_9
  | 10 => tables_1_10
  | _ => []
theorem sa_tk_in {k : Nat} {w : Cond} (h : w ∈ sa_tk k) : w ∈ lw_tbl := by
  unfold sa_tk at h
  split at h
  · exact List.mem_append_left _ h
  · exact List.mem_append_right _ (show w ∈ tables_1 from List.mem_append_left _ h)
  · exact List.mem_append_right _ (show w ∈ tables_1 from List.mem_append_right _ (List.mem_append_left _ h))
  · exact List.mem_append_right _ (show w ∈ tables_1 from List.mem_append_right _ (List.mem_append_right _ (List.mem_append_left _ h)))
  · exact List.mem_append_right _ (show w ∈ tables_1 from List.mem_append_right _ (List.mem_append_right _ (List.mem_append_right _ (List.mem_append_left _ h))))
  · exact List.mem_append_right _ (show w ∈ tables_1 from List.mem_append_right _ (List.mem_append_right _ (List.mem_append_right _ (List.mem_append_right _ (List.mem_append_left _ h)))))
  · exact List.mem_append_right _ (show w ∈ tables_1 from List.mem_append_right _ (List.mem_append_right _ (List.mem_append_right _ (List.mem_append_right _ (List.mem_append_right _ (List.mem_append_left _ h))))))
  · exact List.mem_append_right _ (show w ∈ tables_1 from List.mem_append_right _ (List.mem_append_right _ (List.mem_append_right _ (List.mem_append_right _ (List.mem_append_right _ (List.mem_append_right _ (List.mem_append_left _ h)))))))
  · exact List.mem_append_right _ (show w ∈ tables_1 from List.mem_append_right _ (List.mem_append_right _ (List.mem_append_right _ (List.mem_append_right _ (List.mem_append_right _ (List.mem_append_right _ (List.mem_append_right _ (List.mem_append_left _ h))))))))
  · exact List.mem_append_right _ (show w ∈ tables_1 from List.mem_append_right _ (List.mem_append_right _ (List.mem_append_right _ (List.mem_append_right _ (List.mem_append_right _ (List.mem_append_right _ (List.mem_append_right _ (List.mem_append_right _ (List.mem_append_left _ h)))))))))
  · exact List.mem_append_right _ (show w ∈ tables_1 from List.mem_append_right _ (List.mem_append_right _ (List.mem_append_right _ (List.mem_append_right _ (List.mem_append_right _ (List.mem_append_right _ (List.mem_append_right _ (List.mem_append_right _ (List.mem_append_right _ (h))))))))))
  · cases h
theorem sa_place {ws : List Cond} (ps : List (Nat × Nat)) (h : ws = ps.filterMap (fun q => (sa_tk q.1)[q.2]?)) : ∀ w ∈ ws, w ∈ lw_tbl := by
  intro w hw
  rw [h] at hw
  obtain ⟨q, -, hi⟩ := List.mem_filterMap.mp hw
  exact sa_tk_in (List.mem_of_getElem? hi)
def sa_y (mi : Nat) : MethodName := ((sa_M[mi]?).map (fun e => e.2.1)).getD ⟨"", "", ""⟩
def sa_cw (e : sa_Me) : Cond := match e.2.2.2.2.2.1 with
  | none => .code e.2.1 e.2.2.1 e.2.2.2.1 e.2.2.2.2.1
  | some hh => .codeWith e.2.1 e.2.2.1 e.2.2.2.1 e.2.2.2.2.1 hh
def sa_wI (q : (Nat × Nat) × (Nat × Nat × Nat)) : List Cond := match q.2.1 with
  | 0 => [.methodLink (sa_C q.1.1) q.1.2 (sa_y q.2.2.1), .instanceMethod (sa_y q.2.2.1), .selects (sa_y q.2.2.1).cls (sa_y q.2.2.1) (sa_y q.2.2.1), .initialized (sa_y q.2.2.1).cls]
  | 1 => [.methodLink (sa_C q.1.1) q.1.2 (sa_y q.2.2.1), .static (sa_y q.2.2.1), .initialized (sa_y q.2.2.1).cls]
  | 2 => [.methodLink (sa_C q.1.1) q.1.2 (sa_y q.2.2.1), .instanceMethod (sa_y q.2.2.1), .initialized (sa_y q.2.2.1).cls]
  | 3 => [.instanceMethod (sa_y q.2.2.1), .initialized (sa_y q.2.2.1).cls]
  | 4 => [.static (sa_y q.2.2.1), .initialized (sa_y q.2.2.1).cls]
  | 5 => [.methodLink (sa_C q.1.1) q.1.2 (sa_y q.2.2.1), .static (sa_y q.2.2.1), .initialized (sa_y q.2.2.1).cls]
  | 6 => [.methodLink (sa_C q.1.1) q.1.2 objectInit, .instanceMethod objectInit, .code objectInit ⟨#[0xb1]⟩ 1 none]
  | 7 => [.methodLink (sa_C q.1.1) q.1.2 arraycopyName, .native arraycopyName, .static arraycopyName, .initialized "java/lang/System"]
  | 8 => [.methodLink (sa_C q.1.1) q.1.2 Lib.Math.max.name, .static Lib.Math.max.name, .initialized "java/lang/Math", .code Lib.Math.max.name Lib.Math.max.code 2 (some .int)]
  | 9 => [.methodLink (sa_C q.1.1) q.1.2 Lib.Math.min.name, .static Lib.Math.min.name, .initialized "java/lang/Math", .code Lib.Math.min.name Lib.Math.min.code 2 (some .int)]
  | _ => []
def sa_fd (ci j : Nat) : String × String × String × Bool := ((vwCl[ci]?).map (fun q => q.2.1 j)).getD ("", "", "", false)
def sa_wF (q : (Nat × Nat) × (Nat × Nat × Bool)) : Cond := if q.2.2.2 = true then .fieldLinkNest (sa_C q.1.1) q.1.2 (sa_fd q.2.1 q.2.2.1).1 (sa_fd q.2.1 q.2.2.1).2.1 (sa_fd q.2.1 q.2.2.1).2.2.1 RX11 else .fieldLink (sa_C q.1.1) q.1.2 (sa_fd q.2.1 q.2.2.1).1 (sa_fd q.2.1 q.2.2.1).2.1 (sa_fd q.2.1 q.2.2.1).2.2.1
def sa_exn (q : Nat) : String := if q = 0 then "java/util/NoSuchElementException" else "java/lang/IllegalArgumentException"
abbrev sa_sup : List String := ["java/lang/RuntimeException", "java/lang/Exception"]
def sa_b0 : List Cond := sa_M0.map sa_cw
theorem sa_wc0 : sa_cw sa_e0 ∈ lw_tbl := sa_tk_in (k := 2) (List.mem_of_getElem? (i := 94) rfl)
theorem sa_wc1 : sa_cw sa_e1 ∈ lw_tbl := sa_tk_in (k := 6) (List.mem_of_getElem? (i := 1) rfl)
theorem sa_wc2 : sa_cw sa_e2 ∈ lw_tbl := sa_tk_in (k := 6) (List.mem_of_getElem? (i := 27) rfl)
theorem sa_wc3 : sa_cw sa_e3 ∈ lw_tbl := sa_tk_in (k := 6) (List.mem_of_getElem? (i := 39) rfl)
theorem sa_wc4 : sa_cw sa_e4 ∈ lw_tbl := sa_tk_in (k := 6) (List.mem_of_getElem? (i := 43) rfl)
theorem sa_wc5 : sa_cw sa_e5 ∈ lw_tbl := sa_tk_in (k := 6) (List.mem_of_getElem? (i := 6) rfl)
theorem sa_wc6 : sa_cw sa_e6 ∈ lw_tbl := sa_tk_in (k := 6) (List.mem_of_getElem? (i := 221) rfl)
theorem sa_wc7 : sa_cw sa_e7 ∈ lw_tbl := sa_tk_in (k := 6) (List.mem_of_getElem? (i := 225) rfl)
theorem sa_wc8 : sa_cw sa_e8 ∈ lw_tbl := sa_tk_in (k := 6) (List.mem_of_getElem? (i := 229) rfl)
theorem sa_wc9 : sa_cw sa_e9 ∈ lw_tbl := sa_tk_in (k := 2) (List.mem_of_getElem? (i := 44) rfl)
theorem sa_wc10 : sa_cw sa_e10 ∈ lw_tbl := sa_tk_in (k := 5) (List.mem_of_getElem? (i := 206) rfl)
theorem sa_wc11 : sa_cw sa_e11 ∈ lw_tbl := sa_tk_in (k := 5) (List.mem_of_getElem? (i := 226) rfl)
theorem sa_wc12 : sa_cw sa_e12 ∈ lw_tbl := sa_tk_in (k := 5) (List.mem_of_getElem? (i := 214) rfl)
theorem sa_wc13 : sa_cw sa_e13 ∈ lw_tbl := sa_tk_in (k := 5) (List.mem_of_getElem? (i := 220) rfl)
theorem sa_wc14 : sa_cw sa_e14 ∈ lw_tbl := sa_tk_in (k := 1) (List.mem_of_getElem? (i := 131) rfl)
theorem sa_wc15 : sa_cw sa_e15 ∈ lw_tbl := sa_tk_in (k := 4) (List.mem_of_getElem? (i := 1) rfl)
theorem sa_wc16 : sa_cw sa_e16 ∈ lw_tbl := sa_tk_in (k := 4) (List.mem_of_getElem? (i := 235) rfl)
theorem sa_wc17 : sa_cw sa_e17 ∈ lw_tbl := sa_tk_in (k := 4) (List.mem_of_getElem? (i := 129) rfl)
theorem sa_wc18 : sa_cw sa_e18 ∈ lw_tbl := sa_tk_in (k := 4) (List.mem_of_getElem? (i := 121) rfl)
theorem sa_wc19 : sa_cw sa_e19 ∈ lw_tbl := sa_tk_in (k := 4) (List.mem_of_getElem? (i := 166) rfl)
theorem sa_wc20 : sa_cw sa_e20 ∈ lw_tbl := sa_tk_in (k := 4) (List.mem_of_getElem? (i := 174) rfl)
theorem sa_wc21 : sa_cw sa_e21 ∈ lw_tbl := sa_tk_in (k := 4) (List.mem_of_getElem? (i := 182) rfl)
theorem sa_wc22 : sa_cw sa_e22 ∈ lw_tbl := sa_tk_in (k := 4) (List.mem_of_getElem? (i := 146) rfl)
theorem sa_wc23 : sa_cw sa_e23 ∈ lw_tbl := sa_tk_in (k := 4) (List.mem_of_getElem? (i := 231) rfl)
theorem sa_wc24 : sa_cw sa_e24 ∈ lw_tbl := sa_tk_in (k := 4) (List.mem_of_getElem? (i := 187) rfl)
theorem sa_wc25 : sa_cw sa_e25 ∈ lw_tbl := sa_tk_in (k := 4) (List.mem_of_getElem? (i := 191) rfl)
theorem sa_wc26 : sa_cw sa_e26 ∈ lw_tbl := sa_tk_in (k := 4) (List.mem_of_getElem? (i := 199) rfl)
theorem sa_wc27 : sa_cw sa_e27 ∈ lw_tbl := sa_tk_in (k := 4) (List.mem_of_getElem? (i := 203) rfl)
theorem sa_wc28 : sa_cw sa_e28 ∈ lw_tbl := sa_tk_in (k := 4) (List.mem_of_getElem? (i := 207) rfl)
theorem sa_wc29 : sa_cw sa_e29 ∈ lw_tbl := sa_tk_in (k := 4) (List.mem_of_getElem? (i := 211) rfl)
theorem sa_wc30 : sa_cw sa_e30 ∈ lw_tbl := sa_tk_in (k := 4) (List.mem_of_getElem? (i := 215) rfl)
theorem sa_wc31 : sa_cw sa_e31 ∈ lw_tbl := sa_tk_in (k := 4) (List.mem_of_getElem? (i := 219) rfl)
theorem sa_wc32 : sa_cw sa_e32 ∈ lw_tbl := sa_tk_in (k := 2) (List.mem_of_getElem? (i := 69) rfl)
theorem sa_wc33 : sa_cw sa_e33 ∈ lw_tbl := sa_tk_in (k := 6) (List.mem_of_getElem? (i := 131) rfl)
theorem sa_wc34 : sa_cw sa_e34 ∈ lw_tbl := sa_tk_in (k := 6) (List.mem_of_getElem? (i := 158) rfl)
theorem sa_wc35 : sa_cw sa_e35 ∈ lw_tbl := sa_tk_in (k := 6) (List.mem_of_getElem? (i := 162) rfl)
theorem sa_wc36 : sa_cw sa_e36 ∈ lw_tbl := sa_tk_in (k := 6) (List.mem_of_getElem? (i := 178) rfl)
theorem sa_wc37 : sa_cw sa_e37 ∈ lw_tbl := sa_tk_in (k := 6) (List.mem_of_getElem? (i := 182) rfl)
theorem sa_wc38 : sa_cw sa_e38 ∈ lw_tbl := sa_tk_in (k := 6) (List.mem_of_getElem? (i := 147) rfl)
theorem sa_wc39 : sa_cw sa_e39 ∈ lw_tbl := sa_tk_in (k := 6) (List.mem_of_getElem? (i := 142) rfl)
theorem sa_bi0 : ∀ w ∈ sa_b0, w ∈ lw_tbl := List.forall_mem_cons.mpr ⟨sa_wc0, List.forall_mem_cons.mpr ⟨sa_wc1, List.forall_mem_cons.mpr ⟨sa_wc2, List.forall_mem_cons.mpr ⟨sa_wc3, List.forall_mem_cons.mpr ⟨sa_wc4, List.forall_mem_cons.mpr ⟨sa_wc5, List.forall_mem_cons.mpr ⟨sa_wc6, List.forall_mem_cons.mpr ⟨sa_wc7, List.forall_mem_cons.mpr ⟨sa_wc8, List.forall_mem_cons.mpr ⟨sa_wc9, List.forall_mem_cons.mpr ⟨sa_wc10, List.forall_mem_cons.mpr ⟨sa_wc11, List.forall_mem_cons.mpr ⟨sa_wc12, List.forall_mem_cons.mpr ⟨sa_wc13, List.forall_mem_cons.mpr ⟨sa_wc14, List.forall_mem_cons.mpr ⟨sa_wc15, List.forall_mem_cons.mpr ⟨sa_wc16, List.forall_mem_cons.mpr ⟨sa_wc17, List.forall_mem_cons.mpr ⟨sa_wc18, List.forall_mem_cons.mpr ⟨sa_wc19, List.forall_mem_cons.mpr ⟨sa_wc20, List.forall_mem_cons.mpr ⟨sa_wc21, List.forall_mem_cons.mpr ⟨sa_wc22, List.forall_mem_cons.mpr ⟨sa_wc23, List.forall_mem_cons.mpr ⟨sa_wc24, List.forall_mem_cons.mpr ⟨sa_wc25, List.forall_mem_cons.mpr ⟨sa_wc26, List.forall_mem_cons.mpr ⟨sa_wc27, List.forall_mem_cons.mpr ⟨sa_wc28, List.forall_mem_cons.mpr ⟨sa_wc29, List.forall_mem_cons.mpr ⟨sa_wc30, List.forall_mem_cons.mpr ⟨sa_wc31, List.forall_mem_cons.mpr ⟨sa_wc32, List.forall_mem_cons.mpr ⟨sa_wc33, List.forall_mem_cons.mpr ⟨sa_wc34, List.forall_mem_cons.mpr ⟨sa_wc35, List.forall_mem_cons.mpr ⟨sa_wc36, List.forall_mem_cons.mpr ⟨sa_wc37, List.forall_mem_cons.mpr ⟨sa_wc38, List.forall_mem_cons.mpr ⟨sa_wc39, fun _ h => absurd h List.not_mem_nil⟩⟩⟩⟩⟩⟩⟩⟩⟩⟩⟩⟩⟩⟩⟩⟩⟩⟩⟩⟩⟩⟩⟩⟩⟩⟩⟩⟩⟩⟩⟩⟩⟩⟩⟩⟩⟩⟩⟩⟩
set_option maxRecDepth 100000 in
theorem sa_bg0 : ∀ w ∈ sa_b0, goodWord w = true := by decide +kernel
def sa_b1 : List Cond := sa_M1.map sa_cw
theorem sa_wc40 : sa_cw sa_e40 ∈ lw_tbl := sa_tk_in (k := 6) (List.mem_of_getElem? (i := 154) rfl)
theorem sa_wc41 : sa_cw sa_e41 ∈ lw_tbl := sa_tk_in (k := 6) (List.mem_of_getElem? (i := 167) rfl)
theorem sa_wc42 : sa_cw sa_e42 ∈ lw_tbl := sa_tk_in (k := 1) (List.mem_of_getElem? (i := 74) rfl)
theorem sa_wc43 : sa_cw sa_e43 ∈ lw_tbl := sa_tk_in (k := 3) (List.mem_of_getElem? (i := 121) rfl)
theorem sa_wc44 : sa_cw sa_e44 ∈ lw_tbl := sa_tk_in (k := 4) (List.mem_of_getElem? (i := 13) rfl)
theorem sa_wc45 : sa_cw sa_e45 ∈ lw_tbl := sa_tk_in (k := 4) (List.mem_of_getElem? (i := 223) rfl)
theorem sa_wc46 : sa_cw sa_e46 ∈ lw_tbl := sa_tk_in (k := 5) (List.mem_of_getElem? (i := 8) rfl)
theorem sa_wc47 : sa_cw sa_e47 ∈ lw_tbl := sa_tk_in (k := 3) (List.mem_of_getElem? (i := 125) rfl)
theorem sa_wc48 : sa_cw sa_e48 ∈ lw_tbl := sa_tk_in (k := 1) (List.mem_of_getElem? (i := 225) rfl)
theorem sa_wc49 : sa_cw sa_e49 ∈ lw_tbl := sa_tk_in (k := 3) (List.mem_of_getElem? (i := 66) rfl)
theorem sa_wc50 : sa_cw sa_e50 ∈ lw_tbl := sa_tk_in (k := 3) (List.mem_of_getElem? (i := 82) rfl)
theorem sa_wc51 : sa_cw sa_e51 ∈ lw_tbl := sa_tk_in (k := 3) (List.mem_of_getElem? (i := 150) rfl)
theorem sa_wc52 : sa_cw sa_e52 ∈ lw_tbl := sa_tk_in (k := 5) (List.mem_of_getElem? (i := 151) rfl)
theorem sa_wc53 : sa_cw sa_e53 ∈ lw_tbl := sa_tk_in (k := 5) (List.mem_of_getElem? (i := 191) rfl)
theorem sa_wc54 : sa_cw sa_e54 ∈ lw_tbl := sa_tk_in (k := 3) (List.mem_of_getElem? (i := 129) rfl)
theorem sa_wc55 : sa_cw sa_e55 ∈ lw_tbl := sa_tk_in (k := 3) (List.mem_of_getElem? (i := 86) rfl)
theorem sa_wc56 : sa_cw sa_e56 ∈ lw_tbl := sa_tk_in (k := 3) (List.mem_of_getElem? (i := 90) rfl)
theorem sa_wc57 : sa_cw sa_e57 ∈ lw_tbl := sa_tk_in (k := 3) (List.mem_of_getElem? (i := 94) rfl)
theorem sa_wc58 : sa_cw sa_e58 ∈ lw_tbl := sa_tk_in (k := 3) (List.mem_of_getElem? (i := 112) rfl)
theorem sa_wc59 : sa_cw sa_e59 ∈ lw_tbl := sa_tk_in (k := 5) (List.mem_of_getElem? (i := 162) rfl)
theorem sa_wc60 : sa_cw sa_e60 ∈ lw_tbl := sa_tk_in (k := 5) (List.mem_of_getElem? (i := 170) rfl)
theorem sa_wc61 : sa_cw sa_e61 ∈ lw_tbl := sa_tk_in (k := 5) (List.mem_of_getElem? (i := 176) rfl)
theorem sa_wc62 : sa_cw sa_e62 ∈ lw_tbl := sa_tk_in (k := 5) (List.mem_of_getElem? (i := 166) rfl)
theorem sa_wc63 : sa_cw sa_e63 ∈ lw_tbl := sa_tk_in (k := 1) (List.mem_of_getElem? (i := 39) rfl)
theorem sa_wc64 : sa_cw sa_e64 ∈ lw_tbl := sa_tk_in (k := 4) (List.mem_of_getElem? (i := 5) rfl)
theorem sa_wc65 : sa_cw sa_e65 ∈ lw_tbl := sa_tk_in (k := 4) (List.mem_of_getElem? (i := 239) rfl)
theorem sa_wc66 : sa_cw sa_e66 ∈ lw_tbl := sa_tk_in (k := 5) (List.mem_of_getElem? (i := 21) rfl)
theorem sa_wc67 : sa_cw sa_e67 ∈ lw_tbl := sa_tk_in (k := 4) (List.mem_of_getElem? (i := 170) rfl)
theorem sa_wc68 : sa_cw sa_e68 ∈ lw_tbl := sa_tk_in (k := 4) (List.mem_of_getElem? (i := 178) rfl)
theorem sa_wc69 : sa_cw sa_e69 ∈ lw_tbl := sa_tk_in (k := 2) (List.mem_of_getElem? (i := 213) rfl)
theorem sa_wc70 : sa_cw sa_e70 ∈ lw_tbl := sa_tk_in (k := 3) (List.mem_of_getElem? (i := 99) rfl)
theorem sa_wc71 : sa_cw sa_e71 ∈ lw_tbl := sa_tk_in (k := 5) (List.mem_of_getElem? (i := 76) rfl)
theorem sa_wc72 : sa_cw sa_e72 ∈ lw_tbl := sa_tk_in (k := 3) (List.mem_of_getElem? (i := 103) rfl)
theorem sa_wc73 : sa_cw sa_e73 ∈ lw_tbl := sa_tk_in (k := 3) (List.mem_of_getElem? (i := 107) rfl)
theorem sa_wc74 : sa_cw sa_e74 ∈ lw_tbl := sa_tk_in (k := 3) (List.mem_of_getElem? (i := 117) rfl)
theorem sa_wc75 : sa_cw sa_e75 ∈ lw_tbl := sa_tk_in (k := 6) (List.mem_of_getElem? (i := 48) rfl)
theorem sa_wc76 : sa_cw sa_e76 ∈ lw_tbl := sa_tk_in (k := 6) (List.mem_of_getElem? (i := 68) rfl)
theorem sa_wc77 : sa_cw sa_e77 ∈ lw_tbl := sa_tk_in (k := 6) (List.mem_of_getElem? (i := 64) rfl)
theorem sa_wc78 : sa_cw sa_e78 ∈ lw_tbl := sa_tk_in (k := 6) (List.mem_of_getElem? (i := 80) rfl)
theorem sa_wc79 : sa_cw sa_e79 ∈ lw_tbl := sa_tk_in (k := 7) (List.mem_of_getElem? (i := 36) rfl)
theorem sa_bi1 : ∀ w ∈ sa_b1, w ∈ lw_tbl := List.forall_mem_cons.mpr ⟨sa_wc40, List.forall_mem_cons.mpr ⟨sa_wc41, List.forall_mem_cons.mpr ⟨sa_wc42, List.forall_mem_cons.mpr ⟨sa_wc43, List.forall_mem_cons.mpr ⟨sa_wc44, List.forall_mem_cons.mpr ⟨sa_wc45, List.forall_mem_cons.mpr ⟨sa_wc46, List.forall_mem_cons.mpr ⟨sa_wc47, List.forall_mem_cons.mpr ⟨sa_wc48, List.forall_mem_cons.mpr ⟨sa_wc49, List.forall_mem_cons.mpr ⟨sa_wc50, List.forall_mem_cons.mpr ⟨sa_wc51, List.forall_mem_cons.mpr ⟨sa_wc52, List.forall_mem_cons.mpr ⟨sa_wc53, List.forall_mem_cons.mpr ⟨sa_wc54, List.forall_mem_cons.mpr ⟨sa_wc55, List.forall_mem_cons.mpr ⟨sa_wc56, List.forall_mem_cons.mpr ⟨sa_wc57, List.forall_mem_cons.mpr ⟨sa_wc58, List.forall_mem_cons.mpr ⟨sa_wc59, List.forall_mem_cons.mpr ⟨sa_wc60, List.forall_mem_cons.mpr ⟨sa_wc61, List.forall_mem_cons.mpr ⟨sa_wc62, List.forall_mem_cons.mpr ⟨sa_wc63, List.forall_mem_cons.mpr ⟨sa_wc64, List.forall_mem_cons.mpr ⟨sa_wc65, List.forall_mem_cons.mpr ⟨sa_wc66, List.forall_mem_cons.mpr ⟨sa_wc67, List.forall_mem_cons.mpr ⟨sa_wc68, List.forall_mem_cons.mpr ⟨sa_wc69, List.forall_mem_cons.mpr ⟨sa_wc70, List.forall_mem_cons.mpr ⟨sa_wc71, List.forall_mem_cons.mpr ⟨sa_wc72, List.forall_mem_cons.mpr ⟨sa_wc73, List.forall_mem_cons.mpr ⟨sa_wc74, List.forall_mem_cons.mpr ⟨sa_wc75, List.forall_mem_cons.mpr ⟨sa_wc76, List.forall_mem_cons.mpr ⟨sa_wc77, List.forall_mem_cons.mpr ⟨sa_wc78, List.forall_mem_cons.mpr ⟨sa_wc79, fun _ h => absurd h List.not_mem_nil⟩⟩⟩⟩⟩⟩⟩⟩⟩⟩⟩⟩⟩⟩⟩⟩⟩⟩⟩⟩⟩⟩⟩⟩⟩⟩⟩⟩⟩⟩⟩⟩⟩⟩⟩⟩⟩⟩⟩⟩
set_option maxRecDepth 100000 in
theorem sa_bg1 : ∀ w ∈ sa_b1, goodWord w = true := by decide +kernel
def sa_b2 : List Cond := sa_M2.map sa_cw
theorem sa_wc80 : sa_cw sa_e80 ∈ lw_tbl := sa_tk_in (k := 6) (List.mem_of_getElem? (i := 198) rfl)
theorem sa_wc81 : sa_cw sa_e81 ∈ lw_tbl := sa_tk_in (k := 6) (List.mem_of_getElem? (i := 210) rfl)
theorem sa_wc82 : sa_cw sa_e82 ∈ lw_tbl := sa_tk_in (k := 6) (List.mem_of_getElem? (i := 202) rfl)
theorem sa_wc83 : sa_cw sa_e83 ∈ lw_tbl := sa_tk_in (k := 6) (List.mem_of_getElem? (i := 206) rfl)
theorem sa_wc84 : sa_cw sa_e84 ∈ lw_tbl := sa_tk_in (k := 3) (List.mem_of_getElem? (i := 20) rfl)
theorem sa_wc85 : sa_cw sa_e85 ∈ lw_tbl := sa_tk_in (k := 3) (List.mem_of_getElem? (i := 28) rfl)
theorem sa_wc86 : sa_cw sa_e86 ∈ lw_tbl := sa_tk_in (k := 6) (List.mem_of_getElem? (i := 104) rfl)
theorem sa_wc87 : sa_cw sa_e87 ∈ lw_tbl := sa_tk_in (k := 6) (List.mem_of_getElem? (i := 100) rfl)
theorem sa_wc88 : sa_cw sa_e88 ∈ lw_tbl := sa_tk_in (k := 7) (List.mem_of_getElem? (i := 47) rfl)
theorem sa_wc89 : sa_cw sa_e89 ∈ lw_tbl := sa_tk_in (k := 3) (List.mem_of_getElem? (i := 138) rfl)
theorem sa_wc90 : sa_cw sa_e90 ∈ lw_tbl := sa_tk_in (k := 1) (List.mem_of_getElem? (i := 190) rfl)
theorem sa_wc91 : sa_cw sa_e91 ∈ lw_tbl := sa_tk_in (k := 5) (List.mem_of_getElem? (i := 17) rfl)
theorem sa_wc92 : sa_cw sa_e92 ∈ lw_tbl := sa_tk_in (k := 3) (List.mem_of_getElem? (i := 162) rfl)
theorem sa_wc93 : sa_cw sa_e93 ∈ lw_tbl := sa_tk_in (k := 2) (List.mem_of_getElem? (i := 233) rfl)
theorem sa_wc94 : sa_cw sa_e94 ∈ lw_tbl := sa_tk_in (k := 3) (List.mem_of_getElem? (i := 0) rfl)
theorem sa_wc95 : sa_cw sa_e95 ∈ lw_tbl := sa_tk_in (k := 2) (List.mem_of_getElem? (i := 173) rfl)
theorem sa_wc96 : sa_cw sa_e96 ∈ lw_tbl := sa_tk_in (k := 2) (List.mem_of_getElem? (i := 217) rfl)
theorem sa_wc97 : sa_cw sa_e97 ∈ lw_tbl := sa_tk_in (k := 5) (List.mem_of_getElem? (i := 128) rfl)
theorem sa_wc98 : sa_cw sa_e98 ∈ lw_tbl := sa_tk_in (k := 3) (List.mem_of_getElem? (i := 74) rfl)
theorem sa_wc99 : sa_cw sa_e99 ∈ lw_tbl := sa_tk_in (k := 5) (List.mem_of_getElem? (i := 115) rfl)
theorem sa_wc100 : sa_cw sa_e100 ∈ lw_tbl := sa_tk_in (k := 3) (List.mem_of_getElem? (i := 70) rfl)
theorem sa_wc101 : sa_cw sa_e101 ∈ lw_tbl := sa_tk_in (k := 2) (List.mem_of_getElem? (i := 200) rfl)
theorem sa_wc102 : sa_cw sa_e102 ∈ lw_tbl := sa_tk_in (k := 2) (List.mem_of_getElem? (i := 196) rfl)
theorem sa_wc103 : sa_cw sa_e103 ∈ lw_tbl := sa_tk_in (k := 2) (List.mem_of_getElem? (i := 204) rfl)
theorem sa_wc104 : sa_cw sa_e104 ∈ lw_tbl := sa_tk_in (k := 2) (List.mem_of_getElem? (i := 225) rfl)
theorem sa_wc105 : sa_cw sa_e105 ∈ lw_tbl := sa_tk_in (k := 5) (List.mem_of_getElem? (i := 33) rfl)
theorem sa_wc106 : sa_cw sa_e106 ∈ lw_tbl := sa_tk_in (k := 3) (List.mem_of_getElem? (i := 62) rfl)
theorem sa_wc107 : sa_cw sa_e107 ∈ lw_tbl := sa_tk_in (k := 5) (List.mem_of_getElem? (i := 99) rfl)
theorem sa_wc108 : sa_cw sa_e108 ∈ lw_tbl := sa_tk_in (k := 5) (List.mem_of_getElem? (i := 104) rfl)
theorem sa_wc109 : sa_cw sa_e109 ∈ lw_tbl := sa_tk_in (k := 2) (List.mem_of_getElem? (i := 188) rfl)
theorem sa_wc110 : sa_cw sa_e110 ∈ lw_tbl := sa_tk_in (k := 2) (List.mem_of_getElem? (i := 208) rfl)
theorem sa_wc111 : sa_cw sa_e111 ∈ lw_tbl := sa_tk_in (k := 1) (List.mem_of_getElem? (i := 47) rfl)
theorem sa_wc112 : sa_cw sa_e112 ∈ lw_tbl := sa_tk_in (k := 2) (List.mem_of_getElem? (i := 192) rfl)
theorem sa_wc113 : sa_cw sa_e113 ∈ lw_tbl := sa_tk_in (k := 4) (List.mem_of_getElem? (i := 138) rfl)
theorem sa_wc114 : sa_cw sa_e114 ∈ lw_tbl := sa_tk_in (k := 4) (List.mem_of_getElem? (i := 142) rfl)
theorem sa_wc115 : sa_cw sa_e115 ∈ lw_tbl := sa_tk_in (k := 4) (List.mem_of_getElem? (i := 125) rfl)
theorem sa_wc116 : sa_cw sa_e116 ∈ lw_tbl := sa_tk_in (k := 5) (List.mem_of_getElem? (i := 68) rfl)
theorem sa_wc117 : sa_cw sa_e117 ∈ lw_tbl := sa_tk_in (k := 3) (List.mem_of_getElem? (i := 24) rfl)
theorem sa_wc118 : sa_cw sa_e118 ∈ lw_tbl := sa_tk_in (k := 2) (List.mem_of_getElem? (i := 221) rfl)
theorem sa_wc119 : sa_cw sa_e119 ∈ lw_tbl := sa_tk_in (k := 4) (List.mem_of_getElem? (i := 9) rfl)
theorem sa_bi2 : ∀ w ∈ sa_b2, w ∈ lw_tbl := List.forall_mem_cons.mpr ⟨sa_wc80, List.forall_mem_cons.mpr ⟨sa_wc81, List.forall_mem_cons.mpr ⟨sa_wc82, List.forall_mem_cons.mpr ⟨sa_wc83, List.forall_mem_cons.mpr ⟨sa_wc84, List.forall_mem_cons.mpr ⟨sa_wc85, List.forall_mem_cons.mpr ⟨sa_wc86, List.forall_mem_cons.mpr ⟨sa_wc87, List.forall_mem_cons.mpr ⟨sa_wc88, List.forall_mem_cons.mpr ⟨sa_wc89, List.forall_mem_cons.mpr ⟨sa_wc90, List.forall_mem_cons.mpr ⟨sa_wc91, List.forall_mem_cons.mpr ⟨sa_wc92, List.forall_mem_cons.mpr ⟨sa_wc93, List.forall_mem_cons.mpr ⟨sa_wc94, List.forall_mem_cons.mpr ⟨sa_wc95, List.forall_mem_cons.mpr ⟨sa_wc96, List.forall_mem_cons.mpr ⟨sa_wc97, List.forall_mem_cons.mpr ⟨sa_wc98, List.forall_mem_cons.mpr ⟨sa_wc99, List.forall_mem_cons.mpr ⟨sa_wc100, List.forall_mem_cons.mpr ⟨sa_wc101, List.forall_mem_cons.mpr ⟨sa_wc102, List.forall_mem_cons.mpr ⟨sa_wc103, List.forall_mem_cons.mpr ⟨sa_wc104, List.forall_mem_cons.mpr ⟨sa_wc105, List.forall_mem_cons.mpr ⟨sa_wc106, List.forall_mem_cons.mpr ⟨sa_wc107, List.forall_mem_cons.mpr ⟨sa_wc108, List.forall_mem_cons.mpr ⟨sa_wc109, List.forall_mem_cons.mpr ⟨sa_wc110, List.forall_mem_cons.mpr ⟨sa_wc111, List.forall_mem_cons.mpr ⟨sa_wc112, List.forall_mem_cons.mpr ⟨sa_wc113, List.forall_mem_cons.mpr ⟨sa_wc114, List.forall_mem_cons.mpr ⟨sa_wc115, List.forall_mem_cons.mpr ⟨sa_wc116, List.forall_mem_cons.mpr ⟨sa_wc117, List.forall_mem_cons.mpr ⟨sa_wc118, List.forall_mem_cons.mpr ⟨sa_wc119, fun _ h => absurd h List.not_mem_nil⟩⟩⟩⟩⟩⟩⟩⟩⟩⟩⟩⟩⟩⟩⟩⟩⟩⟩⟩⟩⟩⟩⟩⟩⟩⟩⟩⟩⟩⟩⟩⟩⟩⟩⟩⟩⟩⟩⟩⟩
set_option maxRecDepth 100000 in
theorem sa_bg2 : ∀ w ∈ sa_b2, goodWord w = true := by decide +kernel
def sa_b3 : List Cond := sa_M3.map sa_cw
theorem sa_wc120 : sa_cw sa_e120 ∈ lw_tbl := sa_tk_in (k := 4) (List.mem_of_getElem? (i := 158) rfl)
theorem sa_wc121 : sa_cw sa_e121 ∈ lw_tbl := sa_tk_in (k := 4) (List.mem_of_getElem? (i := 162) rfl)
theorem sa_wc122 : sa_cw sa_e122 ∈ lw_tbl := sa_tk_in (k := 5) (List.mem_of_getElem? (i := 3) rfl)
theorem sa_wc123 : sa_cw sa_e123 ∈ lw_tbl := sa_tk_in (k := 1) (List.mem_of_getElem? (i := 137) rfl)
theorem sa_wc124 : sa_cw sa_e124 ∈ lw_tbl := sa_tk_in (k := 4) (List.mem_of_getElem? (i := 17) rfl)
theorem sa_wc125 : sa_cw sa_e125 ∈ lw_tbl := sa_tk_in (k := 4) (List.mem_of_getElem? (i := 117) rfl)
theorem sa_wc126 : sa_cw sa_e126 ∈ lw_tbl := sa_tk_in (k := 4) (List.mem_of_getElem? (i := 133) rfl)
theorem sa_wc127 : sa_cw sa_e127 ∈ lw_tbl := sa_tk_in (k := 4) (List.mem_of_getElem? (i := 150) rfl)
theorem sa_wc128 : sa_cw sa_e128 ∈ lw_tbl := sa_tk_in (k := 4) (List.mem_of_getElem? (i := 195) rfl)
theorem sa_wc129 : sa_cw sa_e129 ∈ lw_tbl := sa_tk_in (k := 4) (List.mem_of_getElem? (i := 227) rfl)
theorem sa_wc130 : sa_cw sa_e130 ∈ lw_tbl := sa_tk_in (k := 4) (List.mem_of_getElem? (i := 154) rfl)
theorem sa_wc131 : sa_cw sa_e131 ∈ lw_tbl := sa_tk_in (k := 4) (List.mem_of_getElem? (i := 25) rfl)
theorem sa_wc132 : sa_cw sa_e132 ∈ lw_tbl := sa_tk_in (k := 4) (List.mem_of_getElem? (i := 35) rfl)
theorem sa_wc133 : sa_cw sa_e133 ∈ lw_tbl := sa_tk_in (k := 4) (List.mem_of_getElem? (i := 42) rfl)
theorem sa_wc134 : sa_cw sa_e134 ∈ lw_tbl := sa_tk_in (k := 4) (List.mem_of_getElem? (i := 47) rfl)
theorem sa_wc135 : sa_cw sa_e135 ∈ lw_tbl := sa_tk_in (k := 4) (List.mem_of_getElem? (i := 28) rfl)
theorem sa_wc136 : sa_cw sa_e136 ∈ lw_tbl := sa_tk_in (k := 4) (List.mem_of_getElem? (i := 31) rfl)
theorem sa_wc137 : sa_cw sa_e137 ∈ lw_tbl := sa_tk_in (k := 4) (List.mem_of_getElem? (i := 38) rfl)
theorem sa_wc138 : sa_cw sa_e138 ∈ lw_tbl := sa_tk_in (k := 4) (List.mem_of_getElem? (i := 113) rfl)
theorem sa_wc139 : sa_cw sa_e139 ∈ lw_tbl := sa_tk_in (k := 1) (List.mem_of_getElem? (i := 184) rfl)
theorem sa_wc140 : sa_cw sa_e140 ∈ lw_tbl := sa_tk_in (k := 5) (List.mem_of_getElem? (i := 13) rfl)
theorem sa_wc141 : sa_cw sa_e141 ∈ lw_tbl := sa_tk_in (k := 3) (List.mem_of_getElem? (i := 158) rfl)
theorem sa_wc142 : sa_cw sa_e142 ∈ lw_tbl := sa_tk_in (k := 3) (List.mem_of_getElem? (i := 12) rfl)
theorem sa_wc143 : sa_cw sa_e143 ∈ lw_tbl := sa_tk_in (k := 2) (List.mem_of_getElem? (i := 181) rfl)
theorem sa_wc144 : sa_cw sa_e144 ∈ lw_tbl := sa_tk_in (k := 3) (List.mem_of_getElem? (i := 8) rfl)
theorem sa_wc145 : sa_cw sa_e145 ∈ lw_tbl := sa_tk_in (k := 5) (List.mem_of_getElem? (i := 38) rfl)
theorem sa_wc146 : sa_cw sa_e146 ∈ lw_tbl := sa_tk_in (k := 6) (List.mem_of_getElem? (i := 116) rfl)
theorem sa_wc147 : sa_cw sa_e147 ∈ lw_tbl := sa_tk_in (k := 3) (List.mem_of_getElem? (i := 44) rfl)
theorem sa_wc148 : sa_cw sa_e148 ∈ lw_tbl := sa_tk_in (k := 6) (List.mem_of_getElem? (i := 138) rfl)
theorem sa_wc149 : sa_cw sa_e149 ∈ lw_tbl := sa_tk_in (k := 1) (List.mem_of_getElem? (i := 31) rfl)
theorem sa_wc150 : sa_cw sa_e150 ∈ lw_tbl := sa_tk_in (k := 2) (List.mem_of_getElem? (i := 157) rfl)
theorem sa_wc151 : sa_cw sa_e151 ∈ lw_tbl := sa_tk_in (k := 2) (List.mem_of_getElem? (i := 161) rfl)
theorem sa_wc152 : sa_cw sa_e152 ∈ lw_tbl := sa_tk_in (k := 3) (List.mem_of_getElem? (i := 175) rfl)
theorem sa_wc153 : sa_cw sa_e153 ∈ lw_tbl := sa_tk_in (k := 2) (List.mem_of_getElem? (i := 165) rfl)
theorem sa_wc154 : sa_cw sa_e154 ∈ lw_tbl := sa_tk_in (k := 5) (List.mem_of_getElem? (i := 29) rfl)
theorem sa_wc155 : sa_cw sa_e155 ∈ lw_tbl := sa_tk_in (k := 5) (List.mem_of_getElem? (i := 60) rfl)
theorem sa_wc156 : sa_cw sa_e156 ∈ lw_tbl := sa_tk_in (k := 5) (List.mem_of_getElem? (i := 84) rfl)
theorem sa_wc157 : sa_cw sa_e157 ∈ lw_tbl := sa_tk_in (k := 5) (List.mem_of_getElem? (i := 95) rfl)
theorem sa_wc158 : sa_cw sa_e158 ∈ lw_tbl := sa_tk_in (k := 2) (List.mem_of_getElem? (i := 169) rfl)
theorem sa_wc159 : sa_cw sa_e159 ∈ lw_tbl := sa_tk_in (k := 5) (List.mem_of_getElem? (i := 124) rfl)
theorem sa_bi3 : ∀ w ∈ sa_b3, w ∈ lw_tbl := List.forall_mem_cons.mpr ⟨sa_wc120, List.forall_mem_cons.mpr ⟨sa_wc121, List.forall_mem_cons.mpr ⟨sa_wc122, List.forall_mem_cons.mpr ⟨sa_wc123, List.forall_mem_cons.mpr ⟨sa_wc124, List.forall_mem_cons.mpr ⟨sa_wc125, List.forall_mem_cons.mpr ⟨sa_wc126, List.forall_mem_cons.mpr ⟨sa_wc127, List.forall_mem_cons.mpr ⟨sa_wc128, List.forall_mem_cons.mpr ⟨sa_wc129, List.forall_mem_cons.mpr ⟨sa_wc130, List.forall_mem_cons.mpr ⟨sa_wc131, List.forall_mem_cons.mpr ⟨sa_wc132, List.forall_mem_cons.mpr ⟨sa_wc133, List.forall_mem_cons.mpr ⟨sa_wc134, List.forall_mem_cons.mpr ⟨sa_wc135, List.forall_mem_cons.mpr ⟨sa_wc136, List.forall_mem_cons.mpr ⟨sa_wc137, List.forall_mem_cons.mpr ⟨sa_wc138, List.forall_mem_cons.mpr ⟨sa_wc139, List.forall_mem_cons.mpr ⟨sa_wc140, List.forall_mem_cons.mpr ⟨sa_wc141, List.forall_mem_cons.mpr ⟨sa_wc142, List.forall_mem_cons.mpr ⟨sa_wc143, List.forall_mem_cons.mpr ⟨sa_wc144, List.forall_mem_cons.mpr ⟨sa_wc145, List.forall_mem_cons.mpr ⟨sa_wc146, List.forall_mem_cons.mpr ⟨sa_wc147, List.forall_mem_cons.mpr ⟨sa_wc148, List.forall_mem_cons.mpr ⟨sa_wc149, List.forall_mem_cons.mpr ⟨sa_wc150, List.forall_mem_cons.mpr ⟨sa_wc151, List.forall_mem_cons.mpr ⟨sa_wc152, List.forall_mem_cons.mpr ⟨sa_wc153, List.forall_mem_cons.mpr ⟨sa_wc154, List.forall_mem_cons.mpr ⟨sa_wc155, List.forall_mem_cons.mpr ⟨sa_wc156, List.forall_mem_cons.mpr ⟨sa_wc157, List.forall_mem_cons.mpr ⟨sa_wc158, List.forall_mem_cons.mpr ⟨sa_wc159, fun _ h => absurd h List.not_mem_nil⟩⟩⟩⟩⟩⟩⟩⟩⟩⟩⟩⟩⟩⟩⟩⟩⟩⟩⟩⟩⟩⟩⟩⟩⟩⟩⟩⟩⟩⟩⟩⟩⟩⟩⟩⟩⟩⟩⟩⟩
set_option maxRecDepth 100000 in
theorem sa_bg3 : ∀ w ∈ sa_b3, goodWord w = true := by decide +kernel
def sa_b4 : List Cond := sa_M4.map sa_cw
theorem sa_wc160 : sa_cw sa_e160 ∈ lw_tbl := sa_tk_in (k := 2) (List.mem_of_getElem? (i := 229) rfl)
theorem sa_wc161 : sa_cw sa_e161 ∈ lw_tbl := sa_tk_in (k := 5) (List.mem_of_getElem? (i := 135) rfl)
theorem sa_wc162 : sa_cw sa_e162 ∈ lw_tbl := sa_tk_in (k := 3) (List.mem_of_getElem? (i := 4) rfl)
theorem sa_wc163 : sa_cw sa_e163 ∈ lw_tbl := sa_tk_in (k := 5) (List.mem_of_getElem? (i := 147) rfl)
theorem sa_wc164 : sa_cw sa_e164 ∈ lw_tbl := sa_tk_in (k := 5) (List.mem_of_getElem? (i := 158) rfl)
theorem sa_wc165 : sa_cw sa_e165 ∈ lw_tbl := sa_tk_in (k := 5) (List.mem_of_getElem? (i := 184) rfl)
theorem sa_wc166 : sa_cw sa_e166 ∈ lw_tbl := sa_tk_in (k := 5) (List.mem_of_getElem? (i := 201) rfl)
theorem sa_wc167 : sa_cw sa_e167 ∈ lw_tbl := sa_tk_in (k := 5) (List.mem_of_getElem? (i := 233) rfl)
theorem sa_wc168 : sa_cw sa_e168 ∈ lw_tbl := sa_tk_in (k := 6) (List.mem_of_getElem? (i := 15) rfl)
theorem sa_wc169 : sa_cw sa_e169 ∈ lw_tbl := sa_tk_in (k := 6) (List.mem_of_getElem? (i := 23) rfl)
theorem sa_wc170 : sa_cw sa_e170 ∈ lw_tbl := sa_tk_in (k := 6) (List.mem_of_getElem? (i := 35) rfl)
theorem sa_wc171 : sa_cw sa_e171 ∈ lw_tbl := sa_tk_in (k := 6) (List.mem_of_getElem? (i := 56) rfl)
theorem sa_wc172 : sa_cw sa_e172 ∈ lw_tbl := sa_tk_in (k := 6) (List.mem_of_getElem? (i := 76) rfl)
theorem sa_wc173 : sa_cw sa_e173 ∈ lw_tbl := sa_tk_in (k := 3) (List.mem_of_getElem? (i := 16) rfl)
theorem sa_wc174 : sa_cw sa_e174 ∈ lw_tbl := sa_tk_in (k := 6) (List.mem_of_getElem? (i := 88) rfl)
theorem sa_wc175 : sa_cw sa_e175 ∈ lw_tbl := sa_tk_in (k := 6) (List.mem_of_getElem? (i := 112) rfl)
theorem sa_wc176 : sa_cw sa_e176 ∈ lw_tbl := sa_tk_in (k := 3) (List.mem_of_getElem? (i := 40) rfl)
theorem sa_wc177 : sa_cw sa_e177 ∈ lw_tbl := sa_tk_in (k := 6) (List.mem_of_getElem? (i := 123) rfl)
theorem sa_wc178 : sa_cw sa_e178 ∈ lw_tbl := sa_tk_in (k := 6) (List.mem_of_getElem? (i := 174) rfl)
theorem sa_wc179 : sa_cw sa_e179 ∈ lw_tbl := sa_tk_in (k := 6) (List.mem_of_getElem? (i := 190) rfl)
theorem sa_wc180 : sa_cw sa_e180 ∈ lw_tbl := sa_tk_in (k := 6) (List.mem_of_getElem? (i := 217) rfl)
theorem sa_wc181 : sa_cw sa_e181 ∈ lw_tbl := sa_tk_in (k := 7) (List.mem_of_getElem? (i := 2) rfl)
theorem sa_wc182 : sa_cw sa_e182 ∈ lw_tbl := sa_tk_in (k := 7) (List.mem_of_getElem? (i := 10) rfl)
theorem sa_wc183 : sa_cw sa_e183 ∈ lw_tbl := sa_tk_in (k := 3) (List.mem_of_getElem? (i := 48) rfl)
theorem sa_wc184 : sa_cw sa_e184 ∈ lw_tbl := sa_tk_in (k := 7) (List.mem_of_getElem? (i := 17) rfl)
theorem sa_wc185 : sa_cw sa_e185 ∈ lw_tbl := sa_tk_in (k := 7) (List.mem_of_getElem? (i := 24) rfl)
theorem sa_wc186 : sa_cw sa_e186 ∈ lw_tbl := sa_tk_in (k := 7) (List.mem_of_getElem? (i := 32) rfl)
theorem sa_wc187 : sa_cw sa_e187 ∈ lw_tbl := sa_tk_in (k := 7) (List.mem_of_getElem? (i := 43) rfl)
theorem sa_wc188 : sa_cw sa_e188 ∈ lw_tbl := sa_tk_in (k := 3) (List.mem_of_getElem? (i := 134) rfl)
theorem sa_wc189 : sa_cw sa_e189 ∈ lw_tbl := sa_tk_in (k := 3) (List.mem_of_getElem? (i := 142) rfl)
theorem sa_wc190 : sa_cw sa_e190 ∈ lw_tbl := sa_tk_in (k := 3) (List.mem_of_getElem? (i := 154) rfl)
theorem sa_wc191 : sa_cw sa_e191 ∈ lw_tbl := sa_tk_in (k := 3) (List.mem_of_getElem? (i := 167) rfl)
theorem sa_wc192 : sa_cw sa_e192 ∈ lw_tbl := sa_tk_in (k := 3) (List.mem_of_getElem? (i := 53) rfl)
theorem sa_wc193 : sa_cw sa_e193 ∈ lw_tbl := sa_tk_in (k := 2) (List.mem_of_getElem? (i := 177) rfl)
theorem sa_wc194 : sa_cw sa_e194 ∈ lw_tbl := sa_tk_in (k := 3) (List.mem_of_getElem? (i := 146) rfl)
theorem sa_wc195 : sa_cw sa_e195 ∈ lw_tbl := sa_tk_in (k := 3) (List.mem_of_getElem? (i := 58) rfl)
theorem sa_wc196 : sa_cw sa_e196 ∈ lw_tbl := sa_tk_in (k := 5) (List.mem_of_getElem? (i := 187) rfl)
theorem sa_wc197 : sa_cw sa_e197 ∈ lw_tbl := sa_tk_in (k := 5) (List.mem_of_getElem? (i := 194) rfl)
theorem sa_wc198 : sa_cw sa_e198 ∈ lw_tbl := sa_tk_in (k := 5) (List.mem_of_getElem? (i := 64) rfl)
theorem sa_wc199 : sa_cw sa_e199 ∈ lw_tbl := sa_tk_in (k := 5) (List.mem_of_getElem? (i := 88) rfl)
theorem sa_bi4 : ∀ w ∈ sa_b4, w ∈ lw_tbl := List.forall_mem_cons.mpr ⟨sa_wc160, List.forall_mem_cons.mpr ⟨sa_wc161, List.forall_mem_cons.mpr ⟨sa_wc162, List.forall_mem_cons.mpr ⟨sa_wc163, List.forall_mem_cons.mpr ⟨sa_wc164, List.forall_mem_cons.mpr ⟨sa_wc165, List.forall_mem_cons.mpr ⟨sa_wc166, List.forall_mem_cons.mpr ⟨sa_wc167, List.forall_mem_cons.mpr ⟨sa_wc168, List.forall_mem_cons.mpr ⟨sa_wc169, List.forall_mem_cons.mpr ⟨sa_wc170, List.forall_mem_cons.mpr ⟨sa_wc171, List.forall_mem_cons.mpr ⟨sa_wc172, List.forall_mem_cons.mpr ⟨sa_wc173, List.forall_mem_cons.mpr ⟨sa_wc174, List.forall_mem_cons.mpr ⟨sa_wc175, List.forall_mem_cons.mpr ⟨sa_wc176, List.forall_mem_cons.mpr ⟨sa_wc177, List.forall_mem_cons.mpr ⟨sa_wc178, List.forall_mem_cons.mpr ⟨sa_wc179, List.forall_mem_cons.mpr ⟨sa_wc180, List.forall_mem_cons.mpr ⟨sa_wc181, List.forall_mem_cons.mpr ⟨sa_wc182, List.forall_mem_cons.mpr ⟨sa_wc183, List.forall_mem_cons.mpr ⟨sa_wc184, List.forall_mem_cons.mpr ⟨sa_wc185, List.forall_mem_cons.mpr ⟨sa_wc186, List.forall_mem_cons.mpr ⟨sa_wc187, List.forall_mem_cons.mpr ⟨sa_wc188, List.forall_mem_cons.mpr ⟨sa_wc189, List.forall_mem_cons.mpr ⟨sa_wc190, List.forall_mem_cons.mpr ⟨sa_wc191, List.forall_mem_cons.mpr ⟨sa_wc192, List.forall_mem_cons.mpr ⟨sa_wc193, List.forall_mem_cons.mpr ⟨sa_wc194, List.forall_mem_cons.mpr ⟨sa_wc195, List.forall_mem_cons.mpr ⟨sa_wc196, List.forall_mem_cons.mpr ⟨sa_wc197, List.forall_mem_cons.mpr ⟨sa_wc198, List.forall_mem_cons.mpr ⟨sa_wc199, fun _ h => absurd h List.not_mem_nil⟩⟩⟩⟩⟩⟩⟩⟩⟩⟩⟩⟩⟩⟩⟩⟩⟩⟩⟩⟩⟩⟩⟩⟩⟩⟩⟩⟩⟩⟩⟩⟩⟩⟩⟩⟩⟩⟩⟩⟩
set_option maxRecDepth 100000 in
theorem sa_bg4 : ∀ w ∈ sa_b4, goodWord w = true := by decide +kernel

/-! tables, states -/
set_option maxRecDepth 20000 in
theorem ct_112_4 {X : Nat × (Nat → Int32)} {d : Nat} {c : sa_Ct} (I : Nat → Nat → Int32) (J : Nat → Nat → Int64) : sa_Ex X (d + 1) 112 [.ref 4] (sa_mk c I J) (.inl (some (.int ((I 4) 3))), sa_mk c I J) := by
  refine sa_ex1 (lo := [.ref 4]) (d := d + 0) sa_hm112 (Nat.le_of_ble_eq_true rfl) (sa_gl rfl) rfl ?_
  refine aw_x (m' := sa_mk c I J) sa_he112 2 4 [.ref 4] [.int ((I 4) 3)] rfl ?_
  exact aw_iri sa_he112 rfl rfl rfl
set_option maxRecDepth 20000 in
theorem ct_119_4 {X : Nat × (Nat → Int32)} {d : Nat} {c : sa_Ct} (I : Nat → Nat → Int32) (J : Nat → Nat → Int64) : sa_Ex X (d + 1) 119 [.ref 4] (sa_mk c I J) (.inl none, sa_mk c (ov I [(4, upd (I 4) 3 (nI 0))]) J) := by
  refine sa_ex1 (lo := [.ref 4]) (d := d + 0) sa_hm119 (Nat.le_of_ble_eq_true rfl) (sa_gl rfl) rfl ?_
  refine aw_x (m' := sa_mk c I J) sa_he119 2 2 [.ref 4] [.int (nI 0), .ref 4] rfl ?_
  refine aw_pi (I' := (ov I [(4, upd (I 4) 3 (nI 0))])) (pc' := 5) sa_he119 rfl sa_f8_7 (Nat.le_of_ble_eq_true rfl) rfl rfl (Or.inl rfl) (ov_ins I [] 4 _) rfl ?_
  exact aw_vr sa_he119 rfl rfl rfl
set_option maxRecDepth 20000 in
theorem ct_112_6 {X : Nat × (Nat → Int32)} {d : Nat} {c : sa_Ct} (I : Nat → Nat → Int32) (J : Nat → Nat → Int64) : sa_Ex X (d + 1) 112 [.ref 6] (sa_mk c I J) (.inl (some (.int ((I 6) 3))), sa_mk c I J) := by
  refine sa_ex1 (lo := [.ref 6]) (d := d + 0) sa_hm112 (Nat.le_of_ble_eq_true rfl) (sa_gl rfl) rfl ?_
  refine aw_x (m' := sa_mk c I J) sa_he112 2 4 [.ref 6] [.int ((I 6) 3)] rfl ?_
  exact aw_iri sa_he112 rfl rfl rfl
set_option maxRecDepth 20000 in
theorem ct_119_6 {X : Nat × (Nat → Int32)} {d : Nat} {c : sa_Ct} (I : Nat → Nat → Int32) (J : Nat → Nat → Int64) : sa_Ex X (d + 1) 119 [.ref 6] (sa_mk c I J) (.inl none, sa_mk c (ov I [(6, upd (I 6) 3 (nI 0))]) J) := by
  refine sa_ex1 (lo := [.ref 6]) (d := d + 0) sa_hm119 (Nat.le_of_ble_eq_true rfl) (sa_gl rfl) rfl ?_
  refine aw_x (m' := sa_mk c I J) sa_he119 2 2 [.ref 6] [.int (nI 0), .ref 6] rfl ?_
  refine aw_pi (I' := (ov I [(6, upd (I 6) 3 (nI 0))])) (pc' := 5) sa_he119 rfl sa_f8_7 (Nat.le_of_ble_eq_true rfl) rfl rfl (Or.inl rfl) (ov_ins I [] 6 _) rfl ?_
  exact aw_vr sa_he119 rfl rfl rfl
set_option maxRecDepth 20000 in
theorem ct_112_8 {X : Nat × (Nat → Int32)} {d : Nat} {c : sa_Ct} (I : Nat → Nat → Int32) (J : Nat → Nat → Int64) : sa_Ex X (d + 1) 112 [.ref 8] (sa_mk c I J) (.inl (some (.int ((I 8) 3))), sa_mk c I J) := by
  refine sa_ex1 (lo := [.ref 8]) (d := d + 0) sa_hm112 (Nat.le_of_ble_eq_true rfl) (sa_gl rfl) rfl ?_
  refine aw_x (m' := sa_mk c I J) sa_he112 2 4 [.ref 8] [.int ((I 8) 3)] rfl ?_
  exact aw_iri sa_he112 rfl rfl rfl
set_option maxRecDepth 20000 in
theorem ct_119_8 {X : Nat × (Nat → Int32)} {d : Nat} {c : sa_Ct} (I : Nat → Nat → Int32) (J : Nat → Nat → Int64) : sa_Ex X (d + 1) 119 [.ref 8] (sa_mk c I J) (.inl none, sa_mk c (ov I [(8, upd (I 8) 3 (nI 0))]) J) := by
  refine sa_ex1 (lo := [.ref 8]) (d := d + 0) sa_hm119 (Nat.le_of_ble_eq_true rfl) (sa_gl rfl) rfl ?_
  refine aw_x (m' := sa_mk c I J) sa_he119 2 2 [.ref 8] [.int (nI 0), .ref 8] rfl ?_
  refine aw_pi (I' := (ov I [(8, upd (I 8) 3 (nI 0))])) (pc' := 5) sa_he119 rfl sa_f8_7 (Nat.le_of_ble_eq_true rfl) rfl rfl (Or.inl rfl) (ov_ins I [] 8 _) rfl ?_
  exact aw_vr sa_he119 rfl rfl rfl
set_option maxRecDepth 20000 in
theorem ct_112_10 {X : Nat × (Nat → Int32)} {d : Nat} {c : sa_Ct} (I : Nat → Nat → Int32) (J : Nat → Nat → Int64) : sa_Ex X (d + 1) 112 [.ref 10] (sa_mk c I J) (.inl (some (.int ((I 10) 3))), sa_mk c I J) := by
  refine sa_ex1 (lo := [.ref 10]) (d := d + 0) sa_hm112 (Nat.le_of_ble_eq_true rfl) (sa_gl rfl) rfl ?_
  refine aw_x (m' := sa_mk c I J) sa_he112 2 4 [.ref 10] [.int ((I 10) 3)] rfl ?_
  exact aw_iri sa_he112 rfl rfl rfl
set_option maxRecDepth 20000 in
theorem ct_119_10 {X : Nat × (Nat → Int32)} {d : Nat} {c : sa_Ct} (I : Nat → Nat → Int32) (J : Nat → Nat → Int64) : sa_Ex X (d + 1) 119 [.ref 10] (sa_mk c I J) (.inl none, sa_mk c (ov I [(10, upd (I 10) 3 (nI 0))]) J) := by
  refine sa_ex1 (lo := [.ref 10]) (d := d + 0) sa_hm119 (Nat.le_of_ble_eq_true rfl) (sa_gl rfl) rfl ?_
  refine aw_x (m' := sa_mk c I J) sa_he119 2 2 [.ref 10] [.int (nI 0), .ref 10] rfl ?_
  refine aw_pi (I' := (ov I [(10, upd (I 10) 3 (nI 0))])) (pc' := 5) sa_he119 rfl sa_f8_7 (Nat.le_of_ble_eq_true rfl) rfl rfl (Or.inl rfl) (ov_ins I [] 10 _) rfl ?_
  exact aw_vr sa_he119 rfl rfl rfl
set_option maxRecDepth 20000 in
theorem ct_112_17 {X : Nat × (Nat → Int32)} {d : Nat} {c : sa_Ct} (I : Nat → Nat → Int32) (J : Nat → Nat → Int64) : sa_Ex X (d + 1) 112 [.ref 17] (sa_mk c I J) (.inl (some (.int ((I 17) 3))), sa_mk c I J) := by
  refine sa_ex1 (lo := [.ref 17]) (d := d + 0) sa_hm112 (Nat.le_of_ble_eq_true rfl) (sa_gl rfl) rfl ?_
  refine aw_x (m' := sa_mk c I J) sa_he112 2 4 [.ref 17] [.int ((I 17) 3)] rfl ?_
  exact aw_iri sa_he112 rfl rfl rfl
set_option maxRecDepth 20000 in
theorem ct_119_17 {X : Nat × (Nat → Int32)} {d : Nat} {c : sa_Ct} (I : Nat → Nat → Int32) (J : Nat → Nat → Int64) : sa_Ex X (d + 1) 119 [.ref 17] (sa_mk c I J) (.inl none, sa_mk c (ov I [(17, upd (I 17) 3 (nI 0))]) J) := by
  refine sa_ex1 (lo := [.ref 17]) (d := d + 0) sa_hm119 (Nat.le_of_ble_eq_true rfl) (sa_gl rfl) rfl ?_
  refine aw_x (m' := sa_mk c I J) sa_he119 2 2 [.ref 17] [.int (nI 0), .ref 17] rfl ?_
  refine aw_pi (I' := (ov I [(17, upd (I 17) 3 (nI 0))])) (pc' := 5) sa_he119 rfl sa_f8_7 (Nat.le_of_ble_eq_true rfl) rfl rfl (Or.inl rfl) (ov_ins I [] 17 _) rfl ?_
  exact aw_vr sa_he119 rfl rfl rfl
set_option maxRecDepth 20000 in
theorem ct_112_19 {X : Nat × (Nat → Int32)} {d : Nat} {c : sa_Ct} (I : Nat → Nat → Int32) (J : Nat → Nat → Int64) : sa_Ex X (d + 1) 112 [.ref 19] (sa_mk c I J) (.inl (some (.int ((I 19) 3))), sa_mk c I J) := by
  refine sa_ex1 (lo := [.ref 19]) (d := d + 0) sa_hm112 (Nat.le_of_ble_eq_true rfl) (sa_gl rfl) rfl ?_
  refine aw_x (m' := sa_mk c I J) sa_he112 2 4 [.ref 19] [.int ((I 19) 3)] rfl ?_
  exact aw_iri sa_he112 rfl rfl rfl
set_option maxRecDepth 20000 in
theorem ct_119_19 {X : Nat × (Nat → Int32)} {d : Nat} {c : sa_Ct} (I : Nat → Nat → Int32) (J : Nat → Nat → Int64) : sa_Ex X (d + 1) 119 [.ref 19] (sa_mk c I J) (.inl none, sa_mk c (ov I [(19, upd (I 19) 3 (nI 0))]) J) := by
  refine sa_ex1 (lo := [.ref 19]) (d := d + 0) sa_hm119 (Nat.le_of_ble_eq_true rfl) (sa_gl rfl) rfl ?_
  refine aw_x (m' := sa_mk c I J) sa_he119 2 2 [.ref 19] [.int (nI 0), .ref 19] rfl ?_
  refine aw_pi (I' := (ov I [(19, upd (I 19) 3 (nI 0))])) (pc' := 5) sa_he119 rfl sa_f8_7 (Nat.le_of_ble_eq_true rfl) rfl rfl (Or.inl rfl) (ov_ins I [] 19 _) rfl ?_
  exact aw_vr sa_he119 rfl rfl rfl
set_option maxRecDepth 20000 in
theorem ct_112_21 {X : Nat × (Nat → Int32)} {d : Nat} {c : sa_Ct} (I : Nat → Nat → Int32) (J : Nat → Nat → Int64) : sa_Ex X (d + 1) 112 [.ref 21] (sa_mk c I J) (.inl (some (.int ((I 21) 3))), sa_mk c I J) := by
  refine sa_ex1 (lo := [.ref 21]) (d := d + 0) sa_hm112 (Nat.le_of_ble_eq_true rfl) (sa_gl rfl) rfl ?_
  refine aw_x (m' := sa_mk c I J) sa_he112 2 4 [.ref 21] [.int ((I 21) 3)] rfl ?_
  exact aw_iri sa_he112 rfl rfl rfl
set_option maxRecDepth 20000 in
theorem ct_119_21 {X : Nat × (Nat → Int32)} {d : Nat} {c : sa_Ct} (I : Nat → Nat → Int32) (J : Nat → Nat → Int64) : sa_Ex X (d + 1) 119 [.ref 21] (sa_mk c I J) (.inl none, sa_mk c (ov I [(21, upd (I 21) 3 (nI 0))]) J) := by
  refine sa_ex1 (lo := [.ref 21]) (d := d + 0) sa_hm119 (Nat.le_of_ble_eq_true rfl) (sa_gl rfl) rfl ?_
  refine aw_x (m' := sa_mk c I J) sa_he119 2 2 [.ref 21] [.int (nI 0), .ref 21] rfl ?_
  refine aw_pi (I' := (ov I [(21, upd (I 21) 3 (nI 0))])) (pc' := 5) sa_he119 rfl sa_f8_7 (Nat.le_of_ble_eq_true rfl) rfl rfl (Or.inl rfl) (ov_ins I [] 21 _) rfl ?_
  exact aw_vr sa_he119 rfl rfl rfl
set_option maxRecDepth 20000 in
theorem ct_112_23 {X : Nat × (Nat → Int32)} {d : Nat} {c : sa_Ct} (I : Nat → Nat → Int32) (J : Nat → Nat → Int64) : sa_Ex X (d + 1) 112 [.ref 23] (sa_mk c I J) (.inl (some (.int ((I 23) 3))), sa_mk c I J) := by
  refine sa_ex1 (lo := [.ref 23]) (d := d + 0) sa_hm112 (Nat.le_of_ble_eq_true rfl) (sa_gl rfl) rfl ?_
  refine aw_x (m' := sa_mk c I J) sa_he112 2 4 [.ref 23] [.int ((I 23) 3)] rfl ?_
  exact aw_iri sa_he112 rfl rfl rfl
set_option maxRecDepth 20000 in
theorem ct_119_23 {X : Nat × (Nat → Int32)} {d : Nat} {c : sa_Ct} (I : Nat → Nat → Int32) (J : Nat → Nat → Int64) : sa_Ex X (d + 1) 119 [.ref 23] (sa_mk c I J) (.inl none, sa_mk c (ov I [(23, upd (I 23) 3 (nI 0))]) J) := by
  refine sa_ex1 (lo := [.ref 23]) (d := d + 0) sa_hm119 (Nat.le_of_ble_eq_true rfl) (sa_gl rfl) rfl ?_
  refine aw_x (m' := sa_mk c I J) sa_he119 2 2 [.ref 23] [.int (nI 0), .ref 23] rfl ?_
  refine aw_pi (I' := (ov I [(23, upd (I 23) 3 (nI 0))])) (pc' := 5) sa_he119 rfl sa_f8_7 (Nat.le_of_ble_eq_true rfl) rfl rfl (Or.inl rfl) (ov_ins I [] 23 _) rfl ?_
  exact aw_vr sa_he119 rfl rfl rfl
set_option maxRecDepth 20000 in
theorem ct_113_17 {X : Nat × (Nat → Int32)} {d : Nat} {c : sa_Ct} (I : Nat → Nat → Int32) (J : Nat → Nat → Int64) : sa_Ex X (d + 1) 113 [.ref 17] (sa_mk c I J) (.inl (some (.int (nI 5))), sa_mk c I J) := by
  refine sa_ex1 (lo := [.ref 17]) (d := d + 0) sa_hm113 (Nat.le_of_ble_eq_true rfl) (sa_gl rfl) rfl ?_
  refine aw_x (m' := sa_mk c I J) sa_he113 2 4 [.ref 17] [.ref 100001] rfl ?_
  refine aw_al (n := 5) (pc' := 5) sa_he113 rfl rfl (Nat.le_of_ble_eq_true rfl) rfl ?_
  exact aw_iri sa_he113 rfl rfl rfl
noncomputable def g_115_17 (I : Nat → Nat → Int32) : Int32 := (if ((I 17) 3) < ((I 17) 2) then (nI 0) else (nI 1))
set_option maxRecDepth 20000 in
theorem ct_115_17 {X : Nat × (Nat → Int32)} {d : Nat} {c : sa_Ct} (I : Nat → Nat → Int32) (J : Nat → Nat → Int64) : sa_Ex X (d + 1) 115 [.ref 17] (sa_mk c I J) (.inl (some (.int (g_115_17 I))), sa_mk c I J) := by
  refine sa_ex1 (lo := [.ref 17]) (d := d + 0) sa_hm115 (Nat.le_of_ble_eq_true rfl) (sa_gl rfl) rfl ?_
  refine aw_x (m' := sa_mk c I J) sa_he115 4 8 [.ref 17] [.int ((I 17) 2), .int ((I 17) 3)] rfl ?_
  refine aw_ic (t := 15) (n := 11) sa_he115 rfl rfl rfl (fun (h1 : ((I 17) 3) < ((I 17) 2)) => ?_) (fun (h1 : ¬ (((I 17) 3) < ((I 17) 2))) => ?_)
  · refine aw_x (m' := sa_mk c I J) sa_he115 1 16 [.ref 17] [.int (nI 0)] rfl ?_
    have eg : g_115_17 I = (nI 0) := by unfold g_115_17; rw [if_pos h1]
    exact aw_irz sa_he115 rfl rfl rfl rfl (by rw [eg])
  · refine aw_x (m' := sa_mk c I J) sa_he115 2 16 [.ref 17] [.int (nI 1)] rfl ?_
    have eg : g_115_17 I = (nI 1) := by unfold g_115_17; rw [if_neg h1]
    exact aw_irz sa_he115 rfl rfl rfl rfl (by rw [eg])
set_option maxRecDepth 20000 in
theorem ct_114_17 {X : Nat × (Nat → Int32)} {d : Nat} {c : sa_Ct} (I : Nat → Nat → Int32) (J : Nat → Nat → Int64) (q : Nat) (hq : q < 5) : sa_Ex X (d + 1) 114 [.ref 17, .int (nI q)] (sa_mk c I J) (.inl (some (.int ((sa_lim.getD 0 []).getD q 0))), sa_mk c I J) := by
  refine sa_ex1 (lo := [.ref 17, .int (nI q)]) (d := d + 0) sa_hm114 (Nat.le_of_ble_eq_true rfl) (sa_gl rfl) rfl ?_
  refine aw_x (m' := sa_mk c I J) sa_he114 3 5 [.ref 17, .int (nI q)] [.int (nI q), .ref 100001] rfl ?_
  refine aw_ia (j := q) (n := 5) (f := (fun j => (sa_lim.getD 0 []).getD j 0)) (pc' := 6) sa_he114 rfl rfl rfl (by omega) (by omega) rfl ?_
  exact aw_iri sa_he114 rfl rfl rfl
set_option maxRecDepth 20000 in
theorem ct_113_19 {X : Nat × (Nat → Int32)} {d : Nat} {c : sa_Ct} (I : Nat → Nat → Int32) (J : Nat → Nat → Int64) : sa_Ex X (d + 1) 113 [.ref 19] (sa_mk c I J) (.inl (some (.int (nI 6))), sa_mk c I J) := by
  refine sa_ex1 (lo := [.ref 19]) (d := d + 0) sa_hm113 (Nat.le_of_ble_eq_true rfl) (sa_gl rfl) rfl ?_
  refine aw_x (m' := sa_mk c I J) sa_he113 2 4 [.ref 19] [.ref 100002] rfl ?_
  refine aw_al (n := 6) (pc' := 5) sa_he113 rfl rfl (Nat.le_of_ble_eq_true rfl) rfl ?_
  exact aw_iri sa_he113 rfl rfl rfl
noncomputable def g_115_19 (I : Nat → Nat → Int32) : Int32 := (if ((I 19) 3) < ((I 19) 2) then (nI 0) else (nI 1))
set_option maxRecDepth 20000 in
theorem ct_115_19 {X : Nat × (Nat → Int32)} {d : Nat} {c : sa_Ct} (I : Nat → Nat → Int32) (J : Nat → Nat → Int64) : sa_Ex X (d + 1) 115 [.ref 19] (sa_mk c I J) (.inl (some (.int (g_115_19 I))), sa_mk c I J) := by
  refine sa_ex1 (lo := [.ref 19]) (d := d + 0) sa_hm115 (Nat.le_of_ble_eq_true rfl) (sa_gl rfl) rfl ?_
  refine aw_x (m' := sa_mk c I J) sa_he115 4 8 [.ref 19] [.int ((I 19) 2), .int ((I 19) 3)] rfl ?_
  refine aw_ic (t := 15) (n := 11) sa_he115 rfl rfl rfl (fun (h1 : ((I 19) 3) < ((I 19) 2)) => ?_) (fun (h1 : ¬ (((I 19) 3) < ((I 19) 2))) => ?_)
  · refine aw_x (m' := sa_mk c I J) sa_he115 1 16 [.ref 19] [.int (nI 0)] rfl ?_
    have eg : g_115_19 I = (nI 0) := by unfold g_115_19; rw [if_pos h1]
    exact aw_irz sa_he115 rfl rfl rfl rfl (by rw [eg])
  · refine aw_x (m' := sa_mk c I J) sa_he115 2 16 [.ref 19] [.int (nI 1)] rfl ?_
    have eg : g_115_19 I = (nI 1) := by unfold g_115_19; rw [if_neg h1]
    exact aw_irz sa_he115 rfl rfl rfl rfl (by rw [eg])
set_option maxRecDepth 20000 in
theorem ct_114_19 {X : Nat × (Nat → Int32)} {d : Nat} {c : sa_Ct} (I : Nat → Nat → Int32) (J : Nat → Nat → Int64) (q : Nat) (hq : q < 6) : sa_Ex X (d + 1) 114 [.ref 19, .int (nI q)] (sa_mk c I J) (.inl (some (.int ((sa_lim.getD 1 []).getD q 0))), sa_mk c I J) := by
  refine sa_ex1 (lo := [.ref 19, .int (nI q)]) (d := d + 0) sa_hm114 (Nat.le_of_ble_eq_true rfl) (sa_gl rfl) rfl ?_
  refine aw_x (m' := sa_mk c I J) sa_he114 3 5 [.ref 19, .int (nI q)] [.int (nI q), .ref 100002] rfl ?_
  refine aw_ia (j := q) (n := 6) (f := (fun j => (sa_lim.getD 1 []).getD j 0)) (pc' := 6) sa_he114 rfl rfl rfl (by omega) (by omega) rfl ?_
  exact aw_iri sa_he114 rfl rfl rfl
set_option maxRecDepth 20000 in
theorem ct_113_21 {X : Nat × (Nat → Int32)} {d : Nat} {c : sa_Ct} (I : Nat → Nat → Int32) (J : Nat → Nat → Int64) : sa_Ex X (d + 1) 113 [.ref 21] (sa_mk c I J) (.inl (some (.int (nI 2))), sa_mk c I J) := by
  refine sa_ex1 (lo := [.ref 21]) (d := d + 0) sa_hm113 (Nat.le_of_ble_eq_true rfl) (sa_gl rfl) rfl ?_
  refine aw_x (m' := sa_mk c I J) sa_he113 2 4 [.ref 21] [.ref 100003] rfl ?_
  refine aw_al (n := 2) (pc' := 5) sa_he113 rfl rfl (Nat.le_of_ble_eq_true rfl) rfl ?_
  exact aw_iri sa_he113 rfl rfl rfl
noncomputable def g_115_21 (I : Nat → Nat → Int32) : Int32 := (if ((I 21) 3) < ((I 21) 2) then (nI 0) else (nI 1))
set_option maxRecDepth 20000 in
theorem ct_115_21 {X : Nat × (Nat → Int32)} {d : Nat} {c : sa_Ct} (I : Nat → Nat → Int32) (J : Nat → Nat → Int64) : sa_Ex X (d + 1) 115 [.ref 21] (sa_mk c I J) (.inl (some (.int (g_115_21 I))), sa_mk c I J) := by
  refine sa_ex1 (lo := [.ref 21]) (d := d + 0) sa_hm115 (Nat.le_of_ble_eq_true rfl) (sa_gl rfl) rfl ?_
  refine aw_x (m' := sa_mk c I J) sa_he115 4 8 [.ref 21] [.int ((I 21) 2), .int ((I 21) 3)] rfl ?_
  refine aw_ic (t := 15) (n := 11) sa_he115 rfl rfl rfl (fun (h1 : ((I 21) 3) < ((I 21) 2)) => ?_) (fun (h1 : ¬ (((I 21) 3) < ((I 21) 2))) => ?_)
  · refine aw_x (m' := sa_mk c I J) sa_he115 1 16 [.ref 21] [.int (nI 0)] rfl ?_
    have eg : g_115_21 I = (nI 0) := by unfold g_115_21; rw [if_pos h1]
    exact aw_irz sa_he115 rfl rfl rfl rfl (by rw [eg])
  · refine aw_x (m' := sa_mk c I J) sa_he115 2 16 [.ref 21] [.int (nI 1)] rfl ?_
    have eg : g_115_21 I = (nI 1) := by unfold g_115_21; rw [if_neg h1]
    exact aw_irz sa_he115 rfl rfl rfl rfl (by rw [eg])
set_option maxRecDepth 20000 in
theorem ct_114_21 {X : Nat × (Nat → Int32)} {d : Nat} {c : sa_Ct} (I : Nat → Nat → Int32) (J : Nat → Nat → Int64) (q : Nat) (hq : q < 2) : sa_Ex X (d + 1) 114 [.ref 21, .int (nI q)] (sa_mk c I J) (.inl (some (.int ((sa_lim.getD 2 []).getD q 0))), sa_mk c I J) := by
  refine sa_ex1 (lo := [.ref 21, .int (nI q)]) (d := d + 0) sa_hm114 (Nat.le_of_ble_eq_true rfl) (sa_gl rfl) rfl ?_
  refine aw_x (m' := sa_mk c I J) sa_he114 3 5 [.ref 21, .int (nI q)] [.int (nI q), .ref 100003] rfl ?_
  refine aw_ia (j := q) (n := 2) (f := (fun j => (sa_lim.getD 2 []).getD j 0)) (pc' := 6) sa_he114 rfl rfl rfl (by omega) (by omega) rfl ?_
  exact aw_iri sa_he114 rfl rfl rfl
set_option maxRecDepth 20000 in
theorem ct_113_23 {X : Nat × (Nat → Int32)} {d : Nat} {c : sa_Ct} (I : Nat → Nat → Int32) (J : Nat → Nat → Int64) : sa_Ex X (d + 1) 113 [.ref 23] (sa_mk c I J) (.inl (some (.int (nI 1))), sa_mk c I J) := by
  refine sa_ex1 (lo := [.ref 23]) (d := d + 0) sa_hm113 (Nat.le_of_ble_eq_true rfl) (sa_gl rfl) rfl ?_
  refine aw_x (m' := sa_mk c I J) sa_he113 2 4 [.ref 23] [.ref 100004] rfl ?_
  refine aw_al (n := 1) (pc' := 5) sa_he113 rfl rfl (Nat.le_of_ble_eq_true rfl) rfl ?_
  exact aw_iri sa_he113 rfl rfl rfl
noncomputable def g_115_23 (I : Nat → Nat → Int32) : Int32 := (if ((I 23) 3) < ((I 23) 2) then (nI 0) else (nI 1))
set_option maxRecDepth 20000 in
theorem ct_115_23 {X : Nat × (Nat → Int32)} {d : Nat} {c : sa_Ct} (I : Nat → Nat → Int32) (J : Nat → Nat → Int64) : sa_Ex X (d + 1) 115 [.ref 23] (sa_mk c I J) (.inl (some (.int (g_115_23 I))), sa_mk c I J) := by
  refine sa_ex1 (lo := [.ref 23]) (d := d + 0) sa_hm115 (Nat.le_of_ble_eq_true rfl) (sa_gl rfl) rfl ?_
  refine aw_x (m' := sa_mk c I J) sa_he115 4 8 [.ref 23] [.int ((I 23) 2), .int ((I 23) 3)] rfl ?_
  refine aw_ic (t := 15) (n := 11) sa_he115 rfl rfl rfl (fun (h1 : ((I 23) 3) < ((I 23) 2)) => ?_) (fun (h1 : ¬ (((I 23) 3) < ((I 23) 2))) => ?_)
  · refine aw_x (m' := sa_mk c I J) sa_he115 1 16 [.ref 23] [.int (nI 0)] rfl ?_
    have eg : g_115_23 I = (nI 0) := by unfold g_115_23; rw [if_pos h1]
    exact aw_irz sa_he115 rfl rfl rfl rfl (by rw [eg])
  · refine aw_x (m' := sa_mk c I J) sa_he115 2 16 [.ref 23] [.int (nI 1)] rfl ?_
    have eg : g_115_23 I = (nI 1) := by unfold g_115_23; rw [if_neg h1]
    exact aw_irz sa_he115 rfl rfl rfl rfl (by rw [eg])
set_option maxRecDepth 20000 in
theorem ct_114_23 {X : Nat × (Nat → Int32)} {d : Nat} {c : sa_Ct} (I : Nat → Nat → Int32) (J : Nat → Nat → Int64) (q : Nat) (hq : q < 1) : sa_Ex X (d + 1) 114 [.ref 23, .int (nI q)] (sa_mk c I J) (.inl (some (.int ((sa_lim.getD 3 []).getD q 0))), sa_mk c I J) := by
  refine sa_ex1 (lo := [.ref 23, .int (nI q)]) (d := d + 0) sa_hm114 (Nat.le_of_ble_eq_true rfl) (sa_gl rfl) rfl ?_
  refine aw_x (m' := sa_mk c I J) sa_he114 3 5 [.ref 23, .int (nI q)] [.int (nI q), .ref 100004] rfl ?_
  refine aw_ia (j := q) (n := 1) (f := (fun j => (sa_lim.getD 3 []).getD j 0)) (pc' := 6) sa_he114 rfl rfl rfl (by omega) (by omega) rfl ?_
  exact aw_iri sa_he114 rfl rfl rfl
noncomputable def g_116_4 (I : Nat → Nat → Int32) (x : Int32) : Int32 := (if x < 0 then (nI 0) else (if ((I 4) 3) ≤ x then (nI 0) else (nI 1)))
set_option maxRecDepth 20000 in
theorem ct_116_4 {X : Nat × (Nat → Int32)} {d : Nat} {c : sa_Ct} (I : Nat → Nat → Int32) (J : Nat → Nat → Int64) (x : Int32) : sa_Ex X (d + 1) 116 [.ref 4, .int x] (sa_mk c I J) (.inl (some (.int (g_116_4 I x))), sa_mk c I J) := by
  refine sa_ex1 (lo := [.ref 4, .int x]) (d := d + 0) sa_hm116 (Nat.le_of_ble_eq_true rfl) (sa_gl rfl) rfl ?_
  refine aw_x (m' := sa_mk c I J) sa_he116 1 1 [.ref 4, .int x] [.int x] rfl ?_
  refine aw_if (t := 16) (n := 4) sa_he116 rfl rfl rfl (fun (h1 : x < 0) => ?_) (fun (h1 : ¬ (x < 0)) => ?_)
  · refine aw_x (m' := sa_mk c I J) sa_he116 1 17 [.ref 4, .int x] [.int (nI 0)] rfl ?_
    have eg : g_116_4 I x = (nI 0) := by unfold g_116_4; rw [if_pos h1]
    exact aw_irz sa_he116 rfl rfl rfl rfl (by rw [eg])
  · refine aw_x (m' := sa_mk c I J) sa_he116 3 9 [.ref 4, .int x] [.int ((I 4) 3), .int x] rfl ?_
    refine aw_ic (t := 16) (n := 12) sa_he116 rfl rfl rfl (fun (h2 : ((I 4) 3) ≤ x) => ?_) (fun (h2 : ¬ (((I 4) 3) ≤ x)) => ?_)
    · refine aw_x (m' := sa_mk c I J) sa_he116 1 17 [.ref 4, .int x] [.int (nI 0)] rfl ?_
      have eg : g_116_4 I x = (nI 0) := by unfold g_116_4; rw [if_neg h1, if_pos h2]
      exact aw_irz sa_he116 rfl rfl rfl rfl (by rw [eg])
    · refine aw_x (m' := sa_mk c I J) sa_he116 2 17 [.ref 4, .int x] [.int (nI 1)] rfl ?_
      have eg : g_116_4 I x = (nI 1) := by unfold g_116_4; rw [if_neg h1, if_neg h2]
      exact aw_irz sa_he116 rfl rfl rfl rfl (by rw [eg])
set_option maxRecDepth 20000 in
theorem ct_117_4 {X : Nat × (Nat → Int32)} {d : Nat} {c : sa_Ct} (I : Nat → Nat → Int32) (J : Nat → Nat → Int64) : sa_Ex X (d + 1) 117 [.ref 4] (sa_mk c I J) (.inl (some (.int (((nI 1) <<< (((I 4) 3) &&& 31)) - (nI 1)))), sa_mk c I J) := by
  refine sa_ex1 (lo := [.ref 4]) (d := d + 0) sa_hm117 (Nat.le_of_ble_eq_true rfl) (sa_gl rfl) rfl ?_
  refine aw_x (m' := sa_mk c I J) sa_he117 6 8 [.ref 4] [.int (((nI 1) <<< (((I 4) 3) &&& 31)) - (nI 1))] rfl ?_
  exact aw_iri sa_he117 rfl rfl rfl
noncomputable def g_116_6 (I : Nat → Nat → Int32) (x : Int32) : Int32 := (if x < 0 then (nI 0) else (if ((I 6) 3) ≤ x then (nI 0) else (nI 1)))
set_option maxRecDepth 20000 in
theorem ct_116_6 {X : Nat × (Nat → Int32)} {d : Nat} {c : sa_Ct} (I : Nat → Nat → Int32) (J : Nat → Nat → Int64) (x : Int32) : sa_Ex X (d + 1) 116 [.ref 6, .int x] (sa_mk c I J) (.inl (some (.int (g_116_6 I x))), sa_mk c I J) := by
  refine sa_ex1 (lo := [.ref 6, .int x]) (d := d + 0) sa_hm116 (Nat.le_of_ble_eq_true rfl) (sa_gl rfl) rfl ?_
  refine aw_x (m' := sa_mk c I J) sa_he116 1 1 [.ref 6, .int x] [.int x] rfl ?_
  refine aw_if (t := 16) (n := 4) sa_he116 rfl rfl rfl (fun (h1 : x < 0) => ?_) (fun (h1 : ¬ (x < 0)) => ?_)
  · refine aw_x (m' := sa_mk c I J) sa_he116 1 17 [.ref 6, .int x] [.int (nI 0)] rfl ?_
    have eg : g_116_6 I x = (nI 0) := by unfold g_116_6; rw [if_pos h1]
    exact aw_irz sa_he116 rfl rfl rfl rfl (by rw [eg])
  · refine aw_x (m' := sa_mk c I J) sa_he116 3 9 [.ref 6, .int x] [.int ((I 6) 3), .int x] rfl ?_
    refine aw_ic (t := 16) (n := 12) sa_he116 rfl rfl rfl (fun (h2 : ((I 6) 3) ≤ x) => ?_) (fun (h2 : ¬ (((I 6) 3) ≤ x)) => ?_)
    · refine aw_x (m' := sa_mk c I J) sa_he116 1 17 [.ref 6, .int x] [.int (nI 0)] rfl ?_
      have eg : g_116_6 I x = (nI 0) := by unfold g_116_6; rw [if_neg h1, if_pos h2]
      exact aw_irz sa_he116 rfl rfl rfl rfl (by rw [eg])
    · refine aw_x (m' := sa_mk c I J) sa_he116 2 17 [.ref 6, .int x] [.int (nI 1)] rfl ?_
      have eg : g_116_6 I x = (nI 1) := by unfold g_116_6; rw [if_neg h1, if_neg h2]
      exact aw_irz sa_he116 rfl rfl rfl rfl (by rw [eg])
set_option maxRecDepth 20000 in
theorem ct_117_6 {X : Nat × (Nat → Int32)} {d : Nat} {c : sa_Ct} (I : Nat → Nat → Int32) (J : Nat → Nat → Int64) : sa_Ex X (d + 1) 117 [.ref 6] (sa_mk c I J) (.inl (some (.int (((nI 1) <<< (((I 6) 3) &&& 31)) - (nI 1)))), sa_mk c I J) := by
  refine sa_ex1 (lo := [.ref 6]) (d := d + 0) sa_hm117 (Nat.le_of_ble_eq_true rfl) (sa_gl rfl) rfl ?_
  refine aw_x (m' := sa_mk c I J) sa_he117 6 8 [.ref 6] [.int (((nI 1) <<< (((I 6) 3) &&& 31)) - (nI 1))] rfl ?_
  exact aw_iri sa_he117 rfl rfl rfl
noncomputable def g_116_8 (I : Nat → Nat → Int32) (x : Int32) : Int32 := (if x < 0 then (nI 0) else (if ((I 8) 3) ≤ x then (nI 0) else (nI 1)))
set_option maxRecDepth 20000 in
theorem ct_116_8 {X : Nat × (Nat → Int32)} {d : Nat} {c : sa_Ct} (I : Nat → Nat → Int32) (J : Nat → Nat → Int64) (x : Int32) : sa_Ex X (d + 1) 116 [.ref 8, .int x] (sa_mk c I J) (.inl (some (.int (g_116_8 I x))), sa_mk c I J) := by
  refine sa_ex1 (lo := [.ref 8, .int x]) (d := d + 0) sa_hm116 (Nat.le_of_ble_eq_true rfl) (sa_gl rfl) rfl ?_
  refine aw_x (m' := sa_mk c I J) sa_he116 1 1 [.ref 8, .int x] [.int x] rfl ?_
  refine aw_if (t := 16) (n := 4) sa_he116 rfl rfl rfl (fun (h1 : x < 0) => ?_) (fun (h1 : ¬ (x < 0)) => ?_)
  · refine aw_x (m' := sa_mk c I J) sa_he116 1 17 [.ref 8, .int x] [.int (nI 0)] rfl ?_
    have eg : g_116_8 I x = (nI 0) := by unfold g_116_8; rw [if_pos h1]
    exact aw_irz sa_he116 rfl rfl rfl rfl (by rw [eg])
  · refine aw_x (m' := sa_mk c I J) sa_he116 3 9 [.ref 8, .int x] [.int ((I 8) 3), .int x] rfl ?_
    refine aw_ic (t := 16) (n := 12) sa_he116 rfl rfl rfl (fun (h2 : ((I 8) 3) ≤ x) => ?_) (fun (h2 : ¬ (((I 8) 3) ≤ x)) => ?_)
    · refine aw_x (m' := sa_mk c I J) sa_he116 1 17 [.ref 8, .int x] [.int (nI 0)] rfl ?_
      have eg : g_116_8 I x = (nI 0) := by unfold g_116_8; rw [if_neg h1, if_pos h2]
      exact aw_irz sa_he116 rfl rfl rfl rfl (by rw [eg])
    · refine aw_x (m' := sa_mk c I J) sa_he116 2 17 [.ref 8, .int x] [.int (nI 1)] rfl ?_
      have eg : g_116_8 I x = (nI 1) := by unfold g_116_8; rw [if_neg h1, if_neg h2]
      exact aw_irz sa_he116 rfl rfl rfl rfl (by rw [eg])
set_option maxRecDepth 20000 in
theorem ct_117_8 {X : Nat × (Nat → Int32)} {d : Nat} {c : sa_Ct} (I : Nat → Nat → Int32) (J : Nat → Nat → Int64) : sa_Ex X (d + 1) 117 [.ref 8] (sa_mk c I J) (.inl (some (.int (((nI 1) <<< (((I 8) 3) &&& 31)) - (nI 1)))), sa_mk c I J) := by
  refine sa_ex1 (lo := [.ref 8]) (d := d + 0) sa_hm117 (Nat.le_of_ble_eq_true rfl) (sa_gl rfl) rfl ?_
  refine aw_x (m' := sa_mk c I J) sa_he117 6 8 [.ref 8] [.int (((nI 1) <<< (((I 8) 3) &&& 31)) - (nI 1))] rfl ?_
  exact aw_iri sa_he117 rfl rfl rfl
noncomputable def g_116_10 (I : Nat → Nat → Int32) (x : Int32) : Int32 := (if x < 0 then (nI 0) else (if ((I 10) 3) ≤ x then (nI 0) else (nI 1)))
set_option maxRecDepth 20000 in
theorem ct_116_10 {X : Nat × (Nat → Int32)} {d : Nat} {c : sa_Ct} (I : Nat → Nat → Int32) (J : Nat → Nat → Int64) (x : Int32) : sa_Ex X (d + 1) 116 [.ref 10, .int x] (sa_mk c I J) (.inl (some (.int (g_116_10 I x))), sa_mk c I J) := by
  refine sa_ex1 (lo := [.ref 10, .int x]) (d := d + 0) sa_hm116 (Nat.le_of_ble_eq_true rfl) (sa_gl rfl) rfl ?_
  refine aw_x (m' := sa_mk c I J) sa_he116 1 1 [.ref 10, .int x] [.int x] rfl ?_
  refine aw_if (t := 16) (n := 4) sa_he116 rfl rfl rfl (fun (h1 : x < 0) => ?_) (fun (h1 : ¬ (x < 0)) => ?_)
  · refine aw_x (m' := sa_mk c I J) sa_he116 1 17 [.ref 10, .int x] [.int (nI 0)] rfl ?_
    have eg : g_116_10 I x = (nI 0) := by unfold g_116_10; rw [if_pos h1]
    exact aw_irz sa_he116 rfl rfl rfl rfl (by rw [eg])
  · refine aw_x (m' := sa_mk c I J) sa_he116 3 9 [.ref 10, .int x] [.int ((I 10) 3), .int x] rfl ?_
    refine aw_ic (t := 16) (n := 12) sa_he116 rfl rfl rfl (fun (h2 : ((I 10) 3) ≤ x) => ?_) (fun (h2 : ¬ (((I 10) 3) ≤ x)) => ?_)
    · refine aw_x (m' := sa_mk c I J) sa_he116 1 17 [.ref 10, .int x] [.int (nI 0)] rfl ?_
      have eg : g_116_10 I x = (nI 0) := by unfold g_116_10; rw [if_neg h1, if_pos h2]
      exact aw_irz sa_he116 rfl rfl rfl rfl (by rw [eg])
    · refine aw_x (m' := sa_mk c I J) sa_he116 2 17 [.ref 10, .int x] [.int (nI 1)] rfl ?_
      have eg : g_116_10 I x = (nI 1) := by unfold g_116_10; rw [if_neg h1, if_neg h2]
      exact aw_irz sa_he116 rfl rfl rfl rfl (by rw [eg])
set_option maxRecDepth 20000 in
theorem ct_117_10 {X : Nat × (Nat → Int32)} {d : Nat} {c : sa_Ct} (I : Nat → Nat → Int32) (J : Nat → Nat → Int64) : sa_Ex X (d + 1) 117 [.ref 10] (sa_mk c I J) (.inl (some (.int (((nI 1) <<< (((I 10) 3) &&& 31)) - (nI 1)))), sa_mk c I J) := by
  refine sa_ex1 (lo := [.ref 10]) (d := d + 0) sa_hm117 (Nat.le_of_ble_eq_true rfl) (sa_gl rfl) rfl ?_
  refine aw_x (m' := sa_mk c I J) sa_he117 6 8 [.ref 10] [.int (((nI 1) <<< (((I 10) 3) &&& 31)) - (nI 1))] rfl ?_
  exact aw_iri sa_he117 rfl rfl rfl
set_option maxRecDepth 20000 in
theorem ct_118_4 {X : Nat × (Nat → Int32)} {d : Nat} {c : sa_Ct} (I : Nat → Nat → Int32) (J : Nat → Nat → Int64) (a : Nat) (q : Nat) (ha : a < 6) (hq : q < 5) : sa_Ex X (d + 1) 118 [.ref 4, .int (nI a), .int (nI q)] (sa_mk c I J) (.inl (some (.int ((I 5) (a * 5 + q)))), sa_mk c I J) := by
  refine sa_ex1 (lo := [.ref 4, .int (nI a), .int (nI q)]) (d := d + 0) sa_hm118 (Nat.le_of_ble_eq_true rfl) (sa_gl rfl) rfl ?_
  refine aw_x (m' := sa_mk c I J) sa_he118 5 9 [.ref 4, .int (nI a), .int (nI q)] [.ref 100001, .int (nI a), .ref 5] rfl ?_
  refine aw_al (n := 5) (pc' := 10) sa_he118 rfl rfl (Nat.le_of_ble_eq_true rfl) rfl ?_
  refine aw_x (m' := sa_mk c I J) sa_he118 3 13 [.ref 4, .int (nI a), .int (nI q)] [.int (((nI a) * (nI 5)) + (nI q)), .ref 5] rfl ?_
  refine aw_ia (j := a * 5 + q) (n := 30) (f := (I 5)) (pc' := 14) sa_he118 rfl rfl (by simp only [nI_add, pk_mul]) (by omega) (by omega) rfl ?_
  exact aw_iri sa_he118 rfl rfl rfl
set_option maxRecDepth 20000 in
theorem ct_118_6 {X : Nat × (Nat → Int32)} {d : Nat} {c : sa_Ct} (I : Nat → Nat → Int32) (J : Nat → Nat → Int64) (a : Nat) (q : Nat) (ha : a < 8) (hq : q < 6) : sa_Ex X (d + 1) 118 [.ref 6, .int (nI a), .int (nI q)] (sa_mk c I J) (.inl (some (.int ((I 7) (a * 6 + q)))), sa_mk c I J) := by
  refine sa_ex1 (lo := [.ref 6, .int (nI a), .int (nI q)]) (d := d + 0) sa_hm118 (Nat.le_of_ble_eq_true rfl) (sa_gl rfl) rfl ?_
  refine aw_x (m' := sa_mk c I J) sa_he118 5 9 [.ref 6, .int (nI a), .int (nI q)] [.ref 100002, .int (nI a), .ref 7] rfl ?_
  refine aw_al (n := 6) (pc' := 10) sa_he118 rfl rfl (Nat.le_of_ble_eq_true rfl) rfl ?_
  refine aw_x (m' := sa_mk c I J) sa_he118 3 13 [.ref 6, .int (nI a), .int (nI q)] [.int (((nI a) * (nI 6)) + (nI q)), .ref 7] rfl ?_
  refine aw_ia (j := a * 6 + q) (n := 48) (f := (I 7)) (pc' := 14) sa_he118 rfl rfl (by simp only [nI_add, pk_mul]) (by omega) (by omega) rfl ?_
  exact aw_iri sa_he118 rfl rfl rfl
set_option maxRecDepth 20000 in
theorem ct_118_8 {X : Nat × (Nat → Int32)} {d : Nat} {c : sa_Ct} (I : Nat → Nat → Int32) (J : Nat → Nat → Int64) (a : Nat) (q : Nat) (ha : a < 6) (hq : q < 2) : sa_Ex X (d + 1) 118 [.ref 8, .int (nI a), .int (nI q)] (sa_mk c I J) (.inl (some (.int ((I 9) (a * 2 + q)))), sa_mk c I J) := by
  refine sa_ex1 (lo := [.ref 8, .int (nI a), .int (nI q)]) (d := d + 0) sa_hm118 (Nat.le_of_ble_eq_true rfl) (sa_gl rfl) rfl ?_
  refine aw_x (m' := sa_mk c I J) sa_he118 5 9 [.ref 8, .int (nI a), .int (nI q)] [.ref 100003, .int (nI a), .ref 9] rfl ?_
  refine aw_al (n := 2) (pc' := 10) sa_he118 rfl rfl (Nat.le_of_ble_eq_true rfl) rfl ?_
  refine aw_x (m' := sa_mk c I J) sa_he118 3 13 [.ref 8, .int (nI a), .int (nI q)] [.int (((nI a) * (nI 2)) + (nI q)), .ref 9] rfl ?_
  refine aw_ia (j := a * 2 + q) (n := 12) (f := (I 9)) (pc' := 14) sa_he118 rfl rfl (by simp only [nI_add, pk_mul]) (by omega) (by omega) rfl ?_
  exact aw_iri sa_he118 rfl rfl rfl
set_option maxRecDepth 20000 in
theorem ct_118_10 {X : Nat × (Nat → Int32)} {d : Nat} {c : sa_Ct} (I : Nat → Nat → Int32) (J : Nat → Nat → Int64) (a : Nat) (q : Nat) (ha : a < 8) (hq : q < 1) : sa_Ex X (d + 1) 118 [.ref 10, .int (nI a), .int (nI q)] (sa_mk c I J) (.inl (some (.int ((I 11) (a * 1 + q)))), sa_mk c I J) := by
  refine sa_ex1 (lo := [.ref 10, .int (nI a), .int (nI q)]) (d := d + 0) sa_hm118 (Nat.le_of_ble_eq_true rfl) (sa_gl rfl) rfl ?_
  refine aw_x (m' := sa_mk c I J) sa_he118 5 9 [.ref 10, .int (nI a), .int (nI q)] [.ref 100004, .int (nI a), .ref 11] rfl ?_
  refine aw_al (n := 1) (pc' := 10) sa_he118 rfl rfl (Nat.le_of_ble_eq_true rfl) rfl ?_
  refine aw_x (m' := sa_mk c I J) sa_he118 3 13 [.ref 10, .int (nI a), .int (nI q)] [.int (((nI a) * (nI 1)) + (nI q)), .ref 11] rfl ?_
  refine aw_ia (j := a * 1 + q) (n := 8) (f := (I 11)) (pc' := 14) sa_he118 rfl rfl (by simp only [nI_add, pk_mul]) (by omega) (by omega) rfl ?_
  exact aw_iri sa_he118 rfl rfl rfl
set_option maxRecDepth 20000 in
theorem ct_93_34 {X : Nat × (Nat → Int32)} {d : Nat} {c : sa_Ct} (I : Nat → Nat → Int32) (J : Nat → Nat → Int64) : sa_Ex X (d + 1) 93 [.ref 34] (sa_mk c I J) (.inl (some (.int ((I 35) 0))), sa_mk c I J) := by
  refine sa_ex1 (lo := [.ref 34]) (d := d + 0) sa_hm93 (Nat.le_of_ble_eq_true rfl) (sa_gl rfl) rfl ?_
  refine aw_x (m' := sa_mk c I J) sa_he93 3 5 [.ref 34] [.int (nI 0), .ref 35] rfl ?_
  refine aw_ia (j := 0) (n := 27) (f := (I 35)) (pc' := 6) sa_he93 rfl rfl rfl (by omega) (by omega) rfl ?_
  exact aw_iri sa_he93 rfl rfl rfl
set_option maxRecDepth 20000 in
theorem ct_95_34 {X : Nat × (Nat → Int32)} {d : Nat} {c : sa_Ct} (I : Nat → Nat → Int32) (J : Nat → Nat → Int64) : sa_Ex X (d + 1) 95 [.ref 34] (sa_mk c I J) (.inl (some (.int ((I 35) 1))), sa_mk c I J) := by
  refine sa_ex1 (lo := [.ref 34]) (d := d + 0) sa_hm95 (Nat.le_of_ble_eq_true rfl) (sa_gl rfl) rfl ?_
  refine aw_x (m' := sa_mk c I J) sa_he95 3 5 [.ref 34] [.int (nI 1), .ref 35] rfl ?_
  refine aw_ia (j := 1) (n := 27) (f := (I 35)) (pc' := 6) sa_he95 rfl rfl rfl (by omega) (by omega) rfl ?_
  exact aw_iri sa_he95 rfl rfl rfl
set_option maxRecDepth 20000 in
theorem ct_96_34 {X : Nat × (Nat → Int32)} {d : Nat} {c : sa_Ct} (I : Nat → Nat → Int32) (J : Nat → Nat → Int64) : sa_Ex X (d + 1) 96 [.ref 34] (sa_mk c I J) (.inl (some (.int ((I 35) 2))), sa_mk c I J) := by
  refine sa_ex1 (lo := [.ref 34]) (d := d + 0) sa_hm96 (Nat.le_of_ble_eq_true rfl) (sa_gl rfl) rfl ?_
  refine aw_x (m' := sa_mk c I J) sa_he96 3 5 [.ref 34] [.int (nI 2), .ref 35] rfl ?_
  refine aw_ia (j := 2) (n := 27) (f := (I 35)) (pc' := 6) sa_he96 rfl rfl rfl (by omega) (by omega) rfl ?_
  exact aw_iri sa_he96 rfl rfl rfl
set_option maxRecDepth 20000 in
theorem ct_94_34 {X : Nat × (Nat → Int32)} {d : Nat} {c : sa_Ct} (I : Nat → Nat → Int32) (J : Nat → Nat → Int64) (x : Int32) : sa_Ex X (d + 1) 94 [.ref 34, .int x] (sa_mk c I J) (.inl none, sa_mk c (ov I [(35, upd (I 35) 0 x)]) J) := by
  refine sa_ex1 (lo := [.ref 34, .int x]) (d := d + 0) sa_hm94 (Nat.le_of_ble_eq_true rfl) (sa_gl rfl) rfl ?_
  refine aw_x (m' := sa_mk c I J) sa_he94 4 6 [.ref 34, .int x] [.int x, .int (nI 0), .ref 35] rfl ?_
  refine aw_is (j := 0) (n := 27) (pc' := 7) sa_he94 rfl (Nat.le_of_ble_eq_true rfl) rfl rfl (by omega) (by omega) rfl ?_
  refine aw_mI (I' := (ov I [(35, upd (I 35) 0 x)])) (ov_ins I [] 35 _) ?_
  exact aw_vr sa_he94 rfl rfl rfl
set_option maxRecDepth 20000 in
theorem ct_97_34 {X : Nat × (Nat → Int32)} {d : Nat} {c : sa_Ct} (I : Nat → Nat → Int32) (J : Nat → Nat → Int64) (x : Int32) : sa_Ex X (d + 1) 97 [.ref 34, .int x] (sa_mk c I J) (.inl none, sa_mk c (ov I [(35, upd (I 35) 2 x)]) J) := by
  refine sa_ex1 (lo := [.ref 34, .int x]) (d := d + 0) sa_hm97 (Nat.le_of_ble_eq_true rfl) (sa_gl rfl) rfl ?_
  refine aw_x (m' := sa_mk c I J) sa_he97 4 6 [.ref 34, .int x] [.int x, .int (nI 2), .ref 35] rfl ?_
  refine aw_is (j := 2) (n := 27) (pc' := 7) sa_he97 rfl (Nat.le_of_ble_eq_true rfl) rfl rfl (by omega) (by omega) rfl ?_
  refine aw_mI (I' := (ov I [(35, upd (I 35) 2 x)])) (ov_ins I [] 35 _) ?_
  exact aw_vr sa_he97 rfl rfl rfl
set_option maxRecDepth 20000 in
theorem ct_98_34 {X : Nat × (Nat → Int32)} {d : Nat} {c : sa_Ct} (I : Nat → Nat → Int32) (J : Nat → Nat → Int64) (a : Nat) (ha : a < 6) : sa_Ex X (d + 1) 98 [.ref 34, .int (nI a)] (sa_mk c I J) (.inl (some (.int ((I 35) (4 * a + 3)))), sa_mk c I J) := by
  refine sa_ex1 (lo := [.ref 34, .int (nI a)]) (d := d + 0) sa_hm98 (Nat.le_of_ble_eq_true rfl) (sa_gl rfl) rfl ?_
  refine aw_x (m' := sa_mk c I J) sa_he98 7 9 [.ref 34, .int (nI a)] [.int (((nI 4) * (nI a)) + (nI 3)), .ref 35] rfl ?_
  refine aw_ia (j := 4 * a + 3) (n := 27) (f := (I 35)) (pc' := 10) sa_he98 rfl rfl (by simp only [nI_add, pk_mul]) (by omega) (by omega) rfl ?_
  exact aw_iri sa_he98 rfl rfl rfl
set_option maxRecDepth 20000 in
theorem ct_100_34 {X : Nat × (Nat → Int32)} {d : Nat} {c : sa_Ct} (I : Nat → Nat → Int32) (J : Nat → Nat → Int64) (a : Nat) (ha : a < 6) : sa_Ex X (d + 1) 100 [.ref 34, .int (nI a)] (sa_mk c I J) (.inl (some (.int ((I 35) (4 * a + 4)))), sa_mk c I J) := by
  refine sa_ex1 (lo := [.ref 34, .int (nI a)]) (d := d + 0) sa_hm100 (Nat.le_of_ble_eq_true rfl) (sa_gl rfl) rfl ?_
  refine aw_x (m' := sa_mk c I J) sa_he100 7 9 [.ref 34, .int (nI a)] [.int (((nI 4) * (nI a)) + (nI 4)), .ref 35] rfl ?_
  refine aw_ia (j := 4 * a + 4) (n := 27) (f := (I 35)) (pc' := 10) sa_he100 rfl rfl (by simp only [nI_add, pk_mul]) (by omega) (by omega) rfl ?_
  exact aw_iri sa_he100 rfl rfl rfl
set_option maxRecDepth 20000 in
theorem ct_101_34 {X : Nat × (Nat → Int32)} {d : Nat} {c : sa_Ct} (I : Nat → Nat → Int32) (J : Nat → Nat → Int64) (a : Nat) (ha : a < 6) : sa_Ex X (d + 1) 101 [.ref 34, .int (nI a)] (sa_mk c I J) (.inl (some (.int ((I 35) (4 * a + 5)))), sa_mk c I J) := by
  refine sa_ex1 (lo := [.ref 34, .int (nI a)]) (d := d + 0) sa_hm101 (Nat.le_of_ble_eq_true rfl) (sa_gl rfl) rfl ?_
  refine aw_x (m' := sa_mk c I J) sa_he101 7 9 [.ref 34, .int (nI a)] [.int (((nI 4) * (nI a)) + (nI 5)), .ref 35] rfl ?_
  refine aw_ia (j := 4 * a + 5) (n := 27) (f := (I 35)) (pc' := 10) sa_he101 rfl rfl (by simp only [nI_add, pk_mul]) (by omega) (by omega) rfl ?_
  exact aw_iri sa_he101 rfl rfl rfl
set_option maxRecDepth 20000 in
theorem ct_102_34 {X : Nat × (Nat → Int32)} {d : Nat} {c : sa_Ct} (I : Nat → Nat → Int32) (J : Nat → Nat → Int64) (a : Nat) (ha : a < 6) : sa_Ex X (d + 1) 102 [.ref 34, .int (nI a)] (sa_mk c I J) (.inl (some (.int ((I 35) (4 * a + 6)))), sa_mk c I J) := by
  refine sa_ex1 (lo := [.ref 34, .int (nI a)]) (d := d + 0) sa_hm102 (Nat.le_of_ble_eq_true rfl) (sa_gl rfl) rfl ?_
  refine aw_x (m' := sa_mk c I J) sa_he102 7 10 [.ref 34, .int (nI a)] [.int (((nI 4) * (nI a)) + (nI 6)), .ref 35] rfl ?_
  refine aw_ia (j := 4 * a + 6) (n := 27) (f := (I 35)) (pc' := 11) sa_he102 rfl rfl (by simp only [nI_add, pk_mul]) (by omega) (by omega) rfl ?_
  exact aw_iri sa_he102 rfl rfl rfl
set_option maxRecDepth 20000 in
theorem ct_99_34 {X : Nat × (Nat → Int32)} {d : Nat} {c : sa_Ct} (I : Nat → Nat → Int32) (J : Nat → Nat → Int64) (a : Nat) (x : Int32) (ha : a < 6) : sa_Ex X (d + 1) 99 [.ref 34, .int (nI a), .int x] (sa_mk c I J) (.inl none, sa_mk c (ov I [(35, upd (I 35) (4 * a + 3) x)]) J) := by
  refine sa_ex1 (lo := [.ref 34, .int (nI a), .int x]) (d := d + 0) sa_hm99 (Nat.le_of_ble_eq_true rfl) (sa_gl rfl) rfl ?_
  refine aw_x (m' := sa_mk c I J) sa_he99 8 10 [.ref 34, .int (nI a), .int x] [.int x, .int (((nI 4) * (nI a)) + (nI 3)), .ref 35] rfl ?_
  refine aw_is (j := 4 * a + 3) (n := 27) (pc' := 11) sa_he99 rfl (Nat.le_of_ble_eq_true rfl) rfl (by simp only [nI_add, pk_mul]) (by omega) (by omega) rfl ?_
  refine aw_mI (I' := (ov I [(35, upd (I 35) (4 * a + 3) x)])) (ov_ins I [] 35 _) ?_
  exact aw_vr sa_he99 rfl rfl rfl
set_option maxRecDepth 20000 in
theorem ct_103_34 {X : Nat × (Nat → Int32)} {d : Nat} {c : sa_Ct} (I : Nat → Nat → Int32) (J : Nat → Nat → Int64) (a : Nat) (x : Int32) (ha : a < 6) : sa_Ex X (d + 1) 103 [.ref 34, .int (nI a), .int x] (sa_mk c I J) (.inl none, sa_mk c (ov I [(35, upd (I 35) (4 * a + 5) x)]) J) := by
  refine sa_ex1 (lo := [.ref 34, .int (nI a), .int x]) (d := d + 0) sa_hm103 (Nat.le_of_ble_eq_true rfl) (sa_gl rfl) rfl ?_
  refine aw_x (m' := sa_mk c I J) sa_he103 8 10 [.ref 34, .int (nI a), .int x] [.int x, .int (((nI 4) * (nI a)) + (nI 5)), .ref 35] rfl ?_
  refine aw_is (j := 4 * a + 5) (n := 27) (pc' := 11) sa_he103 rfl (Nat.le_of_ble_eq_true rfl) rfl (by simp only [nI_add, pk_mul]) (by omega) (by omega) rfl ?_
  refine aw_mI (I' := (ov I [(35, upd (I 35) (4 * a + 5) x)])) (ov_ins I [] 35 _) ?_
  exact aw_vr sa_he103 rfl rfl rfl
set_option maxRecDepth 20000 in
theorem ct_104_34 {X : Nat × (Nat → Int32)} {d : Nat} {c : sa_Ct} (I : Nat → Nat → Int32) (J : Nat → Nat → Int64) (a : Nat) (x : Int32) (ha : a < 6) : sa_Ex X (d + 1) 104 [.ref 34, .int (nI a), .int x] (sa_mk c I J) (.inl none, sa_mk c (ov I [(35, upd (I 35) (4 * a + 6) x)]) J) := by
  refine sa_ex1 (lo := [.ref 34, .int (nI a), .int x]) (d := d + 0) sa_hm104 (Nat.le_of_ble_eq_true rfl) (sa_gl rfl) rfl ?_
  refine aw_x (m' := sa_mk c I J) sa_he104 8 11 [.ref 34, .int (nI a), .int x] [.int x, .int (((nI 4) * (nI a)) + (nI 6)), .ref 35] rfl ?_
  refine aw_is (j := 4 * a + 6) (n := 27) (pc' := 12) sa_he104 rfl (Nat.le_of_ble_eq_true rfl) rfl (by simp only [nI_add, pk_mul]) (by omega) (by omega) rfl ?_
  refine aw_mI (I' := (ov I [(35, upd (I 35) (4 * a + 6) x)])) (ov_ins I [] 35 _) ?_
  exact aw_vr sa_he104 rfl rfl rfl
noncomputable def lp_105_34_4 (I : Nat → Nat → Int32) (f : Int32) (k4 : Nat) : Int32 := itn (fun i4 s4 => (if ((I 35) (4 * i4 + 6)) = f then (s4 ||| ((nI 1) <<< ((nI i4) &&& 31))) else s4)) k4 (nI 0)
theorem lp_105_34_4_s (I : Nat → Nat → Int32) (f : Int32) (i4 : Nat) : lp_105_34_4 I f (i4 + 1) = (if ((I 35) (4 * i4 + 6)) = f then ((lp_105_34_4 I f i4) ||| ((nI 1) <<< ((nI i4) &&& 31))) else (lp_105_34_4 I f i4)) := rfl
set_option maxRecDepth 20000 in
theorem ct_105_34 {X : Nat × (Nat → Int32)} {d : Nat} {c : sa_Ct} (I : Nat → Nat → Int32) (J : Nat → Nat → Int64) (f : Int32) {nC : Nat} (hC : I 4 3 = nI nC) (hC6 : nC ≤ 6) : sa_Ex X (d + 2) 105 [.ref 34, .int f] (sa_mk c I J) (.inl (some (.int (lp_105_34_4 I f nC))), sa_mk c I J) := by
  refine sa_ex1 (lo := [.ref 34, .int f, sa_no, sa_no]) (d := d + 1) sa_hm105 (Nat.le_of_ble_eq_true rfl) (sa_gl rfl) rfl ?_
  refine aw_x (m' := sa_mk c I J) sa_he105 4 4 [.ref 34, .int f, .int (nI 0), .int (nI 0)] [] rfl ?_
  refine aw_for nC (fun i4 => ([.ref 34, .int f, .int (lp_105_34_4 I f i4), .int (nI i4)], sa_mk c I J)) (fun i4 hi4 ih4 => ?_) ?_
  · show sa_W X _ 105 4 [.ref 34, .int f, .int (lp_105_34_4 I f i4), .int (nI i4)] [] (sa_mk c I J) _
    refine aw_x (m' := sa_mk c I J) sa_he105 4 12 [.ref 34, .int f, .int (lp_105_34_4 I f i4), .int (nI i4)] [.ref 4, .int (nI i4)] rfl ?_
    refine aw_cv1 (As := []) (b := 4) (r := [.int (nI i4)]) (pc' := 15) sa_he105 rfl sa_i7_29 rfl rfl (Nat.le_of_ble_eq_true rfl) ⟨Nat.le_of_ble_eq_true rfl, sa_hc sa_hm112 rfl⟩ (ct_112_4 (d := d + 0) I J) rfl ?_
    refine aw_st (st' := [.int (nI nC), .int (nI i4)]) (by simp only [hC, nI_add, pk_mul]) ?_
    refine aw_icF (t := 39) (n := 18) sa_he105 rfl rfl rfl (nI_ge hi4 (by omega)) ?_
    refine aw_x (m' := sa_mk c I J) sa_he105 2 20 [.ref 34, .int f, .int (lp_105_34_4 I f i4), .int (nI i4)] [.int (nI i4), .ref 34] rfl ?_
    refine aw_cv1 (As := [.int (nI i4)]) (b := 34) (r := []) (pc' := 23) sa_he105 rfl sa_i7_44 rfl rfl (Nat.le_of_ble_eq_true rfl) ⟨Nat.le_of_ble_eq_true rfl, sa_hc sa_hm102 rfl⟩ (ct_102_34 (d := d + 0) I J i4 (by omega)) rfl ?_
    refine aw_x (m' := sa_mk c I J) sa_he105 1 24 [.ref 34, .int f, .int (lp_105_34_4 I f i4), .int (nI i4)] [.int f, .int ((I 35) (4 * i4 + 6))] rfl ?_
    refine aw_ic (t := 33) (n := 27) sa_he105 rfl rfl rfl (fun (h1 : ¬ (((I 35) (4 * i4 + 6)) = f)) => ?_) (fun (h1 : ¬ ¬ (((I 35) (4 * i4 + 6)) = f)) => ?_)
    · refine aw_x (m' := sa_mk c I J) sa_he105 2 4 [.ref 34, .int f, .int (lp_105_34_4 I f i4), .int ((nI i4) + (nI 1))] [] rfl ?_
      have e4 : lp_105_34_4 I f (i4 + 1) = (lp_105_34_4 I f i4) := by rw [lp_105_34_4_s, if_neg h1]
      exact aw_eq ih4 (by simp only [e4, hC, nI_add, pk_mul]) rfl
    · replace h1 := Classical.not_not.1 h1
      refine aw_x (m' := sa_mk c I J) sa_he105 8 4 [.ref 34, .int f, .int ((lp_105_34_4 I f i4) ||| ((nI 1) <<< ((nI i4) &&& 31))), .int ((nI i4) + (nI 1))] [] rfl ?_
      have e4 : lp_105_34_4 I f (i4 + 1) = ((lp_105_34_4 I f i4) ||| ((nI 1) <<< ((nI i4) &&& 31))) := by rw [lp_105_34_4_s, if_pos h1]
      exact aw_eq ih4 (by simp only [e4, hC, nI_add, pk_mul]) rfl
  show sa_W X _ 105 4 [.ref 34, .int f, .int (lp_105_34_4 I f nC), .int (nI nC)] [] (sa_mk c I J) _
  refine aw_x (m' := sa_mk c I J) sa_he105 4 12 [.ref 34, .int f, .int (lp_105_34_4 I f nC), .int (nI nC)] [.ref 4, .int (nI nC)] rfl ?_
  refine aw_cv1 (As := []) (b := 4) (r := [.int (nI nC)]) (pc' := 15) sa_he105 rfl sa_i7_29 rfl rfl (Nat.le_of_ble_eq_true rfl) ⟨Nat.le_of_ble_eq_true rfl, sa_hc sa_hm112 rfl⟩ (ct_112_4 (d := d + 0) I J) rfl ?_
  refine aw_st (st' := [.int (nI nC), .int (nI nC)]) (by simp only [hC, nI_add, pk_mul]) ?_
  refine aw_icT (t := 39) sa_he105 rfl rfl (nI_le (by omega) (by omega)) ?_
  refine aw_x (m' := sa_mk c I J) sa_he105 1 40 [.ref 34, .int f, .int (lp_105_34_4 I f nC), .int (nI nC)] [.int (lp_105_34_4 I f nC)] rfl ?_
  exact aw_iri sa_he105 rfl rfl rfl
noncomputable def lp_106_34_4 (I : Nat → Nat → Int32) (k4 : Nat) : Int32 := itn (fun i4 s4 => (if ((I 35) (4 * i4 + 6)) = (nI 1) then (s4 + ((I 5) (i4 * 5 + 4))) else s4)) k4 (nI 0)
theorem lp_106_34_4_s (I : Nat → Nat → Int32) (i4 : Nat) : lp_106_34_4 I (i4 + 1) = (if ((I 35) (4 * i4 + 6)) = (nI 1) then ((lp_106_34_4 I i4) + ((I 5) (i4 * 5 + 4))) else (lp_106_34_4 I i4)) := rfl
set_option maxRecDepth 20000 in
theorem ct_106_34 {X : Nat × (Nat → Int32)} {d : Nat} {c : sa_Ct} (I : Nat → Nat → Int32) (J : Nat → Nat → Int64) {nC : Nat} (hC : I 4 3 = nI nC) (hC6 : nC ≤ 6) : sa_Ex X (d + 2) 106 [.ref 34] (sa_mk c I J) (.inl (some (.int (lp_106_34_4 I nC))), sa_mk c I J) := by
  refine sa_ex1 (lo := [.ref 34, sa_no, sa_no]) (d := d + 1) sa_hm106 (Nat.le_of_ble_eq_true rfl) (sa_gl rfl) rfl ?_
  refine aw_x (m' := sa_mk c I J) sa_he106 4 4 [.ref 34, .int (nI 0), .int (nI 0)] [] rfl ?_
  refine aw_for nC (fun i4 => ([.ref 34, .int (lp_106_34_4 I i4), .int (nI i4)], sa_mk c I J)) (fun i4 hi4 ih4 => ?_) ?_
  · show sa_W X _ 106 4 [.ref 34, .int (lp_106_34_4 I i4), .int (nI i4)] [] (sa_mk c I J) _
    refine aw_x (m' := sa_mk c I J) sa_he106 4 12 [.ref 34, .int (lp_106_34_4 I i4), .int (nI i4)] [.ref 4, .int (nI i4)] rfl ?_
    refine aw_cv1 (As := []) (b := 4) (r := [.int (nI i4)]) (pc' := 15) sa_he106 rfl sa_i7_29 rfl rfl (Nat.le_of_ble_eq_true rfl) ⟨Nat.le_of_ble_eq_true rfl, sa_hc sa_hm112 rfl⟩ (ct_112_4 (d := d + 0) I J) rfl ?_
    refine aw_st (st' := [.int (nI nC), .int (nI i4)]) (by simp only [hC, nI_add, pk_mul]) ?_
    refine aw_icF (t := 48) (n := 18) sa_he106 rfl rfl rfl (nI_ge hi4 (by omega)) ?_
    refine aw_x (m' := sa_mk c I J) sa_he106 2 20 [.ref 34, .int (lp_106_34_4 I i4), .int (nI i4)] [.int (nI i4), .ref 34] rfl ?_
    refine aw_cv1 (As := [.int (nI i4)]) (b := 34) (r := []) (pc' := 23) sa_he106 rfl sa_i7_44 rfl rfl (Nat.le_of_ble_eq_true rfl) ⟨Nat.le_of_ble_eq_true rfl, sa_hc sa_hm102 rfl⟩ (ct_102_34 (d := d + 0) I J i4 (by omega)) rfl ?_
    refine aw_x (m' := sa_mk c I J) sa_he106 1 24 [.ref 34, .int (lp_106_34_4 I i4), .int (nI i4)] [.int (nI 1), .int ((I 35) (4 * i4 + 6))] rfl ?_
    refine aw_ic (t := 42) (n := 27) sa_he106 rfl rfl rfl (fun (h1 : ¬ (((I 35) (4 * i4 + 6)) = (nI 1))) => ?_) (fun (h1 : ¬ ¬ (((I 35) (4 * i4 + 6)) = (nI 1))) => ?_)
    · refine aw_x (m' := sa_mk c I J) sa_he106 2 4 [.ref 34, .int (lp_106_34_4 I i4), .int ((nI i4) + (nI 1))] [] rfl ?_
      have e4 : lp_106_34_4 I (i4 + 1) = (lp_106_34_4 I i4) := by rw [lp_106_34_4_s, if_neg h1]
      exact aw_eq ih4 (by simp only [e4, hC, nI_add, pk_mul]) rfl
    · replace h1 := Classical.not_not.1 h1
      refine aw_x (m' := sa_mk c I J) sa_he106 6 37 [.ref 34, .int (lp_106_34_4 I i4), .int (nI i4)] [.int (nI 4), .int (nI i4), .ref 4, .int (lp_106_34_4 I i4)] rfl ?_
      refine aw_cv1 (As := [.int (nI i4), .int (nI 4)]) (b := 4) (r := [.int (lp_106_34_4 I i4)]) (pc' := 40) sa_he106 rfl sa_i7_34 rfl rfl (Nat.le_of_ble_eq_true rfl) ⟨Nat.le_of_ble_eq_true rfl, sa_hc sa_hm118 rfl⟩ (ct_118_4 (d := d + 0) I J i4 4 (by omega) (by omega)) rfl ?_
      refine aw_x (m' := sa_mk c I J) sa_he106 4 4 [.ref 34, .int ((lp_106_34_4 I i4) + ((I 5) (i4 * 5 + 4))), .int ((nI i4) + (nI 1))] [] rfl ?_
      have e4 : lp_106_34_4 I (i4 + 1) = ((lp_106_34_4 I i4) + ((I 5) (i4 * 5 + 4))) := by rw [lp_106_34_4_s, if_pos h1]
      exact aw_eq ih4 (by simp only [e4, hC, nI_add, pk_mul]) rfl
  show sa_W X _ 106 4 [.ref 34, .int (lp_106_34_4 I nC), .int (nI nC)] [] (sa_mk c I J) _
  refine aw_x (m' := sa_mk c I J) sa_he106 4 12 [.ref 34, .int (lp_106_34_4 I nC), .int (nI nC)] [.ref 4, .int (nI nC)] rfl ?_
  refine aw_cv1 (As := []) (b := 4) (r := [.int (nI nC)]) (pc' := 15) sa_he106 rfl sa_i7_29 rfl rfl (Nat.le_of_ble_eq_true rfl) ⟨Nat.le_of_ble_eq_true rfl, sa_hc sa_hm112 rfl⟩ (ct_112_4 (d := d + 0) I J) rfl ?_
  refine aw_st (st' := [.int (nI nC), .int (nI nC)]) (by simp only [hC, nI_add, pk_mul]) ?_
  refine aw_icT (t := 48) sa_he106 rfl rfl (nI_le (by omega) (by omega)) ?_
  refine aw_x (m' := sa_mk c I J) sa_he106 1 49 [.ref 34, .int (lp_106_34_4 I nC), .int (nI nC)] [.int (lp_106_34_4 I nC)] rfl ?_
  exact aw_iri sa_he106 rfl rfl rfl
set_option maxRecDepth 20000 in
theorem ct_93_57 {X : Nat × (Nat → Int32)} {d : Nat} {c : sa_Ct} (I : Nat → Nat → Int32) (J : Nat → Nat → Int64) : sa_Ex X (d + 1) 93 [.ref 57] (sa_mk c I J) (.inl (some (.int ((I 58) 0))), sa_mk c I J) := by
  refine sa_ex1 (lo := [.ref 57]) (d := d + 0) sa_hm93 (Nat.le_of_ble_eq_true rfl) (sa_gl rfl) rfl ?_
  refine aw_x (m' := sa_mk c I J) sa_he93 3 5 [.ref 57] [.int (nI 0), .ref 58] rfl ?_
  refine aw_ia (j := 0) (n := 27) (f := (I 58)) (pc' := 6) sa_he93 rfl rfl rfl (by omega) (by omega) rfl ?_
  exact aw_iri sa_he93 rfl rfl rfl
set_option maxRecDepth 20000 in
theorem ct_95_57 {X : Nat × (Nat → Int32)} {d : Nat} {c : sa_Ct} (I : Nat → Nat → Int32) (J : Nat → Nat → Int64) : sa_Ex X (d + 1) 95 [.ref 57] (sa_mk c I J) (.inl (some (.int ((I 58) 1))), sa_mk c I J) := by
  refine sa_ex1 (lo := [.ref 57]) (d := d + 0) sa_hm95 (Nat.le_of_ble_eq_true rfl) (sa_gl rfl) rfl ?_
  refine aw_x (m' := sa_mk c I J) sa_he95 3 5 [.ref 57] [.int (nI 1), .ref 58] rfl ?_
  refine aw_ia (j := 1) (n := 27) (f := (I 58)) (pc' := 6) sa_he95 rfl rfl rfl (by omega) (by omega) rfl ?_
  exact aw_iri sa_he95 rfl rfl rfl
set_option maxRecDepth 20000 in
theorem ct_96_57 {X : Nat × (Nat → Int32)} {d : Nat} {c : sa_Ct} (I : Nat → Nat → Int32) (J : Nat → Nat → Int64) : sa_Ex X (d + 1) 96 [.ref 57] (sa_mk c I J) (.inl (some (.int ((I 58) 2))), sa_mk c I J) := by
  refine sa_ex1 (lo := [.ref 57]) (d := d + 0) sa_hm96 (Nat.le_of_ble_eq_true rfl) (sa_gl rfl) rfl ?_
  refine aw_x (m' := sa_mk c I J) sa_he96 3 5 [.ref 57] [.int (nI 2), .ref 58] rfl ?_
  refine aw_ia (j := 2) (n := 27) (f := (I 58)) (pc' := 6) sa_he96 rfl rfl rfl (by omega) (by omega) rfl ?_
  exact aw_iri sa_he96 rfl rfl rfl
set_option maxRecDepth 20000 in
theorem ct_94_57 {X : Nat × (Nat → Int32)} {d : Nat} {c : sa_Ct} (I : Nat → Nat → Int32) (J : Nat → Nat → Int64) (x : Int32) : sa_Ex X (d + 1) 94 [.ref 57, .int x] (sa_mk c I J) (.inl none, sa_mk c (ov I [(58, upd (I 58) 0 x)]) J) := by
  refine sa_ex1 (lo := [.ref 57, .int x]) (d := d + 0) sa_hm94 (Nat.le_of_ble_eq_true rfl) (sa_gl rfl) rfl ?_
  refine aw_x (m' := sa_mk c I J) sa_he94 4 6 [.ref 57, .int x] [.int x, .int (nI 0), .ref 58] rfl ?_
  refine aw_is (j := 0) (n := 27) (pc' := 7) sa_he94 rfl (Nat.le_of_ble_eq_true rfl) rfl rfl (by omega) (by omega) rfl ?_
  refine aw_mI (I' := (ov I [(58, upd (I 58) 0 x)])) (ov_ins I [] 58 _) ?_
  exact aw_vr sa_he94 rfl rfl rfl
set_option maxRecDepth 20000 in
theorem ct_97_57 {X : Nat × (Nat → Int32)} {d : Nat} {c : sa_Ct} (I : Nat → Nat → Int32) (J : Nat → Nat → Int64) (x : Int32) : sa_Ex X (d + 1) 97 [.ref 57, .int x] (sa_mk c I J) (.inl none, sa_mk c (ov I [(58, upd (I 58) 2 x)]) J) := by
  refine sa_ex1 (lo := [.ref 57, .int x]) (d := d + 0) sa_hm97 (Nat.le_of_ble_eq_true rfl) (sa_gl rfl) rfl ?_
  refine aw_x (m' := sa_mk c I J) sa_he97 4 6 [.ref 57, .int x] [.int x, .int (nI 2), .ref 58] rfl ?_
  refine aw_is (j := 2) (n := 27) (pc' := 7) sa_he97 rfl (Nat.le_of_ble_eq_true rfl) rfl rfl (by omega) (by omega) rfl ?_
  refine aw_mI (I' := (ov I [(58, upd (I 58) 2 x)])) (ov_ins I [] 58 _) ?_
  exact aw_vr sa_he97 rfl rfl rfl
set_option maxRecDepth 20000 in
theorem ct_98_57 {X : Nat × (Nat → Int32)} {d : Nat} {c : sa_Ct} (I : Nat → Nat → Int32) (J : Nat → Nat → Int64) (a : Nat) (ha : a < 6) : sa_Ex X (d + 1) 98 [.ref 57, .int (nI a)] (sa_mk c I J) (.inl (some (.int ((I 58) (4 * a + 3)))), sa_mk c I J) := by
  refine sa_ex1 (lo := [.ref 57, .int (nI a)]) (d := d + 0) sa_hm98 (Nat.le_of_ble_eq_true rfl) (sa_gl rfl) rfl ?_
  refine aw_x (m' := sa_mk c I J) sa_he98 7 9 [.ref 57, .int (nI a)] [.int (((nI 4) * (nI a)) + (nI 3)), .ref 58] rfl ?_
  refine aw_ia (j := 4 * a + 3) (n := 27) (f := (I 58)) (pc' := 10) sa_he98 rfl rfl (by simp only [nI_add, pk_mul]) (by omega) (by omega) rfl ?_
  exact aw_iri sa_he98 rfl rfl rfl
set_option maxRecDepth 20000 in
theorem ct_100_57 {X : Nat × (Nat → Int32)} {d : Nat} {c : sa_Ct} (I : Nat → Nat → Int32) (J : Nat → Nat → Int64) (a : Nat) (ha : a < 6) : sa_Ex X (d + 1) 100 [.ref 57, .int (nI a)] (sa_mk c I J) (.inl (some (.int ((I 58) (4 * a + 4)))), sa_mk c I J) := by
  refine sa_ex1 (lo := [.ref 57, .int (nI a)]) (d := d + 0) sa_hm100 (Nat.le_of_ble_eq_true rfl) (sa_gl rfl) rfl ?_
  refine aw_x (m' := sa_mk c I J) sa_he100 7 9 [.ref 57, .int (nI a)] [.int (((nI 4) * (nI a)) + (nI 4)), .ref 58] rfl ?_
  refine aw_ia (j := 4 * a + 4) (n := 27) (f := (I 58)) (pc' := 10) sa_he100 rfl rfl (by simp only [nI_add, pk_mul]) (by omega) (by omega) rfl ?_
  exact aw_iri sa_he100 rfl rfl rfl
set_option maxRecDepth 20000 in
theorem ct_101_57 {X : Nat × (Nat → Int32)} {d : Nat} {c : sa_Ct} (I : Nat → Nat → Int32) (J : Nat → Nat → Int64) (a : Nat) (ha : a < 6) : sa_Ex X (d + 1) 101 [.ref 57, .int (nI a)] (sa_mk c I J) (.inl (some (.int ((I 58) (4 * a + 5)))), sa_mk c I J) := by
  refine sa_ex1 (lo := [.ref 57, .int (nI a)]) (d := d + 0) sa_hm101 (Nat.le_of_ble_eq_true rfl) (sa_gl rfl) rfl ?_
  refine aw_x (m' := sa_mk c I J) sa_he101 7 9 [.ref 57, .int (nI a)] [.int (((nI 4) * (nI a)) + (nI 5)), .ref 58] rfl ?_
  refine aw_ia (j := 4 * a + 5) (n := 27) (f := (I 58)) (pc' := 10) sa_he101 rfl rfl (by simp only [nI_add, pk_mul]) (by omega) (by omega) rfl ?_
  exact aw_iri sa_he101 rfl rfl rfl
set_option maxRecDepth 20000 in
theorem ct_102_57 {X : Nat × (Nat → Int32)} {d : Nat} {c : sa_Ct} (I : Nat → Nat → Int32) (J : Nat → Nat → Int64) (a : Nat) (ha : a < 6) : sa_Ex X (d + 1) 102 [.ref 57, .int (nI a)] (sa_mk c I J) (.inl (some (.int ((I 58) (4 * a + 6)))), sa_mk c I J) := by
  refine sa_ex1 (lo := [.ref 57, .int (nI a)]) (d := d + 0) sa_hm102 (Nat.le_of_ble_eq_true rfl) (sa_gl rfl) rfl ?_
  refine aw_x (m' := sa_mk c I J) sa_he102 7 10 [.ref 57, .int (nI a)] [.int (((nI 4) * (nI a)) + (nI 6)), .ref 58] rfl ?_
  refine aw_ia (j := 4 * a + 6) (n := 27) (f := (I 58)) (pc' := 11) sa_he102 rfl rfl (by simp only [nI_add, pk_mul]) (by omega) (by omega) rfl ?_
  exact aw_iri sa_he102 rfl rfl rfl
set_option maxRecDepth 20000 in
theorem ct_99_57 {X : Nat × (Nat → Int32)} {d : Nat} {c : sa_Ct} (I : Nat → Nat → Int32) (J : Nat → Nat → Int64) (a : Nat) (x : Int32) (ha : a < 6) : sa_Ex X (d + 1) 99 [.ref 57, .int (nI a), .int x] (sa_mk c I J) (.inl none, sa_mk c (ov I [(58, upd (I 58) (4 * a + 3) x)]) J) := by
  refine sa_ex1 (lo := [.ref 57, .int (nI a), .int x]) (d := d + 0) sa_hm99 (Nat.le_of_ble_eq_true rfl) (sa_gl rfl) rfl ?_
  refine aw_x (m' := sa_mk c I J) sa_he99 8 10 [.ref 57, .int (nI a), .int x] [.int x, .int (((nI 4) * (nI a)) + (nI 3)), .ref 58] rfl ?_
  refine aw_is (j := 4 * a + 3) (n := 27) (pc' := 11) sa_he99 rfl (Nat.le_of_ble_eq_true rfl) rfl (by simp only [nI_add, pk_mul]) (by omega) (by omega) rfl ?_
  refine aw_mI (I' := (ov I [(58, upd (I 58) (4 * a + 3) x)])) (ov_ins I [] 58 _) ?_
  exact aw_vr sa_he99 rfl rfl rfl
set_option maxRecDepth 20000 in
theorem ct_103_57 {X : Nat × (Nat → Int32)} {d : Nat} {c : sa_Ct} (I : Nat → Nat → Int32) (J : Nat → Nat → Int64) (a : Nat) (x : Int32) (ha : a < 6) : sa_Ex X (d + 1) 103 [.ref 57, .int (nI a), .int x] (sa_mk c I J) (.inl none, sa_mk c (ov I [(58, upd (I 58) (4 * a + 5) x)]) J) := by
  refine sa_ex1 (lo := [.ref 57, .int (nI a), .int x]) (d := d + 0) sa_hm103 (Nat.le_of_ble_eq_true rfl) (sa_gl rfl) rfl ?_
  refine aw_x (m' := sa_mk c I J) sa_he103 8 10 [.ref 57, .int (nI a), .int x] [.int x, .int (((nI 4) * (nI a)) + (nI 5)), .ref 58] rfl ?_
  refine aw_is (j := 4 * a + 5) (n := 27) (pc' := 11) sa_he103 rfl (Nat.le_of_ble_eq_true rfl) rfl (by simp only [nI_add, pk_mul]) (by omega) (by omega) rfl ?_
  refine aw_mI (I' := (ov I [(58, upd (I 58) (4 * a + 5) x)])) (ov_ins I [] 58 _) ?_
  exact aw_vr sa_he103 rfl rfl rfl
set_option maxRecDepth 20000 in
theorem ct_104_57 {X : Nat × (Nat → Int32)} {d : Nat} {c : sa_Ct} (I : Nat → Nat → Int32) (J : Nat → Nat → Int64) (a : Nat) (x : Int32) (ha : a < 6) : sa_Ex X (d + 1) 104 [.ref 57, .int (nI a), .int x] (sa_mk c I J) (.inl none, sa_mk c (ov I [(58, upd (I 58) (4 * a + 6) x)]) J) := by
  refine sa_ex1 (lo := [.ref 57, .int (nI a), .int x]) (d := d + 0) sa_hm104 (Nat.le_of_ble_eq_true rfl) (sa_gl rfl) rfl ?_
  refine aw_x (m' := sa_mk c I J) sa_he104 8 11 [.ref 57, .int (nI a), .int x] [.int x, .int (((nI 4) * (nI a)) + (nI 6)), .ref 58] rfl ?_
  refine aw_is (j := 4 * a + 6) (n := 27) (pc' := 12) sa_he104 rfl (Nat.le_of_ble_eq_true rfl) rfl (by simp only [nI_add, pk_mul]) (by omega) (by omega) rfl ?_
  refine aw_mI (I' := (ov I [(58, upd (I 58) (4 * a + 6) x)])) (ov_ins I [] 58 _) ?_
  exact aw_vr sa_he104 rfl rfl rfl
noncomputable def lp_105_57_4 (I : Nat → Nat → Int32) (f : Int32) (k4 : Nat) : Int32 := itn (fun i4 s4 => (if ((I 58) (4 * i4 + 6)) = f then (s4 ||| ((nI 1) <<< ((nI i4) &&& 31))) else s4)) k4 (nI 0)
theorem lp_105_57_4_s (I : Nat → Nat → Int32) (f : Int32) (i4 : Nat) : lp_105_57_4 I f (i4 + 1) = (if ((I 58) (4 * i4 + 6)) = f then ((lp_105_57_4 I f i4) ||| ((nI 1) <<< ((nI i4) &&& 31))) else (lp_105_57_4 I f i4)) := rfl
set_option maxRecDepth 20000 in
theorem ct_105_57 {X : Nat × (Nat → Int32)} {d : Nat} {c : sa_Ct} (I : Nat → Nat → Int32) (J : Nat → Nat → Int64) (f : Int32) {nC : Nat} (hC : I 4 3 = nI nC) (hC6 : nC ≤ 6) : sa_Ex X (d + 2) 105 [.ref 57, .int f] (sa_mk c I J) (.inl (some (.int (lp_105_57_4 I f nC))), sa_mk c I J) := by
  refine sa_ex1 (lo := [.ref 57, .int f, sa_no, sa_no]) (d := d + 1) sa_hm105 (Nat.le_of_ble_eq_true rfl) (sa_gl rfl) rfl ?_
  refine aw_x (m' := sa_mk c I J) sa_he105 4 4 [.ref 57, .int f, .int (nI 0), .int (nI 0)] [] rfl ?_
  refine aw_for nC (fun i4 => ([.ref 57, .int f, .int (lp_105_57_4 I f i4), .int (nI i4)], sa_mk c I J)) (fun i4 hi4 ih4 => ?_) ?_
  · show sa_W X _ 105 4 [.ref 57, .int f, .int (lp_105_57_4 I f i4), .int (nI i4)] [] (sa_mk c I J) _
    refine aw_x (m' := sa_mk c I J) sa_he105 4 12 [.ref 57, .int f, .int (lp_105_57_4 I f i4), .int (nI i4)] [.ref 4, .int (nI i4)] rfl ?_
    refine aw_cv1 (As := []) (b := 4) (r := [.int (nI i4)]) (pc' := 15) sa_he105 rfl sa_i7_29 rfl rfl (Nat.le_of_ble_eq_true rfl) ⟨Nat.le_of_ble_eq_true rfl, sa_hc sa_hm112 rfl⟩ (ct_112_4 (d := d + 0) I J) rfl ?_
    refine aw_st (st' := [.int (nI nC), .int (nI i4)]) (by simp only [hC, nI_add, pk_mul]) ?_
    refine aw_icF (t := 39) (n := 18) sa_he105 rfl rfl rfl (nI_ge hi4 (by omega)) ?_
    refine aw_x (m' := sa_mk c I J) sa_he105 2 20 [.ref 57, .int f, .int (lp_105_57_4 I f i4), .int (nI i4)] [.int (nI i4), .ref 57] rfl ?_
    refine aw_cv1 (As := [.int (nI i4)]) (b := 57) (r := []) (pc' := 23) sa_he105 rfl sa_i7_44 rfl rfl (Nat.le_of_ble_eq_true rfl) ⟨Nat.le_of_ble_eq_true rfl, sa_hc sa_hm102 rfl⟩ (ct_102_57 (d := d + 0) I J i4 (by omega)) rfl ?_
    refine aw_x (m' := sa_mk c I J) sa_he105 1 24 [.ref 57, .int f, .int (lp_105_57_4 I f i4), .int (nI i4)] [.int f, .int ((I 58) (4 * i4 + 6))] rfl ?_
    refine aw_ic (t := 33) (n := 27) sa_he105 rfl rfl rfl (fun (h1 : ¬ (((I 58) (4 * i4 + 6)) = f)) => ?_) (fun (h1 : ¬ ¬ (((I 58) (4 * i4 + 6)) = f)) => ?_)
    · refine aw_x (m' := sa_mk c I J) sa_he105 2 4 [.ref 57, .int f, .int (lp_105_57_4 I f i4), .int ((nI i4) + (nI 1))] [] rfl ?_
      have e4 : lp_105_57_4 I f (i4 + 1) = (lp_105_57_4 I f i4) := by rw [lp_105_57_4_s, if_neg h1]
      exact aw_eq ih4 (by simp only [e4, hC, nI_add, pk_mul]) rfl
    · replace h1 := Classical.not_not.1 h1
      refine aw_x (m' := sa_mk c I J) sa_he105 8 4 [.ref 57, .int f, .int ((lp_105_57_4 I f i4) ||| ((nI 1) <<< ((nI i4) &&& 31))), .int ((nI i4) + (nI 1))] [] rfl ?_
      have e4 : lp_105_57_4 I f (i4 + 1) = ((lp_105_57_4 I f i4) ||| ((nI 1) <<< ((nI i4) &&& 31))) := by rw [lp_105_57_4_s, if_pos h1]
      exact aw_eq ih4 (by simp only [e4, hC, nI_add, pk_mul]) rfl
  show sa_W X _ 105 4 [.ref 57, .int f, .int (lp_105_57_4 I f nC), .int (nI nC)] [] (sa_mk c I J) _
  refine aw_x (m' := sa_mk c I J) sa_he105 4 12 [.ref 57, .int f, .int (lp_105_57_4 I f nC), .int (nI nC)] [.ref 4, .int (nI nC)] rfl ?_
  refine aw_cv1 (As := []) (b := 4) (r := [.int (nI nC)]) (pc' := 15) sa_he105 rfl sa_i7_29 rfl rfl (Nat.le_of_ble_eq_true rfl) ⟨Nat.le_of_ble_eq_true rfl, sa_hc sa_hm112 rfl⟩ (ct_112_4 (d := d + 0) I J) rfl ?_
  refine aw_st (st' := [.int (nI nC), .int (nI nC)]) (by simp only [hC, nI_add, pk_mul]) ?_
  refine aw_icT (t := 39) sa_he105 rfl rfl (nI_le (by omega) (by omega)) ?_
  refine aw_x (m' := sa_mk c I J) sa_he105 1 40 [.ref 57, .int f, .int (lp_105_57_4 I f nC), .int (nI nC)] [.int (lp_105_57_4 I f nC)] rfl ?_
  exact aw_iri sa_he105 rfl rfl rfl
noncomputable def lp_106_57_4 (I : Nat → Nat → Int32) (k4 : Nat) : Int32 := itn (fun i4 s4 => (if ((I 58) (4 * i4 + 6)) = (nI 1) then (s4 + ((I 5) (i4 * 5 + 4))) else s4)) k4 (nI 0)
theorem lp_106_57_4_s (I : Nat → Nat → Int32) (i4 : Nat) : lp_106_57_4 I (i4 + 1) = (if ((I 58) (4 * i4 + 6)) = (nI 1) then ((lp_106_57_4 I i4) + ((I 5) (i4 * 5 + 4))) else (lp_106_57_4 I i4)) := rfl
set_option maxRecDepth 20000 in
theorem ct_106_57 {X : Nat × (Nat → Int32)} {d : Nat} {c : sa_Ct} (I : Nat → Nat → Int32) (J : Nat → Nat → Int64) {nC : Nat} (hC : I 4 3 = nI nC) (hC6 : nC ≤ 6) : sa_Ex X (d + 2) 106 [.ref 57] (sa_mk c I J) (.inl (some (.int (lp_106_57_4 I nC))), sa_mk c I J) := by
  refine sa_ex1 (lo := [.ref 57, sa_no, sa_no]) (d := d + 1) sa_hm106 (Nat.le_of_ble_eq_true rfl) (sa_gl rfl) rfl ?_
  refine aw_x (m' := sa_mk c I J) sa_he106 4 4 [.ref 57, .int (nI 0), .int (nI 0)] [] rfl ?_
  refine aw_for nC (fun i4 => ([.ref 57, .int (lp_106_57_4 I i4), .int (nI i4)], sa_mk c I J)) (fun i4 hi4 ih4 => ?_) ?_
  · show sa_W X _ 106 4 [.ref 57, .int (lp_106_57_4 I i4), .int (nI i4)] [] (sa_mk c I J) _
    refine aw_x (m' := sa_mk c I J) sa_he106 4 12 [.ref 57, .int (lp_106_57_4 I i4), .int (nI i4)] [.ref 4, .int (nI i4)] rfl ?_
    refine aw_cv1 (As := []) (b := 4) (r := [.int (nI i4)]) (pc' := 15) sa_he106 rfl sa_i7_29 rfl rfl (Nat.le_of_ble_eq_true rfl) ⟨Nat.le_of_ble_eq_true rfl, sa_hc sa_hm112 rfl⟩ (ct_112_4 (d := d + 0) I J) rfl ?_
    refine aw_st (st' := [.int (nI nC), .int (nI i4)]) (by simp only [hC, nI_add, pk_mul]) ?_
    refine aw_icF (t := 48) (n := 18) sa_he106 rfl rfl rfl (nI_ge hi4 (by omega)) ?_
    refine aw_x (m' := sa_mk c I J) sa_he106 2 20 [.ref 57, .int (lp_106_57_4 I i4), .int (nI i4)] [.int (nI i4), .ref 57] rfl ?_
    refine aw_cv1 (As := [.int (nI i4)]) (b := 57) (r := []) (pc' := 23) sa_he106 rfl sa_i7_44 rfl rfl (Nat.le_of_ble_eq_true rfl) ⟨Nat.le_of_ble_eq_true rfl, sa_hc sa_hm102 rfl⟩ (ct_102_57 (d := d + 0) I J i4 (by omega)) rfl ?_
    refine aw_x (m' := sa_mk c I J) sa_he106 1 24 [.ref 57, .int (lp_106_57_4 I i4), .int (nI i4)] [.int (nI 1), .int ((I 58) (4 * i4 + 6))] rfl ?_
    refine aw_ic (t := 42) (n := 27) sa_he106 rfl rfl rfl (fun (h1 : ¬ (((I 58) (4 * i4 + 6)) = (nI 1))) => ?_) (fun (h1 : ¬ ¬ (((I 58) (4 * i4 + 6)) = (nI 1))) => ?_)
    · refine aw_x (m' := sa_mk c I J) sa_he106 2 4 [.ref 57, .int (lp_106_57_4 I i4), .int ((nI i4) + (nI 1))] [] rfl ?_
      have e4 : lp_106_57_4 I (i4 + 1) = (lp_106_57_4 I i4) := by rw [lp_106_57_4_s, if_neg h1]
      exact aw_eq ih4 (by simp only [e4, hC, nI_add, pk_mul]) rfl
    · replace h1 := Classical.not_not.1 h1
      refine aw_x (m' := sa_mk c I J) sa_he106 6 37 [.ref 57, .int (lp_106_57_4 I i4), .int (nI i4)] [.int (nI 4), .int (nI i4), .ref 4, .int (lp_106_57_4 I i4)] rfl ?_
      refine aw_cv1 (As := [.int (nI i4), .int (nI 4)]) (b := 4) (r := [.int (lp_106_57_4 I i4)]) (pc' := 40) sa_he106 rfl sa_i7_34 rfl rfl (Nat.le_of_ble_eq_true rfl) ⟨Nat.le_of_ble_eq_true rfl, sa_hc sa_hm118 rfl⟩ (ct_118_4 (d := d + 0) I J i4 4 (by omega) (by omega)) rfl ?_
      refine aw_x (m' := sa_mk c I J) sa_he106 4 4 [.ref 57, .int ((lp_106_57_4 I i4) + ((I 5) (i4 * 5 + 4))), .int ((nI i4) + (nI 1))] [] rfl ?_
      have e4 : lp_106_57_4 I (i4 + 1) = ((lp_106_57_4 I i4) + ((I 5) (i4 * 5 + 4))) := by rw [lp_106_57_4_s, if_pos h1]
      exact aw_eq ih4 (by simp only [e4, hC, nI_add, pk_mul]) rfl
  show sa_W X _ 106 4 [.ref 57, .int (lp_106_57_4 I nC), .int (nI nC)] [] (sa_mk c I J) _
  refine aw_x (m' := sa_mk c I J) sa_he106 4 12 [.ref 57, .int (lp_106_57_4 I nC), .int (nI nC)] [.ref 4, .int (nI nC)] rfl ?_
  refine aw_cv1 (As := []) (b := 4) (r := [.int (nI nC)]) (pc' := 15) sa_he106 rfl sa_i7_29 rfl rfl (Nat.le_of_ble_eq_true rfl) ⟨Nat.le_of_ble_eq_true rfl, sa_hc sa_hm112 rfl⟩ (ct_112_4 (d := d + 0) I J) rfl ?_
  refine aw_st (st' := [.int (nI nC), .int (nI nC)]) (by simp only [hC, nI_add, pk_mul]) ?_
  refine aw_icT (t := 48) sa_he106 rfl rfl (nI_le (by omega) (by omega)) ?_
  refine aw_x (m' := sa_mk c I J) sa_he106 1 49 [.ref 57, .int (lp_106_57_4 I nC), .int (nI nC)] [.int (lp_106_57_4 I nC)] rfl ?_
  exact aw_iri sa_he106 rfl rfl rfl

noncomputable def bcA (y : Int32) : Int32 := y - (((y.toUInt32 >>> ((Int32.ofInt (1)).toUInt32 &&& Int32.toUInt32 31)).toInt32) &&& (1431655765 : Int32))
noncomputable def bcB (y : Int32) : Int32 := (y &&& (858993459 : Int32)) + (((y.toUInt32 >>> ((Int32.ofInt (2)).toUInt32 &&& Int32.toUInt32 31)).toInt32) &&& (858993459 : Int32))
noncomputable def bcC (y : Int32) : Int32 := (y + ((y.toUInt32 >>> ((Int32.ofInt (4)).toUInt32 &&& Int32.toUInt32 31)).toInt32)) &&& (252645135 : Int32)
noncomputable def bcD (y : Int32) : Int32 := y + ((y.toUInt32 >>> (((Int8.ofInt (8)).toInt32).toUInt32 &&& Int32.toUInt32 31)).toInt32)
noncomputable def bcE (y : Int32) : Int32 := y + ((y.toUInt32 >>> (((Int8.ofInt (16)).toInt32).toUInt32 &&& Int32.toUInt32 31)).toInt32)
noncomputable def g_352 (x : Int32) : Int32 := ((bcE (bcD (bcC (bcB (bcA x))))) &&& ((Int8.ofInt (63)).toInt32))
set_option maxRecDepth 20000 in
theorem ct_352 {X : Nat × (Nat → Int32)} {d : Nat} {c : sa_Ct} (I : Nat → Nat → Int32) (J : Nat → Nat → Int64) (x : Int32) : sa_Ex X (d + 1) 352 [.int x] (sa_mk c I J) (.inl (some (.int (g_352 x))), sa_mk c I J) := by
  refine sa_ex1 (lo := [.int x]) (d := d + 0) sa_hm352 (Nat.le_of_ble_eq_true rfl) (sa_gl rfl) rfl ?_
  refine aw_x (m' := sa_mk c I J) sa_he352 8 10 [.int (x - (((x.toUInt32 >>> ((Int32.ofInt (1)).toUInt32 &&& Int32.toUInt32 31)).toInt32) &&& (1431655765 : Int32)))] [] rfl ?_
  obtain ⟨y1, hy1⟩ : ∃ z, z = bcA x := ⟨_, rfl⟩
  refine aw_lo (lo' := [.int y1]) (by rw [hy1]; rfl) ?_
  refine aw_x (m' := sa_mk c I J) sa_he352 10 24 [.int ((y1 &&& (858993459 : Int32)) + (((y1.toUInt32 >>> ((Int32.ofInt (2)).toUInt32 &&& Int32.toUInt32 31)).toInt32) &&& (858993459 : Int32)))] [] rfl ?_
  obtain ⟨y2, hy2⟩ : ∃ z, z = bcB y1 := ⟨_, rfl⟩
  refine aw_lo (lo' := [.int y2]) (by rw [hy2]; rfl) ?_
  refine aw_x (m' := sa_mk c I J) sa_he352 8 34 [.int ((y2 + ((y2.toUInt32 >>> ((Int32.ofInt (4)).toUInt32 &&& Int32.toUInt32 31)).toInt32)) &&& (252645135 : Int32))] [] rfl ?_
  obtain ⟨y3, hy3⟩ : ∃ z, z = bcC y2 := ⟨_, rfl⟩
  refine aw_lo (lo' := [.int y3]) (by rw [hy3]; rfl) ?_
  refine aw_x (m' := sa_mk c I J) sa_he352 6 41 [.int (y3 + ((y3.toUInt32 >>> (((Int8.ofInt (8)).toInt32).toUInt32 &&& Int32.toUInt32 31)).toInt32))] [] rfl ?_
  obtain ⟨y4, hy4⟩ : ∃ z, z = bcD y3 := ⟨_, rfl⟩
  refine aw_lo (lo' := [.int y4]) (by rw [hy4]; rfl) ?_
  refine aw_x (m' := sa_mk c I J) sa_he352 6 48 [.int (y4 + ((y4.toUInt32 >>> (((Int8.ofInt (16)).toInt32).toUInt32 &&& Int32.toUInt32 31)).toInt32))] [] rfl ?_
  obtain ⟨y5, hy5⟩ : ∃ z, z = bcE y4 := ⟨_, rfl⟩
  refine aw_lo (lo' := [.int y5]) (by rw [hy5]; rfl) ?_
  refine aw_x (m' := sa_mk c I J) sa_he352 3 52 [.int y5] [.int (y5 &&& ((Int8.ofInt (63)).toInt32))] rfl ?_
  have eg : g_352 x = (y5 &&& ((Int8.ofInt (63)).toInt32)) := by rw [hy5, hy4, hy3, hy2, hy1]; rfl
  exact aw_iri sa_he352 rfl rfl (by rw [eg])

/-! ===== sky is as it should be ===== -/
theorem sky_ok : SkyP := by
  intro X A M n hr hA hc hm
  by_cases h : n < 0 ∨ ((aT A).length : Int) < n
  · exact ⟨A, 1, 0, 0, hA, c_skyX (d := 98) hc h 0, fun M1 h1 => m_skyX (d := 98) h1 h, fun z => by omega⟩
  · obtain ⟨k, rfl⟩ : ∃ k : Nat, n = (k : Int) := ⟨n.toNat, by omega⟩
    have hk : k ≤ (aT A).length := by omega
    exact ⟨skyA A k, 0, skyV A k, skyV A k, skyA_ok hA (by have := hA.2.2.2.2.2.2.1; omega), c_sky (d := 44) hA hc hk, fun M1 h1 => m_sky (d := 92) hA h1 hk, fun _ => rfl⟩

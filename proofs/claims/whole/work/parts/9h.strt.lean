/-! MY OWN: as it begins -/
set_option maxRecDepth 100000 in
theorem s0_c : hI σ0 9 1 = 0 ∧ hI σ0 9 2 = 0 ∧ hI σ0 9 3 = 0 ∧ hI σ0 9 4 = 0 ∧ hI σ0 23 0 = 0 ∧ hI σ0 24 0 = 0 ∧ hI σ0 23 1 = 0 ∧ hI σ0 24 1 = 0 ∧ hI σ0 5 0 = 0 ∧ hI σ0 5 1 = 0 ∧ hI σ0 2 1 = 0 ∧ hI σ0 1 10 = 1 ∧ hI σ0 54 9 = 0 ∧ hI σ0 54 10 = -1 ∧ hI σ0 35 1 = 0 ∧ hI σ0 32 3 = 0 ∧ hI σ0 6 1 = 0 ∧ hI σ0 6 2 = 0 ∧ hI σ0 27 4 = -1 ∧ hI σ0 27 10 = -1 := by decide +kernel
set_option maxRecDepth 100000 in
theorem s0_m : hI σ0 56 13 = 0 ∧ hI σ0 58 0 = 0 ∧ hI σ0 63 0 = 0 ∧ hI σ0 72 0 = 0 ∧ hI σ0 73 0 = 0 ∧ hI σ0 68 0 = -1 ∧ hI σ0 70 0 = -1 ∧ hI σ0 85 0 = 0 ∧ hI σ0 90 0 = 0 ∧ hI σ0 56 1 = 0 ∧ hL σ0 56 59 = 1 ∧ hI σ0 56 10 = 0 ∧ hI σ0 56 11 = -1 ∧ hI σ0 56 78 = 0 ∧ hI σ0 56 72 = 0 ∧ hI σ0 56 57 = 0 ∧ hI σ0 56 58 = 0 := by decide +kernel
set_option maxRecDepth 100000 in
theorem s0_t : ∀ k : Nat, k < 1600 → hI σ0 57 (k : Int) = tx σ0 (k : Int) := by decide +kernel
set_option maxRecDepth 100000 in
theorem s0_f : ∀ k : Nat, k < 5 → hI σ0 84 (k : Int) = hI σ0 37 (k : Int) := by decide +kernel
set_option maxRecDepth 100000 in
theorem s0_o : ∀ k : Nat, k < 25 → hI σ0 55 (k : Int) = ow5 (k : Int) := by decide +kernel
theorem INV_0 : INV σ0 := by
  obtain ⟨c1, c2, c3, c4, c5, c6, c7, c8, c9, c10, c11, c12, c13, c14, c15, c16, c17, c18, c19, c20⟩ := s0_c
  obtain ⟨m1, m2, m3, m4, m5, m6, m7, m8, m9, m10, m11, m12, m13, m14, m15, m16, m17⟩ := s0_m
  have fT : vT σ0 = 0 := c1
  have fH : vH σ0 = 0 := c2
  have fS : vSeen σ0 = 0 := c3
  have fF : vFine σ0 = 0 := c4
  have zm : zmin 48 0 = 0 := by unfold zmin; split <;> omega
  refine ⟨none, none, ⟨?_, ?_, ⟨c5, c6⟩, ⟨c7, c8⟩, ?_, ?_, ?_⟩, ⟨?_, ?_⟩, ?_, ?_, ?_, ⟨?_, ?_⟩, ?_, ?_, ?_, ⟨?_, ?_⟩, KK_n c19 c20⟩
  · unfold okR
    rw [fT, fH, fS, fF]
    exact ⟨by omega, by omega, by omega, by omega, fun t w0 w1 => by omega, fun t w0 w1 => by omega⟩
  · unfold rlR
    rw [m1, fT, fH, fS, fF]
    exact ⟨by omega, m2, m3, m4, m5, fun t w0 w1 => by omega, fun t w0 w1 => by omega⟩
  · show hI σ0 68 (hI σ0 56 13) = -1
    rw [m1]; exact m6
  · show hI σ0 70 (hI σ0 56 13) = -1
    rw [m1]; exact m7
  · unfold rlM
    rw [fT, fH]
    exact ⟨fun t w0 w1 => by omega, fun t w0 w1 => by omega⟩
  · rw [fT, fH]
    refine rowS_0.2 ⟨?_, ?_, fun h w0 w1 => by omega⟩
    · show hI σ0 85 0 = hI σ0 5 0
      rw [m8, c9]
    · show 0 ≤ hI σ0 5 0 ∧ (hI σ0 5 0 < 0 ∨ hI σ0 5 0 = 0)
      rw [c9]; omega
  · have gk : gNow σ0 1 = 0 := c10
    refine rowK_0.2 ?_
    rw [gk, zm]
    exact ⟨by omega, m9, fun k w0 w1 => by omega⟩
  · refine ⟨by rw [m10, c11], by rw [c11]; omega, fun k w0 w1 => ?_⟩
    obtain ⟨n, rfl⟩ := Int.eq_ofNat_of_zero_le w0
    exact s0_t n (by omega)
  · exact ⟨by rw [m11, c12], by rw [c12]; omega⟩
  · intro k w0 w1
    obtain ⟨n, rfl⟩ := Int.eq_ofNat_of_zero_le w0
    exact s0_f n (by omega)
  · rw [m12, c13]
  · rw [m13, c14]
  · exact ⟨by rw [m14, c15], by rw [c15]; omega, fun k w0 w1 => by rw [c15] at w1; omega⟩
  · exact ⟨by rw [m15, c16], by rw [c16]; omega, fun w => by rw [c16] at w; omega, fun k w0 w1 => by rw [c16] at w1; omega⟩
  · exact ⟨by rw [c17]; omega, by rw [c18]; omega, by rw [m17, c18], by rw [m16]; omega, fun k w0 w1 => by rw [c18] at w1; omega⟩
  · intro i w0 w1
    obtain ⟨n, rfl⟩ := Int.eq_ofNat_of_zero_le w0
    exact s0_o n (by omega)
  · show (true : Bool) ≠ false
    decide

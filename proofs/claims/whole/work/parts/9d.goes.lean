/-! MY OWN: goOn -/
def gnU (p : Nat) (k : Int) : Prop := p = 5 ∨ (p = 6 ∧ k = 2) ∨ (p = 27 ∧ (k = 4 ∨ k = 10)) ∨ (p = 2 ∧ k = 1) ∨ (p = 56 ∧ (k = 1 ∨ k = 58)) ∨ ((p = 85 ∨ p = 90) ∧ k < 2) ∨ ((86 ≤ p ∧ p ≤ 88) ∧ k < 12) ∨ (p = 89 ∧ k < 72) ∨ ((91 ≤ p ∧ p ≤ 94) ∧ k < 96)
section GG
variable {σ : zS}
theorem C_goOn (h : INV σ) : CA fX10_goOn fX11_goOn σ := by
  have h' := h
  obtain ⟨oW, oT, i1, i2, i3, i4, i5, i6, i7, i8, i9, i10, i11⟩ := h'
  have hR := i1.1
  have hm := IR_M i1 i2
  have hrp := rp_or σ.2.2.2.1
  have hH := hR.2.1
  have hT := hR.1
  have b13 := hm.1.1
  obtain ⟨t1, t2, t3⟩ := i3
  obtain ⟨p1, p2⟩ := isOf_z hR t2
  have n10 : ¬ (z32 1 = (0 : Int32)) := by rw [z32_litn, z32_eq (by omega) (by omega) (by omega) (by omega)]; omega
  by_cases G : GOO σ
  · have G' := G
    obtain ⟨g1, g2, g3, g4⟩ := G'
    obtain ⟨a1, a2, a3, a4, a5, a6⟩ := put_z hR g1 g4
    obtain ⟨c, c1, c2, c3, c4⟩ := fgt_z (σ := jS a1 6 2 0)
    obtain ⟨B, hB⟩ : ∃ B, B = jS c 2 1 0 := ⟨_, rfl⟩
    have fB : fr gnU σ B := by
      rw [hB]
      exact fr_t (fr_t (fr_t (fr_m a3 (fun p k _ u => by unfold gnU; omega)) (fr_j (by omega) (by unfold gnU; omega))) (fr_m c2 (fun p k _ u => by unfold gnU; omega))) (fr_j (by omega) (by unfold gnU; omega))
    obtain ⟨τ, hτ⟩ : ∃ τ, τ = jS B 56 1 0 := ⟨_, rfl⟩
    have fτ : fr gnU σ τ := by rw [hτ]; exact fr_t fB (fr_j (by omega) (by unfold gnU; omega))
    have mR : rlR σ τ := iv_rlR jE_r (sm_f fτ (fun p k _ w u => by unfold gnU at u; unfold fpM at w; omega)) hR hm.1
    have ht : tryM σ τ := ⟨mR.1, mR.2.1, mR.2.2.1, fun k w0 w1 => by rw [(fτ.2 57 k w0 (by unfold gnU; omega)).1]; exact t3 k w0 w1⟩
    obtain ⟨τ1, k1, k2, k3, k4, k5⟩ := (com_z hR mR ht t2).1 G
    obtain ⟨τ2, y1, y2, y3⟩ := cop_z (σ := τ1) (d := 0) (s := 1) (by omega) (by omega) (by omega)
    obtain ⟨φ, hφ⟩ : ∃ φ, φ = jS τ2 56 58 0 := ⟨_, rfl⟩
    have fφ : fr gnU σ φ := by
      rw [hφ]
      exact fr_t (fr_t (fr_t fτ (fr_m k2 (fun p k _ u => by unfold cpU at u; unfold gnU; omega))) (fr_m y2 (fun p k _ u => by unfold cpU at u; unfold gnU; omega))) (fr_j (by omega) (by unfold gnU; omega))
    have uR : ∀ p k, 0 ≤ k → gnU p k → sfR σ p k := fun p k _ u => by
      unfold gnU at u
      unfold sfR fpC fpM
      omega
    have j := f_jE fφ uR
    have cl : ∀ p k, p < 56 → 0 ≤ k → hI φ p k = hI B p k := fun p k w0 w1 => by
      rw [hφ, hI_jS_ne (by omega), (y2.2 p k w1 (by unfold cpU; omega)).1, (k2.2 p k w1 (by unfold cpU; omega)).1, hτ, hI_jS_ne (by omega)]
    have cl5 : ∀ k, 0 ≤ k → hI φ 5 k = hI a1 5 k := fun k w1 => by
      rw [cl 5 k (by omega) w1, hB, hI_jS_ne (by omega), (c2.2 5 k w1 (by omega)).1, hI_jS_ne (by omega)]
    obtain ⟨s1, s2, s3, s4, s5⟩ := y3
    have t0 := tx_b σ 0
    have e58 : hI φ 56 58 = 0 := by rw [hφ, hI_jS (by omega) (by omega) (by omega) (by omega), if_pos rfl]
    have e62 : hI φ 6 2 = 0 := by rw [cl 6 2 (by omega) (by omega), hB, hI_jS_ne (by omega), (c2.2 6 2 (by omega) (by omega)).1, hI_jS (by omega) (by omega) (by omega) (by omega), if_pos rfl]
    have e21 : hI φ 2 1 = 0 := by rw [cl 2 1 (by omega) (by omega), hB, hI_jS (by omega) (by omega) (by omega) (by omega), if_pos rfl]
    have e561 : hI φ 56 1 = 0 := by
      rw [hφ, hI_jS (by omega) (by omega) (by omega) (by omega), if_neg (by omega), (y2.2 56 1 (by omega) (by unfold cpU; omega)).1, (k2.2 56 1 (by omega) (by unfold cpU; omega)).1, hτ, hI_jS (by omega) (by omega) (by omega) (by omega), if_pos rfl]
    refine ⟨z32 1, B, φ, ?_, ?_, inv_g i1 i10 fφ uR (KK_n ?_ ?_) ⟨?_, ?_⟩ ?_ (iv_S (sm_f fφ (fun p i g w u => by unfold fpS at w; unfold gnU at u; omega)) i4) (iv_F (sm_f fφ (fun p i g w u => by unfold fpF at w; unfold gnU at u; omega)) i5) (iv_U (sm_f fφ (fun p i g w u => by unfold fpU at w; unfold gnU at u; omega)) i6) (iv_P (sm_f fφ (fun p i g w u => by unfold fpP at w; unfold gnU at u; omega)) i7) (iv_C j (sm_f fφ (fun p i g w u => by unfold fpQ at w; unfold gnU at u; omega)) i8) ?_⟩
    · have e61 : fX10_goOn_61 (z32 1) c = some (z32 1, B) := by
        unfold fX10_goOn_61
        rw [show (0 : Int32) = z32 0 from z32_litn 0, iS_q, bnd_q, gd_pos (Or.inr (z32_litn 1).symm), ← hB]
      unfold fX10_goOn
      rw [p1 G, bnr_q, if_neg n10, a2, bnr_q, show (0 : Int32) = z32 0 from z32_litn 0, iS_q, bnd_q, c1, bnr_q, e61]
    · have eB : iG B 56 1 = z32 (hI σ 2 1) := by rw [show iG B 56 1 = z32 (hI B 56 1) from iG_h B 56 1, hB, hI_jS_ne (by omega), (c2.2 56 1 (by omega) (by omega)).1, hI_jS_ne (by omega), (a3.2 56 1 (by omega) (by omega)).1, t1]
      have y1' : fX11_copies (z32 0) 1 τ1 = some τ2 := by rw [show (1 : Int32) = z32 1 from z32_litn 1]; exact y1
      unfold fX11_goOn
      rw [eB, show (0 : Int32) = z32 0 from z32_litn 0, iS_q, bnd_q, ← hτ, k1, bnc_q]
      try dsimp only
      rw [if_neg (by rw [z32_eq (by omega) (by omega) (by omega) (by omega)]; omega), y1', bnr_q, iS_q, bnd_q, ← hφ, z32_litn]
    · rw [cl 27 4 (by omega) (by omega), hB, hI_jS_ne (by omega), c3]
    · rw [cl 27 10 (by omega) (by omega), hB, hI_jS_ne (by omega), c4]
    · rw [j_H j, j_T j]
      refine rowS_0.2 ⟨?_, ?_, fun h w0 w1 => ?_⟩
      · show hI φ 85 0 = hI φ 5 0
        rw [cl5 0 (by omega), a4, hφ, hI_jS_ne (by omega), s1, k3]
      · show 0 ≤ hI φ 5 0 ∧ (hI φ 5 0 < vT σ ∨ hI φ 5 0 = 0)
        rw [cl5 0 (by omega), a4]; omega
      · obtain ⟨u1, u2, u3, u4⟩ := a6 h w0 w1
        obtain ⟨v1, v2, v3, v4⟩ := k5 h w0 w1
        obtain ⟨o1, o2, o3, o4⟩ := g4 h w0 w1
        have z1 := s2 86 h (by omega) (by omega) w0 (by omega)
        have z2 := s2 87 h (by omega) (by omega) w0 (by omega)
        have z3 := s2 88 h (by omega) (by omega) w0 (by omega)
        rw [show 6 * (0 : Int) + h = h by omega, show 6 * (1 : Int) + h = 6 + h by omega] at z1 z2 z3
        refine ⟨?_, ?_, ?_, fun t w2 w3 => ?_⟩
        · show hI φ 86 h = hI φ 5 (50 + h) ∧ 0 ≤ hI φ 5 (50 + h) ∧ hI φ 5 (50 + h) ≤ 60
          rw [cl5 _ (by omega), u1, hφ, hI_jS_ne (by omega), z1, v1]
          exact ⟨rfl, (tx_b _ _).1, o1⟩
        · show hI φ 87 h = hI φ 5 (56 + h) ∧ 0 ≤ hI φ 5 (56 + h) ∧ hI φ 5 (56 + h) ≤ 60
          rw [cl5 _ (by omega), u2, hφ, hI_jS_ne (by omega), z2, v2]
          exact ⟨rfl, (tx_b _ _).1, o2⟩
        · show hI φ 88 h = hI φ 5 (62 + h) ∧ -99999 ≤ hI φ 5 (62 + h) ∧ hI φ 5 (62 + h) ≤ 99999
          rw [cl5 _ (by omega), u3, hφ, hI_jS_ne (by omega), z3, v3]
          exact ⟨rfl, o3⟩
        · show hI φ 89 (6 * h + t) = hI φ 5 (68 + h * 6 + t) ∧ 0 ≤ hI φ 5 (68 + h * 6 + t) ∧ hI φ 5 (68 + h * 6 + t) ≤ 60
          have z4 := s3 (6 * h + t) (by omega) (by omega)
          rw [show 36 * (0 : Int) + (6 * h + t) = 6 * h + t by omega, show 36 * (1 : Int) + (6 * h + t) = 36 + 6 * h + t by omega] at z4
          rw [cl5 _ (by omega), u4 t w2 w3, hφ, hI_jS_ne (by omega), z4, v4 t w2 w3]
          exact ⟨rfl, (tx_b _ _).1, o4 t w2 w3⟩
    · have gk : gNow φ 1 = 0 := by
        show hI φ 5 1 = 0
        rw [cl5 1 (by omega), a5]
      have zm : zmin 48 0 = 0 := by unfold zmin; split <;> omega
      refine rowK_0.2 ?_
      rw [gk, zm]
      exact ⟨by omega, by rw [hφ, hI_jS_ne (by omega), s4, k4], fun k w0 w1 => by omega⟩
    · exact ⟨by rw [e561, e21], by rw [e21]; omega, fun k w0 w1 => by rw [(fφ.2 57 k w0 (by unfold gnU; omega)).1, tx_c (fφ.2 3 k w0 (by unfold gnU; omega)).1]; exact t3 k w0 w1⟩
    · have e61 : hI φ 6 1 = hI σ 6 1 := (fφ.2 6 1 (by omega) (by unfold gnU; omega)).1
      have e57 : hI φ 56 57 = hI σ 56 57 := (fφ.2 56 57 (by omega) (by unfold gnU; omega)).1
      refine ⟨by rw [e61]; exact i9.1, by rw [e62]; omega, by rw [e58, e62], by rw [e57]; exact i9.2.2.2.1, fun j w0 w1 => ?_⟩
      rw [e62] at w1
      omega
  · obtain ⟨B0, hB0⟩ : ∃ B0, B0 = jS σ 37 4 (z32 (hI σ 37 4 + 1)).toInt := ⟨_, rfl⟩
    obtain ⟨B, hB⟩ : ∃ B, B = jS B0 2 1 0 := ⟨_, rfl⟩
    have fB : fr (tfU 4) σ B := by rw [hB, hB0]; exact fr_t (fr_j (by omega) (by unfold tfU; omega)) (fr_j (by omega) (by unfold tfU; omega))
    obtain ⟨τ, hτ⟩ : ∃ τ, τ = jS B 56 1 0 := ⟨_, rfl⟩
    have fτ : fr (tfU 4) σ τ := by rw [hτ]; exact fr_t fB (fr_j (by omega) (by unfold tfU; omega))
    have mR : rlR σ τ := iv_rlR jE_r (sm_f fτ (fun p k _ w u => by unfold tfU cpU at u; unfold fpM at w; omega)) hR hm.1
    have ht : tryM σ τ := ⟨mR.1, mR.2.1, mR.2.2.1, fun k w0 w1 => by rw [(fτ.2 57 k w0 (by unfold tfU cpU; omega)).1]; exact t3 k w0 w1⟩
    obtain ⟨τ1, k1, k2⟩ := (com_z hR mR ht t2).2 G
    obtain ⟨φ, hφ⟩ : ∃ φ, φ = jS τ1 84 4 (z32 (hI τ1 84 4 + 1)).toInt := ⟨_, rfl⟩
    have z1 := z32_b (z32 (hI σ 37 4 + 1))
    have z2 := z32_b (z32 (hI τ1 84 4 + 1))
    have eB : iG B 56 1 = z32 (hI σ 2 1) := by rw [show iG B 56 1 = z32 (hI B 56 1) from iG_h B 56 1, hB, hI_jS_ne (by omega), hB0, hI_jS_ne (by omega), t1]
    refine ⟨z32 0, B, φ, ?_, ?_, inv_TF h (k := 4) (by omega) (by omega) (fr_t (fr_t fτ (fr_m k2 (fun p k _ u => by unfold tfU; exact Or.inr (Or.inr (Or.inr u))))) (by rw [hφ]; exact fr_j (by omega) (by unfold tfU; omega))) ?_ ?_ ?_ ?_⟩
    · have e61 : fX10_goOn_61 (z32 0) B0 = some (z32 0, B) := by
        unfold fX10_goOn_61
        rw [show (0 : Int32) = z32 0 from z32_litn 0, iS_q, bnd_q, gd_pos (Or.inl rfl), ← hB]
      unfold fX10_goOn
      rw [p2 G, bnr_q, if_pos (by rw [z32_litn]), ref_z (k := 4) (z32_litn 4) (by omega) (by omega), bnc_q, ← hB0]
      exact e61
    · unfold fX11_goOn
      rw [eB, show (0 : Int32) = z32 0 from z32_litn 0, iS_q, bnd_q, ← hτ, k1, bnc_q]
      try dsimp only
      rw [if_pos rfl, mref_z (k := 4) (z32_litn 4) (by omega) (by omega), bnc_q, ← hφ]
      try dsimp only
      rw [if_pos (by rw [z32_lt (by omega) (by omega) (by omega) (by omega)]; omega)]
    · rw [hφ, hI_jS_ne (by omega), (k2.2 2 1 (by omega) (by unfold cpU; omega)).1, hτ, hI_jS_ne (by omega), hB, hI_jS (by omega) (by omega) (by omega) (by omega), if_pos rfl]
    · rw [hφ, hI_jS_ne (by omega), (k2.2 56 1 (by omega) (by unfold cpU; omega)).1, hτ, hI_jS (by omega) (by omega) (by omega) (by omega), if_pos rfl]
    · rw [hφ, hI_jS_ne (by omega), (k2.2 37 4 (by omega) (by unfold cpU; omega)).1, hτ, hI_jS_ne (by omega), hB, hI_jS_ne (by omega), hB0, hI_jS (by omega) (by omega) z1.1 z1.2, if_pos rfl]
    · rw [hφ, hI_jS (by omega) (by omega) z2.1 z2.2, if_pos rfl, (k2.2 84 4 (by omega) (by unfold cpU; omega)).1, hτ, hI_jS_ne (by omega), hB, hI_jS_ne (by omega), hB0, hI_jS_ne (by omega)]
end GG

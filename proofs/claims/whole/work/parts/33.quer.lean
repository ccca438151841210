/-! MY OWN: the small questions, both sides -/
theorem r32x (x : Int32) : ∃ a : Int, -2147483648 ≤ a ∧ a < 2147483648 ∧ x = z32 a := ⟨x.toInt, Int32.le_toInt x, Int32.toInt_lt x, (z32_of x).symm⟩
section Q
variable {A σ : zS} {t h k l a b c : Int}
theorem hasT_p (h0 : 0 ≤ t) (h1 : t < vT A) : fX6_hasTunnel A.2.2.2.1 A (z32 t) = z32 1 := by
  have e : hI A (rp A.2.2.2.1 + 0) 1 = vT A := rfl
  have := hI_hi A (rp A.2.2.2.1 + 0) 1
  simp (disch := omega) only [fX6_hasTunnel, z32_add, z32_sub, z32_mul, z32_neg, z32_litn, z32_lt, z32_le, z32_eq, iG_h, lG_h, iS_j, lS_k, aI_h, wI_h, aL_h, wL_h, bnd, bnr_s, bnc_s, ↓reduceIte, ieqT, ieqF, iltT, iltF, ileT, ileF, not_true, not_false_iff, e]
theorem hasT_n (h1 : -2147483648 ≤ t) (h2 : t < 2147483648) (h : ¬ (0 ≤ t ∧ t < vT A)) : fX6_hasTunnel A.2.2.2.1 A (z32 t) = z32 0 := by
  have e : hI A (rp A.2.2.2.1 + 0) 1 = vT A := rfl
  have := hI_hi A (rp A.2.2.2.1 + 0) 1
  have := hI_lo A (rp A.2.2.2.1 + 0) 1
  by_cases h3 : t < 0
  · simp (disch := omega) only [fX6_hasTunnel, z32_add, z32_sub, z32_mul, z32_neg, z32_litn, z32_lt, z32_le, z32_eq, iG_h, lG_h, iS_j, lS_k, aI_h, wI_h, aL_h, wL_h, bnd, bnr_s, bnc_s, ↓reduceIte, ieqT, ieqF, iltT, iltF, ileT, ileF, not_true, not_false_iff, e]
  · simp (disch := omega) only [fX6_hasTunnel, z32_add, z32_sub, z32_mul, z32_neg, z32_litn, z32_lt, z32_le, z32_eq, iG_h, lG_h, iS_j, lS_k, aI_h, wI_h, aL_h, wL_h, bnd, bnr_s, bnc_s, ↓reduceIte, ieqT, ieqF, iltT, iltF, ileT, ileF, not_true, not_false_iff, e]
theorem hasH_p (h0 : 0 ≤ t) (h1 : t < vH A) : fX6_hasHolder A.2.2.2.1 A (z32 t) = z32 1 := by
  have e : hI A (rp A.2.2.2.1 + 0) 2 = vH A := rfl
  have := hI_hi A (rp A.2.2.2.1 + 0) 2
  simp (disch := omega) only [fX6_hasHolder, z32_add, z32_sub, z32_mul, z32_neg, z32_litn, z32_lt, z32_le, z32_eq, iG_h, lG_h, iS_j, lS_k, aI_h, wI_h, aL_h, wL_h, bnd, bnr_s, bnc_s, ↓reduceIte, ieqT, ieqF, iltT, iltF, ileT, ileF, not_true, not_false_iff, e]
theorem hasH_n (h1 : -2147483648 ≤ t) (h2 : t < 2147483648) (h : ¬ (0 ≤ t ∧ t < vH A)) : fX6_hasHolder A.2.2.2.1 A (z32 t) = z32 0 := by
  have e : hI A (rp A.2.2.2.1 + 0) 2 = vH A := rfl
  have := hI_hi A (rp A.2.2.2.1 + 0) 2
  have := hI_lo A (rp A.2.2.2.1 + 0) 2
  by_cases h3 : t < 0
  · simp (disch := omega) only [fX6_hasHolder, z32_add, z32_sub, z32_mul, z32_neg, z32_litn, z32_lt, z32_le, z32_eq, iG_h, lG_h, iS_j, lS_k, aI_h, wI_h, aL_h, wL_h, bnd, bnr_s, bnc_s, ↓reduceIte, ieqT, ieqF, iltT, iltF, ileT, ileF, not_true, not_false_iff, e]
  · simp (disch := omega) only [fX6_hasHolder, z32_add, z32_sub, z32_mul, z32_neg, z32_litn, z32_lt, z32_le, z32_eq, iG_h, lG_h, iS_j, lS_k, aI_h, wI_h, aL_h, wL_h, bnd, bnr_s, bnc_s, ↓reduceIte, ieqT, ieqF, iltT, iltF, ileT, ileF, not_true, not_false_iff, e]
theorem hasB_p (h0 : 0 ≤ h) (h1 : h < vH A) (h2 : 0 ≤ t) (h3 : t < vT A) : fX6_hasBoth A.2.2.2.1 A (z32 h) (z32 t) = z32 1 := by
  simp (disch := omega) only [fX6_hasBoth, hasH_p, hasT_p, z32_add, z32_sub, z32_mul, z32_neg, z32_litn, z32_lt, z32_le, z32_eq, iG_h, lG_h, iS_j, lS_k, aI_h, wI_h, aL_h, wL_h, bnd, bnr_s, bnc_s, ↓reduceIte, ieqT, ieqF, iltT, iltF, ileT, ileF, not_true, not_false_iff]
theorem hasB_nh (h1 : -2147483648 ≤ h) (h2 : h < 2147483648) (h3 : ¬ (0 ≤ h ∧ h < vH A)) : fX6_hasBoth A.2.2.2.1 A (z32 h) (z32 t) = z32 0 := by
  simp (disch := omega) only [fX6_hasBoth, hasH_n h1 h2 h3, z32_add, z32_sub, z32_mul, z32_neg, z32_litn, z32_lt, z32_le, z32_eq, iG_h, lG_h, iS_j, lS_k, aI_h, wI_h, aL_h, wL_h, bnd, bnr_s, bnc_s, ↓reduceIte, ieqT, ieqF, iltT, iltF, ileT, ileF, not_true, not_false_iff]
theorem hasB_nt (h0 : 0 ≤ h) (h1 : h < vH A) (h2 : -2147483648 ≤ t) (h3 : t < 2147483648) (h4 : ¬ (0 ≤ t ∧ t < vT A)) : fX6_hasBoth A.2.2.2.1 A (z32 h) (z32 t) = z32 0 := by
  simp (disch := omega) only [fX6_hasBoth, hasH_p, hasT_n h2 h3 h4, z32_add, z32_sub, z32_mul, z32_neg, z32_litn, z32_lt, z32_le, z32_eq, iG_h, lG_h, iS_j, lS_k, aI_h, wI_h, aL_h, wL_h, bnd, bnr_s, bnc_s, ↓reduceIte, ieqT, ieqF, iltT, iltF, ileT, ileF, not_true, not_false_iff]
theorem isT_p (hR : okR A) (hr : rlR A σ) (h0 : 0 ≤ t) (h1 : t < vT A) : fX11_isTunnel σ (z32 t) = some (z32 1) := by
  obtain ⟨r1, r2, -⟩ := hr
  obtain ⟨h2, -⟩ := hR
  simp (disch := omega) only [fX11_isTunnel, z32_add, z32_sub, z32_mul, z32_neg, z32_litn, z32_lt, z32_le, z32_eq, iG_h, lG_h, iS_j, lS_k, aI_h, wI_h, aL_h, wL_h, bnd, bnr_s, bnc_s, ↓reduceIte, ieqT, ieqF, iltT, iltF, ileT, ileF, not_true, not_false_iff, r2]
theorem isT_n (hR : okR A) (hr : rlR A σ) (h1 : -2147483648 ≤ t) (h2 : t < 2147483648) (h : ¬ (0 ≤ t ∧ t < vT A)) : fX11_isTunnel σ (z32 t) = some (z32 0) := by
  obtain ⟨r1, r2, -⟩ := hr
  obtain ⟨h2, -⟩ := hR
  by_cases h3 : t < 0
  · simp (disch := omega) only [fX11_isTunnel, z32_add, z32_sub, z32_mul, z32_neg, z32_litn, z32_lt, z32_le, z32_eq, iG_h, lG_h, iS_j, lS_k, aI_h, wI_h, aL_h, wL_h, bnd, bnr_s, bnc_s, ↓reduceIte, ieqT, ieqF, iltT, iltF, ileT, ileF, not_true, not_false_iff, r2]
  · simp (disch := omega) only [fX11_isTunnel, z32_add, z32_sub, z32_mul, z32_neg, z32_litn, z32_lt, z32_le, z32_eq, iG_h, lG_h, iS_j, lS_k, aI_h, wI_h, aL_h, wL_h, bnd, bnr_s, bnc_s, ↓reduceIte, ieqT, ieqF, iltT, iltF, ileT, ileF, not_true, not_false_iff, r2]
theorem isH_p (hR : okR A) (hr : rlR A σ) (h0 : 0 ≤ t) (h1 : t < vH A) : fX11_isHolder σ (z32 t) = some (z32 1) := by
  obtain ⟨r1, -, r2, -⟩ := hr
  obtain ⟨-, h2, -⟩ := hR
  simp (disch := omega) only [fX11_isHolder, z32_add, z32_sub, z32_mul, z32_neg, z32_litn, z32_lt, z32_le, z32_eq, iG_h, lG_h, iS_j, lS_k, aI_h, wI_h, aL_h, wL_h, bnd, bnr_s, bnc_s, ↓reduceIte, ieqT, ieqF, iltT, iltF, ileT, ileF, not_true, not_false_iff, r2]
theorem isH_n (hR : okR A) (hr : rlR A σ) (h1 : -2147483648 ≤ t) (h2 : t < 2147483648) (h : ¬ (0 ≤ t ∧ t < vH A)) : fX11_isHolder σ (z32 t) = some (z32 0) := by
  obtain ⟨r1, -, r2, -⟩ := hr
  obtain ⟨-, h2, -⟩ := hR
  by_cases h3 : t < 0
  · simp (disch := omega) only [fX11_isHolder, z32_add, z32_sub, z32_mul, z32_neg, z32_litn, z32_lt, z32_le, z32_eq, iG_h, lG_h, iS_j, lS_k, aI_h, wI_h, aL_h, wL_h, bnd, bnr_s, bnc_s, ↓reduceIte, ieqT, ieqF, iltT, iltF, ileT, ileF, not_true, not_false_iff, r2]
  · simp (disch := omega) only [fX11_isHolder, z32_add, z32_sub, z32_mul, z32_neg, z32_litn, z32_lt, z32_le, z32_eq, iG_h, lG_h, iS_j, lS_k, aI_h, wI_h, aL_h, wL_h, bnd, bnr_s, bnc_s, ↓reduceIte, ieqT, ieqF, iltT, iltF, ileT, ileF, not_true, not_false_iff, r2]
theorem is_p (h1 : b ≤ a) (h2 : a ≤ c) (h3 : -2147483648 ≤ b) (h4 : c < 2147483648) : fX11_is (z32 a) (z32 b) (z32 c) = z32 1 := by
  simp (disch := omega) only [fX11_is, z32_add, z32_sub, z32_mul, z32_neg, z32_litn, z32_lt, z32_le, z32_eq, iG_h, lG_h, iS_j, lS_k, aI_h, wI_h, aL_h, wL_h, bnd, bnr_s, bnc_s, ↓reduceIte, ieqT, ieqF, iltT, iltF, ileT, ileF, not_true, not_false_iff]
theorem is_n (h1 : -2147483648 ≤ a) (h2 : a < 2147483648) (h3 : -2147483648 ≤ b) (h4 : b < 2147483648) (h5 : -2147483648 ≤ c) (h6 : c < 2147483648) (h : ¬ (b ≤ a ∧ a ≤ c)) : fX11_is (z32 a) (z32 b) (z32 c) = z32 0 := by
  by_cases h7 : a < b
  · simp (disch := omega) only [fX11_is, z32_add, z32_sub, z32_mul, z32_neg, z32_litn, z32_lt, z32_le, z32_eq, iG_h, lG_h, iS_j, lS_k, aI_h, wI_h, aL_h, wL_h, bnd, bnr_s, bnc_s, ↓reduceIte, ieqT, ieqF, iltT, iltF, ileT, ileF, not_true, not_false_iff]
  · simp (disch := omega) only [fX11_is, z32_add, z32_sub, z32_mul, z32_neg, z32_litn, z32_lt, z32_le, z32_eq, iG_h, lG_h, iS_j, lS_k, aI_h, wI_h, aL_h, wL_h, bnd, bnr_s, bnc_s, ↓reduceIte, ieqT, ieqF, iltT, iltF, ileT, ileF, not_true, not_false_iff]
-- readers of one value
theorem cLen_z (hR : okR A) (h0 : 0 ≤ t) (h1 : t < vT A) (h2 : 0 ≤ k) (h3 : k < vCnt A t) : fX6_lengthAt A.2.2.2.1 A (z32 t) (z32 k) = some (z32 (vLen A t k)) := by
  obtain ⟨g2, -, -, -, g5, -⟩ := hR
  have := (g5 t h0 h1).2.1
  have e : hI A (rp A.2.2.2.1 + 4) (t * 4 + k) = vLen A t k := rfl
  simp (disch := omega) only [fX6_lengthAt, z32_add, z32_sub, z32_mul, z32_neg, z32_litn, z32_lt, z32_le, z32_eq, iG_h, lG_h, iS_j, lS_k, aI_h, wI_h, aL_h, wL_h, bnd, bnr_s, bnc_s, ↓reduceIte, ieqT, ieqF, iltT, iltF, ileT, ileF, not_true, not_false_iff, e]
theorem cWt_z (hR : okR A) (h0 : 0 ≤ t) (h1 : t < vT A) (h2 : 0 ≤ k) (h3 : k < vCnt A t) : fX6_weightAt A.2.2.2.1 A (z32 t) (z32 k) = some (z32 (vWt A t k)) := by
  obtain ⟨g2, -, -, -, g5, -⟩ := hR
  have := (g5 t h0 h1).2.1
  have e : hI A (rp A.2.2.2.1 + 5) (t * 4 + k) = vWt A t k := rfl
  simp (disch := omega) only [fX6_weightAt, z32_add, z32_sub, z32_mul, z32_neg, z32_litn, z32_lt, z32_le, z32_eq, iG_h, lG_h, iS_j, lS_k, aI_h, wI_h, aL_h, wL_h, bnd, bnr_s, bnc_s, ↓reduceIte, ieqT, ieqF, iltT, iltF, ileT, ileF, not_true, not_false_iff, e]
theorem mLen_z (hR : okR A) (hr : rlR A σ) (h0 : 0 ≤ t) (h1 : t < vT A) (h2 : 0 ≤ k) (h3 : k < vCnt A t) : fX11_lengthAt σ (z32 t) (z32 k) = some (z32 (vLen A t k)) := by
  obtain ⟨g2, -, -, -, g5, -⟩ := hR
  have := (g5 t h0 h1).2.1
  obtain ⟨r1, -, -, -, -, r6, -⟩ := hr
  obtain ⟨-, r8, r9⟩ := r6 t h0 h1
  have e := (r9 k h2 h3).1
  simp (disch := omega) only [fX11_lengthAt, z32_add, z32_sub, z32_mul, z32_neg, z32_litn, z32_lt, z32_le, z32_eq, iG_h, lG_h, iS_j, lS_k, aI_h, wI_h, aL_h, wL_h, bnd, bnr_s, bnc_s, ↓reduceIte, ieqT, ieqF, iltT, iltF, ileT, ileF, not_true, not_false_iff, e]
theorem mWt_z (hR : okR A) (hr : rlR A σ) (h0 : 0 ≤ t) (h1 : t < vT A) (h2 : 0 ≤ k) (h3 : k < vCnt A t) : fX11_weightAt σ (z32 t) (z32 k) = some (z32 (vWt A t k)) := by
  obtain ⟨g2, -, -, -, g5, -⟩ := hR
  have := (g5 t h0 h1).2.1
  obtain ⟨r1, -, -, -, -, r6, -⟩ := hr
  obtain ⟨-, r8, r9⟩ := r6 t h0 h1
  have e := (r9 k h2 h3).2
  simp (disch := omega) only [fX11_weightAt, z32_add, z32_sub, z32_mul, z32_neg, z32_litn, z32_lt, z32_le, z32_eq, iG_h, lG_h, iS_j, lS_k, aI_h, wI_h, aL_h, wL_h, bnd, bnr_s, bnc_s, ↓reduceIte, ieqT, ieqF, iltT, iltF, ileT, ileF, not_true, not_false_iff, e]
theorem mCnt_z (hR : okR A) (hr : rlR A σ) (h0 : 0 ≤ t) (h1 : t < vT A) : fX11_lengthsOf σ (z32 t) = some (z32 (vCnt A t)) := by
  obtain ⟨g2, -, -, -, g5, -⟩ := hR
  obtain ⟨r1, -, -, -, -, r6, -⟩ := hr
  obtain ⟨-, e, -⟩ := r6 t h0 h1
  simp (disch := omega) only [fX11_lengthsOf, z32_add, z32_sub, z32_mul, z32_neg, z32_litn, z32_lt, z32_le, z32_eq, iG_h, lG_h, iS_j, lS_k, aI_h, wI_h, aL_h, wL_h, bnd, bnr_s, bnc_s, ↓reduceIte, ieqT, ieqF, iltT, iltF, ileT, ileF, not_true, not_false_iff, e]
theorem cHold_z (hR : okR A) (hN : okN A) (h0 : 0 ≤ h) (h1 : h < vH A) (h2 : 0 ≤ t) (h3 : t < vT A) (h4 : 0 ≤ l) (h5 : l ≤ 60) : fX4_secondsHeld A (z32 h) (z32 t) (z32 l) = some (z32 (sHold A h t l)) := by
  obtain ⟨g1, g2, -⟩ := hR
  obtain ⟨-, n2⟩ := hN
  obtain ⟨n3, n4, -, n5⟩ := n2 h h0 h1
  have n6 := n5 t h2 h3
  have e1 : hI A 5 (50 + h) = vBr A h := rfl
  have e2 : hI A 5 (56 + h) = vGv A h := rfl
  have e3 : hI A 5 (68 + h * 6 + t) = vTh A h t := rfl
  have e4 : 0 ≤ zmin (vBr A h) (vGv A h) ∧ zmin (vBr A h) (vGv A h) ≤ 60 := by unfold zmin; split <;> omega
  simp (disch := omega) only [fX4_secondsHeld, fX7_breathOf, fX7_givesOf, fX7_thinksOf, z32_add, z32_sub, z32_mul, z32_neg, z32_litn, aI_h, bnr_s, e1, e2, e3, jmin_z, z32_le, sHold]
  split <;> rfl
theorem mHold_z (hR : okR A) (hN : okN A) (hn : rlN A σ) (h0 : 0 ≤ h) (h1 : h < vH A) (h2 : 0 ≤ t) (h3 : t < vT A) (h4 : 0 ≤ l) (h5 : l ≤ 60) : fX11_holdOf σ (z32 h) (z32 t) (z32 l) = some (z32 (sHold A h t l)) := by
  obtain ⟨g1, g2, -⟩ := hR
  obtain ⟨-, n2⟩ := hN
  obtain ⟨n3, n4, -, n5⟩ := n2 h h0 h1
  have n6 := n5 t h2 h3
  obtain ⟨-, r2⟩ := hn
  obtain ⟨e1, e2, -, e3'⟩ := r2 h h0 h1
  have e3 := e3' t h2 h3
  have e4 : 0 ≤ zmin (vBr A h) (vGv A h) ∧ zmin (vBr A h) (vGv A h) ≤ 60 := by unfold zmin; split <;> omega
  simp (disch := omega) only [fX11_holdOf, z32_add, z32_sub, z32_mul, z32_neg, z32_litn, aI_h, bnr_s, e1, e2, e3, mles_z, z32_le, sHold]
  split <;> rfl
theorem sHold_b (hN : okN A) (h0 : 0 ≤ h) (h1 : h < vH A) (h4 : 0 ≤ l) (h5 : l ≤ 60) : 0 ≤ sHold A h t l ∧ sHold A h t l ≤ l := by
  obtain ⟨-, n2⟩ := hN
  obtain ⟨n3, n4, -, n5⟩ := n2 h h0 h1
  unfold sHold zmin
  split <;> (try split) <;> (try split) <;> omega
theorem q_score (hR : okR A) (hr : rlR A σ) (hn : rlN A σ) (h1 : -2147483648 ≤ h) (h2 : h < 2147483648) : ∃ r, fX10_score A (z32 h) = some r ∧ fX11_score σ (z32 h) = some r := by
  by_cases hh : 0 ≤ h ∧ h < vH A
  · obtain ⟨e, -, e3, -⟩ := hn.2 h hh.1 hh.2
    have g2 := hR.2.1
    have e1 : hI A 5 (62 + h) = vSc A h := rfl
    simp (disch := omega) only [fX10_score, fX11_score, hasH_p, isH_p hR hr hh.1 hh.2, fX7_scoreOf, z32_add, z32_sub, z32_mul, z32_neg, z32_litn, z32_lt, z32_le, z32_eq, iG_h, lG_h, iS_j, lS_k, aI_h, wI_h, aL_h, wL_h, bnd, bnr_s, bnc_s, ↓reduceIte, ieqT, ieqF, iltT, iltF, ileT, ileF, not_true, not_false_iff, e1, e3]
    simp
  · simp (disch := omega) only [fX10_score, fX11_score, hasH_n h1 h2 hh, isH_n hR hr h1 h2 hh, z32_add, z32_sub, z32_mul, z32_neg, z32_litn, z32_lt, z32_le, z32_eq, iG_h, lG_h, iS_j, lS_k, aI_h, wI_h, aL_h, wL_h, bnd, bnr_s, bnc_s, ↓reduceIte, ieqT, ieqF, iltT, iltF, ileT, ileF, not_true, not_false_iff]
    simp
theorem q_holds (hR : okR A) (hN : okN A) (hr : rlR A σ) (hn : rlN A σ) (h1 : -2147483648 ≤ h) (h2 : h < 2147483648) (h3 : -2147483648 ≤ t) (h4 : t < 2147483648) (h5 : -2147483648 ≤ l) (h6 : l < 2147483648) : ∃ r, fX10_holds A (z32 h) (z32 t) (z32 l) = some r ∧ fX11_holds σ (z32 h) (z32 t) (z32 l) = some r := by
  by_cases hh : 0 ≤ h ∧ h < vH A
  · by_cases ht : 0 ≤ t ∧ t < vT A
    · by_cases hl : 1 ≤ l ∧ l ≤ 60
      · simp (disch := omega) only [fX10_holds, fX10_isLength, fX11_holds, fX11_canBe, hasB_p, isH_p hR hr, isT_p hR hr, is_p, cHold_z hR hN, mHold_z hR hN hn, z32_add, z32_sub, z32_mul, z32_neg, z32_litn, z32_lt, z32_le, z32_eq, iG_h, lG_h, iS_j, lS_k, aI_h, wI_h, aL_h, wL_h, bnd, bnr_s, bnc_s, ↓reduceIte, ieqT, ieqF, iltT, iltF, ileT, ileF, not_true, not_false_iff]
        simp
      · by_cases hl2 : l < 1
        · simp (disch := omega) only [fX10_holds, fX10_isLength, fX11_holds, fX11_canBe, hasB_p, isH_p hR hr, isT_p hR hr, is_n, z32_add, z32_sub, z32_mul, z32_neg, z32_litn, z32_lt, z32_le, z32_eq, iG_h, lG_h, iS_j, lS_k, aI_h, wI_h, aL_h, wL_h, bnd, bnr_s, bnc_s, ↓reduceIte, ieqT, ieqF, iltT, iltF, ileT, ileF, not_true, not_false_iff]
          simp
        · simp (disch := omega) only [fX10_holds, fX10_isLength, fX11_holds, fX11_canBe, hasB_p, isH_p hR hr, isT_p hR hr, is_n, z32_add, z32_sub, z32_mul, z32_neg, z32_litn, z32_lt, z32_le, z32_eq, iG_h, lG_h, iS_j, lS_k, aI_h, wI_h, aL_h, wL_h, bnd, bnr_s, bnc_s, ↓reduceIte, ieqT, ieqF, iltT, iltF, ileT, ileF, not_true, not_false_iff]
          simp
    · simp (disch := omega) only [fX10_holds, fX11_holds, fX11_canBe, hasB_nt, isH_p hR hr, isT_n hR hr, z32_add, z32_sub, z32_mul, z32_neg, z32_litn, z32_lt, z32_le, z32_eq, iG_h, lG_h, iS_j, lS_k, aI_h, wI_h, aL_h, wL_h, bnd, bnr_s, bnc_s, ↓reduceIte, ieqT, ieqF, iltT, iltF, ileT, ileF, not_true, not_false_iff]
      simp
  · simp (disch := omega) only [fX10_holds, fX11_holds, fX11_canBe, hasB_nh, isH_n hR hr, z32_add, z32_sub, z32_mul, z32_neg, z32_litn, z32_lt, z32_le, z32_eq, iG_h, lG_h, iS_j, lS_k, aI_h, wI_h, aL_h, wL_h, bnd, bnr_s, bnc_s, ↓reduceIte, ieqT, ieqF, iltT, iltF, ileT, ileF, not_true, not_false_iff]
    simp
end Q

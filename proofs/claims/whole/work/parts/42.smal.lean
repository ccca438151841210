/-! MY OWN: small readers; feed, end, seed -/
section U
variable {A σ : zS} {a b c : Int} {oW oT : Option ((Int → Int) → Int)}
theorem Q_tunnel (H : RC oW oT A) (h1 : -2147483648 ≤ a) (h2 : a < 2147483648) (h3 : -2147483648 ≤ b) (h4 : b < 2147483648) : QP oW oT (fun s => fX10_tunnel s (z32 a) (z32 b)) (fun s => fX11_tunnel s (z32 a) (z32 b)) A := by
  have hR := H.1
  by_cases ht : 0 ≤ a ∧ a < vT A
  · have hc := (hR.2.2.2.2.1 a ht.1 ht.2).2.1
    have hT := hR.1
    have e3 : hI A (rp A.2.2.2.1 + 3) a = vCnt A a := rfl
    have e2 : hI A (rp A.2.2.2.1 + 2) a = vGap A a := rfl
    rcases (by omega : b = 0 ∨ b = 1 ∨ b = 2 ∨ (10 ≤ b ∧ b < 10 + vCnt A a) ∨ (20 ≤ b ∧ b < 20 + vCnt A a) ∨ b < 0 ∨ (3 ≤ b ∧ b < 10) ∨ (10 + vCnt A a ≤ b ∧ b < 20) ∨ 20 + vCnt A a ≤ b) with h | h | h | h | h | h | h | h | h
    · subst h
      refine ⟨z32 (vGap A a), ?_, fun σ hm => ?_⟩
      · simp (disch := omega) only [fX10_tunnel, fX10_tunnel_51, fX10_tunnel_76, hasT_p, z32_add, z32_sub, z32_mul, z32_neg, z32_litn, z32_lt, z32_le, z32_eq, iG_h, lG_h, iS_j, lS_k, aI_h, wI_h, aL_h, wL_h, bnd, bnr_s, bnc_s, ↓reduceIte, ieqT, ieqF, iltT, iltF, ileT, ileF, not_true, not_false_iff, e3, e2]
      · have eg := (hm.1.2.2.2.2.2.1 a ht.1 ht.2).1
        have hb := hm.1.1
        simp (disch := omega) only [fX11_tunnel, isT_p hR hm.1, z32_add, z32_sub, z32_mul, z32_neg, z32_litn, z32_lt, z32_le, z32_eq, iG_h, lG_h, iS_j, lS_k, aI_h, wI_h, aL_h, wL_h, bnd, bnr_s, bnc_s, ↓reduceIte, ieqT, ieqF, iltT, iltF, ileT, ileF, not_true, not_false_iff, eg]
    · subst h
      refine ⟨z32 (vCnt A a), ?_, fun σ hm => ?_⟩
      · simp (disch := omega) only [fX10_tunnel, fX10_tunnel_51, fX10_tunnel_76, hasT_p, z32_add, z32_sub, z32_mul, z32_neg, z32_litn, z32_lt, z32_le, z32_eq, iG_h, lG_h, iS_j, lS_k, aI_h, wI_h, aL_h, wL_h, bnd, bnr_s, bnc_s, ↓reduceIte, ieqT, ieqF, iltT, iltF, ileT, ileF, not_true, not_false_iff, e3]
      · simp (disch := omega) only [fX11_tunnel, isT_p hR hm.1, z32_add, z32_sub, z32_mul, z32_neg, z32_litn, z32_lt, z32_le, z32_eq, iG_h, lG_h, iS_j, lS_k, aI_h, wI_h, aL_h, wL_h, bnd, bnr_s, bnc_s, ↓reduceIte, ieqT, ieqF, iltT, iltF, ileT, ileF, not_true, not_false_iff, mCnt_z hR hm.1]
    · subst h
      refine ⟨z32 (sW A a), ?_, fun σ hm => ?_⟩
      · simp (disch := omega) only [fX10_tunnel, fX10_tunnel_51, fX10_tunnel_76, hasT_p, z32_add, z32_sub, z32_mul, z32_neg, z32_litn, z32_lt, z32_le, z32_eq, iG_h, lG_h, iS_j, lS_k, aI_h, wI_h, aL_h, wL_h, bnd, bnr_s, bnc_s, ↓reduceIte, ieqT, ieqF, iltT, iltF, ileT, ileF, not_true, not_false_iff, e3, cW_z hR]
      · simp (disch := omega) only [fX11_tunnel, isT_p hR hm.1, z32_add, z32_sub, z32_mul, z32_neg, z32_litn, z32_lt, z32_le, z32_eq, iG_h, lG_h, iS_j, lS_k, aI_h, wI_h, aL_h, wL_h, bnd, bnr_s, bnc_s, ↓reduceIte, ieqT, ieqF, iltT, iltF, ileT, ileF, not_true, not_false_iff, mW_z hR hm.1]
    · refine ⟨z32 (vLen A a (b - 10)), ?_, fun σ hm => ?_⟩
      · simp (disch := omega) only [fX10_tunnel, hasT_p, z32_add, z32_sub, z32_mul, z32_neg, z32_litn, z32_lt, z32_le, z32_eq, iG_h, lG_h, iS_j, lS_k, aI_h, wI_h, aL_h, wL_h, bnd, bnr_s, bnc_s, ↓reduceIte, ieqT, ieqF, iltT, iltF, ileT, ileF, not_true, not_false_iff, e3, cLen_z hR]
      · simp (disch := omega) only [fX11_tunnel, isT_p hR hm.1, mCnt_z hR hm.1, is_p, z32_add, z32_sub, z32_mul, z32_neg, z32_litn, z32_lt, z32_le, z32_eq, iG_h, lG_h, iS_j, lS_k, aI_h, wI_h, aL_h, wL_h, bnd, bnr_s, bnc_s, ↓reduceIte, ieqT, ieqF, iltT, iltF, ileT, ileF, not_true, not_false_iff, mLen_z hR hm.1]
    · refine ⟨z32 (vWt A a (b - 20)), ?_, fun σ hm => ?_⟩
      · simp (disch := omega) only [fX10_tunnel, fX10_tunnel_51, hasT_p, z32_add, z32_sub, z32_mul, z32_neg, z32_litn, z32_lt, z32_le, z32_eq, iG_h, lG_h, iS_j, lS_k, aI_h, wI_h, aL_h, wL_h, bnd, bnr_s, bnc_s, ↓reduceIte, ieqT, ieqF, iltT, iltF, ileT, ileF, not_true, not_false_iff, e3, cWt_z hR]
      · simp (disch := omega) only [fX11_tunnel, isT_p hR hm.1, mCnt_z hR hm.1, is_p, is_n, z32_add, z32_sub, z32_mul, z32_neg, z32_litn, z32_lt, z32_le, z32_eq, iG_h, lG_h, iS_j, lS_k, aI_h, wI_h, aL_h, wL_h, bnd, bnr_s, bnc_s, ↓reduceIte, ieqT, ieqF, iltT, iltF, ileT, ileF, not_true, not_false_iff, mWt_z hR hm.1]
    all_goals refine ⟨z32 (-1), ?_, fun σ hm => ?_⟩
    · simp (disch := omega) only [fX10_tunnel, fX10_tunnel_51, fX10_tunnel_76, hasT_p, z32_add, z32_sub, z32_mul, z32_neg, z32_litn, z32_lt, z32_le, z32_eq, iG_h, lG_h, iS_j, lS_k, aI_h, wI_h, aL_h, wL_h, bnd, bnr_s, bnc_s, ↓reduceIte, ieqT, ieqF, iltT, iltF, ileT, ileF, not_true, not_false_iff, e3]
    · simp (disch := omega) only [fX11_tunnel, isT_p hR hm.1, mCnt_z hR hm.1, is_p, is_n, z32_add, z32_sub, z32_mul, z32_neg, z32_litn, z32_lt, z32_le, z32_eq, iG_h, lG_h, iS_j, lS_k, aI_h, wI_h, aL_h, wL_h, bnd, bnr_s, bnc_s, ↓reduceIte, ieqT, ieqF, iltT, iltF, ileT, ileF, not_true, not_false_iff]
    · simp (disch := omega) only [fX10_tunnel, fX10_tunnel_51, fX10_tunnel_76, hasT_p, z32_add, z32_sub, z32_mul, z32_neg, z32_litn, z32_lt, z32_le, z32_eq, iG_h, lG_h, iS_j, lS_k, aI_h, wI_h, aL_h, wL_h, bnd, bnr_s, bnc_s, ↓reduceIte, ieqT, ieqF, iltT, iltF, ileT, ileF, not_true, not_false_iff, e3]
    · simp (disch := omega) only [fX11_tunnel, isT_p hR hm.1, mCnt_z hR hm.1, is_p, is_n, z32_add, z32_sub, z32_mul, z32_neg, z32_litn, z32_lt, z32_le, z32_eq, iG_h, lG_h, iS_j, lS_k, aI_h, wI_h, aL_h, wL_h, bnd, bnr_s, bnc_s, ↓reduceIte, ieqT, ieqF, iltT, iltF, ileT, ileF, not_true, not_false_iff]
    · simp (disch := omega) only [fX10_tunnel, fX10_tunnel_51, fX10_tunnel_76, hasT_p, z32_add, z32_sub, z32_mul, z32_neg, z32_litn, z32_lt, z32_le, z32_eq, iG_h, lG_h, iS_j, lS_k, aI_h, wI_h, aL_h, wL_h, bnd, bnr_s, bnc_s, ↓reduceIte, ieqT, ieqF, iltT, iltF, ileT, ileF, not_true, not_false_iff, e3]
    · simp (disch := omega) only [fX11_tunnel, isT_p hR hm.1, mCnt_z hR hm.1, is_p, is_n, z32_add, z32_sub, z32_mul, z32_neg, z32_litn, z32_lt, z32_le, z32_eq, iG_h, lG_h, iS_j, lS_k, aI_h, wI_h, aL_h, wL_h, bnd, bnr_s, bnc_s, ↓reduceIte, ieqT, ieqF, iltT, iltF, ileT, ileF, not_true, not_false_iff]
    · simp (disch := omega) only [fX10_tunnel, fX10_tunnel_51, fX10_tunnel_76, hasT_p, z32_add, z32_sub, z32_mul, z32_neg, z32_litn, z32_lt, z32_le, z32_eq, iG_h, lG_h, iS_j, lS_k, aI_h, wI_h, aL_h, wL_h, bnd, bnr_s, bnc_s, ↓reduceIte, ieqT, ieqF, iltT, iltF, ileT, ileF, not_true, not_false_iff, e3]
    · simp (disch := omega) only [fX11_tunnel, isT_p hR hm.1, mCnt_z hR hm.1, is_p, is_n, z32_add, z32_sub, z32_mul, z32_neg, z32_litn, z32_lt, z32_le, z32_eq, iG_h, lG_h, iS_j, lS_k, aI_h, wI_h, aL_h, wL_h, bnd, bnr_s, bnc_s, ↓reduceIte, ieqT, ieqF, iltT, iltF, ileT, ileF, not_true, not_false_iff]
  · refine ⟨z32 (-1), ?_, fun σ hm => ?_⟩
    · simp (disch := omega) only [fX10_tunnel, hasT_n h1 h2 ht, z32_add, z32_sub, z32_mul, z32_neg, z32_litn, z32_lt, z32_le, z32_eq, iG_h, lG_h, iS_j, lS_k, aI_h, wI_h, aL_h, wL_h, bnd, bnr_s, bnc_s, ↓reduceIte, ieqT, ieqF, iltT, iltF, ileT, ileF, not_true, not_false_iff]
    · simp (disch := omega) only [fX11_tunnel, isT_n hR hm.1, z32_add, z32_sub, z32_mul, z32_neg, z32_litn, z32_lt, z32_le, z32_eq, iG_h, lG_h, iS_j, lS_k, aI_h, wI_h, aL_h, wL_h, bnd, bnr_s, bnc_s, ↓reduceIte, ieqT, ieqF, iltT, iltF, ileT, ileF, not_true, not_false_iff]
theorem Q_holder (H : RC oW oT A) (h1 : -2147483648 ≤ a) (h2 : a < 2147483648) (h3 : -2147483648 ≤ b) (h4 : b < 2147483648) : QP oW oT (fun s => fX10_holder s (z32 a) (z32 b)) (fun s => fX11_holder s (z32 a) (z32 b)) A := by
  have hR := H.1
  by_cases hh : 0 ≤ a ∧ a < vH A
  · have hH := hR.2.1
    have hT := hR.1
    have e1 : hI A (rp A.2.2.2.1 + 0) 1 = vT A := rfl
    have e7 : hI A (rp A.2.2.2.1 + 7) a = vBr0 A a := rfl
    have e8 : hI A (rp A.2.2.2.1 + 8) a = vLau A a := rfl
    have e5 : hI A 5 (50 + a) = vBr A a := rfl
    have e6 : hI A 5 (56 + a) = vGv A a := rfl
    rcases (by omega : b = 0 ∨ b = 1 ∨ b = 2 ∨ b = 3 ∨ (10 ≤ b ∧ b < 10 + vT A) ∨ ((b < 0 ∨ 3 < b) ∧ b < 10) ∨ 10 + vT A ≤ b) with h | h | h | h | h | h | h
    · subst h
      refine ⟨z32 (vBr A a), ?_, fun σ hm => ?_⟩
      · simp (disch := omega) only [fX10_holder, fX10_holder_48, fX7_breathOf, hasH_p, z32_add, z32_sub, z32_mul, z32_neg, z32_litn, z32_lt, z32_le, z32_eq, iG_h, lG_h, iS_j, lS_k, aI_h, wI_h, aL_h, wL_h, bnd, bnr_s, bnc_s, ↓reduceIte, ieqT, ieqF, iltT, iltF, ileT, ileF, not_true, not_false_iff, e1, e5]
      · have eg := (hm.2.1.2 a hh.1 hh.2).1
        simp (disch := omega) only [fX11_holder, isH_p hR hm.1, z32_add, z32_sub, z32_mul, z32_neg, z32_litn, z32_lt, z32_le, z32_eq, iG_h, lG_h, iS_j, lS_k, aI_h, wI_h, aL_h, wL_h, bnd, bnr_s, bnc_s, ↓reduceIte, ieqT, ieqF, iltT, iltF, ileT, ileF, not_true, not_false_iff, eg]
    · subst h
      refine ⟨z32 (vBr0 A a), ?_, fun σ hm => ?_⟩
      · simp (disch := omega) only [fX10_holder, fX10_holder_48, hasH_p, z32_add, z32_sub, z32_mul, z32_neg, z32_litn, z32_lt, z32_le, z32_eq, iG_h, lG_h, iS_j, lS_k, aI_h, wI_h, aL_h, wL_h, bnd, bnr_s, bnc_s, ↓reduceIte, ieqT, ieqF, iltT, iltF, ileT, ileF, not_true, not_false_iff, e1, e7]
      · have eg := (hm.1.2.2.2.2.2.2 a hh.1 hh.2).1
        have hb := hm.1.1
        simp (disch := omega) only [fX11_holder, isH_p hR hm.1, z32_add, z32_sub, z32_mul, z32_neg, z32_litn, z32_lt, z32_le, z32_eq, iG_h, lG_h, iS_j, lS_k, aI_h, wI_h, aL_h, wL_h, bnd, bnr_s, bnc_s, ↓reduceIte, ieqT, ieqF, iltT, iltF, ileT, ileF, not_true, not_false_iff, eg]
    · subst h
      refine ⟨z32 (vLau A a), ?_, fun σ hm => ?_⟩
      · simp (disch := omega) only [fX10_holder, fX10_holder_48, hasH_p, z32_add, z32_sub, z32_mul, z32_neg, z32_litn, z32_lt, z32_le, z32_eq, iG_h, lG_h, iS_j, lS_k, aI_h, wI_h, aL_h, wL_h, bnd, bnr_s, bnc_s, ↓reduceIte, ieqT, ieqF, iltT, iltF, ileT, ileF, not_true, not_false_iff, e1, e8]
      · have eg := (hm.1.2.2.2.2.2.2 a hh.1 hh.2).2
        have hb := hm.1.1
        simp (disch := omega) only [fX11_holder, isH_p hR hm.1, z32_add, z32_sub, z32_mul, z32_neg, z32_litn, z32_lt, z32_le, z32_eq, iG_h, lG_h, iS_j, lS_k, aI_h, wI_h, aL_h, wL_h, bnd, bnr_s, bnc_s, ↓reduceIte, ieqT, ieqF, iltT, iltF, ileT, ileF, not_true, not_false_iff, eg]
    · subst h
      refine ⟨z32 (vGv A a), ?_, fun σ hm => ?_⟩
      · simp (disch := omega) only [fX10_holder, fX10_holder_48, fX7_givesOf, hasH_p, z32_add, z32_sub, z32_mul, z32_neg, z32_litn, z32_lt, z32_le, z32_eq, iG_h, lG_h, iS_j, lS_k, aI_h, wI_h, aL_h, wL_h, bnd, bnr_s, bnc_s, ↓reduceIte, ieqT, ieqF, iltT, iltF, ileT, ileF, not_true, not_false_iff, e1, e6]
      · have eg := (hm.2.1.2 a hh.1 hh.2).2.1
        simp (disch := omega) only [fX11_holder, isH_p hR hm.1, z32_add, z32_sub, z32_mul, z32_neg, z32_litn, z32_lt, z32_le, z32_eq, iG_h, lG_h, iS_j, lS_k, aI_h, wI_h, aL_h, wL_h, bnd, bnr_s, bnc_s, ↓reduceIte, ieqT, ieqF, iltT, iltF, ileT, ileF, not_true, not_false_iff, eg]
    · have eT : hI A 5 (68 + a * 6 + (b - 10)) = vTh A a (b - 10) := rfl
      refine ⟨z32 (vTh A a (b - 10)), ?_, fun σ hm => ?_⟩
      · simp (disch := omega) only [fX10_holder, fX7_thinksOf, hasH_p, z32_add, z32_sub, z32_mul, z32_neg, z32_litn, z32_lt, z32_le, z32_eq, iG_h, lG_h, iS_j, lS_k, aI_h, wI_h, aL_h, wL_h, bnd, bnr_s, bnc_s, ↓reduceIte, ieqT, ieqF, iltT, iltF, ileT, ileF, not_true, not_false_iff, e1, eT]
      · have eg := (hm.2.1.2 a hh.1 hh.2).2.2.2 (b - 10) (by omega) (by omega)
        rw [show 6 * a + (b - 10) = 6 * a + b - 10 by omega] at eg
        simp (disch := omega) only [fX11_holder, isH_p hR hm.1, isT_p hR hm.1, z32_add, z32_sub, z32_mul, z32_neg, z32_litn, z32_lt, z32_le, z32_eq, iG_h, lG_h, iS_j, lS_k, aI_h, wI_h, aL_h, wL_h, bnd, bnr_s, bnc_s, ↓reduceIte, ieqT, ieqF, iltT, iltF, ileT, ileF, not_true, not_false_iff, eg]
    · refine ⟨z32 (-1), ?_, fun σ hm => ?_⟩
      · simp (disch := omega) only [fX10_holder, fX10_holder_48, hasH_p, z32_add, z32_sub, z32_mul, z32_neg, z32_litn, z32_lt, z32_le, z32_eq, iG_h, lG_h, iS_j, lS_k, aI_h, wI_h, aL_h, wL_h, bnd, bnr_s, bnc_s, ↓reduceIte, ieqT, ieqF, iltT, iltF, ileT, ileF, not_true, not_false_iff, e1]
      · by_cases hb : -2147483638 ≤ b
        · simp (disch := omega) only [fX11_holder, isH_p hR hm.1, isT_n hR hm.1, z32_add, z32_sub, z32_mul, z32_neg, z32_litn, z32_lt, z32_le, z32_eq, iG_h, lG_h, iS_j, lS_k, aI_h, wI_h, aL_h, wL_h, bnd, bnr_s, bnc_s, ↓reduceIte, ieqT, ieqF, iltT, iltF, ileT, ileF, not_true, not_false_iff]
        · have ew : z32 b - z32 10 = z32 (b - 10 + 4294967296) := by
            rw [z32_sub]
            apply Int32.toInt_inj.1
            rw [z32_int (a := b - 10 + 4294967296) (by omega) (by omega)]
            show (Int32.ofInt (b - 10)).toInt = _
            rw [Int32.toInt_ofInt, show Int32.size = 4294967296 from rfl, Int.bmod_def]
            omega
          simp (disch := omega) only [fX11_holder, isH_p hR hm.1, z32_litn, z32_lt, z32_le, z32_eq, ↓reduceIte, ieqT, ieqF, iltT, iltF, ileT, ileF, not_true, not_false_iff, bnr_s, ew, isT_n hR hm.1, z32_neg]
    · refine ⟨z32 (-1), ?_, fun σ hm => ?_⟩
      · simp (disch := omega) only [fX10_holder, fX10_holder_48, hasH_p, z32_add, z32_sub, z32_mul, z32_neg, z32_litn, z32_lt, z32_le, z32_eq, iG_h, lG_h, iS_j, lS_k, aI_h, wI_h, aL_h, wL_h, bnd, bnr_s, bnc_s, ↓reduceIte, ieqT, ieqF, iltT, iltF, ileT, ileF, not_true, not_false_iff, e1]
      · simp (disch := omega) only [fX11_holder, isH_p hR hm.1, isT_n hR hm.1, z32_add, z32_sub, z32_mul, z32_neg, z32_litn, z32_lt, z32_le, z32_eq, iG_h, lG_h, iS_j, lS_k, aI_h, wI_h, aL_h, wL_h, bnd, bnr_s, bnc_s, ↓reduceIte, ieqT, ieqF, iltT, iltF, ileT, ileF, not_true, not_false_iff]
  · refine ⟨z32 (-1), ?_, fun σ hm => ?_⟩
    · simp (disch := omega) only [fX10_holder, hasH_n h1 h2 hh, z32_add, z32_sub, z32_mul, z32_neg, z32_litn, z32_lt, z32_le, z32_eq, iG_h, lG_h, iS_j, lS_k, aI_h, wI_h, aL_h, wL_h, bnd, bnr_s, bnc_s, ↓reduceIte, ieqT, ieqF, iltT, iltF, ileT, ileF, not_true, not_false_iff]
    · simp (disch := omega) only [fX11_holder, isH_n hR hm.1, z32_add, z32_sub, z32_mul, z32_neg, z32_litn, z32_lt, z32_le, z32_eq, iG_h, lG_h, iS_j, lS_k, aI_h, wI_h, aL_h, wL_h, bnd, bnr_s, bnc_s, ↓reduceIte, ieqT, ieqF, iltT, iltF, ileT, ileF, not_true, not_false_iff]
theorem Q_has (H : RC oW oT A) (hm : RM oW oT A σ) (hk : rowK (gNow A) σ 0) (hh : rlH A σ) (hs : rlS A σ) (h1 : -2147483648 ≤ a) (h2 : a < 2147483648) : ∃ r, fX10_has A (z32 a) = some r ∧ fX11_has σ (z32 a) = some r := by
  have e1 : hI A (rp A.2.2.2.1 + 0) 1 = vT A := rfl
  have e2 : hI A (rp A.2.2.2.1 + 0) 2 = vH A := rfl
  have e3 : hI A (rp A.2.2.2.1 + 0) 3 = vSeen A := rfl
  have e4 : hI A (rp A.2.2.2.1 + 0) 4 = vFine A := rfl
  have e5 : hI A 5 0 = vNext A := rfl
  obtain ⟨m1, m2, m3, m4, m5, -, -⟩ := hm.1
  have n1 := hm.2.1.1
  have k1 := hk.1
  have k2 := hk.2.1
  have e6 : gNow A 1 = hI A 5 1 := rfl
  rw [e6] at k1 k2
  have s2 := hI_hi A 1 10
  rcases (by omega : a = 0 ∨ a = 1 ∨ a = 2 ∨ a = 3 ∨ a = 4 ∨ a = 5 ∨ a = 6 ∨ a = 7 ∨ (a < 0 ∨ 7 < a)) with h | h | h | h | h | h | h | h | h
  · subst h; refine ⟨z32 (vT A), ?_, ?_⟩ <;> simp (disch := omega) only [fX10_has, fX11_has, z32_add, z32_sub, z32_mul, z32_neg, z32_litn, z32_lt, z32_le, z32_eq, iG_h, lG_h, iS_j, lS_k, aI_h, wI_h, aL_h, wL_h, bnd, bnr_s, bnc_s, ↓reduceIte, ieqT, ieqF, iltT, iltF, ileT, ileF, not_true, not_false_iff, e1, m2]
  · subst h; refine ⟨z32 (vH A), ?_, ?_⟩ <;> simp (disch := omega) only [fX10_has, fX11_has, z32_add, z32_sub, z32_mul, z32_neg, z32_litn, z32_lt, z32_le, z32_eq, iG_h, lG_h, iS_j, lS_k, aI_h, wI_h, aL_h, wL_h, bnd, bnr_s, bnc_s, ↓reduceIte, ieqT, ieqF, iltT, iltF, ileT, ileF, not_true, not_false_iff, e2, m3]
  · subst h; refine ⟨z32 (vSeen A), ?_, ?_⟩ <;> simp (disch := omega) only [fX10_has, fX11_has, z32_add, z32_sub, z32_mul, z32_neg, z32_litn, z32_lt, z32_le, z32_eq, iG_h, lG_h, iS_j, lS_k, aI_h, wI_h, aL_h, wL_h, bnd, bnr_s, bnc_s, ↓reduceIte, ieqT, ieqF, iltT, iltF, ileT, ileF, not_true, not_false_iff, e3, m4]
  · subst h; refine ⟨z32 (vFine A), ?_, ?_⟩ <;> simp (disch := omega) only [fX10_has, fX11_has, z32_add, z32_sub, z32_mul, z32_neg, z32_litn, z32_lt, z32_le, z32_eq, iG_h, lG_h, iS_j, lS_k, aI_h, wI_h, aL_h, wL_h, bnd, bnr_s, bnc_s, ↓reduceIte, ieqT, ieqF, iltT, iltF, ileT, ileF, not_true, not_false_iff, e4, m5]
  · subst h; refine ⟨z32 (vNext A), ?_, ?_⟩ <;> simp (disch := omega) only [fX10_has, fX7_nextTunnel, fX11_has, z32_add, z32_sub, z32_mul, z32_neg, z32_litn, z32_lt, z32_le, z32_eq, iG_h, lG_h, iS_j, lS_k, aI_h, wI_h, aL_h, wL_h, bnd, bnr_s, bnc_s, ↓reduceIte, ieqT, ieqF, iltT, iltF, ileT, ileF, not_true, not_false_iff, e5, n1]
  · subst h; refine ⟨z32 (zmin 48 (hI A 5 1)), ?_, ?_⟩ <;> simp (disch := omega) only [fX10_has, fX7_keptCount, fX11_has, z32_add, z32_sub, z32_mul, z32_neg, z32_litn, z32_lt, z32_le, z32_eq, iG_h, lG_h, iS_j, lS_k, aI_h, wI_h, aL_h, wL_h, bnd, bnr_s, bnc_s, ↓reduceIte, ieqT, ieqF, iltT, iltF, ileT, ileF, not_true, not_false_iff, jmin_z, k2]
  · subst h; refine ⟨z32 (hI A 6 2), ?_, ?_⟩ <;> simp (disch := omega) only [fX10_has, fX11_has, z32_add, z32_sub, z32_mul, z32_neg, z32_litn, z32_lt, z32_le, z32_eq, iG_h, lG_h, iS_j, lS_k, aI_h, wI_h, aL_h, wL_h, bnd, bnr_s, bnc_s, ↓reduceIte, ieqT, ieqF, iltT, iltF, ileT, ileF, not_true, not_false_iff, hh.2.2.1]
  · subst h; refine ⟨z32 (hI A 1 10), ?_, ?_⟩ <;> simp (disch := omega) only [fX10_has, fX11_has, z32_add, z32_sub, z32_mul, z32_neg, z32_litn, z32_lt, z32_le, z32_eq, iG_h, lG_h, iS_j, lS_k, aI_h, wI_h, aL_h, wL_h, bnd, bnr_s, bnc_s, ↓reduceIte, ieqT, ieqF, iltT, iltF, ileT, ileF, not_true, not_false_iff, hs.1, z64_32]
  · refine ⟨z32 (-1), ?_, ?_⟩ <;> simp (disch := omega) only [fX10_has, fX11_has, z32_add, z32_sub, z32_mul, z32_neg, z32_litn, z32_lt, z32_le, z32_eq, iG_h, lG_h, iS_j, lS_k, aI_h, wI_h, aL_h, wL_h, bnd, bnr_s, bnc_s, ↓reduceIte, ieqT, ieqF, iltT, iltF, ileT, ileF, not_true, not_false_iff]
theorem Q_status (hf : rlF A σ) (h1 : -2147483648 ≤ a) (h2 : a < 2147483648) : ∃ r, fX10_status A (z32 a) = some r ∧ fX11_status σ (z32 a) = some r := by
  by_cases h : 0 ≤ a ∧ a < 5
  · have e := hf a h.1 h.2
    refine ⟨z32 (hI A 37 a), ?_, ?_⟩ <;> simp (disch := omega) only [fX10_status, fX11_status, is_p, z32_add, z32_sub, z32_mul, z32_neg, z32_litn, z32_lt, z32_le, z32_eq, iG_h, lG_h, iS_j, lS_k, aI_h, wI_h, aL_h, wL_h, bnd, bnr_s, bnc_s, ↓reduceIte, ieqT, ieqF, iltT, iltF, ileT, ileF, not_true, not_false_iff, e]
  · refine ⟨z32 (-1), ?_, ?_⟩
    · by_cases h3 : a < 0
      · simp (disch := omega) only [fX10_status, z32_add, z32_sub, z32_mul, z32_neg, z32_litn, z32_lt, z32_le, z32_eq, iG_h, lG_h, iS_j, lS_k, aI_h, wI_h, aL_h, wL_h, bnd, bnr_s, bnc_s, ↓reduceIte, ieqT, ieqF, iltT, iltF, ileT, ileF, not_true, not_false_iff]
      · simp (disch := omega) only [fX10_status, z32_add, z32_sub, z32_mul, z32_neg, z32_litn, z32_lt, z32_le, z32_eq, iG_h, lG_h, iS_j, lS_k, aI_h, wI_h, aL_h, wL_h, bnd, bnr_s, bnc_s, ↓reduceIte, ieqT, ieqF, iltT, iltF, ileT, ileF, not_true, not_false_iff]
    · simp (disch := omega) only [fX11_status, is_n, z32_add, z32_sub, z32_mul, z32_neg, z32_litn, z32_lt, z32_le, z32_eq, iG_h, lG_h, iS_j, lS_k, aI_h, wI_h, aL_h, wL_h, bnd, bnr_s, bnc_s, ↓reduceIte, ieqT, ieqF, iltT, iltF, ileT, ileF, not_true, not_false_iff]
theorem Q_fault (hu : rlU A σ) (x : Int32) : fX10_fault A x = fX11_fault σ x := by
  have e1 : iG A 54 9 = iG σ 56 10 := Int32.toInt_inj.1 hu.1.symm
  have e2 : iG A 54 10 = iG σ 56 11 := Int32.toInt_inj.1 hu.2.symm
  unfold fX10_fault fX11_fault
  rw [e1, e2]
theorem Q_octet (hp : rlP A σ) (h1 : -2147483648 ≤ a) (h2 : a < 2147483648) : ∃ r, fX10_octet A (z32 a) = some r ∧ fX11_octet σ (z32 a) = some r := by
  obtain ⟨p1, p2, p3⟩ := hp
  by_cases h : 0 ≤ a ∧ a < hI A 35 1
  · have e := p3 a h.1 h.2
    refine ⟨z32 (hI A 36 a), ?_, ?_⟩ <;> simp (disch := omega) only [fX10_octet, fX11_octet, is_p, z32_add, z32_sub, z32_mul, z32_neg, z32_litn, z32_lt, z32_le, z32_eq, iG_h, lG_h, iS_j, lS_k, aI_h, wI_h, aL_h, wL_h, bnd, bnr_s, bnc_s, ↓reduceIte, ieqT, ieqF, iltT, iltF, ileT, ileF, not_true, not_false_iff, p1, e]
  · refine ⟨z32 (-1), ?_, ?_⟩
    · by_cases h3 : a < 0
      · simp (disch := omega) only [fX10_octet, z32_add, z32_sub, z32_mul, z32_neg, z32_litn, z32_lt, z32_le, z32_eq, iG_h, lG_h, iS_j, lS_k, aI_h, wI_h, aL_h, wL_h, bnd, bnr_s, bnc_s, ↓reduceIte, ieqT, ieqF, iltT, iltF, ileT, ileF, not_true, not_false_iff]
      · simp (disch := omega) only [fX10_octet, z32_add, z32_sub, z32_mul, z32_neg, z32_litn, z32_lt, z32_le, z32_eq, iG_h, lG_h, iS_j, lS_k, aI_h, wI_h, aL_h, wL_h, bnd, bnr_s, bnc_s, ↓reduceIte, ieqT, ieqF, iltT, iltF, ileT, ileF, not_true, not_false_iff]
    · simp (disch := omega) only [fX11_octet, is_n, z32_add, z32_sub, z32_mul, z32_neg, z32_litn, z32_lt, z32_le, z32_eq, iG_h, lG_h, iS_j, lS_k, aI_h, wI_h, aL_h, wL_h, bnd, bnr_s, bnc_s, ↓reduceIte, ieqT, ieqF, iltT, iltF, ileT, ileF, not_true, not_false_iff, p1]
theorem kp_z {w p : Int} (h0 : 0 ≤ w) (h1 : w < 2147483648) (hp : 0 ≤ p) (hp' : p ≤ 3) : (z32 w >>> ((24 - (8 * z32 p)) &&& 31)) &&& 255 = z32 (w / (if p = 0 then 16777216 else if p = 1 then 65536 else if p = 2 then 256 else 1) % 256) := by
  obtain ⟨n, rfl⟩ := Int.eq_ofNat_of_zero_le h0
  rw [show z32 (n : Int) = nI n from (z32_ofNat n).symm]
  rcases (by omega : p = 0 ∨ p = 1 ∨ p = 2 ∨ p = 3) with h | h | h | h <;> subst h
  · rw [pk_shrN (by omega) _ 24 (by decide), pk_andN (by omega) 8 (by decide)]
    exact z32_ofNat _
  · rw [pk_shrN (by omega) _ 16 (by decide), pk_andN (by omega) 8 (by decide)]
    exact z32_ofNat _
  · rw [pk_shrN (by omega) _ 8 (by decide), pk_andN (by omega) 8 (by decide)]
    exact z32_ofNat _
  · rw [pk_shrN (by omega) _ 0 (by decide), pk_andN (by omega) 8 (by decide)]
    exact z32_ofNat _
theorem Q_kept (hk : rowK (gNow A) σ 0) (h1 : -2147483648 ≤ a) (h2 : a < 2147483648) (h3 : -2147483648 ≤ b) (h4 : b < 2147483648) : ∃ r, fX10_kept A (z32 a) (z32 b) = some r ∧ fX11_kept σ (z32 a) (z32 b) = some r := by
  obtain ⟨k1, k2, k3⟩ := hk
  simp only [gNow, Int.mul_zero, Int.zero_add] at k1 k2 k3
  have hz : 0 ≤ zmin 48 (hI A 5 1) ∧ zmin 48 (hI A 5 1) ≤ 48 ∧ zmin 48 (hI A 5 1) ≤ hI A 5 1 := by unfold zmin; split <;> omega
  by_cases h : 0 ≤ a ∧ a < zmin 48 (hI A 5 1)
  · by_cases hb : 0 ≤ b ∧ b ≤ 3
    · obtain ⟨j1, j2, j3, j4, j5⟩ := k3 a h.1 h.2
      have ec : fX10_kept A (z32 a) (z32 b) = some (z32 (hI A 5 (2 + (hI A 5 1 - zmin 48 (hI A 5 1) + a) % 48) / (if b = 0 then 16777216 else if b = 1 then 65536 else if b = 2 then 256 else 1) % 256)) := by
        have kp := kp_z (w := hI A 5 (2 + (hI A 5 1 - zmin 48 (hI A 5 1) + a) % 48)) (p := b) (by omega) (by omega) hb.1 hb.2
        rw [← kp]
        simp (disch := omega) only [fX10_kept, fX7_keptCount, fX7_keptPart, z32_add, z32_sub, z32_mul, z32_neg, z32_litn, z32_lt, z32_le, z32_eq, iG_h, lG_h, iS_j, lS_k, aI_h, wI_h, aL_h, wL_h, bnd, bnr_s, bnc_s, ↓reduceIte, ieqT, ieqF, iltT, iltF, ileT, ileF, not_true, not_false_iff, jmin_z, z32_rem]
      rw [ec, j1]
      rcases (by omega : b = 0 ∨ b = 1 ∨ b = 2 ∨ b = 3) with g | g | g | g <;> subst g
      · refine ⟨z32 (hI σ 91 a), ?_, ?_⟩
        · simp (disch := omega) only [↓reduceIte, ieqT, ieqF, iltT, iltF, ileT, ileF, not_true, not_false_iff]
          congr 2
          omega
        · simp (disch := omega) only [fX11_kept, is_p, z32_add, z32_sub, z32_mul, z32_neg, z32_litn, z32_lt, z32_le, z32_eq, iG_h, lG_h, iS_j, lS_k, aI_h, wI_h, aL_h, wL_h, bnd, bnr_s, bnc_s, ↓reduceIte, ieqT, ieqF, iltT, iltF, ileT, ileF, not_true, not_false_iff, k2]
      · refine ⟨z32 (hI σ 92 a), ?_, ?_⟩
        · simp (disch := omega) only [↓reduceIte, ieqT, ieqF, iltT, iltF, ileT, ileF, not_true, not_false_iff]
          congr 2
          omega
        · simp (disch := omega) only [fX11_kept, is_p, z32_add, z32_sub, z32_mul, z32_neg, z32_litn, z32_lt, z32_le, z32_eq, iG_h, lG_h, iS_j, lS_k, aI_h, wI_h, aL_h, wL_h, bnd, bnr_s, bnc_s, ↓reduceIte, ieqT, ieqF, iltT, iltF, ileT, ileF, not_true, not_false_iff, k2]
      · refine ⟨z32 (hI σ 93 a), ?_, ?_⟩
        · simp (disch := omega) only [↓reduceIte, ieqT, ieqF, iltT, iltF, ileT, ileF, not_true, not_false_iff]
          congr 2
          omega
        · simp (disch := omega) only [fX11_kept, is_p, z32_add, z32_sub, z32_mul, z32_neg, z32_litn, z32_lt, z32_le, z32_eq, iG_h, lG_h, iS_j, lS_k, aI_h, wI_h, aL_h, wL_h, bnd, bnr_s, bnc_s, ↓reduceIte, ieqT, ieqF, iltT, iltF, ileT, ileF, not_true, not_false_iff, k2]
      · refine ⟨z32 (hI σ 94 a), ?_, ?_⟩
        · simp (disch := omega) only [↓reduceIte, ieqT, ieqF, iltT, iltF, ileT, ileF, not_true, not_false_iff]
          congr 2
          omega
        · simp (disch := omega) only [fX11_kept, is_p, z32_add, z32_sub, z32_mul, z32_neg, z32_litn, z32_lt, z32_le, z32_eq, iG_h, lG_h, iS_j, lS_k, aI_h, wI_h, aL_h, wL_h, bnd, bnr_s, bnc_s, ↓reduceIte, ieqT, ieqF, iltT, iltF, ileT, ileF, not_true, not_false_iff, k2]
    · refine ⟨z32 (-1), ?_, ?_⟩
      · by_cases g : b < 0
        · simp (disch := omega) only [fX10_kept, fX7_keptCount, fX7_keptPart, z32_add, z32_sub, z32_mul, z32_neg, z32_litn, z32_lt, z32_le, z32_eq, iG_h, lG_h, iS_j, lS_k, aI_h, wI_h, aL_h, wL_h, bnd, bnr_s, bnc_s, ↓reduceIte, ieqT, ieqF, iltT, iltF, ileT, ileF, not_true, not_false_iff, jmin_z]
        · simp (disch := omega) only [fX10_kept, fX7_keptCount, fX7_keptPart, z32_add, z32_sub, z32_mul, z32_neg, z32_litn, z32_lt, z32_le, z32_eq, iG_h, lG_h, iS_j, lS_k, aI_h, wI_h, aL_h, wL_h, bnd, bnr_s, bnc_s, ↓reduceIte, ieqT, ieqF, iltT, iltF, ileT, ileF, not_true, not_false_iff, jmin_z]
      · simp (disch := omega) only [fX11_kept, is_p, is_n, z32_add, z32_sub, z32_mul, z32_neg, z32_litn, z32_lt, z32_le, z32_eq, iG_h, lG_h, iS_j, lS_k, aI_h, wI_h, aL_h, wL_h, bnd, bnr_s, bnc_s, ↓reduceIte, ieqT, ieqF, iltT, iltF, ileT, ileF, not_true, not_false_iff, k2]
  · refine ⟨z32 (-1), ?_, ?_⟩
    · by_cases g : a < 0
      · simp (disch := omega) only [fX10_kept, z32_add, z32_sub, z32_mul, z32_neg, z32_litn, z32_lt, z32_le, z32_eq, iG_h, lG_h, iS_j, lS_k, aI_h, wI_h, aL_h, wL_h, bnd, bnr_s, bnc_s, ↓reduceIte, ieqT, ieqF, iltT, iltF, ileT, ileF, not_true, not_false_iff]
      · simp (disch := omega) only [fX10_kept, fX7_keptCount, z32_add, z32_sub, z32_mul, z32_neg, z32_litn, z32_lt, z32_le, z32_eq, iG_h, lG_h, iS_j, lS_k, aI_h, wI_h, aL_h, wL_h, bnd, bnr_s, bnc_s, ↓reduceIte, ieqT, ieqF, iltT, iltF, ileT, ileF, not_true, not_false_iff, jmin_z]
    · simp (disch := omega) only [fX11_kept, is_n, z32_add, z32_sub, z32_mul, z32_neg, z32_litn, z32_lt, z32_le, z32_eq, iG_h, lG_h, iS_j, lS_k, aI_h, wI_h, aL_h, wL_h, bnd, bnr_s, bnc_s, ↓reduceIte, ieqT, ieqF, iltT, iltF, ileT, ileF, not_true, not_false_iff, k2]
end U

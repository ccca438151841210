/-! MY OWN: alone, on: both sides -/
def QK (oW oT : Option ((Int → Int) → Int)) (f g : zS → Option (Int32 × zS)) (A : zS) : Prop := ∃ r B, f A = some (r, B) ∧ fP A B ∧ KPp oW oT A B ∧ ∀ σ, RM oW oT A σ → ∃ τ, g σ = some (r, τ) ∧ qM σ τ
section AO
variable {A B σ τ υ : zS} {oW oT : Option ((Int → Int) → Int)} {t br s k l t0 h a b c : Int} {R : Int → Int} {T : Nat → Int} {n m : Nat}
theorem TT1 (h0 : 0 ≤ t0) (h1 : t0 < vT A) : TT A t0 1 0 = t0 := by
  unfold TT
  rw [show t0 + (((1 : Nat) : Int) - 1 - ((0 : Nat) : Int)) = t0 by omega]
  exact Int.emod_eq_of_lt h0 h1
theorem pl1 (h0 : 0 ≤ t0) (h1 : t0 < vT A) : pS oW oT A t0 1 br = am (sAl oW A t0 br) br ∧ vR oW oT A (TT A t0 1) 1 br = sAl oW A t0 br (am (sAl oW A t0 br) br) ∧ wR A (TT A t0 1) 1 = sW A t0 := by
  have e : sS oW oT A (wR A (TT A t0 1) 0) (vR oW oT A (TT A t0 1) 0) (TT A t0 1 0) br = sAl oW A t0 br := by
    rw [TT1 h0 h1]
    exact sAl_S
  refine ⟨?_, ?_, ?_⟩
  · show am (sS oW oT A (wR A (TT A t0 1) 0) (vR oW oT A (TT A t0 1) 0) (TT A t0 1 0) br) br = _
    rw [e]
  · show sS oW oT A (wR A (TT A t0 1) 0) (vR oW oT A (TT A t0 1) 0) (TT A t0 1 0) br (am (sS oW oT A (wR A (TT A t0 1) 0) (vR oW oT A (TT A t0 1) 0) (TT A t0 1 0) br) br) = _
    rw [e]
  · show 1 * sW A (TT A t0 1 0) = sW A t0
    rw [TT1 h0 h1, Int.one_mul]
theorem KPp_p (h : PLD oW oT A B t0 n br) (h0 : 0 ≤ t0) (h1 : t0 < vT A) (hn : 1 ≤ n) (hn' : n ≤ 4) (hb : 0 ≤ br ∧ br ≤ 60) : KPp oW oT A B := Or.inr ⟨t0, n, br, ⟨h0, h1⟩, ⟨hn, hn'⟩, hb, h⟩
theorem Q_alone (H : RC oW oT A) (hk : KPp oW oT A A) (h1 : -2147483648 ≤ a) (h2 : a < 2147483648) (h3 : -2147483648 ≤ b) (h4 : b < 2147483648) (h5 : -2147483648 ≤ c) (h6 : c < 2147483648) : QK oW oT (fX10_alone (z32 a) (z32 b) (z32 c)) (fX11_alone (z32 a) (z32 b) (z32 c)) A := by
  have hR := H.1
  have hN := H.2.1
  by_cases hh : 0 ≤ a ∧ a < vH A
  · by_cases ht : 0 ≤ b ∧ b < vT A
    · by_cases hc : 0 ≤ c ∧ c ≤ 1
      · have hbr := (hN.2 a hh.1 hh.2).1
        have hH := hR.2.1
        have e5 : hI A 5 (50 + a) = vBr A a := rfl
        obtain ⟨B, b1, b2, b3⟩ := plan_z (n := 1) (br := vBr A a) hR H.2.2.1 H.2.2.2 hk ht.1 ht.2 (by omega) (by omega) hbr
        have hKP := KPp_p b3 ht.1 ht.2 (by omega) (by omega) hbr
        obtain ⟨p1, p2, p3⟩ := pl1 (oW := oW) (oT := oT) (A := A) (br := vBr A a) ht.1 ht.2
        obtain ⟨-, -, -, c4, c5, c6⟩ := b3
        rw [p1] at c4
        rw [p2] at c5
        rw [p3] at c6
        have b1' : fX0_plan (z32 b) (z32 1) (z32 (vBr A a)) A = some B := b1
        have sb := sAl_p (oW := oW) (s := am (sAl oW A b (vBr A a)) (vBr A a)) hR ht.1 ht.2 hbr (k := vCnt A b) (by have := (hR.2.2.2.2.1 b ht.1 ht.2).2.1; omega) (Int.le_refl _)
        rw [show zs (fun k => vWt A b k * sWA oW A b (vLen A b k) (zmin (vLen A b k) (am (sAl oW A b (vBr A a)) (vBr A a))) (vBr A a)) (vCnt A b) = sAl oW A b (vBr A a) (am (sAl oW A b (vBr A a)) (vBr A a)) from rfl] at sb
        have wb := sW_b hR ht.1 ht.2
        by_cases g : c = 0
        · refine ⟨z32 (am (sAl oW A b (vBr A a)) (vBr A a)), B, ?_, b2, hKP, fun σ hm => ?_⟩
          · simp (disch := omega) only [fX10_alone, hasB_p, fX7_breathOf, z32_add, z32_sub, z32_mul, z32_neg, z32_litn, z32_lt, z32_le, z32_eq, iG_h, lG_h, iS_q, lS_q, aI_h, wI_h, aL_h, wL_h, ↓bnd_q, bnr_q, bnc_q, ↓reduceIte, ieqT, ieqF, iltT, iltF, ileT, ileF, not_true, not_false_iff, e5, b1', c4]
          · obtain ⟨τ, t1, t2, t3, t4⟩ := mAl_z (h := a) hR hm hh.1 hh.2 ht.1 ht.2 hbr
            refine ⟨τ, ?_, t2.1⟩
            simp (disch := omega) only [fX11_alone, isH_p hR hm.1, isT_p hR hm.1, is_p, z32_add, z32_sub, z32_mul, z32_neg, z32_litn, z32_lt, z32_le, z32_eq, iG_h, lG_h, iS_q, lS_q, aI_h, wI_h, aL_h, wL_h, ↓bnd_q, bnr_q, bnc_q, ↓reduceIte, ieqT, ieqF, iltT, iltF, ileT, ileF, not_true, not_false_iff, t1, t3]
        · refine ⟨z32 ((1000 * sAl oW A b (vBr A a) (am (sAl oW A b (vBr A a)) (vBr A a))).fdiv (sW A b)), B, ?_, b2, hKP, fun σ hm => ?_⟩
          · simp (disch := omega) only [fX10_alone, hasB_p, fX7_breathOf, z32_add, z32_sub, z32_mul, z32_neg, z32_litn, z32_lt, z32_le, z32_eq, iG_h, lG_h, iS_q, lS_q, aI_h, wI_h, aL_h, wL_h, ↓bnd_q, bnr_q, bnc_q, ↓reduceIte, ieqT, ieqF, iltT, iltF, ileT, ileF, not_true, not_false_iff, e5, b1', c5, c6, cThou]
          · obtain ⟨τ, t1, t2, t3, t4⟩ := mAl_z (h := a) hR hm hh.1 hh.2 ht.1 ht.2 hbr
            refine ⟨τ, ?_, t2.1⟩
            have ew := mW_z hR (m_RM t2.1.1 hR hm).1 ht.1 ht.2
            simp (disch := omega) only [fX11_alone, isH_p hR hm.1, isT_p hR hm.1, is_p, z32_add, z32_sub, z32_mul, z32_neg, z32_litn, z32_lt, z32_le, z32_eq, iG_h, lG_h, iS_q, lS_q, aI_h, wI_h, aL_h, wL_h, ↓bnd_q, bnr_q, bnc_q, ↓reduceIte, ieqT, ieqF, iltT, iltF, ileT, ileF, not_true, not_false_iff, t1, t4, ew, z32_64, mThou]
      · refine ⟨z32 (-1000000000), A, ?_, fP_r, hk, fun σ hm => ⟨σ, ?_, qM_r σ⟩⟩
        · by_cases g : c < 0
          · simp (disch := omega) only [fX10_alone, hasB_p, z32_add, z32_sub, z32_mul, z32_neg, z32_litn, z32_lt, z32_le, z32_eq, iG_h, lG_h, iS_q, lS_q, aI_h, wI_h, aL_h, wL_h, ↓bnd_q, bnr_q, bnc_q, ↓reduceIte, ieqT, ieqF, iltT, iltF, ileT, ileF, not_true, not_false_iff]
          · simp (disch := omega) only [fX10_alone, hasB_p, z32_add, z32_sub, z32_mul, z32_neg, z32_litn, z32_lt, z32_le, z32_eq, iG_h, lG_h, iS_q, lS_q, aI_h, wI_h, aL_h, wL_h, ↓bnd_q, bnr_q, bnc_q, ↓reduceIte, ieqT, ieqF, iltT, iltF, ileT, ileF, not_true, not_false_iff]
        · simp (disch := omega) only [fX11_alone, isH_p hR hm.1, isT_p hR hm.1, is_n, z32_add, z32_sub, z32_mul, z32_neg, z32_litn, z32_lt, z32_le, z32_eq, iG_h, lG_h, iS_q, lS_q, aI_h, wI_h, aL_h, wL_h, ↓bnd_q, bnr_q, bnc_q, ↓reduceIte, ieqT, ieqF, iltT, iltF, ileT, ileF, not_true, not_false_iff]
    · refine ⟨z32 (-1000000000), A, ?_, fP_r, hk, fun σ hm => ⟨σ, ?_, qM_r σ⟩⟩
      · simp (disch := omega) only [fX10_alone, hasB_nt, z32_add, z32_sub, z32_mul, z32_neg, z32_litn, z32_lt, z32_le, z32_eq, iG_h, lG_h, iS_q, lS_q, aI_h, wI_h, aL_h, wL_h, ↓bnd_q, bnr_q, bnc_q, ↓reduceIte, ieqT, ieqF, iltT, iltF, ileT, ileF, not_true, not_false_iff]
      · simp (disch := omega) only [fX11_alone, isH_p hR hm.1, isT_n hR hm.1, z32_add, z32_sub, z32_mul, z32_neg, z32_litn, z32_lt, z32_le, z32_eq, iG_h, lG_h, iS_q, lS_q, aI_h, wI_h, aL_h, wL_h, ↓bnd_q, bnr_q, bnc_q, ↓reduceIte, ieqT, ieqF, iltT, iltF, ileT, ileF, not_true, not_false_iff]
  · refine ⟨z32 (-1000000000), A, ?_, fP_r, hk, fun σ hm => ⟨σ, ?_, qM_r σ⟩⟩
    · simp (disch := omega) only [fX10_alone, hasB_nh, z32_add, z32_sub, z32_mul, z32_neg, z32_litn, z32_lt, z32_le, z32_eq, iG_h, lG_h, iS_q, lS_q, aI_h, wI_h, aL_h, wL_h, ↓bnd_q, bnr_q, bnc_q, ↓reduceIte, ieqT, ieqF, iltT, iltF, ileT, ileF, not_true, not_false_iff]
    · simp (disch := omega) only [fX11_alone, isH_n hR hm.1, z32_add, z32_sub, z32_mul, z32_neg, z32_litn, z32_lt, z32_le, z32_eq, iG_h, lG_h, iS_q, lS_q, aI_h, wI_h, aL_h, wL_h, ↓bnd_q, bnr_q, bnc_q, ↓reduceIte, ieqT, ieqF, iltT, iltF, ileT, ileF, not_true, not_false_iff]
theorem qM_97 {i v : Int} : qM σ (kS σ 97 i v) := ⟨⟨fun _ _ _ _ _ _ _ _ => rfl, fun p k _ _ _ g _ => hL_kS_ne g⟩, rfl, fun p k a _ => ⟨rfl, hL_kS_ne (by omega)⟩⟩
/-- all breaths of one stage -/
theorem on106_z (r72 : Int32 → Int32 → Int32 → Int64 → Int32 → zS → Option (Int32 × zS)) (hR : okR A) (hN : okN A) (hm : RM oW oT A σ) (hh0 : 0 ≤ h) (hh1 : h < vH A) (h0 : 0 ≤ t0) (h1 : t0 < vT A) (hn : n ≤ 4) (hmn : m < n) (he : ∀ b, 0 ≤ b → b ≤ 60 → hL σ 97 (61 * (m : Int) + b) = vR oW oT A (TT A t0 n) m b) : ∃ τ, fX11_on_106 r72 zF (z32 h) (z32 (n : Int)) (z32 c) (z64 (wR A (TT A t0 n) m)) (z32 (m : Int)) (z32 (TT A t0 n m)) (z32 0) σ = fX11_on_174 r72 (z32 h) (z32 (n : Int)) (z32 c) (z64 (wR A (TT A t0 n) m)) (z32 (m : Int)) (z32 (TT A t0 n m)) τ ∧ qM σ τ ∧ (∀ k, 0 ≤ k → k < 61 * ((m : Int) + 1) → hL τ 97 k = hL σ 97 k) ∧ (∀ b, 0 ≤ b → b ≤ 60 → hL τ 97 (61 * ((m : Int) + 1) + b) = vR oW oT A (TT A t0 n) (m + 1) b) ∧ (m + 1 = n → hI τ 56 68 = pS oW oT A t0 n (vBr A h) ∧ hL τ 56 69 = vR oW oT A (TT A t0 n) n (vBr A h)) := by
  have hTT := TT_b (n := n) hR h0 h1
  have tb := hTT m
  have hwb := wR_b hR hTT m
  have hvb := vR_b (oW := oW) (oT := oT) hR hTT m
  have hvb1 := vR_b (oW := oW) (oT := oT) hR hTT (m + 1)
  obtain ⟨⟨kw1, kw2⟩, kw3, kw4⟩ := wkb m (by omega)
  obtain ⟨-, kw5, kw6⟩ := wkb (m + 1) (by omega)
  have hH6 := hR.2.1
  have hbr := (hN.2 h hh0 hh1).1
  refine zupP0 (β := Int32 × zS) (L := fun f x a => fX11_on_106 r72 f (z32 h) (z32 (n : Int)) (z32 c) (z64 (wR A (TT A t0 n) m)) (z32 (m : Int)) (z32 (TT A t0 n m)) (z32 x) a) (n := 61) (Q := fun r => ∃ τ, r = fX11_on_174 r72 (z32 h) (z32 (n : Int)) (z32 c) (z64 (wR A (TT A t0 n) m)) (z32 (m : Int)) (z32 (TT A t0 n m)) τ ∧ qM σ τ ∧ (∀ k, 0 ≤ k → k < 61 * ((m : Int) + 1) → hL τ 97 k = hL σ 97 k) ∧ (∀ b, 0 ≤ b → b ≤ 60 → hL τ 97 (61 * ((m : Int) + 1) + b) = vR oW oT A (TT A t0 n) (m + 1) b) ∧ (m + 1 = n → hI τ 56 68 = pS oW oT A t0 n (vBr A h) ∧ hL τ 56 69 = vR oW oT A (TT A t0 n) n (vBr A h)))
    (fun x τ => qM σ τ ∧ (∀ k, 0 ≤ k → k < 61 * ((m : Int) + 1) → hL τ 97 k = hL σ 97 k) ∧ (∀ b, 0 ≤ b → b < x → hL τ 97 (61 * ((m : Int) + 1) + b) = vR oW oT A (TT A t0 n) (m + 1) b)) (a := σ) (by omega) (by omega) ⟨qM_r σ, fun _ _ _ => rfl, fun b g0 g1 => by omega⟩ ?_ ?_
  · intro f x a hx hx' ⟨p1, p2, p3⟩
    obtain ⟨τ, t1, t2, t3, t4⟩ := mOn_z (σ := a) (t := TT A t0 n m) (br := x) (left := (m : Int)) (W := wR A (TT A t0 n) m) (R := vR oW oT A (TT A t0 n) m) hR (m_RM p1.1 hR hm) tb.1 tb.2 (by omega) hwb kw2 ⟨kw3, kw4⟩ hvb (by omega) (fun b g0 g1 => by rw [p2 _ (by omega) (by omega)]; exact he b g0 g1)
    have t4' : hL τ 56 69 = vR oW oT A (TT A t0 n) (m + 1) x := t4
    have vb := hvb1 x hx (by omega)
    refine ⟨kS τ 97 (61 * ((m : Int) + 1) + x) (vR oW oT A (TT A t0 n) (m + 1) x), ?_, qM_t (qM_t p1 t2.1) qM_97, fun k g0 g1 => ?_, fun b g0 g1 => ?_⟩
    · show fX11_on_106 r72 (f + 1) (z32 h) (z32 (n : Int)) (z32 c) (z64 (wR A (TT A t0 n) m)) (z32 (m : Int)) (z32 (TT A t0 n m)) (z32 x) a = _
      rw [fX11_on_106, if_neg (by rw [z32_litn, z32_lt (by omega) (by omega) (by omega) (by omega)]; omega), t1, bnr_q, show lG τ 56 69 = z64 (hL τ 56 69) from lG_h τ 56 69, t4', z1p, z1p, show (61 : Int32) = z32 61 from z32_litn 61, z32_mul, z32_add, wL_h (by omega) (by omega) (by omega)]
    · rw [hL_kS (by omega) g0 (by omega) (by omega), if_neg (by omega), t2.2 k g0]; exact p2 k g0 g1
    · rw [hL_kS (by omega) (by omega) (by omega) (by omega)]
      by_cases g2 : b = x
      · rw [g2, if_pos rfl]
      · rw [if_neg (by omega), t2.2 _ (by omega)]; exact p3 b g0 (by omega)
  · intro f a ⟨p1, p2, p3⟩
    by_cases gm : m + 1 = n
    · obtain ⟨τ, t1, t2, t3, t4⟩ := mOn_z (σ := a) (t := TT A t0 n m) (br := vBr A h) (left := (m : Int)) (W := wR A (TT A t0 n) m) (R := vR oW oT A (TT A t0 n) m) hR (m_RM p1.1 hR hm) tb.1 tb.2 hbr hwb kw2 ⟨kw3, kw4⟩ hvb (by omega) (fun b g0 g1 => by rw [p2 _ (by omega) (by omega)]; exact he b g0 g1)
      have e86 := ((m_RM p1.1 hR hm).2.1.2 h hh0 hh1).1
      refine ⟨τ, ?_, qM_t p1 t2.1, fun k g0 g1 => by rw [t2.2 k g0]; exact p2 k g0 g1, fun b g0 g1 => by rw [t2.2 _ (by omega)]; exact p3 b g0 (by omega), fun _ => ?_⟩
      · show fX11_on_106 r72 (f + 1) (z32 h) (z32 (n : Int)) (z32 c) (z64 (wR A (TT A t0 n) m)) (z32 (m : Int)) (z32 (TT A t0 n m)) (z32 61) a = _
        rw [fX11_on_106, if_pos (by rw [z32_litn, z32_lt (by omega) (by omega) (by omega) (by omega)]; omega), if_pos (by rw [show (1 : Int32) = z32 1 from z32_litn 1, z32_sub]; congr 1; omega), aI_h (by omega) (by omega) (by omega), e86, t1, bnr_q]
      · subst gm
        exact ⟨t3, t4⟩
    · refine ⟨a, ?_, p1, p2, fun b g0 g1 => p3 b g0 (by omega), fun g => absurd g gm⟩
      show fX11_on_106 r72 (f + 1) (z32 h) (z32 (n : Int)) (z32 c) (z64 (wR A (TT A t0 n) m)) (z32 (m : Int)) (z32 (TT A t0 n m)) (z32 61) a = _
      rw [fX11_on_106, if_pos (by rw [z32_litn, z32_lt (by omega) (by omega) (by omega) (by omega)]; omega), if_neg (by rw [show (1 : Int32) = z32 1 from z32_litn 1, z32_sub, z32_eq (by omega) (by omega) (by omega) (by omega)]; omega)]
theorem mOnAll_z (hR : okR A) (hN : okN A) (hm : RM oW oT A σ) (hh0 : 0 ≤ h) (hh1 : h < vH A) (h0 : 0 ≤ vNext A) (h1 : vNext A < vT A) (hn : 1 ≤ n) (hn' : n ≤ 4) : ∃ τ, qM σ τ ∧ hI τ 56 68 = pS oW oT A (vNext A) n (vBr A h) ∧ hL τ 56 69 = vR oW oT A (TT A (vNext A) n) n (vBr A h) ∧ fX11_on_45 zF (z32 h) (z32 (n : Int)) (z32 c) (z32 0) σ = if z32 c = 0 then some (iG τ 56 68, τ) else bnr (fX11_thousandths (lG τ 56 69) (z64 (wR A (TT A (vNext A) n) n))) fun v4 => some (v4, τ) := by
  have hTT := TT_b (n := n) hR h0 h1
  have hT6 := hR.1
  obtain ⟨σ1, s1, s2, s3⟩ : ∃ σ1, fX11_on_45 zF (z32 h) (z32 (n : Int)) (z32 c) (z32 0) σ = fX11_on_72 zF (z32 h) (z32 (n : Int)) (z32 c) (z64 1) (z32 0) σ1 ∧ qM σ σ1 ∧ ∀ b, 0 ≤ b → b ≤ 60 → hL σ1 97 b = 0 := by
    refine zupP0 (β := Int32 × zS) (L := fun f x a => fX11_on_45 f (z32 h) (z32 (n : Int)) (z32 c) (z32 x) a) (n := 61) (Q := fun r => ∃ σ1, r = fX11_on_72 zF (z32 h) (z32 (n : Int)) (z32 c) (z64 1) (z32 0) σ1 ∧ qM σ σ1 ∧ ∀ b, 0 ≤ b → b ≤ 60 → hL σ1 97 b = 0)
      (fun x a => qM σ a ∧ ∀ b, 0 ≤ b → b < x → hL a 97 b = 0) (a := σ) (by omega) (by omega) ⟨qM_r σ, fun b g0 g1 => by omega⟩ ?_ ?_
    · intro f x a hx hx' ⟨p1, p2⟩
      refine ⟨kS a 97 x 0, ?_, qM_t p1 qM_97, fun b g0 g1 => ?_⟩
      · show fX11_on_45 (f + 1) (z32 h) (z32 (n : Int)) (z32 c) (z32 x) a = _
        rw [fX11_on_45, if_neg (by rw [z32_litn, z32_lt (by omega) (by omega) (by omega) (by omega)]; omega), show (0 : Int64) = z64 0 from z64_litn 0, wL_h (by omega) (by omega) (by omega), z1p]
      · rw [hL_kS hx g0 (by omega) (by omega)]
        by_cases g2 : b = x
        · rw [if_pos g2]
        · rw [if_neg g2]; exact p2 b g0 (by omega)
    · intro f a ⟨p1, p2⟩
      refine ⟨a, ?_, p1, fun b g0 g1 => p2 b g0 (by omega)⟩
      show fX11_on_45 (f + 1) (z32 h) (z32 (n : Int)) (z32 c) (z32 61) a = _
      rw [fX11_on_45, if_pos (by rw [z32_litn, z32_lt (by omega) (by omega) (by omega) (by omega)]; omega), show (1 : Int64) = z64 1 from z64_litn 1, show (0 : Int32) = z32 0 from z32_litn 0]
  rw [s1]
  refine zupP0 (β := Int32 × zS) (L := fun f x a => fX11_on_72 f (z32 h) (z32 (n : Int)) (z32 c) (z64 (wR A (TT A (vNext A) n) x.toNat)) (z32 x) a) (n := (n : Int)) (Q := fun r => ∃ τ, qM σ τ ∧ hI τ 56 68 = pS oW oT A (vNext A) n (vBr A h) ∧ hL τ 56 69 = vR oW oT A (TT A (vNext A) n) n (vBr A h) ∧ r = if z32 c = 0 then some (iG τ 56 68, τ) else bnr (fX11_thousandths (lG τ 56 69) (z64 (wR A (TT A (vNext A) n) n))) fun v4 => some (v4, τ))
    (fun x a => qM σ a ∧ (∀ b, 0 ≤ b → b ≤ 60 → hL a 97 (61 * x + b) = vR oW oT A (TT A (vNext A) n) x.toNat b) ∧ (x = n → hI a 56 68 = pS oW oT A (vNext A) n (vBr A h) ∧ hL a 56 69 = vR oW oT A (TT A (vNext A) n) n (vBr A h))) (a := σ1) (by omega) (by omega) ⟨s2, fun b g0 g1 => by rw [show 61 * (0 : Int) + b = b by omega, s3 b g0 g1]; rfl, fun g => by omega⟩ ?_ ?_
  · intro f x a hx hx' ⟨p1, p2, p3⟩
    obtain ⟨m, rfl⟩ := Int.eq_ofNat_of_zero_le hx
    have e1 : ((m : Int)).toNat = m := by omega
    have e2 : ((m : Int) + 1).toNat = m + 1 := by omega
    rw [e1] at p2
    have hma := m_RM p1.1 hR hm
    obtain ⟨τ, t1, t2, t3, t4, t5⟩ := on106_z (c := c) (fX11_on_72 f) hR hN hma hh0 hh1 h0 h1 hn' (by omega : m < n) p2
    have hmt := m_RM t2.1 hR hma
    have tb := hTT m
    have sb := sW_b hR tb.1 tb.2
    have ew := mW_z hR hmt.1 tb.1 tb.2
    refine ⟨τ, ?_, qM_t p1 t2, fun b g0 g1 => by rw [e2]; exact t4 b g0 g1, fun g => t5 (by omega)⟩
    show fX11_on_72 (f + 1) (z32 h) (z32 (n : Int)) (z32 c) (z64 (wR A (TT A (vNext A) n) ((m : Int)).toNat)) (z32 (m : Int)) a = fX11_on_72 f (z32 h) (z32 (n : Int)) (z32 c) (z64 (wR A (TT A (vNext A) n) ((m : Int) + 1).toNat)) (z32 ((m : Int) + 1)) τ
    have e85 := hma.2.1.1
    have eT := hma.1.2.1
    have hbk := hma.1.1
    have et : vNext A + (n : Int) - 1 - (m : Int) = vNext A + ((n : Int) - 1 - m) := by omega
    have eTT : (vNext A + ((n : Int) - 1 - m)) % vT A = TT A (vNext A) n m := rfl
    rw [e1, e2]
    have go : fX11_on_72 (f + 1) (z32 h) (z32 (n : Int)) (z32 c) (z64 (wR A (TT A (vNext A) n) m)) (z32 (m : Int)) a = fX11_on_106 (fX11_on_72 f) zF (z32 h) (z32 (n : Int)) (z32 c) (z64 (wR A (TT A (vNext A) n) m)) (z32 (m : Int)) (z32 (TT A (vNext A) n m)) (z32 0) a := by
      simp (disch := omega) only [fX11_on_72, z32_add, z32_sub, z32_mul, z32_neg, z32_litn, z32_lt, z32_le, z32_eq, iG_h, lG_h, iS_q, lS_q, aI_h, wI_h, aL_h, wL_h, ↓bnd_q, bnr_q, bnc_q, ↓reduceIte, ieqT, ieqF, iltT, iltF, ileT, ileF, not_true, not_false_iff, e85, eT, gdT, et, z32_rem, eTT]
    rw [go, t1]
    unfold fX11_on_174
    rw [ew, bnr_q, z32_64 (by omega) (by omega), z64_mul, z1p]
    rfl
  · intro f a ⟨p1, p2, p3⟩
    obtain ⟨q1, q2⟩ := p3 rfl
    have e1 : ((n : Int)).toNat = n := by omega
    refine ⟨a, p1, q1, q2, ?_⟩
    show fX11_on_72 (f + 1) (z32 h) (z32 (n : Int)) (z32 c) (z64 (wR A (TT A (vNext A) n) ((n : Int)).toNat)) (z32 (n : Int)) a = _
    rw [e1, fX11_on_72, if_pos (by rw [z32_le (by omega) (by omega) (by omega) (by omega)]; omega)]
theorem Q_on (H : RC oW oT A) (hk : KPp oW oT A A) (h1 : -2147483648 ≤ a) (h2 : a < 2147483648) (h3 : -2147483648 ≤ b) (h4 : b < 2147483648) (h5 : -2147483648 ≤ c) (h6 : c < 2147483648) : QK oW oT (fX10_on (z32 a) (z32 b) (z32 c)) (fX11_on (z32 a) (z32 b) (z32 c)) A := by
  have hR := H.1
  have hN := H.2.1
  have hT := hR.1
  have en : hI A 5 0 = vNext A := rfl
  have nb := hN.1
  by_cases hh : 0 ≤ a ∧ a < vH A
  · by_cases ht : 0 < vT A
    · have ht' : vNext A < vT A := by omega
      by_cases hbb : 1 ≤ b ∧ b ≤ 4
      · by_cases hc : 0 ≤ c ∧ c ≤ 1
        · obtain ⟨n, rfl⟩ := Int.eq_ofNat_of_zero_le (show 0 ≤ b by omega)
          have hbr := (hN.2 a hh.1 hh.2).1
          have hH := hR.2.1
          have e5 : hI A 5 (50 + a) = vBr A a := rfl
          obtain ⟨B, b1, b2, b3⟩ := plan_z (n := n) (t0 := vNext A) (br := vBr A a) hR H.2.2.1 H.2.2.2 hk nb.1 ht' (by omega) (by omega) hbr
          have hKP := KPp_p b3 nb.1 ht' (by omega) (by omega) hbr
          obtain ⟨-, -, -, c4, c5, c6⟩ := b3
          have hTT := TT_b (n := n) hR nb.1 ht'
          have hwb := wR_b hR hTT n
          have hvb := vR_b (oW := oW) (oT := oT) hR hTT n (vBr A a) hbr.1 hbr.2
          obtain ⟨⟨kw1, kw2⟩, kw3, kw4⟩ := wkb n (by omega)
          by_cases g : c = 0
          · refine ⟨z32 (pS oW oT A (vNext A) n (vBr A a)), B, ?_, b2, hKP, fun σ hm => ?_⟩
            · simp (disch := omega) only [fX10_on, fX7_nextTunnel, hasB_p, fX7_breathOf, z32_add, z32_sub, z32_mul, z32_neg, z32_litn, z32_lt, z32_le, z32_eq, iG_h, lG_h, iS_q, lS_q, aI_h, wI_h, aL_h, wL_h, ↓bnd_q, bnr_q, bnc_q, ↓reduceIte, ieqT, ieqF, iltT, iltF, ileT, ileF, not_true, not_false_iff, en, e5, b1, c4]
            · obtain ⟨τ, t1, t2, t3, t4⟩ := mOnAll_z (c := c) (h := a) hR hN hm hh.1 hh.2 nb.1 ht' (by omega : 1 ≤ n) (by omega)
              have eT := hm.1.2.1
              have hbk := hm.1.1
              refine ⟨τ, ?_, t1⟩
              rw [if_pos (by rw [g]; exact z00)] at t4
              simp (disch := omega) only [fX11_on, isH_p hR hm.1, is_p, z32_add, z32_sub, z32_mul, z32_neg, z32_litn, z32_lt, z32_le, z32_eq, iG_h, lG_h, iS_q, lS_q, aI_h, wI_h, aL_h, wL_h, ↓bnd_q, bnr_q, bnc_q, ↓reduceIte, ieqT, ieqF, iltT, iltF, ileT, ileF, not_true, not_false_iff, eT, t4, t2]
          · refine ⟨z32 ((1000 * vR oW oT A (TT A (vNext A) n) n (vBr A a)).fdiv (wR A (TT A (vNext A) n) n)), B, ?_, b2, hKP, fun σ hm => ?_⟩
            · simp (disch := omega) only [fX10_on, fX7_nextTunnel, hasB_p, fX7_breathOf, z32_add, z32_sub, z32_mul, z32_neg, z32_litn, z32_lt, z32_le, z32_eq, iG_h, lG_h, iS_q, lS_q, aI_h, wI_h, aL_h, wL_h, ↓bnd_q, bnr_q, bnc_q, ↓reduceIte, ieqT, ieqF, iltT, iltF, ileT, ileF, not_true, not_false_iff, en, e5, b1, c5, c6, cThou]
            · obtain ⟨τ, t1, t2, t3, t4⟩ := mOnAll_z (c := c) (h := a) hR hN hm hh.1 hh.2 nb.1 ht' (by omega : 1 ≤ n) (by omega)
              have eT := hm.1.2.1
              have hbk := hm.1.1
              refine ⟨τ, ?_, t1⟩
              rw [if_neg (by rw [z32_litn, z32_eq (by omega) (by omega) (by omega) (by omega)]; exact g)] at t4
              simp (disch := omega) only [fX11_on, isH_p hR hm.1, is_p, z32_add, z32_sub, z32_mul, z32_neg, z32_litn, z32_lt, z32_le, z32_eq, iG_h, lG_h, iS_q, lS_q, aI_h, wI_h, aL_h, wL_h, ↓bnd_q, bnr_q, bnc_q, ↓reduceIte, ieqT, ieqF, iltT, iltF, ileT, ileF, not_true, not_false_iff, eT, t4, t3, mThou]
        · refine ⟨z32 (-1000000000), A, ?_, fP_r, hk, fun σ hm => ⟨σ, ?_, qM_r σ⟩⟩
          · by_cases g : c < 0
            · simp (disch := omega) only [fX10_on, fX7_nextTunnel, hasB_p, z32_add, z32_sub, z32_mul, z32_neg, z32_litn, z32_lt, z32_le, z32_eq, iG_h, lG_h, iS_q, lS_q, aI_h, wI_h, aL_h, wL_h, ↓bnd_q, bnr_q, bnc_q, ↓reduceIte, ieqT, ieqF, iltT, iltF, ileT, ileF, not_true, not_false_iff, en]
            · simp (disch := omega) only [fX10_on, fX7_nextTunnel, hasB_p, z32_add, z32_sub, z32_mul, z32_neg, z32_litn, z32_lt, z32_le, z32_eq, iG_h, lG_h, iS_q, lS_q, aI_h, wI_h, aL_h, wL_h, ↓bnd_q, bnr_q, bnc_q, ↓reduceIte, ieqT, ieqF, iltT, iltF, ileT, ileF, not_true, not_false_iff, en]
          · have eT := hm.1.2.1
            have hbk := hm.1.1
            simp (disch := omega) only [fX11_on, isH_p hR hm.1, is_p, is_n, z32_add, z32_sub, z32_mul, z32_neg, z32_litn, z32_lt, z32_le, z32_eq, iG_h, lG_h, iS_q, lS_q, aI_h, wI_h, aL_h, wL_h, ↓bnd_q, bnr_q, bnc_q, ↓reduceIte, ieqT, ieqF, iltT, iltF, ileT, ileF, not_true, not_false_iff, eT]
      · refine ⟨z32 (-1000000000), A, ?_, fP_r, hk, fun σ hm => ⟨σ, ?_, qM_r σ⟩⟩
        · by_cases g : b < 1
          · simp (disch := omega) only [fX10_on, fX7_nextTunnel, hasB_p, z32_add, z32_sub, z32_mul, z32_neg, z32_litn, z32_lt, z32_le, z32_eq, iG_h, lG_h, iS_q, lS_q, aI_h, wI_h, aL_h, wL_h, ↓bnd_q, bnr_q, bnc_q, ↓reduceIte, ieqT, ieqF, iltT, iltF, ileT, ileF, not_true, not_false_iff, en]
          · simp (disch := omega) only [fX10_on, fX7_nextTunnel, hasB_p, z32_add, z32_sub, z32_mul, z32_neg, z32_litn, z32_lt, z32_le, z32_eq, iG_h, lG_h, iS_q, lS_q, aI_h, wI_h, aL_h, wL_h, ↓bnd_q, bnr_q, bnc_q, ↓reduceIte, ieqT, ieqF, iltT, iltF, ileT, ileF, not_true, not_false_iff, en]
        · have eT := hm.1.2.1
          have hbk := hm.1.1
          simp (disch := omega) only [fX11_on, isH_p hR hm.1, is_n, z32_add, z32_sub, z32_mul, z32_neg, z32_litn, z32_lt, z32_le, z32_eq, iG_h, lG_h, iS_q, lS_q, aI_h, wI_h, aL_h, wL_h, ↓bnd_q, bnr_q, bnc_q, ↓reduceIte, ieqT, ieqF, iltT, iltF, ileT, ileF, not_true, not_false_iff, eT]
    · refine ⟨z32 (-1000000000), A, ?_, fP_r, hk, fun σ hm => ⟨σ, ?_, qM_r σ⟩⟩
      · simp (disch := omega) only [fX10_on, fX7_nextTunnel, hasB_nt, z32_add, z32_sub, z32_mul, z32_neg, z32_litn, z32_lt, z32_le, z32_eq, iG_h, lG_h, iS_q, lS_q, aI_h, wI_h, aL_h, wL_h, ↓bnd_q, bnr_q, bnc_q, ↓reduceIte, ieqT, ieqF, iltT, iltF, ileT, ileF, not_true, not_false_iff, en]
      · have eT := hm.1.2.1
        have hbk := hm.1.1
        have eT0 : vT A = 0 := by omega
        simp (disch := omega) only [fX11_on, isH_p hR hm.1, z32_add, z32_sub, z32_mul, z32_neg, z32_litn, z32_lt, z32_le, z32_eq, iG_h, lG_h, iS_q, lS_q, aI_h, wI_h, aL_h, wL_h, ↓bnd_q, bnr_q, bnc_q, ↓reduceIte, ieqT, ieqF, iltT, iltF, ileT, ileF, not_true, not_false_iff, eT, eT0]
  · refine ⟨z32 (-1000000000), A, ?_, fP_r, hk, fun σ hm => ⟨σ, ?_, qM_r σ⟩⟩
    · simp (disch := omega) only [fX10_on, fX7_nextTunnel, hasB_nh, z32_add, z32_sub, z32_mul, z32_neg, z32_litn, z32_lt, z32_le, z32_eq, iG_h, lG_h, iS_q, lS_q, aI_h, wI_h, aL_h, wL_h, ↓bnd_q, bnr_q, bnc_q, ↓reduceIte, ieqT, ieqF, iltT, iltF, ileT, ileF, not_true, not_false_iff, en]
    · simp (disch := omega) only [fX11_on, isH_n hR hm.1, z32_add, z32_sub, z32_mul, z32_neg, z32_litn, z32_lt, z32_le, z32_eq, iG_h, lG_h, iS_q, lS_q, aI_h, wI_h, aL_h, wL_h, ↓bnd_q, bnr_q, bnc_q, ↓reduceIte, ieqT, ieqF, iltT, iltF, ileT, ileF, not_true, not_false_iff]
end AO

/-! MY OWN: rest, hidden: both sides -/
/-- a question, with all that the chooser keeps -/
def KK (oW oT : Option ((Int → Int) → Int)) (A σ : zS) : Prop := KPp oW oT A σ ∧ KPs oW A σ
def QZ (oW oT : Option ((Int → Int) → Int)) (f g : zS → Option (Int32 × zS)) (A : zS) : Prop := ∃ r B, f A = some (r, B) ∧ qC A B ∧ KK oW oT A B ∧ ∀ σ, RM oW oT A σ → ∃ τ, g σ = some (r, τ) ∧ qM σ τ
section HI
variable {A B σ τ υ : zS} {oW oT : Option ((Int → Int) → Int)} {t br s k l t0 h a b c : Int} {R : Int → Int} {n m : Nat}
theorem KPp_c (h : KPp oW oT A σ) (e1 : ∀ k, 0 ≤ k → k < 10 → hI τ 27 k = hI σ 27 k) (e2 : ∀ k, 0 ≤ k → hL τ 27 k = hL σ 27 k) : KPp oW oT A τ := by
  rcases h with h | ⟨t0, n, br, h1, h2, h3, h4, h5, h6, h7, h8, h9⟩
  · exact Or.inl (by rw [e1 4 (by omega) (by omega)]; exact h)
  · exact Or.inr ⟨t0, n, br, h1, h2, h3, by rw [e1 4 (by omega) (by omega)]; exact h4, by rw [e1 5 (by omega) (by omega)]; exact h5, by rw [e1 6 (by omega) (by omega)]; exact h6, by rw [e1 7 (by omega) (by omega)]; exact h7, by rw [e2 8 (by omega)]; exact h8, by rw [e2 9 (by omega)]; exact h9⟩
theorem KPs_c (h : KPs oW A σ) (e1 : ∀ k, 10 ≤ k → hI τ 27 k = hI σ 27 k) (e2 : ∀ k, 0 ≤ k → hI τ 31 k = hI σ 31 k) : KPs oW A τ := by
  rcases h with h | ⟨t, h1, h2, h3, h4⟩
  · exact Or.inl (by rw [e1 10 (by omega)]; exact h)
  · exact Or.inr ⟨t, h1, by rw [e1 10 (by omega)]; exact h2, by rw [e1 12 (by omega)]; exact h3, fun h g0 g1 => by rw [e2 h g0]; exact h4 h g0 g1⟩
theorem KK_o (h : KK oW oT A σ) (o : kO σ τ) : KK oW oT A τ := ⟨KPp_c h.1 (fun k g _ => (o 27 k (by omega) (by omega) g).1) (fun k g => (o 27 k (by omega) (by omega) g).2), KPs_c h.2 (fun k g => (o 27 k (by omega) (by omega) (by omega)).1) (fun k g => (o 31 k (by omega) (by omega) g).1)⟩
theorem QJ_Z {f g : zS → Option (Int32 × zS)} (hk : KK oW oT A A) (h : QJ oW oT f g A) : QZ oW oT f g A := by
  obtain ⟨r, B, h1, h2, h3, h4⟩ := h
  exact ⟨r, B, h1, h2, KK_o hk h3, h4⟩
theorem QK_Z {f g : zS → Option (Int32 × zS)} (hk : KK oW oT A A) (h : QK oW oT f g A) : QZ oW oT f g A := by
  obtain ⟨r, B, h1, h2, h3, h4⟩ := h
  exact ⟨r, B, h1, h2.1, ⟨h3, KPs_c hk.2 h2.2.1 h2.2.2⟩, h4⟩
theorem Q_rest (H : RC oW oT A) (hk : KK oW oT A A) (h1 : -2147483648 ≤ a) (h2 : a < 2147483648) (h3 : -2147483648 ≤ b) (h4 : b < 2147483648) : QZ oW oT (fX10_rest (z32 a) (z32 b)) (fX11_rest (z32 a) (z32 b)) A := by
  have hR := H.1
  have hN := H.2.1
  have hH := hR.2.1
  by_cases ht : 0 ≤ a ∧ a < vT A
  · obtain ⟨B, b1, b2, b3, b4, b5, b6, b7⟩ := settle_z hR hN H.2.2.1 hk.2 ht.1 ht.2
    have hKK : KK oW oT A B := ⟨KPp_c hk.1 b3 b4, Or.inr ⟨a, ht, b5, b6, b7⟩⟩
    by_cases hb : b = -1
    · subst hb
      refine ⟨z32 (resR oW A a 12 (vB0 A) 1).2, B, ?_, b2, hKK, fun σ hm => ?_⟩
      · rw [fX10_rest, hasT_p ht.1 ht.2, if_neg z10, if_pos (by rw [z32_litn, z32_neg]), b1, bnr_q, show iG B 27 12 = z32 (hI B 27 12) from iG_h B 27 12, b6]
      · obtain ⟨τ, t1, t2⟩ := mRest_z (kk := -1) hR hN hm ht.1 ht.2 (Or.inl rfl)
        rw [if_pos rfl] at t1
        refine ⟨τ, ?_, t2⟩
        rw [fX11_rest, isT_p hR hm.1 ht.1 ht.2, bnr_q, if_neg z10, if_pos (by rw [z32_litn, z32_neg]), t1]
    · have nb : ¬ (z32 b = -1) := by rw [z32_litn, z32_neg, z32_eq (by omega) (by omega) (by omega) (by omega)]; exact hb
      by_cases hh : 0 ≤ b ∧ b < vH A
      · refine ⟨z32 ((resR oW A a 12 (vB0 A) 1).1 b), B, ?_, b2, hKK, fun σ hm => ?_⟩
        · rw [fX10_rest, hasT_p ht.1 ht.2, if_neg z10, if_neg nb, hasH_p hh.1 hh.2, if_neg z10, b1, bnr_q, aI_h (by omega) (by omega) (by omega), b7 b hh.1 hh.2]
        · obtain ⟨τ, t1, t2⟩ := mRest_z (kk := b) hR hN hm ht.1 ht.2 (Or.inr hh)
          rw [if_neg hb] at t1
          refine ⟨τ, ?_, t2⟩
          rw [fX11_rest, isT_p hR hm.1 ht.1 ht.2, bnr_q, if_neg z10, if_neg nb, isH_p hR hm.1 hh.1 hh.2, bnr_q, if_neg z10, t1]
      · refine ⟨z32 (-1), A, ?_, qC_r A, hk, fun σ hm => ⟨σ, ?_, qM_r σ⟩⟩
        · rw [fX10_rest, hasT_p ht.1 ht.2, if_neg z10, if_neg nb, hasH_n h3 h4 hh, if_pos z00, z32_litn, z32_neg]
        · rw [fX11_rest, isT_p hR hm.1 ht.1 ht.2, bnr_q, if_neg z10, if_neg nb, isH_n hR hm.1 h3 h4 hh, bnr_q, if_pos z00, z32_litn, z32_neg]
  · refine ⟨z32 (-1), A, ?_, qC_r A, hk, fun σ hm => ⟨σ, ?_, qM_r σ⟩⟩
    · rw [fX10_rest, hasT_n h1 h2 ht, if_pos z00, z32_litn, z32_neg]
    · rw [fX11_rest, isT_n hR hm.1 h1 h2 ht, bnr_q, if_pos z00, z32_litn, z32_neg]
-- hidden
def sHi (oW : Option ((Int → Int) → Int)) (A : zS) (t br k : Int) : Int := vWt A t k * ((100 - vSeen A) * sWA oW A t (vLen A t k) (vLen A t k) br - vSeen A * vFine A)
def sHid (oW : Option ((Int → Int) → Int)) (A : zS) (t br : Int) : Int := zs (sHi oW A t br) (vCnt A t)
theorem sHi_b (hR : okR A) (h0 : 0 ≤ t) (h1 : t < vT A) (hk : 0 ≤ k) (hk' : k < vCnt A t) : (-199800 ≤ (100 - vSeen A) * sWA oW A t (vLen A t k) (vLen A t k) br - vSeen A * vFine A ∧ (100 - vSeen A) * sWA oW A t (vLen A t k) (vLen A t k) br - vSeen A * vFine A ≤ 199800) ∧ (-1798200 ≤ sHi oW A t br k ∧ sHi oW A t br k ≤ 1798200) ∧ (-99900 ≤ (100 - vSeen A) * sWA oW A t (vLen A t k) (vLen A t k) br ∧ (100 - vSeen A) * sWA oW A t (vLen A t k) (vLen A t k) br ≤ 99900) ∧ (0 ≤ vSeen A * vFine A ∧ vSeen A * vFine A ≤ 99900) := by
  have hs := hR.2.2.1
  have hf := hR.2.2.2.1
  have hw := ((hR.2.2.2.2.1 t h0 h1).2.2 k hk hk').2
  have b1 := sWA_b (oW := oW) (A := A) (t := t) (l := vLen A t k) (s := vLen A t k) (br := br)
  have m1 := mulb (a := 999) (b := 100) (x := sWA oW A t (vLen A t k) (vLen A t k) br) (y := 100 - vSeen A) b1.1 b1.2 (by omega) (by omega)
  rw [Int.mul_comm (sWA oW A t (vLen A t k) (vLen A t k) br)] at m1
  have m2 := mulb (a := 100) (b := 999) (x := vSeen A) (y := vFine A) (by omega) (by omega) (by omega) (by omega)
  have m3 : 0 ≤ vSeen A * vFine A := Int.mul_nonneg hs.1 hf.1
  have m4 := mulb (a := 199800) (b := 9) (x := (100 - vSeen A) * sWA oW A t (vLen A t k) (vLen A t k) br - vSeen A * vFine A) (y := vWt A t k) (by omega) (by omega) (by omega) (by omega)
  unfold sHi
  rw [Int.mul_comm (vWt A t k)]
  omega
theorem sHid_p (hR : okR A) (h0 : 0 ≤ t) (h1 : t < vT A) (hk : 0 ≤ k) (hk' : k ≤ vCnt A t) : -10000000 ≤ zs (sHi oW A t br) k ∧ zs (sHi oW A t br) k ≤ 10000000 := by
  have hc := (hR.2.2.2.2.1 t h0 h1).2.1
  have := zs_b (g := sHi oW A t br) (a := -1798200) (b := 1798200) (k := k) hk (fun i g0 g1 => (sHi_b hR h0 h1 g0 (by omega)).2.1)
  omega
theorem cHid_z (hR : okR A) (hN : okN A) (hW : cSum A 0 oW) (hh0 : 0 ≤ h) (hh1 : h < vH A) (h0 : 0 ≤ t) (h1 : t < vT A) : ∃ B, fX0_hiddenTotal (z32 h) (z32 t) A = some (z64 (sHid oW A t (vBr A h)), B) ∧ qC A B ∧ kO A B := by
  have hH := hR.2.1
  have hT6 := hR.1
  have hbr := (hN.2 h hh0 hh1).1
  have hc := (hR.2.2.2.2.1 t h0 h1).2.1
  have e5 : hI A 5 (50 + h) = vBr A h := rfl
  have pre : fX0_hiddenTotal (z32 h) (z32 t) A = fX0_hiddenTotal_27 zF (z32 t) A.2.2.2.1 (z32 (vBr A h)) (z64 0) (z32 0) A := by
    simp (disch := omega) only [fX0_hiddenTotal, fX7_breathOf, z32_add, z32_sub, z32_mul, z32_neg, z32_litn, z32_lt, z32_le, z32_eq, iG_h, lG_h, iS_q, lS_q, aI_h, wI_h, aL_h, wL_h, ↓bnd_q, bnr_q, bnc_q, ↓reduceIte, ieqT, ieqF, iltT, iltF, ileT, ileF, not_true, not_false_iff, z64_add, z64_sub, z64_mul, z64_neg, z64_litn, z64_lt, z64_le, z64_eq, z32_64, z64_32, e5]
  rw [pre]
  refine zupP0 (β := Int64 × zS) (L := fun f x a => fX0_hiddenTotal_27 f (z32 t) A.2.2.2.1 (z32 (vBr A h)) (z64 (zs (sHi oW A t (vBr A h)) x)) (z32 x) a) (n := vCnt A t) (Q := fun r => ∃ B, r = some (z64 (sHid oW A t (vBr A h)), B) ∧ qC A B ∧ kO A B)
    (fun x a => qC A a ∧ kO A a) (a := A) (by omega) (by omega) ⟨qC_r A, kO_r A⟩ ?_ ?_
  · intro f x a hx hx' ⟨p1, p2⟩
    have hlw := (hR.2.2.2.2.1 t h0 h1).2.2 x hx hx'
    have hs := hR.2.2.1
    have hf := hR.2.2.2.1
    obtain ⟨B1, b1, b2, b3, -⟩ := cWA_z (A := a) (t := t) (l := vLen A t x) (s := vLen A t x) (br := vBr A h) (e_okR p1.1 hR) (e_sum p1.1 (by omega) hW) h0 (by rw [e_T p1.1]; exact h1) (by omega) (by omega) hbr
    rw [e_WA p1.1 h0] at b1
    have q1 := qC_t p1 b2
    have ecn : hI a (rp A.2.2.2.1 + 3) t = vCnt A t := by rw [e_road p1.1 (by omega) h0]; rfl
    have el := cLen_z (A := a) (t := t) (k := x) (e_okR p1.1 hR) h0 (by rw [e_T p1.1]; exact h1) hx (by rw [e_Cnt p1.1 h0]; exact hx')
    have ew := cWt_z (A := B1) (t := t) (k := x) (e_okR q1.1 hR) h0 (by rw [e_T q1.1]; exact h1) hx (by rw [e_Cnt q1.1 h0]; exact hx')
    rw [e_Len p1.1 h0 hx, e_fl p1.1] at el
    rw [e_Wt q1.1 h0 hx, e_fl q1.1] at ew
    have s3a : hI a (rp A.2.2.2.1 + 0) 3 = vSeen A := by rw [e_road p1.1 (by omega) (by omega)]; rfl
    have s3 : hI B1 (rp A.2.2.2.1 + 0) 3 = vSeen A := by rw [e_road q1.1 (by omega) (by omega)]; rfl
    have s4 : hI B1 (rp A.2.2.2.1 + 0) 4 = vFine A := by rw [e_road q1.1 (by omega) (by omega)]; rfl
    have wab := sWA_b (oW := oW) (A := A) (t := t) (l := vLen A t x) (s := vLen A t x) (br := vBr A h)
    refine ⟨B1, ?_, q1, kO_t p2 b3⟩
    try simp only []
    rw [zs_s hx]
    show _ = fX0_hiddenTotal_27 f (z32 t) A.2.2.2.1 (z32 (vBr A h)) (z64 (zs (sHi oW A t (vBr A h)) x + vWt A t x * ((100 - vSeen A) * sWA oW A t (vLen A t x) (vLen A t x) (vBr A h) - vSeen A * vFine A))) (z32 (x + 1)) B1
    simp (disch := omega) only [fX0_hiddenTotal_27, z32_add, z32_sub, z32_mul, z32_neg, z32_litn, z32_lt, z32_le, z32_eq, iG_h, lG_h, iS_q, lS_q, aI_h, wI_h, aL_h, wL_h, ↓bnd_q, bnr_q, bnc_q, ↓reduceIte, ieqT, ieqF, iltT, iltF, ileT, ileF, not_true, not_false_iff, z64_add, z64_sub, z64_mul, z64_neg, z64_litn, z64_lt, z64_le, z64_eq, z32_64, z64_32, ecn, el, b1, s3a, ew, s3, s4]
  · intro f a ⟨p1, p2⟩
    have ecn : hI a (rp A.2.2.2.1 + 3) t = vCnt A t := by rw [e_road p1.1 (by omega) h0]; rfl
    refine ⟨a, ?_, p1, p2⟩
    show fX0_hiddenTotal_27 (f + 1) (z32 t) A.2.2.2.1 (z32 (vBr A h)) (z64 (sHid oW A t (vBr A h))) (z32 (vCnt A t)) a = _
    rw [fX0_hiddenTotal_27, aI_h (by omega) (by omega) (by omega), ecn, if_pos (by rw [z32_le (by omega) (by omega) (by omega) (by omega)]; omega)]
theorem mHid_z (hR : okR A) (hN : okN A) (hm : RM oW oT A σ) (hh0 : 0 ≤ h) (hh1 : h < vH A) (h0 : 0 ≤ t) (h1 : t < vT A) (hc : c = 0 ∨ c = 1) : ∃ τ, fX11_hidden_35 zF (z32 h) (z32 t) (z32 c) (z64 0) (z32 0) σ = some (z32 (if c = 1 then (1000 * sHid oW A t (vBr A h)).fdiv (100 * sW A t) else if sHid oW A t (vBr A h) ≤ 100 * sAl oW A t (vBr A h) (am (sAl oW A t (vBr A h)) (vBr A h)) then 0 else 1), τ) ∧ qM σ τ := by
  have hH := hR.2.1
  have hT6 := hR.1
  have hbr := (hN.2 h hh0 hh1).1
  have hcn := (hR.2.2.2.2.1 t h0 h1).2.1
  refine zupP0 (β := Int32 × zS) (L := fun f x a => fX11_hidden_35 f (z32 h) (z32 t) (z32 c) (z64 (zs (sHi oW A t (vBr A h)) x)) (z32 x) a) (n := vCnt A t) (Q := fun r => ∃ τ, r = some (z32 (if c = 1 then (1000 * sHid oW A t (vBr A h)).fdiv (100 * sW A t) else if sHid oW A t (vBr A h) ≤ 100 * sAl oW A t (vBr A h) (am (sAl oW A t (vBr A h)) (vBr A h)) then 0 else 1), τ) ∧ qM σ τ)
    (fun x a => qM σ a) (a := σ) (by omega) (by omega) (qM_r σ) ?_ ?_
  · intro f x a hx hx' p1
    have hma := m_RM p1.1 hR hm
    have hlw := (hR.2.2.2.2.1 t h0 h1).2.2 x hx hx'
    have hs := hR.2.2.1
    have hf := hR.2.2.2.1
    obtain ⟨τ1, t1, t2, t3, t4, t5, t6⟩ := mWA_z (σ := a) (t := t) (l := vLen A t x) (s := vLen A t x) (br := vBr A h) hR hma.1 hma.2.2.1 h0 h1 (by omega) (by omega) hbr
    have hm1 := m_RM t2.1 hR hma
    have e86 := (hma.2.1.2 h hh0 hh1).1
    have e72 := hm1.1.2.2.2.1
    have e73 := hm1.1.2.2.2.2.1
    have hbk := hm1.1.1
    have el := mLen_z hR hma.1 h0 h1 hx hx'
    have ew := mWt_z hR hm1.1 h0 h1 hx hx'
    have ec := mCnt_z hR hma.1 h0 h1
    have wab := sWA_b (oW := oW) (A := A) (t := t) (l := vLen A t x) (s := vLen A t x) (br := vBr A h)
    obtain ⟨q1, q2, q3, q4⟩ := sHi_b (oW := oW) (br := vBr A h) hR h0 h1 hx hx'
    have ehi : vWt A t x * (-vSeen A * vFine A + (100 - vSeen A) * sWA oW A t (vLen A t x) (vLen A t x) (vBr A h)) = sHi oW A t (vBr A h) x := by
      unfold sHi
      congr 1
      rw [Int.neg_mul]
      omega
    refine ⟨τ1, ?_, qM_t p1 t2⟩
    try simp only []
    rw [zs_s hx]
    simp (disch := omega) only [fX11_hidden_35, z32_add, z32_sub, z32_mul, z32_neg, z32_litn, z32_lt, z32_le, z32_eq, iG_h, lG_h, iS_q, lS_q, aI_h, wI_h, aL_h, wL_h, ↓bnd_q, bnr_q, bnc_q, ↓reduceIte, ieqT, ieqF, iltT, iltF, ileT, ileF, not_true, not_false_iff, z64_add, z64_sub, z64_mul, z64_neg, z64_litn, z64_lt, z64_le, z64_eq, z32_64, z64_32, ec, el, e86, t1, ew, e72, e73, ehi]
  · intro f a p1
    have hma := m_RM p1.1 hR hm
    have ec := mCnt_z hR hma.1 h0 h1
    have hb := sHid_p (oW := oW) (br := vBr A h) hR h0 h1 (k := vCnt A t) (by omega) (Int.le_refl _)
    rw [show zs (sHi oW A t (vBr A h)) (vCnt A t) = sHid oW A t (vBr A h) from rfl] at hb
    have swb := sW_b hR h0 h1
    show ∃ τ, fX11_hidden_35 (f + 1) (z32 h) (z32 t) (z32 c) (z64 (sHid oW A t (vBr A h))) (z32 (vCnt A t)) a = _ ∧ _
    rcases hc with hc | hc
    · subst hc
      obtain ⟨τ, t1, t2, t3, t4⟩ := mAl_z (h := h) hR hma hh0 hh1 h0 h1 hbr
      have sb := sAl_p (oW := oW) (s := am (sAl oW A t (vBr A h)) (vBr A h)) hR h0 h1 hbr (k := vCnt A t) (by omega) (Int.le_refl _)
      rw [show zs (fun k => vWt A t k * sWA oW A t (vLen A t k) (zmin (vLen A t k) (am (sAl oW A t (vBr A h)) (vBr A h))) (vBr A h)) (vCnt A t) = sAl oW A t (vBr A h) (am (sAl oW A t (vBr A h)) (vBr A h)) from rfl] at sb
      refine ⟨τ, ?_, qM_t p1 t2.1⟩
      rw [if_neg (by omega : ¬ ((0 : Int) = 1))]
      by_cases g : sHid oW A t (vBr A h) ≤ 100 * sAl oW A t (vBr A h) (am (sAl oW A t (vBr A h)) (vBr A h))
      · rw [if_pos g]
        simp (disch := omega) only [fX11_hidden_35, z32_add, z32_sub, z32_mul, z32_neg, z32_litn, z32_lt, z32_le, z32_eq, iG_h, lG_h, iS_q, lS_q, aI_h, wI_h, aL_h, wL_h, ↓bnd_q, bnr_q, bnc_q, ↓reduceIte, ieqT, ieqF, iltT, iltF, ileT, ileF, not_true, not_false_iff, z64_add, z64_sub, z64_mul, z64_neg, z64_litn, z64_lt, z64_le, z64_eq, z32_64, z64_32, ec, t1, t4]
      · rw [if_neg g]
        simp (disch := omega) only [fX11_hidden_35, z32_add, z32_sub, z32_mul, z32_neg, z32_litn, z32_lt, z32_le, z32_eq, iG_h, lG_h, iS_q, lS_q, aI_h, wI_h, aL_h, wL_h, ↓bnd_q, bnr_q, bnc_q, ↓reduceIte, ieqT, ieqF, iltT, iltF, ileT, ileF, not_true, not_false_iff, z64_add, z64_sub, z64_mul, z64_neg, z64_litn, z64_lt, z64_le, z64_eq, z32_64, z64_32, ec, t1, t4]
    · subst hc
      have ew := mW_z hR hma.1 h0 h1
      refine ⟨a, ?_, p1⟩
      rw [if_pos rfl]
      simp (disch := omega) only [fX11_hidden_35, z32_add, z32_sub, z32_mul, z32_neg, z32_litn, z32_lt, z32_le, z32_eq, iG_h, lG_h, iS_q, lS_q, aI_h, wI_h, aL_h, wL_h, ↓bnd_q, bnr_q, bnc_q, ↓reduceIte, ieqT, ieqF, iltT, iltF, ileT, ileF, not_true, not_false_iff, z64_add, z64_sub, z64_mul, z64_neg, z64_litn, z64_lt, z64_le, z64_eq, z32_64, z64_32, ec, ew, mThou]
theorem Q_hidden (H : RC oW oT A) (hk : KK oW oT A A) (h1 : -2147483648 ≤ a) (h2 : a < 2147483648) (h3 : -2147483648 ≤ b) (h4 : b < 2147483648) (h5 : -2147483648 ≤ c) (h6 : c < 2147483648) : QZ oW oT (fX10_hidden (z32 a) (z32 b) (z32 c)) (fX11_hidden (z32 a) (z32 b) (z32 c)) A := by
  have hR := H.1
  have hN := H.2.1
  by_cases hh : 0 ≤ a ∧ a < vH A
  · by_cases ht : 0 ≤ b ∧ b < vT A
    · by_cases hc : 0 ≤ c ∧ c ≤ 1
      · have hbr := (hN.2 a hh.1 hh.2).1
        have hH := hR.2.1
        have swb := sW_b hR ht.1 ht.2
        obtain ⟨B, b1, b2, b3⟩ := cHid_z (h := a) hR hN H.2.2.1 hh.1 hh.2 ht.1 ht.2
        have hb := sHid_p (oW := oW) (br := vBr A a) hR ht.1 ht.2 (k := vCnt A b) (by have := (hR.2.2.2.2.1 b ht.1 ht.2).2.1; omega) (Int.le_refl _)
        rw [show zs (sHi oW A b (vBr A a)) (vCnt A b) = sHid oW A b (vBr A a) from rfl] at hb
        by_cases g : c = 1
        · subst g
          have ew := cW_z (A := B) (t := b) (e_okR b2.1 hR) ht.1 (by rw [e_T b2.1]; exact ht.2)
          rw [e_W b2.1 ht.1] at ew
          refine ⟨z32 ((1000 * sHid oW A b (vBr A a)).fdiv (100 * sW A b)), B, ?_, b2, KK_o hk b3, fun σ hm => ?_⟩
          · simp (disch := omega) only [fX10_hidden, hasB_p, z32_add, z32_sub, z32_mul, z32_neg, z32_litn, z32_lt, z32_le, z32_eq, iG_h, lG_h, iS_q, lS_q, aI_h, wI_h, aL_h, wL_h, ↓bnd_q, bnr_q, bnc_q, ↓reduceIte, ieqT, ieqF, iltT, iltF, ileT, ileF, not_true, not_false_iff, z64_add, z64_sub, z64_mul, z64_neg, z64_litn, z64_lt, z64_le, z64_eq, z32_64, z64_32, b1, ew, cThou]
          · obtain ⟨τ, t1, t2⟩ := mHid_z (c := 1) (h := a) hR hN hm hh.1 hh.2 ht.1 ht.2 (Or.inr rfl)
            rw [if_pos rfl] at t1
            refine ⟨τ, ?_, t2⟩
            simp (disch := omega) only [fX11_hidden, isH_p hR hm.1, isT_p hR hm.1, is_p, z32_add, z32_sub, z32_mul, z32_neg, z32_litn, z32_lt, z32_le, z32_eq, iG_h, lG_h, iS_q, lS_q, aI_h, wI_h, aL_h, wL_h, ↓bnd_q, bnr_q, bnc_q, ↓reduceIte, ieqT, ieqF, iltT, iltF, ileT, ileF, not_true, not_false_iff, z64_add, z64_sub, z64_mul, z64_neg, z64_litn, z64_lt, z64_le, z64_eq, z32_64, z64_32, t1]
        · have g0 : c = 0 := by omega
          subst g0
          have HB := e_RC b2.1 H
          have e5 : hI B 5 (50 + a) = vBr A a := by rw [e_row b2.1 (by omega)]; rfl
          have vE1 := kC_vE b2.1
          obtain ⟨C, c1, c2, c3'⟩ := plan_z (n := 1) (br := vBr A a) HB.1 HB.2.2.1 HB.2.2.2 (c_KPp vE1 (KK_o hk b3).1) ht.1 (by rw [e_T b2.1]; exact ht.2) (by omega) (by omega) hbr
          have c3 := c_PLD (vE_s vE1) ht.1 (by rw [e_T b2.1]; exact ht.2) c3'
          have hKP := KPp_p c3 ht.1 ht.2 (by omega) (by omega) hbr
          obtain ⟨p1, p2, p3⟩ := pl1 (oW := oW) (oT := oT) (A := A) (br := vBr A a) ht.1 ht.2
          obtain ⟨-, -, -, c4, c5, c6⟩ := c3
          rw [p2] at c5
          have c1' : fX0_plan (z32 b) (z32 1) (z32 (vBr A a)) B = some C := c1
          have sb := sAl_p (oW := oW) (s := am (sAl oW A b (vBr A a)) (vBr A a)) hR ht.1 ht.2 hbr (k := vCnt A b) (by have := (hR.2.2.2.2.1 b ht.1 ht.2).2.1; omega) (Int.le_refl _)
          rw [show zs (fun k => vWt A b k * sWA oW A b (vLen A b k) (zmin (vLen A b k) (am (sAl oW A b (vBr A a)) (vBr A a))) (vBr A a)) (vCnt A b) = sAl oW A b (vBr A a) (am (sAl oW A b (vBr A a)) (vBr A a)) from rfl] at sb
          refine ⟨z32 (if sHid oW A b (vBr A a) ≤ 100 * sAl oW A b (vBr A a) (am (sAl oW A b (vBr A a)) (vBr A a)) then 0 else 1), C, ?_, qC_t b2 c2.1, ⟨hKP, KPs_c (KK_o hk b3).2 c2.2.1 c2.2.2⟩, fun σ hm => ?_⟩
          · by_cases g2 : sHid oW A b (vBr A a) ≤ 100 * sAl oW A b (vBr A a) (am (sAl oW A b (vBr A a)) (vBr A a))
            · rw [if_pos g2]
              simp (disch := omega) only [fX10_hidden, hasB_p, fX7_breathOf, z32_add, z32_sub, z32_mul, z32_neg, z32_litn, z32_lt, z32_le, z32_eq, iG_h, lG_h, iS_q, lS_q, aI_h, wI_h, aL_h, wL_h, ↓bnd_q, bnr_q, bnc_q, ↓reduceIte, ieqT, ieqF, iltT, iltF, ileT, ileF, not_true, not_false_iff, z64_add, z64_sub, z64_mul, z64_neg, z64_litn, z64_lt, z64_le, z64_eq, z32_64, z64_32, b1, e5, c1', c5]
            · rw [if_neg g2]
              simp (disch := omega) only [fX10_hidden, hasB_p, fX7_breathOf, z32_add, z32_sub, z32_mul, z32_neg, z32_litn, z32_lt, z32_le, z32_eq, iG_h, lG_h, iS_q, lS_q, aI_h, wI_h, aL_h, wL_h, ↓bnd_q, bnr_q, bnc_q, ↓reduceIte, ieqT, ieqF, iltT, iltF, ileT, ileF, not_true, not_false_iff, z64_add, z64_sub, z64_mul, z64_neg, z64_litn, z64_lt, z64_le, z64_eq, z32_64, z64_32, b1, e5, c1', c5]
          · obtain ⟨τ, t1, t2⟩ := mHid_z (c := 0) (h := a) hR hN hm hh.1 hh.2 ht.1 ht.2 (Or.inl rfl)
            rw [if_neg (by omega : ¬ ((0 : Int) = 1))] at t1
            refine ⟨τ, ?_, t2⟩
            simp (disch := omega) only [fX11_hidden, isH_p hR hm.1, isT_p hR hm.1, is_p, z32_add, z32_sub, z32_mul, z32_neg, z32_litn, z32_lt, z32_le, z32_eq, iG_h, lG_h, iS_q, lS_q, aI_h, wI_h, aL_h, wL_h, ↓bnd_q, bnr_q, bnc_q, ↓reduceIte, ieqT, ieqF, iltT, iltF, ileT, ileF, not_true, not_false_iff, z64_add, z64_sub, z64_mul, z64_neg, z64_litn, z64_lt, z64_le, z64_eq, z32_64, z64_32, t1]
      · refine ⟨z32 (-1000000000), A, ?_, qC_r A, hk, fun σ hm => ⟨σ, ?_, qM_r σ⟩⟩
        · by_cases g : c < 0
          · simp (disch := omega) only [fX10_hidden, hasB_p, z32_add, z32_sub, z32_mul, z32_neg, z32_litn, z32_lt, z32_le, z32_eq, iG_h, lG_h, iS_q, lS_q, aI_h, wI_h, aL_h, wL_h, ↓bnd_q, bnr_q, bnc_q, ↓reduceIte, ieqT, ieqF, iltT, iltF, ileT, ileF, not_true, not_false_iff]
          · simp (disch := omega) only [fX10_hidden, hasB_p, z32_add, z32_sub, z32_mul, z32_neg, z32_litn, z32_lt, z32_le, z32_eq, iG_h, lG_h, iS_q, lS_q, aI_h, wI_h, aL_h, wL_h, ↓bnd_q, bnr_q, bnc_q, ↓reduceIte, ieqT, ieqF, iltT, iltF, ileT, ileF, not_true, not_false_iff]
        · simp (disch := omega) only [fX11_hidden, isH_p hR hm.1, isT_p hR hm.1, is_n, z32_add, z32_sub, z32_mul, z32_neg, z32_litn, z32_lt, z32_le, z32_eq, iG_h, lG_h, iS_q, lS_q, aI_h, wI_h, aL_h, wL_h, ↓bnd_q, bnr_q, bnc_q, ↓reduceIte, ieqT, ieqF, iltT, iltF, ileT, ileF, not_true, not_false_iff]
    · refine ⟨z32 (-1000000000), A, ?_, qC_r A, hk, fun σ hm => ⟨σ, ?_, qM_r σ⟩⟩
      · simp (disch := omega) only [fX10_hidden, hasB_nt, z32_add, z32_sub, z32_mul, z32_neg, z32_litn, z32_lt, z32_le, z32_eq, iG_h, lG_h, iS_q, lS_q, aI_h, wI_h, aL_h, wL_h, ↓bnd_q, bnr_q, bnc_q, ↓reduceIte, ieqT, ieqF, iltT, iltF, ileT, ileF, not_true, not_false_iff]
      · simp (disch := omega) only [fX11_hidden, isH_p hR hm.1, isT_n hR hm.1, z32_add, z32_sub, z32_mul, z32_neg, z32_litn, z32_lt, z32_le, z32_eq, iG_h, lG_h, iS_q, lS_q, aI_h, wI_h, aL_h, wL_h, ↓bnd_q, bnr_q, bnc_q, ↓reduceIte, ieqT, ieqF, iltT, iltF, ileT, ileF, not_true, not_false_iff]
  · refine ⟨z32 (-1000000000), A, ?_, qC_r A, hk, fun σ hm => ⟨σ, ?_, qM_r σ⟩⟩
    · simp (disch := omega) only [fX10_hidden, hasB_nh, z32_add, z32_sub, z32_mul, z32_neg, z32_litn, z32_lt, z32_le, z32_eq, iG_h, lG_h, iS_q, lS_q, aI_h, wI_h, aL_h, wL_h, ↓bnd_q, bnr_q, bnc_q, ↓reduceIte, ieqT, ieqF, iltT, iltF, ileT, ileF, not_true, not_false_iff]
    · simp (disch := omega) only [fX11_hidden, isH_n hR hm.1, z32_add, z32_sub, z32_mul, z32_neg, z32_litn, z32_lt, z32_le, z32_eq, iG_h, lG_h, iS_q, lS_q, aI_h, wI_h, aL_h, wL_h, ↓bnd_q, bnr_q, bnc_q, ↓reduceIte, ieqT, ieqF, iltT, iltF, ileT, ileF, not_true, not_false_iff]
end HI

/-! MY OWN: what holding is worth and how it tires, both sides -/
def fct (s l la be br g : Int) (i : Int) : Int := if i = 0 then s else if i = 1 then l else if i = 2 then (if s = l then 1 else 0) else if i = 3 then la else if i = 4 then be else if i = 5 then br else g
theorem fct_ok {s l la be br g : Int} (h1 : 0 ≤ s ∧ s ≤ 60) (h2 : 0 ≤ l ∧ l ≤ 60) (h3 : 0 ≤ la ∧ la ≤ 1) (h4 : 0 ≤ be ∧ be ≤ 6) (h5 : 0 ≤ br ∧ br ≤ 60) (h6 : 0 ≤ g ∧ g ≤ 99) : okF (fct s l la be br g) := by
  intro i _ _
  unfold fct
  repeat' split
  all_goals omega
def clp (lo hi v : Int) : Int := zmax lo (zmin hi v)
theorem clp_b {lo hi v : Int} (h : lo ≤ hi) : lo ≤ clp lo hi v ∧ clp lo hi v ≤ hi := by
  unfold clp zmax zmin
  repeat' split
  all_goals omega
theorem cWith_z {v lo hi : Int} (h1 : -2147483648 ≤ v) (h2 : v < 2147483648) (h3 : -2147483648 ≤ lo) (h4 : lo ≤ hi) (h5 : hi < 2147483648) : fX10_within (z32 v) (z32 lo) (z32 hi) = z32 (clp lo hi v) := by
  have : -2147483648 ≤ zmin hi v ∧ zmin hi v < 2147483648 := by unfold zmin; split <;> omega
  simp (disch := omega) only [fX10_within, jmin_z, jmax_z, clp]
theorem mBet_z {v lo hi : Int} (h1 : -9000000000000000000 ≤ v) (h2 : v ≤ 9000000000000000000) (h3 : -2147483648 ≤ lo) (h4 : lo ≤ hi) (h5 : hi < 2147483648) : fX11_between (z64 v) (z32 lo) (z32 hi) = z32 (clp lo hi v) := by
  simp (disch := omega) only [fX11_between, z32_64, z64_le, z64_32, clp, zmax, zmin]
  by_cases g1 : lo ≤ v
  · by_cases g2 : v ≤ hi
    · simp (disch := omega) only [↓reduceIte, ieqT, ieqF, iltT, iltF, ileT, ileF, not_true, not_false_iff]
    · simp (disch := omega) only [↓reduceIte, ieqT, ieqF, iltT, iltF, ileT, ileF, not_true, not_false_iff]
  · simp (disch := omega) only [↓reduceIte, ieqT, ieqF, iltT, iltF, ileT, ileF, not_true, not_false_iff]
section J
variable {A σ : zS} {t h k l s br : Int} {oW oT : Option ((Int → Int) → Int)}
theorem zval_b {o : Option ((Int → Int) → Int)} {f : Int → Int} (hb : ∀ F, o = some F → bF F) (hf : okF f) : -1000000 ≤ zval o f ∧ zval o f ≤ 1000000 := by
  cases o with
  | none => simp [zval]
  | some F => exact hb F rfl f hf
theorem cSum_b {w : Int} {o : Option ((Int → Int) → Int)} (hs : cSum A w o) : ∀ F, o = some F → bF F := by
  intro F e
  subst e
  exact hs.2.2
def sWA (oW : Option ((Int → Int) → Int)) (A : zS) (t l s br : Int) : Int := clp (-999) 999 (zval oW (fct s l 1 0 br (vGap A t)))
def sTA (oT : Option ((Int → Int) → Int)) (A : zS) (t l s br : Int) : Int := match oT with
  | none => br
  | some F => clp 0 60 (F (fct s l 1 0 br (vGap A t)))
theorem tellAlone_z (hR : okR A) (h0 : 0 ≤ t) (h1 : t < vT A) (h2 : 0 ≤ s ∧ s ≤ 60) (h3 : 0 ≤ l ∧ l ≤ 60) (h4 : 0 ≤ br ∧ br ≤ 60) : ∃ B, fX4_tellAlone (z32 t) (z32 l) (z32 s) (z32 br) A = some B ∧ oH A B ∧ (∀ k, hI B 25 k = hI A 25 k) ∧ ∀ i, 0 ≤ i → i < 7 → hI B 26 i = fct s l 1 0 br (vGap A t) i := by
  have hT := hR.1
  have hg := (hR.2.2.2.2.1 t h0 h1).1
  have hrp := rp_or A.2.2.2.1
  have e : hI A (rp A.2.2.2.1 + 2) t = vGap A t := rfl
  by_cases hl : s = l
  · refine ⟨jS (jS (jS (jS (jS (jS (jS A 26 0 s) 26 1 l) 26 2 1) 26 3 1) 26 4 0) 26 5 br) 26 6 (vGap A t), ?_, ?_, ?_, ?_⟩
    · simp (disch := omega) only [fX4_tellAlone, fX4_tellAlone_29, z32_add, z32_sub, z32_mul, z32_neg, z32_litn, z32_lt, z32_le, z32_eq, iG_h, lG_h, iS_j, lS_k, aI_h, wI_h, aL_h, wL_h, bnd, bnr_s, bnc_s, ↓reduceIte, ieqT, ieqF, iltT, iltF, ileT, ileF, not_true, not_false_iff, hl, fl_jS, hI_jS_ne, e]
    · exact oH_t (oH_t (oH_t (oH_t (oH_t (oH_t oH_26 oH_26) oH_26) oH_26) oH_26) oH_26) oH_26
    · intro k
      simp (disch := omega) only [hI_jS_ne]
    · intro i g0 g1
      simp (disch := omega) only [hI_jS, fct]
      rcases (by omega : i = 0 ∨ i = 1 ∨ i = 2 ∨ i = 3 ∨ i = 4 ∨ i = 5 ∨ i = 6) with g | g | g | g | g | g | g <;> subst g <;> simp [hl]
  · refine ⟨jS (jS (jS (jS (jS (jS (jS A 26 0 s) 26 1 l) 26 2 0) 26 3 1) 26 4 0) 26 5 br) 26 6 (vGap A t), ?_, ?_, ?_, ?_⟩
    · simp (disch := omega) only [fX4_tellAlone, fX4_tellAlone_29, z32_add, z32_sub, z32_mul, z32_neg, z32_litn, z32_lt, z32_le, z32_eq, iG_h, lG_h, iS_j, lS_k, aI_h, wI_h, aL_h, wL_h, bnd, bnr_s, bnc_s, ↓reduceIte, ieqT, ieqF, iltT, iltF, ileT, ileF, not_true, not_false_iff, fl_jS, hI_jS_ne, e]
    · exact oH_t (oH_t (oH_t (oH_t (oH_t (oH_t oH_26 oH_26) oH_26) oH_26) oH_26) oH_26) oH_26
    · intro k
      simp (disch := omega) only [hI_jS_ne]
    · intro i g0 g1
      simp (disch := omega) only [hI_jS, fct]
      rcases (by omega : i = 0 ∨ i = 1 ∨ i = 2 ∨ i = 3 ∨ i = 4 ∨ i = 5 ∨ i = 6) with g | g | g | g | g | g | g <;> subst g <;> simp [hl]
theorem cWA_z (hR : okR A) (hW : cSum A 0 oW) (h0 : 0 ≤ t) (h1 : t < vT A) (h2 : 0 ≤ s ∧ s ≤ 60) (h3 : 0 ≤ l ∧ l ≤ 60) (h4 : 0 ≤ br ∧ br ≤ 60) : ∃ B, fX4_worthAlone (z32 t) (z32 l) (z32 s) (z32 br) A = some (z32 (sWA oW A t l s br), B) ∧ qC A B ∧ kO A B ∧ ∀ k, 0 ≤ k → hI B 25 k = hI A 25 k := by
  obtain ⟨B, b1, b2, b3, b4⟩ := tellAlone_z hR h0 h1 h2 h3 h4
  have hg := (hR.2.2.2.2.1 t h0 h1).1
  have ok := fct_ok (la := 1) (be := 0) (g := vGap A t) h2 h3 (by omega) (by omega) h4 hg
  obtain ⟨q1, q2⟩ := oH_q b2
  have hrp := rp_or A.2.2.2.1
  have efl : B.2.2.2.1 = A.2.2.2.1 := e_fl q1.1
  obtain ⟨C, c1, c2⟩ := cVal_z (e_sum q1.1 (by omega) hW) (by omega) (by omega) ok b4
  obtain ⟨q3, q4⟩ := sX_q c2
  have zb := zval_b (cSum_b hW) ok
  refine ⟨C, ?_, qC_t q1 q3, kO_t q2 q4, fun k g => ?_⟩
  · simp (disch := omega) only [fX4_worthAlone, b1, bnr_s, bnc_s, z32_litn, z32_neg, c1, cWith_z, sWA]
  · rw [c2.2.2 25 k (by rw [efl]; omega) (by rw [efl]; omega) g, b3 k]
theorem cTA_z (hR : okR A) (hW : cSum A 1 oT) (h0 : 0 ≤ t) (h1 : t < vT A) (h2 : 0 ≤ s ∧ s ≤ 60) (h3 : 0 ≤ l ∧ l ≤ 60) (h4 : 0 ≤ br ∧ br ≤ 60) : ∃ B, fX4_tiredAlone (z32 t) (z32 l) (z32 s) (z32 br) A = some (z32 (sTA oT A t l s br), B) ∧ qC A B ∧ kO A B ∧ ∀ k, 0 ≤ k → hI B 25 k = hI A 25 k := by
  have hrp := rp_or A.2.2.2.1
  cases oT with
  | none =>
    obtain ⟨e1, e2⟩ := hW
    refine ⟨A, ?_, qC_r A, kO_r A, fun _ _ => rfl⟩
    simp (disch := omega) only [fX4_tiredAlone, fX8_isTold, z32_add, z32_sub, z32_mul, z32_neg, z32_litn, z32_lt, z32_le, z32_eq, iG_h, lG_h, iS_j, lS_k, aI_h, wI_h, aL_h, wL_h, bnd, bnr_s, bnc_s, ↓reduceIte, ieqT, ieqF, iltT, iltF, ileT, ileF, not_true, not_false_iff, e1, e2, sTA]
  | some F =>
    obtain ⟨B, b1, b2, b3, b4⟩ := tellAlone_z hR h0 h1 h2 h3 h4
    have hg := (hR.2.2.2.2.1 t h0 h1).1
    have ok := fct_ok (la := 1) (be := 0) (g := vGap A t) h2 h3 (by omega) (by omega) h4 hg
    obtain ⟨q1, q2⟩ := oH_q b2
    have efl : B.2.2.2.1 = A.2.2.2.1 := e_fl q1.1
    obtain ⟨C, c1, c2⟩ := cVal_z (e_sum q1.1 (by omega) hW) (by omega) (by omega) ok b4
    obtain ⟨q3, q4⟩ := sX_q c2
    have zb := zval_b (cSum_b hW) ok
    have i1 := hW.1.1
    have i2 := hW.2.1
    refine ⟨C, ?_, qC_t q1 q3, kO_t q2 q4, fun k g => ?_⟩
    · simp (disch := omega) only [fX4_tiredAlone, fX8_isTold, z32_add, z32_sub, z32_mul, z32_neg, z32_litn, z32_lt, z32_le, z32_eq, iG_h, lG_h, iS_j, lS_k, aI_h, wI_h, aL_h, wL_h, bnd, bnr_s, bnc_s, ↓reduceIte, ieqT, ieqF, iltT, iltF, ileT, ileF, not_true, not_false_iff, b1, c1, cWith_z, sTA]
      rfl
    · rw [c2.2.2 25 k (by rw [efl]; omega) (by rw [efl]; omega) g, b3 k]
theorem sWA_b : -999 ≤ sWA oW A t l s br ∧ sWA oW A t l s br ≤ 999 := clp_b (by omega)
theorem sTA_b (h4 : 0 ≤ br ∧ br ≤ 60) : 0 ≤ sTA oT A t l s br ∧ sTA oT A t l s br ≤ 60 := by
  cases oT with
  | none => exact h4
  | some F => exact clp_b (by omega)
-- the other side
theorem mAsk_z {la be g : Int} (hg : hI σ 59 (6 * hI σ 56 13 + t) = g) (h0 : 0 ≤ t) (h1 : t < 6) (hb : 0 ≤ hI σ 56 13 ∧ hI σ 56 13 ≤ 1) (h2 : 0 ≤ s ∧ s ≤ 60) (h3 : 0 ≤ l ∧ l ≤ 60) (h4 : 0 ≤ br ∧ br ≤ 60) (h5 : 0 ≤ la ∧ la ≤ 1) (h6 : 0 ≤ be ∧ be ≤ 6) (h7 : 0 ≤ g ∧ g ≤ 99) : ∃ τ, fX11_asks (z32 t) (z32 l) (z32 s) (z32 la) (z32 be) (z32 br) σ = some τ ∧ qM σ τ ∧ okG (fct s l la be br g) τ ∧ (∀ p k, p ≠ 56 → hI τ p k = hI σ p k) ∧ (∀ p k, hL τ p k = hL σ p k) ∧ hI τ 56 68 = hI σ 56 68 := by
  refine ⟨jS (jS (jS (jS (jS (jS σ 56 61 s) 56 62 l) 56 63 la) 56 64 be) 56 65 br) 56 66 g, ?_, ⟨⟨fun p k a b c d e f => ?_, fun p k a b c d e => rfl⟩, rfl, fun p k a b => ⟨?_, rfl⟩⟩, ?_, fun p k a => ?_, fun _ _ => rfl, ?_⟩
  · simp (disch := omega) only [fX11_asks, z32_add, z32_sub, z32_mul, z32_neg, z32_litn, z32_lt, z32_le, z32_eq, iG_h, lG_h, iS_j, lS_k, aI_h, wI_h, aL_h, wL_h, bnd, bnr_s, bnc_s, ↓reduceIte, ieqT, ieqF, iltT, iltF, ileT, ileF, not_true, not_false_iff, hI_jS_ne, hI_jS, hg]
  · by_cases hp : p = 56
    · subst hp
      have := f rfl
      simp (disch := omega) only [hI_jS, ↓reduceIte, ieqT, ieqF, iltT, iltF, ileT, ileF, not_true, not_false_iff]
    · simp (disch := omega) only [hI_jS_ne]
  · simp (disch := omega) only [hI_jS_ne]
  · simp (disch := omega) only [okG, hI_jS, fct, ↓reduceIte, ieqT, ieqF, iltT, iltF, ileT, ileF, not_true, not_false_iff]
    simp
  · simp (disch := omega) only [hI_jS_ne]
  · simp (disch := omega) only [hI_jS, ↓reduceIte, ieqT, ieqF, iltT, iltF, ileT, ileF, not_true, not_false_iff]
theorem mWN_z {f : Int → Int} (hW : mSum σ 68 69 oW) (hf : okF f) (hg : okG f σ) (hb : 0 ≤ hI σ 56 13 ∧ hI σ 56 13 ≤ 1) : ∃ τ, fX11_worthNow σ = some (z32 (clp (-999) 999 (zval oW f)), τ) ∧ sameM σ τ := by
  cases oW with
  | none =>
    have e : hI σ 68 (hI σ 56 13) = -1 := hW
    refine ⟨σ, ?_, sM_r σ⟩
    simp (disch := omega) only [fX11_worthNow, z32_add, z32_sub, z32_mul, z32_neg, z32_litn, z32_lt, z32_le, z32_eq, iG_h, lG_h, iS_j, lS_k, aI_h, wI_h, aL_h, wL_h, bnd, bnr_s, bnc_s, ↓reduceIte, ieqT, ieqF, iltT, iltF, ileT, ileF, not_true, not_false_iff, e]
    rfl
  | some F =>
    obtain ⟨h1, h2, h3, h4⟩ := hW
    have i1 := h1.1
    obtain ⟨τ, t1, t2⟩ := mVal_z ⟨h1, h2, h3, h4⟩ hf hg hb.1 hb.2
    have zb := h4 f hf
    refine ⟨τ, ?_, t2⟩
    simp (disch := omega) only [fX11_worthNow, z32_add, z32_sub, z32_mul, z32_neg, z32_litn, z32_lt, z32_le, z32_eq, iG_h, lG_h, iS_j, lS_k, aI_h, wI_h, aL_h, wL_h, bnd, bnr_s, bnc_s, ↓reduceIte, ieqT, ieqF, iltT, iltF, ileT, ileF, not_true, not_false_iff, t1, mBet_z, zval]
theorem mTN_z {f : Int → Int} (hW : mSum σ 70 71 oT) (hf : okF f) (hg : okG f σ) (hb : 0 ≤ hI σ 56 13 ∧ hI σ 56 13 ≤ 1) : ∃ τ, fX11_breathNow σ = some (z32 (match oT with | none => f 5 | some F => clp 0 60 (F f)), τ) ∧ sameM σ τ := by
  cases oT with
  | none =>
    have e : hI σ 70 (hI σ 56 13) = -1 := hW
    refine ⟨σ, ?_, sM_r σ⟩
    have e5 := hg.2.2.2.2.2.1
    simp (disch := omega) only [fX11_breathNow, z32_add, z32_sub, z32_mul, z32_neg, z32_litn, z32_lt, z32_le, z32_eq, iG_h, lG_h, iS_j, lS_k, aI_h, wI_h, aL_h, wL_h, bnd, bnr_s, bnc_s, ↓reduceIte, ieqT, ieqF, iltT, iltF, ileT, ileF, not_true, not_false_iff, e, e5]
  | some F =>
    obtain ⟨h1, h2, h3, h4⟩ := hW
    have i1 := h1.1
    obtain ⟨τ, t1, t2⟩ := mVal_z ⟨h1, h2, h3, h4⟩ hf hg hb.1 hb.2
    have zb := h4 f hf
    refine ⟨τ, ?_, t2⟩
    simp (disch := omega) only [fX11_breathNow, z32_add, z32_sub, z32_mul, z32_neg, z32_litn, z32_lt, z32_le, z32_eq, iG_h, lG_h, iS_j, lS_k, aI_h, wI_h, aL_h, wL_h, bnd, bnr_s, bnc_s, ↓reduceIte, ieqT, ieqF, iltT, iltF, ileT, ileF, not_true, not_false_iff, t1, mBet_z]
theorem sM_q {σ τ : zS} (h : sameM σ τ) : qM σ τ := ⟨⟨fun p k _ _ _ _ _ _ => h.2.1 p k, fun p k _ _ c _ _ => h.2.2 p k c⟩, h.1, fun p k a _ => ⟨h.2.1 p k, h.2.2 p k (by omega)⟩⟩
/-- after it the facts stand, so that breathNow may follow -/
theorem mWA_z (hR : okR A) (hr : rlR A σ) (hW : mSum σ 68 69 oW) (h0 : 0 ≤ t) (h1 : t < vT A) (h2 : 0 ≤ s ∧ s ≤ 60) (h3 : 0 ≤ l ∧ l ≤ 60) (h4 : 0 ≤ br ∧ br ≤ 60) : ∃ τ, fX11_worthAlone (z32 t) (z32 l) (z32 s) (z32 br) σ = some (z32 (sWA oW A t l s br), τ) ∧ qM σ τ ∧ okG (fct s l 1 0 br (vGap A t)) τ ∧ (∀ p k, p ≠ 56 → hI τ p k = hI σ p k) ∧ (∀ p k, p ≠ 95 → hL τ p k = hL σ p k) ∧ hI τ 56 68 = hI σ 56 68 := by
  have hg := (hR.2.2.2.2.1 t h0 h1).1
  have hT := hR.1
  have ok := fct_ok (la := 1) (be := 0) (g := vGap A t) h2 h3 (by omega) (by omega) h4 hg
  obtain ⟨τ, t1, t2, t3, t4, t5, t6⟩ := mAsk_z (hr.2.2.2.2.2.1 t h0 h1).1 h0 (by omega) hr.1 h2 h3 h4 (la := 1) (be := 0) (by omega) (by omega) hg
  have eb := m_bank t2.1
  obtain ⟨υ, u1, u2⟩ := mWN_z (m_sum t2.1 hr.1.1 (by omega) (by omega) (by omega) (by omega) hW) ok t3 (by rw [eb]; exact hr.1)
  refine ⟨υ, ?_, qM_t t2 (sM_q u2), okG_c t3 (u2.2.1 56), fun p k a => (u2.2.1 p k).trans (t4 p k a), fun p k a => (u2.2.2 p k a).trans (t5 p k), (u2.2.1 56 68).trans t6⟩
  simp (disch := omega) only [fX11_worthAlone, z32_litn, t1, bnr_s, bnc_s, u1, sWA]
end J

/-! MY OWN: driven through, both sides -/
def mwU (p : Nat) (k : Int) : Prop := (p = 56 ∧ 61 ≤ k ∧ k ≤ 69) ∨ (p = 88 ∧ k < 6) ∨ (p = 90 ∧ k = 0) ∨ ((91 ≤ p ∧ p ≤ 94) ∧ k < 48) ∨ p = 95 ∨ p = 101
/-- what the two sides have alike as tunnels are driven through -/
def DR (oW oT : Option ((Int → Int) → Int)) (A b : zS) (y : Int) : Prop := RC oW oT A ∧ RM oW oT A b ∧ rowK (gNow A) b 0 ∧ sdR A b y
/-- as holder by holder gets his worth: those ahead of x have it -/
def WLI (oW oT : Option ((Int → Int) → Int)) (A a b : zS) (hr : Int → Int) (y x : Int) : Prop := (fi (cU A.2.2.2.1) A a ∧ okN a ∧ rlR A b ∧ mSum b 68 69 oW ∧ mSum b 70 71 oT) ∧ (∀ k, 0 ≤ k → (k = 0 ∨ (56 ≤ k ∧ k < 62) ∨ 68 ≤ k) → hI a 5 k = hI A 5 k) ∧ (∀ i, 0 ≤ i → i < vH A → (hI a 25 i = hr i ∧ hI b 96 i = hr i ∧ hI b 86 i = vBr A i) ∧ hI b 88 i = hI a 5 (62 + i) ∧ (i < x → hI b 101 i = hI a 5 (50 + i)) ∧ (x ≤ i → hI a 5 (50 + i) = vBr A i)) ∧ rowK (gNow a) b 0 ∧ sdR a b y
section DV
variable {A B a b σ τ : zS} {t l h x s y n nx : Int} {oW oT : Option ((Int → Int) → Int)} {hr : Int → Int}
theorem d_AW (eH : vH B = vH A) (eb : vBr B h = vBr A h) (eg : vGap B t = vGap A t) : sAW oW B hr h t l = sAW oW A hr h t l := by
  unfold sAW fctA; rw [eH, eb, eg]
theorem d_AT (eH : vH B = vH A) (eb : vBr B h = vBr A h) (eg : vGap B t = vGap A t) : sAT oT B hr h t l = sAT oT A hr h t l := by
  cases oT with
  | none => exact eb
  | some F =>
    show clp 0 60 (F (fctA B hr h t l)) = clp 0 60 (F (fctA A hr h t l))
    unfold fctA; rw [eH, eb, eg]
theorem mRow_w (hR : okR A) (hN : okN A) (hm : rlR A σ) (e86 : hI σ 86 h = vBr A h) (he : ∀ i, 0 ≤ i → i < vH A → hI σ 96 i = hr i) (hh : ∀ i, 0 ≤ i → i < vH A → 0 ≤ hr i ∧ hr i ≤ 60) (h0 : 0 ≤ h) (h1 : h < vH A) (h2 : 0 ≤ t) (h3 : t < vT A) (h4 : 0 ≤ l ∧ l ≤ 60) : ∃ τ, fX11_asksRow (z32 h) (z32 t) (z32 l) σ = some τ ∧ qM σ τ ∧ okG (fctA A hr h t l) τ ∧ (∀ p k, p ≠ 56 → hI τ p k = hI σ p k) ∧ (∀ p k, hL τ p k = hL σ p k) := by
  have hH := hR.2.1
  have hT := hR.1
  have heh := he h h0 h1
  have hhh := hh h h0 h1
  have hbr := (hN.2 h h0 h1).1
  have zbb := zb_b (hr := hr) (h := h) hH.1
  obtain ⟨τ, t1, t2, t3, t4, t5, t6⟩ := mAsk_z (s := hr h) (l := l) (br := vBr A h) (hm.2.2.2.2.2.1 t h2 h3).1 h2 (by omega) hm.1 hhh h4 hbr (zl_b hr h (vH A)) (be := zb hr h (vH A)) (by omega) (hR.2.2.2.2.1 t h2 h3).1
  refine ⟨τ, ?_, t2, t3, t4, t5⟩
  have eH := hm.2.2.1
  have hb := hm.1
  have e1 : (1 : Int32) = z32 1 := z32_litn 1
  have e0 : (0 : Int32) = z32 0 := z32_litn 0
  refine zup0 (L := fun f k (a : Int × Int) => fX11_asksRow_9 f (z32 h) (z32 t) (z32 l) (z32 a.1) (z32 a.2) (z32 k) σ) (n := vH A) (fun k => (zl hr h k, zb hr h k)) hH.1 (by omega) ?_ ?_
  · intro f k hk hk'
    have ek := he k hk hk'
    have hhk := hh k hk hk'
    simp only []
    rw [zl_s hk, zb_s hk]
    by_cases g1 : hr k ≤ hr h
    · by_cases g2 : hr h ≤ hr k
      · simp (disch := omega) only [fX11_asksRow_9, fX11_asksRow_45, fX11_asksRow_70, z32_add, z32_sub, z32_mul, z32_neg, z32_litn, z32_lt, z32_le, z32_eq, iG_h, lG_h, iS_q, lS_q, aI_h, wI_h, aL_h, wL_h, ↓bnd_q, bnr_q, bnc_q, ↓reduceIte, ieqT, ieqF, iltT, iltF, ileT, ileF, not_true, not_false_iff, eH, ek, heh, Int.add_zero]
      · simp (disch := omega) only [fX11_asksRow_9, fX11_asksRow_45, fX11_asksRow_70, z32_add, z32_sub, z32_mul, z32_neg, z32_litn, z32_lt, z32_le, z32_eq, iG_h, lG_h, iS_q, lS_q, aI_h, wI_h, aL_h, wL_h, ↓bnd_q, bnr_q, bnc_q, ↓reduceIte, ieqT, ieqF, iltT, iltF, ileT, ileF, not_true, not_false_iff, eH, ek, heh]
    · simp (disch := omega) only [fX11_asksRow_9, fX11_asksRow_45, fX11_asksRow_70, z32_add, z32_sub, z32_mul, z32_neg, z32_litn, z32_lt, z32_le, z32_eq, iG_h, lG_h, iS_q, lS_q, aI_h, wI_h, aL_h, wL_h, ↓bnd_q, bnr_q, bnc_q, ↓reduceIte, ieqT, ieqF, iltT, iltF, ileT, ileF, not_true, not_false_iff, eH, ek, heh, Int.add_zero]
  · intro f
    simp (disch := omega) only [fX11_asksRow_9, z32_add, z32_sub, z32_mul, z32_neg, z32_litn, z32_lt, z32_le, z32_eq, iG_h, lG_h, iS_q, lS_q, aI_h, wI_h, aL_h, wL_h, ↓bnd_q, bnr_q, bnc_q, ↓reduceIte, ieqT, ieqF, iltT, iltF, ileT, ileF, not_true, not_false_iff, eH, heh, e86, t1]
theorem mRW_w (hR : okR A) (hN : okN A) (hm : rlR A σ) (e86 : hI σ 86 h = vBr A h) (hW : mSum σ 68 69 oW) (he : ∀ i, 0 ≤ i → i < vH A → hI σ 96 i = hr i) (hh : ∀ i, 0 ≤ i → i < vH A → 0 ≤ hr i ∧ hr i ≤ 60) (h0 : 0 ≤ h) (h1 : h < vH A) (h2 : 0 ≤ t) (h3 : t < vT A) (h4 : 0 ≤ l ∧ l ≤ 60) : ∃ τ, fX11_worthRow (z32 h) (z32 t) (z32 l) σ = some (z32 (sAW oW A hr h t l), τ) ∧ okG (fctA A hr h t l) τ ∧ fr mwU σ τ ∧ ∀ p k, p ≠ 56 → hI τ p k = hI σ p k := by
  have ok := fctA_ok hR hN hh h0 h1 h2 h3 h4
  obtain ⟨τ, t1, t2, t3, t4, t5⟩ := mRow_w hR hN hm e86 he hh h0 h1 h2 h3 h4
  have eb := m_bank t2.1
  obtain ⟨υ, u1, u2⟩ := mWN_z (m_sum t2.1 hm.1.1 (by omega) (by omega) (by omega) (by omega) hW) ok t3 (by rw [eb]; exact hm.1)
  refine ⟨υ, ?_, okG_c t3 (u2.2.1 56), ⟨u2.1.trans t2.2.1, fun p k a b => ?_⟩, fun p k g => (u2.2.1 p k).trans (t4 p k g)⟩
  · simp (disch := omega) only [fX11_worthRow, t1, bnr_q, bnc_q, u1, sAW]
  · unfold mwU at b
    rw [u2.2.1 p k, u2.2.2 p k (by omega), t5 p k]
    refine ⟨?_, rfl⟩
    by_cases g : p = 56
    · exact t2.1.1 p k (by omega) a (by omega) (by omega) (by omega) (fun _ => by omega)
    · exact t4 p k g
theorem sM_fr (h : sameM σ τ) : fr mwU σ τ := ⟨h.1, fun p k a b => ⟨h.2.1 p k, h.2.2 p k (by unfold mwU at b; omega)⟩⟩
theorem qC_fi (q : qC σ τ) (o : kO σ τ) : fi (cU σ.2.2.2.1) σ τ := ⟨q.1.1, fun p k a b => by
  unfold cU at b
  by_cases g : p < 56
  · refine ⟨?_, fun w => by omega⟩
    by_cases g1 : 27 ≤ p ∧ p ≤ 31
    · exact (o p k g1.1 g1.2 a).1
    · exact q.1.2 p k g a (by omega) (by omega) (by omega)
  · exact ⟨(q.2 p k (by omega) a).1, fun _ => (q.2 p k (by omega) a).2⟩⟩
theorem c_jE (f : fi (cU A.2.2.2.1) A a) : jE A a := by
  have hrp := rp_or A.2.2.2.1
  exact jE_i f (fun p k g w u => by unfold fpC at w; unfold cU at u; omega)
theorem w_rlR (hR : okR A) (f : fr mwU b τ) (hm : rlR A b) : rlR A τ := iv_rlR jE_r (sm_f f (fun p k _ w u => by have := hm.1; unfold fpM at w; unfold mwU at u; omega)) hR hm
theorem w_sum {p q : Nat} {o : Option ((Int → Int) → Int)} (f : fr mwU b τ) (hm : rlR A b) (hp : 68 ≤ p) (hp' : p ≤ 73) (hq : 68 ≤ q) (hq' : q ≤ 73) (hs : mSum b p q o) : mSum τ p q o := iv_mSum (sm_f f (fun p k _ w u => by have := hm.1; unfold fpM at w; unfold mwU at u; omega)) hm.1.1 hp hp' hq hq' hs
/-- one holder gets his worth, is tired, is kept -/
theorem wl_1 (HC : RC oW oT A) (h0 : 0 ≤ t) (h1 : t < vT A) (hl : 1 ≤ l ∧ l ≤ 60) (hh : ∀ i, 0 ≤ i → i < vH A → 0 ≤ hr i ∧ hr i ≤ 60) (hx : 0 ≤ x) (hx' : x < vH A) (I : WLI oW oT A a b hr y x) : ∃ a' b', (∀ f, fX10_driveThrough_93 (f + 1) A.2.2.2.1 (z32 t) (z32 l) (z32 s) (z32 x) a = fX10_driveThrough_93 f A.2.2.2.1 (z32 t) (z32 l) (z32 s) (z32 (x + 1)) a') ∧ (∀ f, fX11_driven_120 (f + 1) (z32 t) (z32 l) (z32 s) (z32 x) b = fX11_driven_120 f (z32 t) (z32 l) (z32 s) (z32 (x + 1)) b') ∧ WLI oW oT A a' b' hr y (x + 1) ∧ fr mwU b b' := by
  obtain ⟨hR, hN, hW, hT⟩ := HC
  obtain ⟨⟨i1, i2, i3, i4, i5⟩, i6, i7, i8, i9⟩ := I
  have hH := hR.2.1
  have hT6 := hR.1
  have hrp := rp_or A.2.2.2.1
  have ja := c_jE i1
  have efl : a.2.2.2.1 = A.2.2.2.1 := j_fl ja
  obtain ⟨⟨x1, x2, x3⟩, x4, -, x5⟩ := i7 x hx hx'
  have x5 := x5 (Int.le_refl x)
  have hrx := hh x hx hx'
  -- the one side
  obtain ⟨a1, c1, c2, c3, c4⟩ := cAW_z (A := a) (oW := oW) (hr := hr) (h := x) (t := t) (l := l) (j_okR ja hR) i2 (j_sum ja (by omega) hW) (fun i g0 g1 => by rw [j_H ja] at g1; exact (i7 i g0 g1).1.1) (fun i g0 g1 => by rw [j_H ja] at g1; exact hh i g0 g1) hx (by rw [j_H ja]; exact hx') h0 (by rw [j_T ja]; exact h1) (by omega)
  rw [d_AW (j_H ja) (by show hI a 5 (50 + x) = _; exact x5) (j_Gap ja h0)] at c1
  have wb := sAW_b (oW := oW) (A := A) (hr := hr) (h := x) (t := t) (l := l)
  obtain ⟨wv, hwv⟩ : ∃ wv, wv = sAW oW A hr x t l := ⟨_, rfl⟩
  rw [← hwv] at c1 wb
  have scb := (i2.2 x hx (by rw [j_H ja]; exact hx')).2.2.1
  have scb' : -99999 ≤ hI a 5 (62 + x) ∧ hI a 5 (62 + x) ≤ 99999 := scb
  obtain ⟨sc, hsc⟩ : ∃ sc, sc = clp (-99999) 99999 (hI a 5 (62 + x) + wv) := ⟨_, rfl⟩
  have sb : -99999 ≤ sc ∧ sc ≤ 99999 := by rw [hsc]; exact clp_b (by omega)
  have fa1 : fi (cU A.2.2.2.1) a a1 := by have := qC_fi c2 c3; rw [efl] at this; exact this
  have r1 : ∀ k, 0 ≤ k → hI a1 5 k = hI a 5 k := fun k g => e_row c2.1 g
  obtain ⟨a2, ha2⟩ : ∃ a2, a2 = jS a1 5 (62 + x) sc := ⟨_, rfl⟩
  have fa2 : fi (cU A.2.2.2.1) a1 a2 := by rw [ha2]; exact fi_f (fr_j (by omega) (by unfold cU; omega))
  have r2 : ∀ k, 0 ≤ k → hI a2 5 k = if k = 62 + x then sc else hI a 5 k := fun k g => by
    rw [ha2, hI_jS (by omega) g (by omega) (by omega), r1 k g]
  have e1 : fX7_addScore (z32 x) (z32 wv) a1 = some a2 := by
    unfold fX7_addScore
    rw [show (62 : Int32) = z32 62 from z32_litn 62, z32_add, aI_h (by omega) (by omega) (by omega), r1 _ (by omega), z32_add, show (-99999 : Int32) = z32 (-99999) by rw [z32_litn, z32_neg], show (99999 : Int32) = z32 99999 from z32_litn 99999, cWith_z (by omega) (by omega) (by omega) (by omega) (by omega), ← hsc, wI_h (by omega) (by omega) (by omega), ← ha2]
  have f2 : fi (cU A.2.2.2.1) A a2 := fi_t i1 (fi_t fa1 fa2)
  have j2 := c_jE f2
  have N2 : okN a2 := by
    refine ⟨?_, fun h g0 g1 => ?_⟩
    · show 0 ≤ hI a2 5 0 ∧ (hI a2 5 0 < vT a2 ∨ hI a2 5 0 = 0)
      rw [r2 0 (by omega), if_neg (by omega), j_T j2]
      have := i2.1
      rw [j_T ja] at this
      exact this
    · rw [j_H j2] at g1
      obtain ⟨q1, q2, q3, q4⟩ := i2.2 h g0 (by rw [j_H ja]; exact g1)
      refine ⟨?_, ?_, ?_, fun t g2 g3 => ?_⟩
      · show 0 ≤ hI a2 5 (50 + h) ∧ hI a2 5 (50 + h) ≤ 60
        rw [r2 _ (by omega), if_neg (by omega)]; exact q1
      · show 0 ≤ hI a2 5 (56 + h) ∧ hI a2 5 (56 + h) ≤ 60
        rw [r2 _ (by omega), if_neg (by omega)]; exact q2
      · show -99999 ≤ hI a2 5 (62 + h) ∧ hI a2 5 (62 + h) ≤ 99999
        rw [r2 _ (by omega)]
        by_cases gh : h = x
        · rw [if_pos (by omega)]; exact sb
        · rw [if_neg (by omega)]; exact q3
      · show 0 ≤ hI a2 5 (68 + h * 6 + t) ∧ hI a2 5 (68 + h * 6 + t) ≤ 60
        rw [r2 _ (by omega), if_neg (by omega)]
        exact q4 t g2 (by rw [j_T j2] at g3; rw [j_T ja]; exact g3)
  have p25 : ∀ i, 0 ≤ i → i < vH A → hI a2 25 i = hr i := fun i g0 g1 => by
    rw [ha2, hI_jS_ne (by omega), c4 i g0]; exact (i7 i g0 g1).1.1
  obtain ⟨a3, d1, d2, d3, d4⟩ := cAT_z (A := a2) (oT := oT) (hr := hr) (h := x) (t := t) (l := l) (j_okR j2 hR) N2 (j_sum j2 (by omega) hT) (fun i g0 g1 => by rw [j_H j2] at g1; exact p25 i g0 g1) (fun i g0 g1 => by rw [j_H j2] at g1; exact hh i g0 g1) hx (by rw [j_H j2]; exact hx') h0 (by rw [j_T j2]; exact h1) (by omega)
  rw [d_AT (j_H j2) (by show hI a2 5 (50 + x) = _; rw [r2 _ (by omega), if_neg (by omega)]; exact x5) (j_Gap j2 h0)] at d1
  have tb := sAT_b (oT := oT) (A := A) (hr := hr) (h := x) (t := t) (l := l) hN hx hx'
  obtain ⟨tv, htv⟩ : ∃ tv, tv = sAT oT A hr x t l := ⟨_, rfl⟩
  rw [← htv] at d1 tb
  have fa3 : fi (cU A.2.2.2.1) a2 a3 := by have := qC_fi d2 d3; rw [j_fl j2] at this; exact this
  have r3 : ∀ k, 0 ≤ k → hI a3 5 k = hI a2 5 k := fun k g => e_row d2.1 g
  obtain ⟨a4, ha4⟩ : ∃ a4, a4 = jS a3 5 (50 + x) tv := ⟨_, rfl⟩
  have fa4 : fi (cU A.2.2.2.1) a3 a4 := by rw [ha4]; exact fi_f (fr_j (by omega) (by unfold cU; omega))
  have r4 : ∀ k, 0 ≤ k → hI a4 5 k = if k = 50 + x then tv else if k = 62 + x then sc else hI a 5 k := fun k g => by
    rw [ha4, hI_jS (by omega) g (by omega) (by omega), r3 k g, r2 k g]
  have e3 : fX7_setBreath (z32 x) (z32 tv) a3 = some a4 := by
    unfold fX7_setBreath
    rw [show (50 : Int32) = z32 50 from z32_litn 50, z32_add, wI_h (by omega) (by omega) (by omega), ← ha4]
  have q25 : ∀ i, 0 ≤ i → i < vH A → hI a4 25 i = hr i := fun i g0 g1 => by
    rw [ha4, hI_jS_ne (by omega), d4 i g0]; exact p25 i g0 g1
  -- the other side
  obtain ⟨b1, g1, g2, g3, g4⟩ := mRW_w (σ := b) hR hN i3 x3 i4 (fun i k0 k1 => (i7 i k0 k1).1.2.1) hh hx hx' h0 h1 (by omega : 0 ≤ l ∧ l ≤ 60)
  rw [← hwv] at g1
  obtain ⟨b2, hb2⟩ : ∃ b2, b2 = jS b1 88 x sc := ⟨_, rfl⟩
  have fb2 : fr mwU b1 b2 := by rw [hb2]; exact fr_j hx (by unfold mwU; omega)
  have m2 := w_rlR hR (fr_t g3 fb2) i3
  obtain ⟨b3, k1, k2⟩ := mTN_z (σ := b2) (oT := oT) (w_sum (A := A) (fr_t g3 fb2) i3 (by omega) (by omega) (by omega) (by omega) i5) (fctA_ok hR hN hh hx hx' h0 h1 (by omega)) (okG_c g2 (fun k => by rw [hb2, hI_jS_ne (by omega)])) m2.1
  have k1' : fX11_breathNow b2 = some (z32 tv, b3) := by
    rw [k1, htv]
    cases oT <;> rfl
  obtain ⟨b4, hb4⟩ : ∃ b4, b4 = jS b3 101 x tv := ⟨_, rfl⟩
  have fb4 : fr mwU b b4 := fr_t (fr_t (fr_t g3 fb2) (sM_fr k2)) (by rw [hb4]; exact fr_j hx (by unfold mwU; omega))
  have m88 : ∀ i, 0 ≤ i → hI b4 88 i = if i = x then sc else hI b 88 i := fun i g => by
    rw [hb4, hI_jS_ne (by omega), k2.2.1 88 i, hb2, hI_jS hx g (by omega) (by omega), g4 88 i (by omega)]
  have m101 : ∀ i, 0 ≤ i → hI b4 101 i = if i = x then tv else hI b 101 i := fun i g => by
    rw [hb4, hI_jS hx g (by omega) (by omega), k2.2.1 101 i, hb2, hI_jS_ne (by omega), g4 101 i (by omega)]
  have mo : ∀ p k, p ≠ 56 → p ≠ 88 → p ≠ 101 → hI b4 p k = hI b p k := fun p k w0 w1 w2 => by
    rw [hb4, hI_jS_ne w2, k2.2.1 p k, hb2, hI_jS_ne w1, g4 p k w0]
  have K4 : rowK (gNow a4) b4 0 := rowK_d i8 (by omega) (fun i w0 w1 => by
    show hI a4 5 i = hI a 5 i
    rw [r4 i (by omega), if_neg (by omega), if_neg (by omega)]) (mo 90 0 (by omega) (by omega) (by omega)) (fun p i w0 w1 w2 w3 => mo p _ (by omega) (by omega) (by omega))
  obtain ⟨a5, b5, s1, s2, s3, s4, s5⟩ := kept_j (a := a4) (b := b4) (t := t) (l := l) (h := x) (r := hr x) K4 (by rw [mo 96 x (by omega) (by omega) (by omega)]; exact x2) (by omega) (by omega) (by omega) (by omega)
  have fa5 : fi (cU A.2.2.2.1) a4 a5 := fi_f (fr_m s4 (fun p k _ u => by unfold keU at u; unfold cU; omega))
  have fb5 : fr mwU b b5 := fr_t fb4 (fr_m s5 (fun p k _ u => by unfold wdU at u; unfold mwU; omega))
  have r5 : ∀ k, 0 ≤ k → (k = 0 ∨ 50 ≤ k) → hI a5 5 k = if k = 50 + x then tv else if k = 62 + x then sc else hI a 5 k := fun k g w => by
    rw [(s4.2 5 k g (by unfold keU; omega)).1, r4 k g]
  have fA5 : fi (cU A.2.2.2.1) A a5 := fi_t f2 (fi_t fa3 (fi_t fa4 fa5))
  have j5 := c_jE fA5
  refine ⟨a5, b5, fun f => ?_, fun f => ?_, ⟨⟨fA5, ?_, w_rlR hR fb5 i3, w_sum (A := A) fb5 i3 (by omega) (by omega) (by omega) (by omega) i4, w_sum (A := A) fb5 i3 (by omega) (by omega) (by omega) (by omega) i5⟩, fun k w0 w1 => ?_, fun i w0 w1 => ?_, s3, ?_, ?_, i9.2.2⟩, fb5⟩
  · have eH : hI a (rp A.2.2.2.1 + 0) 2 = vH A := (i1.2 _ 2 (by omega) (by unfold cU; omega)).1
    have q25x := q25 x hx hx'
    simp (disch := omega) only [fX10_driveThrough_93, z32_add, z32_sub, z32_mul, z32_neg, z32_litn, z32_lt, z32_le, z32_eq, iG_h, lG_h, iS_q, lS_q, aI_h, wI_h, aL_h, wL_h, ↓bnd_q, bnr_q, bnc_q, ↓reduceIte, ieqT, ieqF, iltT, iltF, ileT, ileF, not_true, not_false_iff, eH, c1, e1, d1, e3, q25x, s1]
  · have e63 := i3.2.2.1
    have b13 := i3.1
    have eb : fX11_between (z64 (hI a 5 (62 + x) + wv)) (z32 (-99999)) (z32 99999) = z32 sc := by
      rw [mBet_z (by omega) (by omega) (by omega) (by omega) (by omega), hsc]
    simp (disch := omega) only [fX11_driven_120, z32_add, z32_sub, z32_mul, z32_neg, z32_litn, z32_lt, z32_le, z32_eq, iG_h, lG_h, iS_q, lS_q, aI_h, wI_h, aL_h, wL_h, ↓bnd_q, bnr_q, bnc_q, ↓reduceIte, ieqT, ieqF, iltT, iltF, ileT, ileF, not_true, not_false_iff, z32_64, e63, x4, g1, eb, ← hb2, k1', ← hb4, s2]
  · refine ⟨?_, fun h w0 w1 => ?_⟩
    · show 0 ≤ hI a5 5 0 ∧ (hI a5 5 0 < vT a5 ∨ hI a5 5 0 = 0)
      rw [r5 0 (by omega) (by omega), if_neg (by omega), if_neg (by omega), j_T j5]
      have := i2.1
      rw [j_T ja] at this
      exact this
    · rw [j_H j5] at w1
      obtain ⟨q1, q2, q3, q4⟩ := N2.2 h w0 (by rw [j_H j2]; exact w1)
      obtain ⟨u1, u2, u3, u4⟩ := i2.2 h w0 (by rw [j_H ja]; exact w1)
      refine ⟨?_, ?_, ?_, fun t w2 w3 => ?_⟩
      · show 0 ≤ hI a5 5 (50 + h) ∧ hI a5 5 (50 + h) ≤ 60
        rw [r5 _ (by omega) (by omega)]
        by_cases gh : h = x
        · rw [if_pos (by omega)]; exact tb
        · rw [if_neg (by omega), if_neg (by omega)]; exact u1
      · show 0 ≤ hI a5 5 (56 + h) ∧ hI a5 5 (56 + h) ≤ 60
        rw [r5 _ (by omega) (by omega), if_neg (by omega), if_neg (by omega)]; exact u2
      · show -99999 ≤ hI a5 5 (62 + h) ∧ hI a5 5 (62 + h) ≤ 99999
        rw [r5 _ (by omega) (by omega), if_neg (by omega)]
        by_cases gh : h = x
        · rw [if_pos (by omega)]; exact sb
        · rw [if_neg (by omega)]; exact u3
      · show 0 ≤ hI a5 5 (68 + h * 6 + t) ∧ hI a5 5 (68 + h * 6 + t) ≤ 60
        rw [r5 _ (by omega) (by omega), if_neg (by omega), if_neg (by omega)]
        exact u4 t w2 (by rw [j_T j5] at w3; rw [j_T ja]; exact w3)
  · rw [r5 k w0 (by omega), if_neg (by omega), if_neg (by omega)]; exact i6 k w0 w1
  · obtain ⟨⟨z1, z2, z3⟩, z4, z5, z6⟩ := i7 i w0 w1
    refine ⟨⟨?_, ?_, ?_⟩, ?_, fun w2 => ?_, fun w2 => ?_⟩
    · rw [(s4.2 25 i w0 (by unfold keU; omega)).1]; exact q25 i w0 w1
    · rw [(s5.2 96 i w0 (by unfold wdU; omega)).1, mo 96 i (by omega) (by omega) (by omega)]; exact z2
    · rw [(s5.2 86 i w0 (by unfold wdU; omega)).1, mo 86 i (by omega) (by omega) (by omega)]; exact z3
    · rw [(s5.2 88 i w0 (by unfold wdU; omega)).1, m88 i w0, r5 _ (by omega) (by omega)]
      by_cases gi : i = x
      · rw [if_pos gi, if_neg (by omega), if_pos (by omega)]
      · rw [if_neg gi, if_neg (by omega), if_neg (by omega)]; exact z4
    · rw [(s5.2 101 i w0 (by unfold wdU; omega)).1, m101 i w0, r5 _ (by omega) (by omega)]
      by_cases gi : i = x
      · rw [if_pos gi, if_pos (by omega)]
      · rw [if_neg gi, if_neg (by omega), if_neg (by omega)]; exact z5 (by omega)
    · rw [r5 _ (by omega) (by omega), if_neg (by omega), if_neg (by omega)]; exact z6 (by omega)
  · rw [(s4.2 1 10 (by omega) (by unfold keU; omega)).1, ha4, hI_jS_ne (by omega), kC_p d2.1 (by omega) (by omega), ha2, hI_jS_ne (by omega), kC_p c2.1 (by omega) (by omega)]
    exact i9.1
  · rw [(fb5.2 56 59 (by omega) (by unfold mwU; omega)).2]; exact i9.2.1
/-- all holders -/
theorem wl_j (HC : RC oW oT A) (h0 : 0 ≤ t) (h1 : t < vT A) (hl : 1 ≤ l ∧ l ≤ 60) (hh : ∀ i, 0 ≤ i → i < vH A → 0 ≤ hr i ∧ hr i ≤ 60) (hnx : nx = if vT A ≤ t + 1 then 0 else t + 1) : ∀ (d : Nat) (x : Int) (a b : zS) (f f' : Nat), x + d = vH A → 0 ≤ x → d < f → d < f' → WLI oW oT A a b hr y x → ∃ a' b', fX10_driveThrough_93 f A.2.2.2.1 (z32 t) (z32 l) (z32 s) (z32 x) a = fX10_driveThrough_190 (z32 s) (z32 nx) a' ∧ fX11_driven_120 f' (z32 t) (z32 l) (z32 s) (z32 x) b = fX11_driven_197 zF (z32 t) (z32 s) (z32 0) b' ∧ WLI oW oT A a' b' hr y (vH A) ∧ fr mwU b b' := by
  have hH := HC.1.2.1
  have hT6 := HC.1.1
  have hrp := rp_or A.2.2.2.1
  intro d
  induction d with
  | zero =>
    intro x a b f f' hx hx0 hf hf' I
    obtain ⟨g, rfl⟩ : ∃ g, f = g + 1 := ⟨f - 1, by omega⟩
    obtain ⟨g', rfl⟩ : ∃ g', f' = g' + 1 := ⟨f' - 1, by omega⟩
    have ex : x = vH A := by omega
    have I' := I
    obtain ⟨⟨i1, i2, i3, i4, i5⟩, -⟩ := I'
    have eH : hI a (rp A.2.2.2.1 + 0) 2 = vH A := (i1.2 _ 2 (by omega) (by unfold cU; omega)).1
    have eT : hI a (rp A.2.2.2.1 + 0) 1 = vT A := (i1.2 _ 1 (by omega) (by unfold cU; omega)).1
    have e63 := i3.2.2.1
    have b13 := i3.1
    refine ⟨a, b, ?_, ?_, by rw [← ex]; exact I, fr_r⟩
    · by_cases gt : vT A ≤ t + 1
      · rw [if_pos gt] at hnx
        simp (disch := omega) only [fX10_driveThrough_93, z32_add, z32_sub, z32_mul, z32_neg, z32_litn, z32_lt, z32_le, z32_eq, iG_h, lG_h, iS_q, lS_q, aI_h, wI_h, aL_h, wL_h, ↓bnd_q, bnr_q, bnc_q, ↓reduceIte, ieqT, ieqF, iltT, iltF, ileT, ileF, not_true, not_false_iff, eH, eT, hnx]
      · rw [if_neg gt] at hnx
        simp (disch := omega) only [fX10_driveThrough_93, z32_add, z32_sub, z32_mul, z32_neg, z32_litn, z32_lt, z32_le, z32_eq, iG_h, lG_h, iS_q, lS_q, aI_h, wI_h, aL_h, wL_h, ↓bnd_q, bnr_q, bnc_q, ↓reduceIte, ieqT, ieqF, iltT, iltF, ileT, ileF, not_true, not_false_iff, eH, eT, hnx]
    · simp (disch := omega) only [fX11_driven_120, z32_add, z32_sub, z32_mul, z32_neg, z32_litn, z32_lt, z32_le, z32_eq, iG_h, lG_h, iS_q, lS_q, aI_h, wI_h, aL_h, wL_h, ↓bnd_q, bnr_q, bnc_q, ↓reduceIte, ieqT, ieqF, iltT, iltF, ileT, ileF, not_true, not_false_iff, e63]
  | succ d ih =>
    intro x a b f f' hx hx0 hf hf' I
    obtain ⟨g, rfl⟩ : ∃ g, f = g + 1 := ⟨f - 1, by omega⟩
    obtain ⟨g', rfl⟩ : ∃ g', f' = g' + 1 := ⟨f' - 1, by omega⟩
    obtain ⟨a1, b1, c1, c2, c3, c4⟩ := wl_1 (s := s) HC h0 h1 hl hh hx0 (by omega) I
    obtain ⟨a', b', d1, d2, d3, d4⟩ := ih (x + 1) a1 b1 g g' (by omega) (by omega) (by omega) (by omega) c3
    exact ⟨a', b', by rw [c1 g, d1], by rw [c2 g', d2], d3, fr_t c4 d4⟩
/-- the other side's end: all are tired, the next tunnel -/
theorem fin_m (hR : okR A) (hm : rlR A b) (h0 : 0 ≤ t) (h1 : t < vT A) (hnx : nx = if vT A ≤ t + 1 then 0 else t + 1) (hb : ∀ i, 0 ≤ i → i < vH A → 0 ≤ hI b 101 i ∧ hI b 101 i ≤ 60) : ∃ b', fX11_driven_197 zF (z32 t) (z32 s) (z32 0) b = some (z32 s, b') ∧ fr (fun p k => (p = 86 ∧ k < 6) ∨ (p = 85 ∧ k = 0)) b b' ∧ hI b' 85 0 = nx ∧ ∀ i, 0 ≤ i → i < vH A → hI b' 86 i = hI b 101 i := by
  have hH := hR.2.1
  have hT6 := hR.1
  have e63 := hm.2.2.1
  have e58 := hm.2.1
  have b13 := hm.1
  have en : (t + 1) % vT A = nx := by
    rw [hnx]
    by_cases g : vT A ≤ t + 1
    · rw [if_pos g, show t + 1 = vT A by omega, Int.emod_self]
    · rw [if_neg g, Int.emod_eq_of_lt (by omega) (by omega)]
  have nb : 0 ≤ nx ∧ nx ≤ 6 := by rw [hnx]; split <;> omega
  refine zupP0 (β := Int32 × zS) (L := fun f x a => fX11_driven_197 f (z32 t) (z32 s) (z32 x) a) (n := vH A) (Q := fun r => ∃ b', r = some (z32 s, b') ∧ fr (fun p k => (p = 86 ∧ k < 6) ∨ (p = 85 ∧ k = 0)) b b' ∧ hI b' 85 0 = nx ∧ ∀ i, 0 ≤ i → i < vH A → hI b' 86 i = hI b 101 i)
    (fun x a => fr (fun p k => p = 86 ∧ k < 6) b a ∧ ∀ i, 0 ≤ i → i < x → hI a 86 i = hI b 101 i) (a := b) hH.1 (by omega) ⟨fr_r, fun i g0 g1 => by omega⟩ ?_ ?_
  · intro f x a hx hx' ⟨p1, p2⟩
    have e13 : hI a 56 13 = hI b 56 13 := (p1.2 56 13 (by omega) (by omega)).1
    have e63' : hI a 63 (hI b 56 13) = vH A := by rw [(p1.2 63 _ (by omega) (by omega)).1, e63]
    have e101 : hI a 101 x = hI b 101 x := (p1.2 101 x hx (by omega)).1
    have bx := hb x hx hx'
    refine ⟨jS a 86 x (hI b 101 x), ?_, fr_t p1 (fr_j hx (by omega)), fun i g0 g1 => ?_⟩
    · simp (disch := omega) only [fX11_driven_197, z32_add, z32_sub, z32_mul, z32_neg, z32_litn, z32_lt, z32_le, z32_eq, iG_h, lG_h, iS_q, lS_q, aI_h, wI_h, aL_h, wL_h, ↓bnd_q, bnr_q, bnc_q, ↓reduceIte, ieqT, ieqF, iltT, iltF, ileT, ileF, not_true, not_false_iff, e13, e63', e101]
    · rw [hI_jS hx g0 (by omega) (by omega)]
      by_cases gi : i = x
      · rw [if_pos gi, gi]
      · rw [if_neg gi]; exact p2 i g0 (by omega)
  · intro f a ⟨p1, p2⟩
    have e13 : hI a 56 13 = hI b 56 13 := (p1.2 56 13 (by omega) (by omega)).1
    have e63' : hI a 63 (hI b 56 13) = vH A := by rw [(p1.2 63 _ (by omega) (by omega)).1, e63]
    have e58' : hI a 58 (hI b 56 13) = vT A := by rw [(p1.2 58 _ (by omega) (by omega)).1, e58]
    refine ⟨jS a 85 0 nx, ?_, fr_t (fr_m p1 (fun p k _ u => Or.inl u)) (fr_j (by omega) (Or.inr ⟨rfl, rfl⟩)), ?_, fun i g0 g1 => ?_⟩
    · show fX11_driven_197 (f + 1) (z32 t) (z32 s) (z32 (vH A)) a = _
      rw [fX11_driven_197, show iG a 56 13 = z32 (hI a 56 13) from iG_h a 56 13, e13, aI_h (by omega) (by omega) (by omega), e63', if_pos (by rw [z32_le (by omega) (by omega) (by omega) (by omega)]; omega), aI_h (by omega) (by omega) (by omega), e58', gd_pos (by rw [z32_litn, z32_eq (by omega) (by omega) (by omega) (by omega)]; omega), z1p, z32_rem (by omega) (by omega) (by omega) (by omega), en, show (0 : Int32) = z32 0 from z32_litn 0, wI_h (by omega) (by omega) (by omega)]
    · rw [hI_jS (by omega) (by omega) (by omega) (by omega), if_pos rfl]
    · rw [hI_jS_ne (by omega)]; exact p2 i g0 g1
end DV

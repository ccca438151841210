/-! MY OWN: ALONE and ON, the other side -/
section MO
variable {A B σ τ υ : zS} {oW oT : Option ((Int → Int) → Int)} {t br s k l t0 h W w0 k0 left : Int} {R : Int → Int} {T : Nat → Int} {n m : Nat}
/-- what such a look leaves as it was -/
def fM (σ τ : zS) : Prop := qM σ τ ∧ (∀ k, 0 ≤ k → hL τ 97 k = hL σ 97 k)
theorem fM_r : fM σ σ := ⟨qM_r σ, fun _ _ => rfl⟩
theorem fM_t (h1 : fM σ τ) (h2 : fM τ υ) : fM σ υ := ⟨qM_t h1.1 h2.1, fun k a => (h2.2 k a).trans (h1.2 k a)⟩
theorem fM_68 {v : Int} : fM σ (jS σ 56 68 v) := ⟨⟨⟨fun p k a b _ _ _ g => by
    by_cases hp : p = 56
    · subst hp
      exact hI_j0 (by omega) b (by have := g rfl; omega)
    · exact hI_jS_ne hp, fun _ _ _ _ _ _ _ => rfl⟩, rfl, fun p k a _ => ⟨hI_jS_ne (by omega), rfl⟩⟩, fun _ _ => rfl⟩
theorem fM_69 {v : Int} : fM σ (kS σ 56 69 v) := ⟨⟨⟨fun _ _ _ _ _ _ _ _ => rfl, fun p k a b _ _ g => by
    by_cases hp : p = 56
    · subst hp
      exact hL_k0 (by omega) b (by have := g rfl; omega)
    · exact hL_kS_ne hp⟩, rfl, fun p k a _ => ⟨rfl, hL_kS_ne (by omega)⟩⟩, fun k _ => hL_kS_ne (by omega)⟩
theorem sMs_b (h : sameM σ τ) : fM σ τ ∧ hI τ 56 68 = hI σ 56 68 ∧ hL τ 56 69 = hL σ 56 69 := ⟨⟨sM_q h, fun k _ => h.2.2 97 k (by omega)⟩, h.2.1 56 68, h.2.2 56 69 (by omega)⟩
def onE (r3 : Int32 → Int32 → Int32 → Int64 → Int32 → zS → Option zS) (x1 x2 x3 : Int32) (x4 : Int64) (x6 : Int32) (x7 : Int64) (σ : zS) : Option zS := if x6 ≤ 0 then fX11_findsOn_110 r3 x1 x2 x3 x4 x6 x7 σ else if (lG σ 56 69) < x7 then fX11_findsOn_110 r3 x1 x2 x3 x4 x6 x7 σ else fX11_findsOn_122 r3 x1 x2 x3 x4 x6 σ
theorem onIn_z (r3 : Int32 → Int32 → Int32 → Int64 → Int32 → zS → Option zS) (hR : okR A) (hm : RM oW oT A σ) (h0 : 0 ≤ t) (h1 : t < vT A) (hb : 0 ≤ br ∧ br ≤ 60) (hs : 0 ≤ s ∧ s ≤ 60) (hW : 1 ≤ W ∧ W ≤ w0) (hw0 : w0 ≤ 1679616) (hk0 : 0 ≤ k0 ∧ k0 ≤ 6711745536) (hRb : ∀ b, 0 ≤ b → b ≤ 60 → -k0 ≤ R b ∧ R b ≤ k0) (hl : 0 ≤ left ∧ left ≤ 3) (he : ∀ b, 0 ≤ b → b ≤ 60 → hL σ 97 (61 * left + b) = R b) : ∃ τ, fX11_findsOn_15 r3 zF (z32 t) (z32 left) (z32 br) (z64 W) (z32 s) (z64 0) (z32 0) σ = onE r3 (z32 t) (z32 left) (z32 br) (z64 W) (z32 s) (z64 (sS oW oT A W R t br s)) τ ∧ fM σ τ ∧ hI τ 56 68 = hI σ 56 68 ∧ hL τ 56 69 = hL σ 56 69 := by
  have hc := (hR.2.2.2.2.1 t h0 h1).2.1
  have hT6 := hR.1
  refine zupP0 (β := zS) (L := fun f x a => fX11_findsOn_15 r3 f (z32 t) (z32 left) (z32 br) (z64 W) (z32 s) (z64 (zs (fun k => vWt A t k * (sWA oW A t (vLen A t k) (zmin (vLen A t k) s) br * W + R (sTA oT A t (vLen A t k) (zmin (vLen A t k) s) br))) x)) (z32 x) a) (n := vCnt A t) (Q := fun r => ∃ τ, r = onE r3 (z32 t) (z32 left) (z32 br) (z64 W) (z32 s) (z64 (sS oW oT A W R t br s)) τ ∧ fM σ τ ∧ hI τ 56 68 = hI σ 56 68 ∧ hL τ 56 69 = hL σ 56 69)
    (fun x τ => fM σ τ ∧ hI τ 56 68 = hI σ 56 68 ∧ hL τ 56 69 = hL σ 56 69) (a := σ) (by omega) (by omega) ⟨fM_r, rfl, rfl⟩ ?_ ?_
  · intro f x a hx hx' ⟨p1, p2, p3⟩
    have hma := m_RM p1.1.1 hR hm
    have hlw := (hR.2.2.2.2.1 t h0 h1).2.2 x hx hx'
    have zb : 0 ≤ zmin (vLen A t x) s ∧ zmin (vLen A t x) s ≤ 60 := by unfold zmin; split <;> omega
    obtain ⟨τ1, t1, t2, t3, t4, t5, t6⟩ := mWA_z (σ := a) (t := t) (l := vLen A t x) (s := zmin (vLen A t x) s) (br := br) hR hma.1 hma.2.2.1 h0 h1 zb (by omega) hb
    have hm1 := m_RM t2.1 hR hma
    have hg := (hR.2.2.2.2.1 t h0 h1).1
    have ok := fct_ok (s := zmin (vLen A t x) s) (l := vLen A t x) (la := 1) (be := 0) (br := br) (g := vGap A t) zb (by omega) (by omega) (by omega) hb hg
    obtain ⟨τ2, u1, u2⟩ := mTN_z hm1.2.2.2 ok t3 hm1.1.1
    have u1' : fX11_breathNow τ1 = some (z32 (sTA oT A t (vLen A t x) (zmin (vLen A t x) s) br), τ2) := by
      rw [u1]; cases oT <;> rfl
    have tb2 := sTA_b (oT := oT) (A := A) (t := t) (l := vLen A t x) (s := zmin (vLen A t x) s) hb
    obtain ⟨v1, v2, v3⟩ := sMs_b u2
    have e97 : hL τ2 97 (61 * left + sTA oT A t (vLen A t x) (zmin (vLen A t x) s) br) = R (sTA oT A t (vLen A t x) (zmin (vLen A t x) s) br) := by
      rw [v1.2 _ (by omega), t5 97 _ (by omega), p1.2 _ (by omega)]; exact he _ tb2.1 tb2.2
    have fa : fM a τ1 := ⟨t2, fun k _ => t5 97 k (by omega)⟩
    refine ⟨τ2, ?_, fM_t p1 (fM_t fa v1), v2.trans (t6.trans p2), v3.trans ((t5 56 69 (by omega)).trans p3)⟩
    have wab := sWA_b (oW := oW) (A := A) (t := t) (l := vLen A t x) (s := zmin (vLen A t x) s) (br := br)
    have hlx := mLen_z hR hma.1 h0 h1 hx hx'
    have hwx := mWt_z hR hm1.1 h0 h1 hx hx'
    have hcx := mCnt_z hR hma.1 h0 h1
    try simp only []
    rw [zs_s hx]
    simp (disch := omega) only [fX11_findsOn_15, hcx, hlx, hwx, mles_z, z32_add, z32_sub, z32_mul, z32_neg, z32_litn, z32_lt, z32_le, z32_eq, iG_h, lG_h, iS_q, lS_q, aI_h, wI_h, aL_h, wL_h, ↓bnd_q, bnr_q, bnc_q, ↓reduceIte, ieqT, ieqF, iltT, iltF, ileT, ileF, not_true, not_false_iff, z64_add, z64_sub, z64_mul, z64_neg, z64_litn, z64_lt, z64_le, z64_eq, z32_64, z64_32, t1, u1', e97]
  · intro f a ⟨p1, p2, p3⟩
    have hma := m_RM p1.1.1 hR hm
    have hcx := mCnt_z hR hma.1 h0 h1
    refine ⟨a, ?_, p1, p2, p3⟩
    show fX11_findsOn_15 r3 (f + 1) (z32 t) (z32 left) (z32 br) (z64 W) (z32 s) (z64 (sS oW oT A W R t br s)) (z32 (vCnt A t)) a = _
    rw [fX11_findsOn_15, hcx, bnr_q, if_pos (by rw [z32_le (by omega) (by omega) (by omega) (by omega)]; omega)]
    rfl
theorem mOn_z (hR : okR A) (hm : RM oW oT A σ) (h0 : 0 ≤ t) (h1 : t < vT A) (hb : 0 ≤ br ∧ br ≤ 60) (hW : 1 ≤ W ∧ W ≤ w0) (hw0 : w0 ≤ 1679616) (hk0 : 0 ≤ k0 ∧ k0 ≤ 6711745536) (hRb : ∀ b, 0 ≤ b → b ≤ 60 → -k0 ≤ R b ∧ R b ≤ k0) (hl : 0 ≤ left ∧ left ≤ 3) (he : ∀ b, 0 ≤ b → b ≤ 60 → hL σ 97 (61 * left + b) = R b) : ∃ τ, fX11_findsOn (z32 t) (z32 left) (z32 br) (z64 W) σ = some τ ∧ fM σ τ ∧ hI τ 56 68 = am (sS oW oT A W R t br) br ∧ hL τ 56 69 = sS oW oT A W R t br (am (sS oW oT A W R t br) br) := by
  have hc := (hR.2.2.2.2.1 t h0 h1).2.1
  have sb : ∀ s, -1000000000000000 ≤ sS oW oT A W R t br s ∧ sS oW oT A W R t br s ≤ 1000000000000000 := fun s => by
    have := sS_p (oW := oW) (oT := oT) (s := s) hR h0 h1 hb hW hRb (k := vCnt A t) (by omega) (Int.le_refl _)
    unfold sS
    omega
  rw [fX11_findsOn, show (0 : Int32) = z32 0 from z32_litn 0]
  refine zupP0 (β := zS) (L := fun f x a => fX11_findsOn_3 f (z32 t) (z32 left) (z32 br) (z64 W) (z32 x) a) (n := br + 1) (Q := fun r => ∃ τ, r = some τ ∧ fM σ τ ∧ hI τ 56 68 = am (sS oW oT A W R t br) br ∧ hL τ 56 69 = sS oW oT A W R t br (am (sS oW oT A W R t br) br))
    (fun x τ => fM σ τ ∧ (1 ≤ x → hI τ 56 68 = am (sS oW oT A W R t br) (x - 1) ∧ hL τ 56 69 = sS oW oT A W R t br (am (sS oW oT A W R t br) (x - 1)))) (a := σ) (by omega) (by omega) ⟨fM_r, fun g => by omega⟩ ?_ ?_
  · intro f x a hx hx' ⟨p1, p2⟩
    obtain ⟨τ, i1, i2, i3, i4⟩ := onIn_z (σ := a) (s := x) (fX11_findsOn_3 f) hR (m_RM p1.1.1 hR hm) h0 h1 hb (by omega) hW hw0 hk0 hRb hl (fun b g0 g1 => by rw [p1.2 _ (by omega)]; exact he b g0 g1)
    have sx := sb x
    have e1 : fX11_findsOn_3 (f + 1) (z32 t) (z32 left) (z32 br) (z64 W) (z32 x) a = onE (fX11_findsOn_3 f) (z32 t) (z32 left) (z32 br) (z64 W) (z32 x) (z64 (sS oW oT A W R t br x)) τ := by
      rw [fX11_findsOn_3, if_neg (by rw [z32_lt (by omega) (by omega) (by omega) (by omega)]; omega), show (0 : Int64) = z64 0 from z64_litn 0, show (0 : Int32) = z32 0 from z32_litn 0]
      exact i1
    have set : fM σ (kS (jS τ 56 68 x) 56 69 (sS oW oT A W R t br x)) ∧ hI (kS (jS τ 56 68 x) 56 69 (sS oW oT A W R t br x)) 56 68 = x ∧ hL (kS (jS τ 56 68 x) 56 69 (sS oW oT A W R t br x)) 56 69 = sS oW oT A W R t br x := by
      refine ⟨fM_t p1 (fM_t i2 (fM_t fM_68 fM_69)), ?_, ?_⟩
      · rw [hI_kS, hI_jS (by omega) (by omega) (by omega) (by omega), if_pos rfl]
      · rw [hL_kS (by omega) (by omega) (by omega) (by omega), if_pos rfl]
    show ∃ a', fX11_findsOn_3 (f + 1) (z32 t) (z32 left) (z32 br) (z64 W) (z32 x) a = fX11_findsOn_3 f (z32 t) (z32 left) (z32 br) (z64 W) (z32 (x + 1)) a' ∧ fM σ a' ∧ (1 ≤ x + 1 → hI a' 56 68 = am (sS oW oT A W R t br) (x + 1 - 1) ∧ hL a' 56 69 = sS oW oT A W R t br (am (sS oW oT A W R t br) (x + 1 - 1)))
    rw [e1, show x + 1 - 1 = x by omega]
    by_cases gx : x = 0
    · refine ⟨_, ?_, set.1, fun _ => ?_⟩
      · unfold onE fX11_findsOn_110 fX11_findsOn_122
        rw [if_pos (by rw [gx, z32_litn, z32_le (by omega) (by omega) (by omega) (by omega)]; omega), iS_q, bnd_q, lS_q, bnd_q, z1p]
      · rw [set.2.1, set.2.2, gx, am_0]
        exact ⟨rfl, rfl⟩
    · obtain ⟨q1, q2⟩ := p2 (by omega)
      have am1 : am (sS oW oT A W R t br) x = if sS oW oT A W R t br x ≤ sS oW oT A W R t br (am (sS oW oT A W R t br) (x - 1)) then am (sS oW oT A W R t br) (x - 1) else x := by
        have := am_s (g := sS oW oT A W R t br) (k := x - 1) (by omega)
        rw [show x - 1 + 1 = x by omega] at this
        exact this
      have e69 : lG τ 56 69 = z64 (sS oW oT A W R t br (am (sS oW oT A W R t br) (x - 1))) := by
        rw [show lG τ 56 69 = z64 (hL τ 56 69) from lG_h τ 56 69, i4, q2]
      have sy := sb (am (sS oW oT A W R t br) (x - 1))
      have nx : ¬ (z32 x ≤ 0) := by rw [z32_litn, z32_le (by omega) (by omega) (by omega) (by omega)]; omega
      by_cases gc : sS oW oT A W R t br x ≤ sS oW oT A W R t br (am (sS oW oT A W R t br) (x - 1))
      · rw [am1, if_pos gc]
        refine ⟨τ, ?_, fM_t p1 i2, fun _ => ⟨i3.trans q1, i4.trans q2⟩⟩
        unfold onE fX11_findsOn_122
        rw [if_neg nx, e69, if_neg (by rw [z64_lt (by omega) (by omega) (by omega) (by omega)]; omega), z1p]
      · rw [am1, if_neg gc]
        refine ⟨_, ?_, set.1, fun _ => set.2⟩
        unfold onE fX11_findsOn_110 fX11_findsOn_122
        rw [if_neg nx, e69, if_pos (by rw [z64_lt (by omega) (by omega) (by omega) (by omega)]; omega), iS_q, bnd_q, lS_q, bnd_q, z1p]
  · intro f a ⟨p1, p2⟩
    have q := p2 (by omega)
    rw [show br + 1 - 1 = br by omega] at q
    refine ⟨a, ?_, p1, q⟩
    show fX11_findsOn_3 (f + 1) (z32 t) (z32 left) (z32 br) (z64 W) (z32 (br + 1)) a = some a
    rw [fX11_findsOn_3, if_pos (by rw [z32_lt (by omega) (by omega) (by omega) (by omega)]; omega)]
-- ALONE
def sAl (oW : Option ((Int → Int) → Int)) (A : zS) (t br s : Int) : Int := zs (fun k => vWt A t k * sWA oW A t (vLen A t k) (zmin (vLen A t k) s) br) (vCnt A t)
theorem sAl_S : sS oW oT A 1 (fun _ => 0) t br = sAl oW A t br := by
  funext s
  unfold sS sAl
  exact zs_c (fun i _ _ => by simp)
def alE (r2 : Int32 → Int32 → Int32 → zS → Option zS) (x1 x2 x3 : Int32) (x4 : Int64) (σ : zS) : Option zS := if x3 ≤ 0 then fX11_findsAlone_94 r2 x1 x2 x3 x4 σ else if (lG σ 56 69) < x4 then fX11_findsAlone_94 r2 x1 x2 x3 x4 σ else fX11_findsAlone_105 r2 x1 x2 x3 σ
theorem sAl_p (hR : okR A) (h0 : 0 ≤ t) (h1 : t < vT A) (hb : 0 ≤ br ∧ br ≤ 60) (hk : 0 ≤ k) (hk' : k ≤ vCnt A t) : -1000000 ≤ zs (fun k => vWt A t k * sWA oW A t (vLen A t k) (zmin (vLen A t k) s) br) k ∧ zs (fun k => vWt A t k * sWA oW A t (vLen A t k) (zmin (vLen A t k) s) br) k ≤ 1000000 := by
  have hc := (hR.2.2.2.2.1 t h0 h1).2.1
  have := zs_b (g := fun k => vWt A t k * sWA oW A t (vLen A t k) (zmin (vLen A t k) s) br) (a := -8991) (b := 8991) (k := k) hk (fun i g0 g1 => by
    have hw := ((hR.2.2.2.2.1 t h0 h1).2.2 i g0 (by omega)).2
    have b1 := sWA_b (oW := oW) (A := A) (t := t) (l := vLen A t i) (s := zmin (vLen A t i) s) (br := br)
    have := mulb (a := 999) (b := 9) (x := sWA oW A t (vLen A t i) (zmin (vLen A t i) s) br) (y := vWt A t i) b1.1 b1.2 (by omega) (by omega)
    rw [Int.mul_comm (vWt A t i)]
    omega)
  omega
theorem alIn_z (r2 : Int32 → Int32 → Int32 → zS → Option zS) (hR : okR A) (hm : RM oW oT A σ) (hh0 : 0 ≤ h) (hh1 : h < vH A) (h0 : 0 ≤ t) (h1 : t < vT A) (hb : 0 ≤ vBr A h ∧ vBr A h ≤ 60) (hs : 0 ≤ s ∧ s ≤ 60) : ∃ τ, fX11_findsAlone_18 r2 zF (z32 h) (z32 t) (z32 s) (z64 0) (z32 0) σ = alE r2 (z32 h) (z32 t) (z32 s) (z64 (sAl oW A t (vBr A h) s)) τ ∧ fM σ τ ∧ hI τ 56 68 = hI σ 56 68 ∧ hL τ 56 69 = hL σ 56 69 := by
  have hc := (hR.2.2.2.2.1 t h0 h1).2.1
  have hT6 := hR.1
  have hH6 := hR.2.1
  refine zupP0 (β := zS) (L := fun f x a => fX11_findsAlone_18 r2 f (z32 h) (z32 t) (z32 s) (z64 (zs (fun k => vWt A t k * sWA oW A t (vLen A t k) (zmin (vLen A t k) s) (vBr A h)) x)) (z32 x) a) (n := vCnt A t) (Q := fun r => ∃ τ, r = alE r2 (z32 h) (z32 t) (z32 s) (z64 (sAl oW A t (vBr A h) s)) τ ∧ fM σ τ ∧ hI τ 56 68 = hI σ 56 68 ∧ hL τ 56 69 = hL σ 56 69)
    (fun x τ => fM σ τ ∧ hI τ 56 68 = hI σ 56 68 ∧ hL τ 56 69 = hL σ 56 69) (a := σ) (by omega) (by omega) ⟨fM_r, rfl, rfl⟩ ?_ ?_
  · intro f x a hx hx' ⟨p1, p2, p3⟩
    have hma := m_RM p1.1.1 hR hm
    have hlw := (hR.2.2.2.2.1 t h0 h1).2.2 x hx hx'
    have zb : 0 ≤ zmin (vLen A t x) s ∧ zmin (vLen A t x) s ≤ 60 := by unfold zmin; split <;> omega
    obtain ⟨τ1, t1, t2, t3, t4, t5, t6⟩ := mWA_z (σ := a) (t := t) (l := vLen A t x) (s := zmin (vLen A t x) s) (br := vBr A h) hR hma.1 hma.2.2.1 h0 h1 zb (by omega) hb
    refine ⟨τ1, ?_, fM_t p1 ⟨t2, fun k _ => t5 97 k (by omega)⟩, t6.trans p2, (t5 56 69 (by omega)).trans p3⟩
    have wab := sWA_b (oW := oW) (A := A) (t := t) (l := vLen A t x) (s := zmin (vLen A t x) s) (br := vBr A h)
    have mb := mulb (a := 999) (b := 9) (x := sWA oW A t (vLen A t x) (zmin (vLen A t x) s) (vBr A h)) (y := vWt A t x) wab.1 wab.2 (by omega) (by omega)
    rw [Int.mul_comm] at mb
    rw [Int.mul_comm (sWA oW A t (vLen A t x) (zmin (vLen A t x) s) (vBr A h)) (vWt A t x)] at mb
    have hlx := mLen_z hR hma.1 h0 h1 hx hx'
    have hwx := mWt_z hR hma.1 h0 h1 hx hx'
    have hcx := mCnt_z hR hma.1 h0 h1
    have e86 := (hma.2.1.2 h hh0 hh1).1
    try simp only []
    rw [zs_s hx]
    simp (disch := omega) only [fX11_findsAlone_18, hcx, hlx, hwx, mles_z, z32_add, z32_sub, z32_mul, z32_neg, z32_litn, z32_lt, z32_le, z32_eq, iG_h, lG_h, iS_q, lS_q, aI_h, wI_h, aL_h, wL_h, ↓bnd_q, bnr_q, bnc_q, ↓reduceIte, ieqT, ieqF, iltT, iltF, ileT, ileF, not_true, not_false_iff, z64_add, z64_sub, z64_mul, z64_neg, z64_litn, z64_lt, z64_le, z64_eq, z32_64, z64_32, e86, t1]
  · intro f a ⟨p1, p2, p3⟩
    have hma := m_RM p1.1.1 hR hm
    have hcx := mCnt_z hR hma.1 h0 h1
    refine ⟨a, ?_, p1, p2, p3⟩
    show fX11_findsAlone_18 r2 (f + 1) (z32 h) (z32 t) (z32 s) (z64 (sAl oW A t (vBr A h) s)) (z32 (vCnt A t)) a = _
    rw [fX11_findsAlone_18, hcx, bnr_q, if_pos (by rw [z32_le (by omega) (by omega) (by omega) (by omega)]; omega)]
    rfl
theorem mAl_z (hR : okR A) (hm : RM oW oT A σ) (hh0 : 0 ≤ h) (hh1 : h < vH A) (h0 : 0 ≤ t) (h1 : t < vT A) (hb : 0 ≤ vBr A h ∧ vBr A h ≤ 60) : ∃ τ, fX11_findsAlone (z32 h) (z32 t) σ = some τ ∧ fM σ τ ∧ hI τ 56 68 = am (sAl oW A t (vBr A h)) (vBr A h) ∧ hL τ 56 69 = sAl oW A t (vBr A h) (am (sAl oW A t (vBr A h)) (vBr A h)) := by
  have hc := (hR.2.2.2.2.1 t h0 h1).2.1
  have hH6 := hR.2.1
  have sb : ∀ s, -1000000 ≤ sAl oW A t (vBr A h) s ∧ sAl oW A t (vBr A h) s ≤ 1000000 := fun s => sAl_p hR h0 h1 hb (by omega) (Int.le_refl _)
  rw [fX11_findsAlone, show (0 : Int32) = z32 0 from z32_litn 0]
  refine zupP0 (β := zS) (L := fun f x a => fX11_findsAlone_2 f (z32 h) (z32 t) (z32 x) a) (n := vBr A h + 1) (Q := fun r => ∃ τ, r = some τ ∧ fM σ τ ∧ hI τ 56 68 = am (sAl oW A t (vBr A h)) (vBr A h) ∧ hL τ 56 69 = sAl oW A t (vBr A h) (am (sAl oW A t (vBr A h)) (vBr A h)))
    (fun x τ => fM σ τ ∧ (1 ≤ x → hI τ 56 68 = am (sAl oW A t (vBr A h)) (x - 1) ∧ hL τ 56 69 = sAl oW A t (vBr A h) (am (sAl oW A t (vBr A h)) (x - 1)))) (a := σ) (by omega) (by omega) ⟨fM_r, fun g => by omega⟩ ?_ ?_
  · intro f x a hx hx' ⟨p1, p2⟩
    have hma := m_RM p1.1.1 hR hm
    have e86 := (hma.2.1.2 h hh0 hh1).1
    obtain ⟨τ, i1, i2, i3, i4⟩ := alIn_z (σ := a) (s := x) (fX11_findsAlone_2 f) hR hma hh0 hh1 h0 h1 hb (by omega)
    have sx := sb x
    have e1 : fX11_findsAlone_2 (f + 1) (z32 h) (z32 t) (z32 x) a = alE (fX11_findsAlone_2 f) (z32 h) (z32 t) (z32 x) (z64 (sAl oW A t (vBr A h) x)) τ := by
      rw [fX11_findsAlone_2, aI_h (by omega) (by omega) (by omega), e86, if_neg (by rw [z32_lt (by omega) (by omega) (by omega) (by omega)]; omega), show (0 : Int64) = z64 0 from z64_litn 0, show (0 : Int32) = z32 0 from z32_litn 0]
      exact i1
    have set : fM σ (kS (jS τ 56 68 x) 56 69 (sAl oW A t (vBr A h) x)) ∧ hI (kS (jS τ 56 68 x) 56 69 (sAl oW A t (vBr A h) x)) 56 68 = x ∧ hL (kS (jS τ 56 68 x) 56 69 (sAl oW A t (vBr A h) x)) 56 69 = sAl oW A t (vBr A h) x := by
      refine ⟨fM_t p1 (fM_t i2 (fM_t fM_68 fM_69)), ?_, ?_⟩
      · rw [hI_kS, hI_jS (by omega) (by omega) (by omega) (by omega), if_pos rfl]
      · rw [hL_kS (by omega) (by omega) (by omega) (by omega), if_pos rfl]
    show ∃ a', fX11_findsAlone_2 (f + 1) (z32 h) (z32 t) (z32 x) a = fX11_findsAlone_2 f (z32 h) (z32 t) (z32 (x + 1)) a' ∧ fM σ a' ∧ (1 ≤ x + 1 → hI a' 56 68 = am (sAl oW A t (vBr A h)) (x + 1 - 1) ∧ hL a' 56 69 = sAl oW A t (vBr A h) (am (sAl oW A t (vBr A h)) (x + 1 - 1)))
    rw [e1, show x + 1 - 1 = x by omega]
    by_cases gx : x = 0
    · refine ⟨_, ?_, set.1, fun _ => ?_⟩
      · unfold alE fX11_findsAlone_94 fX11_findsAlone_105
        rw [if_pos (by rw [gx, z32_litn, z32_le (by omega) (by omega) (by omega) (by omega)]; omega), iS_q, bnd_q, lS_q, bnd_q, z1p]
      · rw [set.2.1, set.2.2, gx, am_0]
        exact ⟨rfl, rfl⟩
    · obtain ⟨q1, q2⟩ := p2 (by omega)
      have am1 : am (sAl oW A t (vBr A h)) x = if sAl oW A t (vBr A h) x ≤ sAl oW A t (vBr A h) (am (sAl oW A t (vBr A h)) (x - 1)) then am (sAl oW A t (vBr A h)) (x - 1) else x := by
        have := am_s (g := sAl oW A t (vBr A h)) (k := x - 1) (by omega)
        rw [show x - 1 + 1 = x by omega] at this
        exact this
      have e69 : lG τ 56 69 = z64 (sAl oW A t (vBr A h) (am (sAl oW A t (vBr A h)) (x - 1))) := by
        rw [show lG τ 56 69 = z64 (hL τ 56 69) from lG_h τ 56 69, i4, q2]
      have sy := sb (am (sAl oW A t (vBr A h)) (x - 1))
      have nx : ¬ (z32 x ≤ 0) := by rw [z32_litn, z32_le (by omega) (by omega) (by omega) (by omega)]; omega
      by_cases gc : sAl oW A t (vBr A h) x ≤ sAl oW A t (vBr A h) (am (sAl oW A t (vBr A h)) (x - 1))
      · rw [am1, if_pos gc]
        refine ⟨τ, ?_, fM_t p1 i2, fun _ => ⟨i3.trans q1, i4.trans q2⟩⟩
        unfold alE fX11_findsAlone_105
        rw [if_neg nx, e69, if_neg (by rw [z64_lt (by omega) (by omega) (by omega) (by omega)]; omega), z1p]
      · rw [am1, if_neg gc]
        refine ⟨_, ?_, set.1, fun _ => set.2⟩
        unfold alE fX11_findsAlone_94 fX11_findsAlone_105
        rw [if_neg nx, e69, if_pos (by rw [z64_lt (by omega) (by omega) (by omega) (by omega)]; omega), iS_q, bnd_q, lS_q, bnd_q, z1p]
  · intro f a ⟨p1, p2⟩
    have hma := m_RM p1.1.1 hR hm
    have e86 := (hma.2.1.2 h hh0 hh1).1
    have q := p2 (by omega)
    rw [show vBr A h + 1 - 1 = vBr A h by omega] at q
    refine ⟨a, ?_, p1, q⟩
    show fX11_findsAlone_2 (f + 1) (z32 h) (z32 t) (z32 (vBr A h + 1)) a = some a
    rw [fX11_findsAlone_2, aI_h (by omega) (by omega) (by omega), e86, if_pos (by rw [z32_lt (by omega) (by omega) (by omega) (by omega)]; omega)]
end MO

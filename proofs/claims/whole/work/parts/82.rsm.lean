/-! MY OWN: AT REST, the other side; rest -/
section RM2
variable {A B σ τ υ : zS} {oW oT : Option ((Int → Int) → Int)} {t br s k l h wt a b c r acc kk rd : Int} {R : Int → Int} {n m : Nat}
/-- what such a look leaves as it was: all but the row of holding -/
def fV (σ τ : zS) : Prop := qM σ τ ∧ (∀ k, 0 ≤ k → hI τ 98 k = hI σ 98 k)
theorem fV_r : fV σ σ := ⟨qM_r σ, fun _ _ => rfl⟩
theorem fV_t (h1 : fV σ τ) (h2 : fV τ υ) : fV σ υ := ⟨qM_t h1.1 h2.1, fun k a => (h2.2 k a).trans (h1.2 k a)⟩
theorem fV_96 {i v : Int} : fV σ (jS σ 96 i v) := ⟨⟨⟨fun p k _ _ g _ _ _ => hI_jS_ne g, fun _ _ _ _ _ _ _ => rfl⟩, rfl, fun p k a _ => ⟨hI_jS_ne (by omega), rfl⟩⟩, fun k _ => hI_jS_ne (by omega)⟩
theorem qM_98 {i v : Int} : qM σ (jS σ 98 i v) := ⟨⟨fun p k _ _ _ g _ _ => hI_jS_ne g, fun _ _ _ _ _ _ _ => rfl⟩, rfl, fun p k a _ => ⟨hI_jS_ne (by omega), rfl⟩⟩
theorem w28_z (r6 : Int32 → Int32 → Int32 → Int64 → Int32 → zS → Option (Int64 × zS)) (hR : okR A) (hN : okN A) (hm : RM oW oT A σ) (h98 : ∀ o, 0 ≤ o → o < vH A → hI σ 98 o = R o) (hRb : ∀ o, 0 ≤ o → o < vH A → 0 ≤ R o ∧ R o ≤ 60) (hh0 : 0 ≤ h) (hh1 : h < vH A) (h0 : 0 ≤ t) (h1 : t < vT A) (hk : 0 ≤ k) (hk' : k < vCnt A t) (hs : 0 ≤ s ∧ s ≤ 60) (hac : -1000000000 ≤ acc ∧ acc ≤ 1000000000) : ∃ τ, fX11_worthBy_28 r6 zF (z32 h) (z32 t) (z32 s) (z64 acc) (z32 k) (z32 (vLen A t k)) (z32 0) σ = r6 (z32 h) (z32 t) (z32 s) (z64 (acc + vWt A t k * sAW oW A (fun o => zmin (vLen A t k) (if o = h then s else R o)) h t (vLen A t k))) (z32 (k + 1)) τ ∧ fV σ τ := by
  have hH := hR.2.1
  have hlw := (hR.2.2.2.2.1 t h0 h1).2.2 k hk hk'
  have hc := (hR.2.2.2.2.1 t h0 h1).2.1
  refine zupP0 (β := Int64 × zS) (L := fun f x a => fX11_worthBy_28 r6 f (z32 h) (z32 t) (z32 s) (z64 acc) (z32 k) (z32 (vLen A t k)) (z32 x) a) (n := vH A) (Q := fun r => ∃ τ, r = r6 (z32 h) (z32 t) (z32 s) (z64 (acc + vWt A t k * sAW oW A (fun o => zmin (vLen A t k) (if o = h then s else R o)) h t (vLen A t k))) (z32 (k + 1)) τ ∧ fV σ τ)
    (fun x a => fV σ a ∧ ∀ o, 0 ≤ o → o < x → hI a 96 o = zmin (vLen A t k) (if o = h then s else R o)) (a := σ) hH.1 (by omega) ⟨fV_r, fun o g0 g1 => by omega⟩ ?_ ?_
  · intro f x a hx hx' ⟨p1, p2⟩
    have hma := m_RM p1.1.1 hR hm
    have eH := hma.1.2.2.1
    have hbk := hma.1.1
    have e98 : hI a 98 x = R x := by rw [p1.2 x hx]; exact h98 x hx hx'
    have rb := hRb x hx hx'
    have zb : 0 ≤ zmin (vLen A t k) (if x = h then s else R x) ∧ zmin (vLen A t k) (if x = h then s else R x) ≤ 60 := by unfold zmin; split <;> split <;> omega
    refine ⟨jS a 96 x (zmin (vLen A t k) (if x = h then s else R x)), ?_, fV_t p1 fV_96, fun o g0 g1 => ?_⟩
    · by_cases g : x = h
      · rw [if_pos g]
        simp (disch := omega) only [fX11_worthBy_28, fX11_worthBy_67, z32_add, z32_sub, z32_mul, z32_neg, z32_litn, z32_lt, z32_le, z32_eq, iG_h, lG_h, iS_q, lS_q, aI_h, wI_h, aL_h, wL_h, ↓bnd_q, bnr_q, bnc_q, ↓reduceIte, ieqT, ieqF, iltT, iltF, ileT, ileF, not_true, not_false_iff, eH, mles_z, g]
      · rw [if_neg g]
        simp (disch := omega) only [fX11_worthBy_28, fX11_worthBy_67, z32_add, z32_sub, z32_mul, z32_neg, z32_litn, z32_lt, z32_le, z32_eq, iG_h, lG_h, iS_q, lS_q, aI_h, wI_h, aL_h, wL_h, ↓bnd_q, bnr_q, bnc_q, ↓reduceIte, ieqT, ieqF, iltT, iltF, ileT, ileF, not_true, not_false_iff, eH, mles_z, e98]
    · rw [hI_jS hx g0 (by omega) (by omega)]
      by_cases g : o = x
      · rw [if_pos g, g]
      · rw [if_neg g]; exact p2 o g0 (by omega)
  · intro f a ⟨p1, p2⟩
    have hma := m_RM p1.1.1 hR hm
    have eH := hma.1.2.2.1
    have hbk := hma.1.1
    obtain ⟨υ, u1, u2, u3, u4, u5, u6⟩ := mRW_z (σ := a) (hr := fun o => zmin (vLen A t k) (if o = h then s else R o)) (h := h) (t := t) (l := vLen A t k) hR hN hma.1 hma.2.1 hma.2.2.1 p2 (fun i g0 g1 => by
      have := hRb i g0 g1
      try simp only []
      unfold zmin
      split <;> split <;> omega) hh0 hh1 h0 h1 (by omega)
    have ew := mWt_z hR hma.1 h0 h1 hk hk'
    have wab := sAW_b (oW := oW) (A := A) (t := t) (l := vLen A t k) (h := h) (hr := fun o => zmin (vLen A t k) (if o = h then s else R o))
    have mb := mulb (a := 999) (b := 9) (x := sAW oW A (fun o => zmin (vLen A t k) (if o = h then s else R o)) h t (vLen A t k)) (y := vWt A t k) wab.1 wab.2 (by omega) (by omega)
    rw [Int.mul_comm (sAW oW A (fun o => zmin (vLen A t k) (if o = h then s else R o)) h t (vLen A t k))] at mb
    refine ⟨υ, ?_, fV_t p1 ⟨u2, fun k _ => u4 98 k (by omega)⟩⟩
    show fX11_worthBy_28 r6 (f + 1) (z32 h) (z32 t) (z32 s) (z64 acc) (z32 k) (z32 (vLen A t k)) (z32 (vH A)) a = _
    simp (disch := omega) only [fX11_worthBy_28, z32_add, z32_sub, z32_mul, z32_neg, z32_litn, z32_lt, z32_le, z32_eq, iG_h, lG_h, iS_q, lS_q, aI_h, wI_h, aL_h, wL_h, ↓bnd_q, bnr_q, bnc_q, ↓reduceIte, ieqT, ieqF, iltT, iltF, ileT, ileF, not_true, not_false_iff, z64_add, z64_sub, z64_mul, z64_neg, z64_litn, z64_lt, z64_le, z64_eq, z32_64, z64_32, eH, ew, u1]
theorem mWB_z (hR : okR A) (hN : okN A) (hm : RM oW oT A σ) (h98 : ∀ o, 0 ≤ o → o < vH A → hI σ 98 o = R o) (hRb : ∀ o, 0 ≤ o → o < vH A → 0 ≤ R o ∧ R o ≤ 60) (hh0 : 0 ≤ h) (hh1 : h < vH A) (h0 : 0 ≤ t) (h1 : t < vT A) (hs : 0 ≤ s ∧ s ≤ 60) : ∃ τ, fX11_worthBy (z32 h) (z32 t) (z32 s) σ = some (z64 (wB oW A t R h s), τ) ∧ fV σ τ := by
  have hc := (hR.2.2.2.2.1 t h0 h1).2.1
  rw [fX11_worthBy, show (0 : Int32) = z32 0 from z32_litn 0, show (0 : Int64) = z64 0 from z64_litn 0]
  refine zupP0 (β := Int64 × zS) (L := fun f x a => fX11_worthBy_6 f (z32 h) (z32 t) (z32 s) (z64 (zs (fun k => vWt A t k * sAW oW A (fun o => zmin (vLen A t k) (if o = h then s else R o)) h t (vLen A t k)) x)) (z32 x) a) (n := vCnt A t) (Q := fun r => ∃ τ, r = some (z64 (wB oW A t R h s), τ) ∧ fV σ τ)
    (fun x a => fV σ a) (a := σ) (by omega) (by omega) fV_r ?_ ?_
  · intro f x a hx hx' p1
    have hma := m_RM p1.1.1 hR hm
    have hb := wB_p (oW := oW) (h := h) (s := s) (R := R) hR h0 h1 hx (Int.le_of_lt hx')
    obtain ⟨τ, t1, t2⟩ := w28_z (acc := zs (fun k => vWt A t k * sAW oW A (fun o => zmin (vLen A t k) (if o = h then s else R o)) h t (vLen A t k)) x) (fX11_worthBy_6 f) hR hN hma (fun o g0 g1 => by rw [p1.2 o g0]; exact h98 o g0 g1) hRb hh0 hh1 h0 h1 hx hx' hs (by omega)
    refine ⟨τ, ?_, fV_t p1 t2⟩
    show fX11_worthBy_6 (f + 1) (z32 h) (z32 t) (z32 s) (z64 (zs (fun k => vWt A t k * sAW oW A (fun o => zmin (vLen A t k) (if o = h then s else R o)) h t (vLen A t k)) x)) (z32 x) a = fX11_worthBy_6 f (z32 h) (z32 t) (z32 s) (z64 (zs (fun k => vWt A t k * sAW oW A (fun o => zmin (vLen A t k) (if o = h then s else R o)) h t (vLen A t k)) (x + 1))) (z32 (x + 1)) τ
    rw [fX11_worthBy_6, mCnt_z hR hma.1 h0 h1, bnr_q, if_neg (by rw [z32_le (by omega) (by omega) (by omega) (by omega)]; omega), mLen_z hR hma.1 h0 h1 hx hx', bnr_q, show (0 : Int32) = z32 0 from z32_litn 0, t1, zs_s hx]
  · intro f a p1
    have hma := m_RM p1.1.1 hR hm
    refine ⟨a, ?_, p1⟩
    show fX11_worthBy_6 (f + 1) (z32 h) (z32 t) (z32 s) (z64 (wB oW A t R h s)) (z32 (vCnt A t)) a = _
    rw [fX11_worthBy_6, mCnt_z hR hma.1 h0 h1, bnr_q, if_pos (by rw [z32_le (by omega) (by omega) (by omega) (by omega)]; omega)]
/-- the best so far, when g0 is what he has -/
def bs2 (g : Int → Int) (r0 g0 x : Int) : Int × Int := if x = 0 then (r0, g0) else if g (am g (x - 1)) ≤ g0 then (r0, g0) else (am g (x - 1), g (am g (x - 1)))
theorem bs2_s {g : Int → Int} {r0 g0 x : Int} (hx : 0 ≤ x) : bs2 g r0 g0 (x + 1) = if (bs2 g r0 g0 x).2 < g x then (x, g x) else bs2 g r0 g0 x := by
  unfold bs2
  rw [if_neg (by omega), show x + 1 - 1 = x by omega]
  by_cases h0 : x = 0
  · subst h0
    rw [if_pos rfl, am_0]
    by_cases h1 : g 0 ≤ g0
    · rw [if_pos h1, if_neg (by simp only []; omega)]
    · rw [if_neg h1, if_pos (by simp only []; omega)]
  · rw [if_neg h0]
    have e := am_s (g := g) (k := x - 1) (by omega)
    rw [show x - 1 + 1 = x by omega] at e
    rw [e]
    by_cases h1 : g x ≤ g (am g (x - 1))
    · rw [if_pos h1]
      by_cases h2 : g (am g (x - 1)) ≤ g0
      · rw [if_pos h2, if_neg (by simp only []; omega)]
      · rw [if_neg h2, if_neg (by simp only []; omega)]
    · rw [if_neg h1]
      by_cases h2 : g (am g (x - 1)) ≤ g0
      · rw [if_pos h2]
        by_cases h3 : g x ≤ g0
        · rw [if_pos h3, if_neg (by simp only []; omega)]
        · rw [if_neg h3, if_pos (by simp only []; omega)]
      · rw [if_neg h2, if_neg (by omega), if_pos (by simp only []; omega)]
theorem takes_z (hR : okR A) (hN : okN A) (hm : RM oW oT A σ) (h98 : ∀ o, 0 ≤ o → o < vH A → hI σ 98 o = R o) (ok : okRs A R) (hh0 : 0 ≤ h) (hh1 : h < vH A) (h0 : 0 ≤ t) (h1 : t < vT A) : ∃ τ, fX11_takes (z32 h) (z32 t) σ = some (z32 (mvR oW A t R h), τ) ∧ qM σ τ ∧ ∀ o, 0 ≤ o → o < vH A → hI τ 98 o = stR oW A t R h o := by
  have hH := hR.2.1
  have hbr := (hN.2 h hh0 hh1).1
  have okh := ok h hh0 hh1
  have hRb : ∀ o, 0 ≤ o → o < vH A → 0 ≤ R o ∧ R o ≤ 60 := fun o g0 g1 => by
    have := ok o g0 g1
    have := (hN.2 o g0 g1).1
    omega
  obtain ⟨σ1, s1, s2⟩ := mWB_z (h := h) (s := R h) hR hN hm h98 hRb hh0 hh1 h0 h1 (by omega)
  have wb := fun s => wB_b (oW := oW) (h := h) (s := s) (R := R) hR h0 h1
  obtain ⟨g, hg⟩ : ∃ g, g = wB oW A t R h := ⟨_, rfl⟩
  have b2b : ∀ x, 0 ≤ x → x ≤ vBr A h + 1 → (0 ≤ (bs2 g (R h) (g (R h)) x).1 ∧ (bs2 g (R h) (g (R h)) x).1 ≤ 60) ∧ (-1000000 ≤ (bs2 g (R h) (g (R h)) x).2 ∧ (bs2 g (R h) (g (R h)) x).2 ≤ 1000000) := fun x g0 g1 => by
    unfold bs2
    by_cases k1 : x = 0
    · rw [if_pos k1, hg]
      exact ⟨hRb h hh0 hh1, wb _⟩
    · rw [if_neg k1]
      split
      · rw [hg]; exact ⟨hRb h hh0 hh1, wb _⟩
      · have := am_b (g := g) (k := x - 1) (by omega)
        refine ⟨⟨this.1, by simp only []; omega⟩, ?_⟩
        rw [hg]; exact wb _
  have fin := zupP0 (β := Int32 × zS) (L := fun f x a => fX11_takes_19 f (z32 h) (z32 t) (z32 (bs2 g (R h) (g (R h)) x).1) (z64 (bs2 g (R h) (g (R h)) x).2) (z32 x) a) (n := vBr A h + 1) (Q := fun r => ∃ τ, r = some (z32 (mvR oW A t R h), τ) ∧ qM σ τ ∧ ∀ o, 0 ≤ o → o < vH A → hI τ 98 o = stR oW A t R h o)
    (fun x a => fV σ a) (a := σ1) (by omega) (by omega) s2 ?_ ?_
  · have e98 : hI σ 98 h = R h := h98 h hh0 hh1
    rw [fX11_takes, aI_h (by omega) (by omega) (by omega), e98, s1, bnc_q, show (0 : Int32) = z32 0 from z32_litn 0, ← hg]
    exact fin
  · intro f x a hx hx' p1
    have hma := m_RM p1.1.1 hR hm
    have e86 := (hma.2.1.2 h hh0 hh1).1
    obtain ⟨τ, t1, t2⟩ := mWB_z (h := h) (s := x) hR hN hma (fun o g0 g1 => by rw [p1.2 o g0]; exact h98 o g0 g1) hRb hh0 hh1 h0 h1 (by omega)
    have bb := b2b x hx (by omega)
    have wx := wb x
    rw [← hg] at wx t1
    refine ⟨τ, ?_, fV_t p1 t2⟩
    show fX11_takes_19 (f + 1) (z32 h) (z32 t) (z32 (bs2 g (R h) (g (R h)) x).1) (z64 (bs2 g (R h) (g (R h)) x).2) (z32 x) a = fX11_takes_19 f (z32 h) (z32 t) (z32 (bs2 g (R h) (g (R h)) (x + 1)).1) (z64 (bs2 g (R h) (g (R h)) (x + 1)).2) (z32 (x + 1)) τ
    rw [bs2_s hx, fX11_takes_19, aI_h (by omega) (by omega) (by omega), e86, if_neg (by rw [z32_lt (by omega) (by omega) (by omega) (by omega)]; omega), t1, bnc_q]
    unfold fX11_takes_58
    by_cases k1 : (bs2 g (R h) (g (R h)) x).2 < g x
    · rw [if_pos k1, if_pos (by rw [z64_lt (by omega) (by omega) (by omega) (by omega)]; exact k1), z1p]
    · rw [if_neg k1, if_neg (by rw [z64_lt (by omega) (by omega) (by omega) (by omega)]; exact k1), z1p]
  · intro f a p1
    have hma := m_RM p1.1.1 hR hm
    have e86 := (hma.2.1.2 h hh0 hh1).1
    have e98 : hI a 98 h = R h := by rw [p1.2 h hh0]; exact h98 h hh0 hh1
    have bb := b2b (vBr A h + 1) (by omega) (by omega)
    show ∃ τ, fX11_takes_19 (f + 1) (z32 h) (z32 t) (z32 (bs2 g (R h) (g (R h)) (vBr A h + 1)).1) (z64 (bs2 g (R h) (g (R h)) (vBr A h + 1)).2) (z32 (vBr A h + 1)) a = _ ∧ _
    rw [fX11_takes_19, aI_h (by omega) (by omega) (by omega), e86, if_pos (by rw [z32_lt (by omega) (by omega) (by omega) (by omega)]; omega), aI_h (by omega) (by omega) (by omega), e98]
    unfold fX11_takes_79 mvR stR
    rw [← hg]
    have ebs : bs2 g (R h) (g (R h)) (vBr A h + 1) = if g (am g (vBr A h)) ≤ g (R h) then (R h, g (R h)) else (am g (vBr A h), g (am g (vBr A h))) := by
      unfold bs2
      rw [if_neg (by omega), show vBr A h + 1 - 1 = vBr A h by omega]
    rw [ebs]
    have ab := am_b (g := g) hbr.1
    by_cases k1 : g (am g (vBr A h)) ≤ g (R h)
    · rw [if_pos k1, if_pos k1, if_pos k1, if_pos rfl, wI_h (by omega) (by omega) (by omega), gd_pos (Or.inl rfl), show (0 : Int32) = z32 0 from z32_litn 0]
      refine ⟨_, rfl, qM_t p1.1 qM_98, fun o g0 g1 => ?_⟩
      rw [hI_jS hh0 g0 (by omega) (by omega)]
      by_cases g2 : o = h
      · rw [if_pos g2, g2]
      · rw [if_neg g2, p1.2 o g0]; exact h98 o g0 g1
    · have ne : am g (vBr A h) ≠ R h := fun w => k1 (by rw [w]; exact Int.le_refl _)
      rw [if_neg k1, if_neg k1, if_neg k1, if_neg (by rw [z32_eq (by omega) (by omega) (by omega) (by omega)]; exact ne), wI_h (by omega) (by omega) (by omega), gd_pos (Or.inr rfl), show (1 : Int32) = z32 1 from z32_litn 1]
      refine ⟨_, rfl, qM_t p1.1 qM_98, fun o g0 g1 => ?_⟩
      rw [hI_jS hh0 g0 (by omega) (by omega)]
      by_cases g2 : o = h
      · rw [if_pos g2, if_pos g2]
      · rw [if_neg g2, if_neg g2, p1.2 o g0]; exact h98 o g0 g1
theorem r74_z (r54 : Int32 → Int32 → Int32 → Int32 → zS → Option (Int32 × zS)) (hR : okR A) (hN : okN A) (hm : RM oW oT A σ) (h98 : ∀ o, 0 ≤ o → o < vH A → hI σ 98 o = R o) (ok : okRs A R) (h0 : 0 ≤ t) (h1 : t < vT A) : ∃ τ, fX11_rest_74 r54 zF (z32 t) (z32 kk) (z32 rd) (z32 0) (z32 0) σ = r54 (z32 t) (z32 kk) (z32 rd) (z32 (rnR oW A t R (vH A).toNat).2) τ ∧ qM σ τ ∧ ∀ o, 0 ≤ o → o < vH A → hI τ 98 o = (rnR oW A t R (vH A).toNat).1 o := by
  have hH := hR.2.1
  refine zupP0 (β := Int32 × zS) (L := fun f x a => fX11_rest_74 r54 f (z32 t) (z32 kk) (z32 rd) (z32 (rnR oW A t R x.toNat).2) (z32 x) a) (n := vH A) (Q := fun r => ∃ τ, r = r54 (z32 t) (z32 kk) (z32 rd) (z32 (rnR oW A t R (vH A).toNat).2) τ ∧ qM σ τ ∧ ∀ o, 0 ≤ o → o < vH A → hI τ 98 o = (rnR oW A t R (vH A).toNat).1 o)
    (fun x a => qM σ a ∧ ∀ o, 0 ≤ o → o < vH A → hI a 98 o = (rnR oW A t R x.toNat).1 o) (a := σ) hH.1 (by omega) ⟨qM_r σ, h98⟩ ?_ ?_
  · intro f x a hx hx' ⟨p1, p2⟩
    obtain ⟨m, rfl⟩ := Int.eq_ofNat_of_zero_le hx
    have e1 : ((m : Int)).toNat = m := by omega
    have e2 : ((m : Int) + 1).toNat = m + 1 := by omega
    rw [e1] at p2
    have hma := m_RM p1.1 hR hm
    have eH := hma.1.2.2.1
    have hbk := hma.1.1
    obtain ⟨ok', mv'⟩ := rnR_b (oW := oW) (t := t) hN ok m (by omega)
    obtain ⟨τ, t1, t2, t3⟩ := takes_z (h := (m : Int)) hR hN hma p2 ok' hx hx' h0 h1
    refine ⟨τ, ?_, qM_t p1 t2, fun o g0 g1 => by rw [e2]; exact t3 o g0 g1⟩
    show fX11_rest_74 r54 (f + 1) (z32 t) (z32 kk) (z32 rd) (z32 (rnR oW A t R ((m : Int)).toNat).2) (z32 (m : Int)) a = fX11_rest_74 r54 f (z32 t) (z32 kk) (z32 rd) (z32 (rnR oW A t R ((m : Int) + 1).toNat).2) (z32 ((m : Int) + 1)) τ
    have n2 : (rnR oW A t R (m + 1)).2 = if mvR oW A t (rnR oW A t R m).1 m = 0 then (rnR oW A t R m).2 else 1 := rfl
    rw [e1, e2, n2, fX11_rest_74, show iG a 56 13 = z32 (hI a 56 13) from iG_h a 56 13, aI_h (by omega) (by omega) (by omega), eH, if_neg (by rw [z32_le (by omega) (by omega) (by omega) (by omega)]; omega), t1, bnc_q]
    unfold fX11_rest_103 fX11_rest_108
    by_cases k1 : mvR oW A t (rnR oW A t R m).1 m = 0
    · rw [if_pos k1, if_pos (by rw [k1]; exact z00)]
      rcases mv' with g | g
      · rw [g, if_pos z00, z1p, show (0 : Int32) = z32 0 from z32_litn 0]
      · rw [g, if_neg z10, z1p, show (1 : Int32) = z32 1 from z32_litn 1]
    · have k2 : mvR oW A t (rnR oW A t R m).1 m = 1 := by
        unfold mvR at k1 ⊢
        split
        · rename_i g
          exact absurd (if_pos g) k1
        · rfl
      rw [if_neg k1, if_neg (by rw [k2]; exact z10), z1p, show (1 : Int32) = z32 1 from z32_litn 1]
  · intro f a ⟨p1, p2⟩
    have hma := m_RM p1.1 hR hm
    have eH := hma.1.2.2.1
    have hbk := hma.1.1
    refine ⟨a, ?_, p1, p2⟩
    show fX11_rest_74 r54 (f + 1) (z32 t) (z32 kk) (z32 rd) (z32 (rnR oW A t R (vH A).toNat).2) (z32 (vH A)) a = _
    rw [fX11_rest_74, show iG a 56 13 = z32 (hI a 56 13) from iG_h a 56 13, aI_h (by omega) (by omega) (by omega), eH, if_pos (by rw [z32_le (by omega) (by omega) (by omega) (by omega)]; omega)]
theorem r119_z (hH : vH A ≤ 6) (hkk : kk = -1 ∨ (0 ≤ kk ∧ kk < vH A)) (h98 : ∀ o, 0 ≤ o → o < vH A → hI σ 98 o = R o) {y : Int} (hy : y = 0 ∨ y = 1) : fX11_rest_119 (z32 kk) (z32 rd) (z32 y) σ = some (z32 (if kk = -1 then (if y = 0 then rd else 13) else R kk), σ) := by
  unfold fX11_rest_119
  rcases hkk with g | g
  · rw [g, if_pos (by rw [z32_litn, z32_neg]), if_pos rfl]
    rcases hy with hy | hy
    · rw [hy, if_pos z00, if_pos rfl]
    · rw [hy, if_neg z10, if_neg (by omega), show (13 : Int32) = z32 13 from z32_litn 13]
  · rw [if_neg (by rw [z32_litn, z32_neg, z32_eq (by omega) (by omega) (by omega) (by omega)]; omega), if_neg (by omega), aI_h (by omega) (by omega) (by omega), h98 kk g.1 g.2]
theorem r54_z (hR : okR A) (hN : okN A) (h0 : 0 ≤ t) (h1 : t < vT A) (hkk : kk = -1 ∨ (0 ≤ kk ∧ kk < vH A)) : ∀ (d : Nat) (rd : Int) (R : Int → Int) (f : Nat) (σ : zS), rd + d = 12 → d + 1 < f → 0 ≤ rd → RM oW oT A σ → (∀ o, 0 ≤ o → o < vH A → hI σ 98 o = R o) → okRs A R → ∃ τ, fX11_rest_54 f (z32 t) (z32 kk) (z32 rd) (z32 1) σ = some (z32 (if kk = -1 then (resR oW A t d R (rd + 1)).2 else (resR oW A t d R (rd + 1)).1 kk), τ) ∧ qM σ τ := by
  have hH := hR.2.1
  intro d
  induction d with
  | zero =>
    intro rd R f σ hr hf hr1 hm h98 ok
    obtain ⟨g, rfl⟩ : ∃ g, f = g + 1 := ⟨f - 1, by omega⟩
    refine ⟨σ, ?_, qM_r σ⟩
    rw [fX11_rest_54, if_neg z10, if_pos (by rw [z32_litn, z32_le (by omega) (by omega) (by omega) (by omega)]; omega), r119_z hH.2 hkk h98 (Or.inr rfl), if_neg (by omega : ¬ ((1 : Int) = 0))]
    rfl
  | succ d ih =>
    intro rd R f σ hr hf hr1 hm h98 ok
    obtain ⟨g, rfl⟩ : ∃ g, f = g + 2 := ⟨f - 2, by omega⟩
    obtain ⟨ok', mv'⟩ := rnR_b (oW := oW) (t := t) hN ok (vH A).toNat (by omega)
    obtain ⟨τ, t1, t2, t3⟩ := r74_z (kk := kk) (rd := rd + 1) (fX11_rest_54 (g + 1)) hR hN hm h98 ok h0 h1
    have pre : fX11_rest_54 (g + 2) (z32 t) (z32 kk) (z32 rd) (z32 1) σ = fX11_rest_54 (g + 1) (z32 t) (z32 kk) (z32 (rd + 1)) (z32 (rnR oW A t R (vH A).toNat).2) τ := by
      rw [fX11_rest_54, if_neg z10, if_neg (by rw [z32_litn, z32_le (by omega) (by omega) (by omega) (by omega)]; omega), z1p, show (0 : Int32) = z32 0 from z32_litn 0, t1]
    rw [pre]
    unfold resR
    by_cases k1 : (rnR oW A t R (vH A).toNat).2 = 0
    · rw [k1, if_pos rfl]
      refine ⟨τ, ?_, t2⟩
      rw [fX11_rest_54, if_pos z00, r119_z hH.2 hkk t3 (Or.inl rfl), if_pos rfl]
    · have k2 : (rnR oW A t R (vH A).toNat).2 = 1 := by omega
      rw [if_neg k1, k2]
      obtain ⟨υ, u1, u2⟩ := ih (rd + 1) _ (g + 1) τ (by omega) (by omega) (by omega) (m_RM t2.1 hR hm) t3 ok'
      exact ⟨υ, u1, qM_t t2 u2⟩
theorem mRest_z (hR : okR A) (hN : okN A) (hm : RM oW oT A σ) (h0 : 0 ≤ t) (h1 : t < vT A) (hkk : kk = -1 ∨ (0 ≤ kk ∧ kk < vH A)) : ∃ τ, fX11_rest_23 (z32 t) (z32 kk) σ = some (z32 (if kk = -1 then (resR oW A t 12 (vB0 A) 1).2 else (resR oW A t 12 (vB0 A) 1).1 kk), τ) ∧ qM σ τ := by
  have hH := hR.2.1
  rw [fX11_rest_23, show (0 : Int32) = z32 0 from z32_litn 0]
  obtain ⟨σ2, s1, s2, s3⟩ : ∃ σ2, fX11_rest_25 zF (z32 t) (z32 kk) (z32 0) σ = fX11_rest_54 zF (z32 t) (z32 kk) (z32 0) (z32 1) σ2 ∧ qM σ σ2 ∧ ∀ o, 0 ≤ o → o < vH A → hI σ2 98 o = vBr A o := by
    refine zupP0 (β := Int32 × zS) (L := fun f x a => fX11_rest_25 f (z32 t) (z32 kk) (z32 x) a) (n := 6) (Q := fun r => ∃ σ2, r = fX11_rest_54 zF (z32 t) (z32 kk) (z32 0) (z32 1) σ2 ∧ qM σ σ2 ∧ ∀ o, 0 ≤ o → o < vH A → hI σ2 98 o = vBr A o)
      (fun x a => qM σ a ∧ ∀ o, 0 ≤ o → o < x → o < vH A → hI a 98 o = vBr A o) (a := σ) (by omega) (by omega) ⟨qM_r σ, fun o g0 g1 => by omega⟩ ?_ ?_
    · intro f x a hx hx' ⟨p1, p2⟩
      have hma := m_RM p1.1 hR hm
      have l1 := hI_lo a 86 x
      have l2 := hI_hi a 86 x
      refine ⟨jS a 98 x (hI a 86 x), ?_, qM_t p1 qM_98, fun o g0 g1 g2 => ?_⟩
      · show fX11_rest_25 (f + 1) (z32 t) (z32 kk) (z32 x) a = _
        rw [fX11_rest_25, if_neg (by rw [z32_litn, z32_le (by omega) (by omega) (by omega) (by omega)]; omega), aI_h (by omega) (by omega) (by omega), wI_h (by omega) (by omega) (by omega), z1p]
      · rw [hI_jS hx g0 l1 l2]
        by_cases g : o = x
        · rw [if_pos g]
          subst g
          exact (hma.2.1.2 o g0 g2).1
        · rw [if_neg g]; exact p2 o g0 (by omega) g2
    · intro f a ⟨p1, p2⟩
      refine ⟨a, ?_, p1, fun o g0 g1 => p2 o g0 (by omega) g1⟩
      show fX11_rest_25 (f + 1) (z32 t) (z32 kk) (z32 6) a = _
      rw [fX11_rest_25, if_pos (by rw [z32_litn, z32_le (by omega) (by omega) (by omega) (by omega)]; omega), show (0 : Int32) = z32 0 from z32_litn 0, show (1 : Int32) = z32 1 from z32_litn 1]
  rw [s1]
  obtain ⟨τ, t1, t2⟩ := r54_z (oW := oW) hR hN h0 h1 hkk 12 0 (vB0 A) zF σ2 (by omega) (by unfold zF; omega) (by omega) (m_RM s2.1 hR hm) (fun o g0 g1 => by rw [vB0_p g0]; exact s3 o g0 g1) (fun o g0 g1 => by rw [vB0_p g0]; exact ⟨(hN.2 o g0 g1).1.1, Int.le_refl _⟩)
  exact ⟨τ, t1, qM_t s2 t2⟩
end RM2

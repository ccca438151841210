/-! MY OWN: AT REST, the one side -/
def wB (oW : Option ((Int → Int) → Int)) (A : zS) (t : Int) (R : Int → Int) (h s : Int) : Int := zs (fun k => vWt A t k * sAW oW A (fun o => zmin (vLen A t k) (if o = h then s else R o)) h t (vLen A t k)) (vCnt A t)
def stR (oW : Option ((Int → Int) → Int)) (A : zS) (t : Int) (R : Int → Int) (h : Int) : Int → Int := if wB oW A t R h (am (wB oW A t R h) (vBr A h)) ≤ wB oW A t R h (R h) then R else fun o => if o = h then am (wB oW A t R h) (vBr A h) else R o
def mvR (oW : Option ((Int → Int) → Int)) (A : zS) (t : Int) (R : Int → Int) (h : Int) : Int := if wB oW A t R h (am (wB oW A t R h) (vBr A h)) ≤ wB oW A t R h (R h) then 0 else 1
def rnR (oW : Option ((Int → Int) → Int)) (A : zS) (t : Int) (R : Int → Int) : Nat → (Int → Int) × Int
  | 0 => (R, 0)
  | n + 1 => (stR oW A t (rnR oW A t R n).1 n, if mvR oW A t (rnR oW A t R n).1 n = 0 then (rnR oW A t R n).2 else 1)
def resR (oW : Option ((Int → Int) → Int)) (A : zS) (t : Int) : Nat → (Int → Int) → Int → (Int → Int) × Int
  | 0, R, _ => (R, 13)
  | d + 1, R, r => if (rnR oW A t R (vH A).toNat).2 = 0 then ((rnR oW A t R (vH A).toNat).1, r) else resR oW A t d (rnR oW A t R (vH A).toNat).1 (r + 1)
def okRs (A : zS) (R : Int → Int) : Prop := ∀ o, 0 ≤ o → o < vH A → 0 ≤ R o ∧ R o ≤ vBr A o
def fS (σ τ : zS) : Prop := qC σ τ ∧ (∀ k, 0 ≤ k → hI τ 27 k = hI σ 27 k ∧ hL τ 27 k = hL σ 27 k) ∧ (∀ k, 0 ≤ k → hI τ 31 k = hI σ 31 k)
section SE
variable {A B σ τ υ : zS} {oW oT : Option ((Int → Int) → Int)} {t br s k l h wt a b c : Int} {R : Int → Int} {n m : Nat}
theorem zmin_i : zmin l (zmin l s) = zmin l s := by
  have : zmin l s ≤ l := by unfold zmin; split <;> omega
  show (if zmin l s ≤ l then zmin l s else l) = zmin l s
  rw [if_pos this]
theorem wBt_z : sAW oW A (fun o => zmin l (if o = h then zmin l s else R o)) h t l = sAW oW A (fun o => zmin l (if o = h then s else R o)) h t l := by
  congr 1
  funext o
  by_cases g : o = h
  · rw [if_pos g, if_pos g, zmin_i]
  · rw [if_neg g, if_neg g]
theorem wB_p (hR : okR A) (h0 : 0 ≤ t) (h1 : t < vT A) (hk : 0 ≤ k) (hk' : k ≤ vCnt A t) : -1000000 ≤ zs (fun k => vWt A t k * sAW oW A (fun o => zmin (vLen A t k) (if o = h then s else R o)) h t (vLen A t k)) k ∧ zs (fun k => vWt A t k * sAW oW A (fun o => zmin (vLen A t k) (if o = h then s else R o)) h t (vLen A t k)) k ≤ 1000000 := by
  have hc := (hR.2.2.2.2.1 t h0 h1).2.1
  have := zs_b (g := fun k => vWt A t k * sAW oW A (fun o => zmin (vLen A t k) (if o = h then s else R o)) h t (vLen A t k)) (a := -8991) (b := 8991) (k := k) hk (fun i g0 g1 => by
    have hw := ((hR.2.2.2.2.1 t h0 h1).2.2 i g0 (by omega)).2
    have b1 := sAW_b (oW := oW) (A := A) (t := t) (l := vLen A t i) (h := h) (hr := fun o => zmin (vLen A t i) (if o = h then s else R o))
    have := mulb (a := 999) (b := 9) (x := sAW oW A (fun o => zmin (vLen A t i) (if o = h then s else R o)) h t (vLen A t i)) (y := vWt A t i) b1.1 b1.2 (by omega) (by omega)
    rw [Int.mul_comm (vWt A t i)]
    omega)
  omega
theorem wB_b (hR : okR A) (h0 : 0 ≤ t) (h1 : t < vT A) : -1000000 ≤ wB oW A t R h s ∧ wB oW A t R h s ≤ 1000000 := wB_p hR h0 h1 (by have := (hR.2.2.2.2.1 t h0 h1).2.1; omega) (Int.le_refl _)
theorem fS_r : fS σ σ := ⟨qC_r σ, fun _ _ => ⟨rfl, rfl⟩, fun _ _ => rfl⟩
theorem fS_t (h1 : fS σ τ) (h2 : fS τ υ) : fS σ υ := ⟨qC_t h1.1 h2.1, fun k a => ⟨(h2.2.1 k a).1.trans (h1.2.1 k a).1, (h2.2.1 k a).2.trans (h1.2.1 k a).2⟩, fun k a => (h2.2.2 k a).trans (h1.2.2 k a)⟩
theorem fS_o (h1 : qC σ τ) (h2 : kO σ τ) : fS σ τ := ⟨h1, fun k a => h2 27 k (by omega) (by omega) a, fun k a => (h2 31 k (by omega) (by omega) a).1⟩
theorem fS_25 (h : oIa 25 σ τ) : fS σ τ := ⟨⟨⟨h.1, fun p k _ _ c _ _ => h.2.2 p k (by omega)⟩, fun p k a _ => ⟨h.2.2 p k (by omega), h.2.1 p k⟩⟩, fun k _ => ⟨h.2.2 27 k (by omega), h.2.1 27 k⟩, fun k _ => h.2.2 31 k (by omega)⟩
theorem fS_28 (h : oLa 28 σ τ) : fS σ τ := ⟨oLa_q (by omega) h, fun k _ => ⟨h.2.1 27 k, h.2.2 27 k (by omega)⟩, fun k _ => h.2.1 31 k⟩
theorem e_AW {hr : Int → Int} (q : kC A B) (h0 : 0 ≤ h) (h1 : 0 ≤ t) : sAW oW B hr h t l = sAW oW A hr h t l := by
  unfold sAW fctA; rw [e_H q, e_Br q h0, e_Gap q h1]
theorem f65_z (r14 : Int32 → Int32 → Int32 → Int32 → zS → Option zS) {x1 x2 x3 x4 : Int32} {x6 : Int64} (hR : okR A) (q : qC A σ) (h31 : ∀ o, 0 ≤ o → o < vH A → hI σ 31 o = R o) (hRb : ∀ o, 0 ≤ o → o < vH A → 0 ≤ R o ∧ R o ≤ 60) (hl : 0 ≤ l ∧ l ≤ 60) : ∃ τ, fX0_fillAgainstOthers_65 r14 zF x1 x2 x3 x4 (z32 l) x6 (z32 0) σ = fX0_fillAgainstOthers_111 r14 zF x1 x2 x3 x4 (z32 l) x6 (z32 0) τ ∧ oIa 25 σ τ ∧ ∀ o, 0 ≤ o → o < vH A → hI τ 25 o = zmin l (R o) := by
  have hH := hR.2.1
  have hrp := rp_or A.2.2.2.1
  refine zupP0 (β := zS) (L := fun f x a => fX0_fillAgainstOthers_65 r14 f x1 x2 x3 x4 (z32 l) x6 (z32 x) a) (n := vH A) (Q := fun r => ∃ τ, r = fX0_fillAgainstOthers_111 r14 zF x1 x2 x3 x4 (z32 l) x6 (z32 0) τ ∧ oIa 25 σ τ ∧ ∀ o, 0 ≤ o → o < vH A → hI τ 25 o = zmin l (R o))
    (fun x τ => oIa 25 σ τ ∧ ∀ o, 0 ≤ o → o < x → hI τ 25 o = zmin l (R o)) (a := σ) hH.1 (by omega) ⟨oIa_r, fun o g0 g1 => by omega⟩ ?_ ?_
  · intro f x a hx hx' ⟨p1, p2⟩
    have qa := qC_t q (fS_25 p1).1
    have eH : hI a (rp A.2.2.2.1 + 0) 2 = vH A := by rw [e_road qa.1 (by omega) (by omega)]; rfl
    have efl := e_fl qa.1
    have e31 : hI a 31 x = R x := by rw [p1.2.2 31 x (by omega)]; exact h31 x hx hx'
    have rb := hRb x hx hx'
    have zb : 0 ≤ zmin l (R x) ∧ zmin l (R x) ≤ 60 := by unfold zmin; split <;> omega
    refine ⟨jS a 25 x (zmin l (R x)), ?_, oIa_t p1 oIa_j, fun o g0 g1 => ?_⟩
    · simp (disch := omega) only [fX0_fillAgainstOthers_65, z32_add, z32_sub, z32_mul, z32_neg, z32_litn, z32_lt, z32_le, z32_eq, iG_h, lG_h, iS_q, lS_q, aI_h, wI_h, aL_h, wL_h, ↓bnd_q, bnr_q, bnc_q, ↓reduceIte, ieqT, ieqF, iltT, iltF, ileT, ileF, not_true, not_false_iff, efl, eH, e31, jmin_z]
    · rw [hI_jS hx g0 (by omega) (by omega)]
      by_cases g : o = x
      · rw [if_pos g, g]
      · rw [if_neg g]; exact p2 o g0 (by omega)
  · intro f a ⟨p1, p2⟩
    have qa := qC_t q (fS_25 p1).1
    have eH : hI a (rp A.2.2.2.1 + 0) 2 = vH A := by rw [e_road qa.1 (by omega) (by omega)]; rfl
    have efl := e_fl qa.1
    refine ⟨a, ?_, p1, p2⟩
    simp (disch := omega) only [fX0_fillAgainstOthers_65, z32_add, z32_sub, z32_mul, z32_neg, z32_litn, z32_lt, z32_le, z32_eq, iG_h, lG_h, iS_q, lS_q, aI_h, wI_h, aL_h, wL_h, ↓bnd_q, bnr_q, bnc_q, ↓reduceIte, ieqT, ieqF, iltT, iltF, ileT, ileF, not_true, not_false_iff, efl, eH]
theorem f111_z (r14 : Int32 → Int32 → Int32 → Int32 → zS → Option zS) (hR : okR A) (hN : okN A) (hW : cSum A 0 oW) (q : qC A σ) (hRb : ∀ o, 0 ≤ o → o < vH A → 0 ≤ R o ∧ R o ≤ 60) (hl : 1 ≤ l ∧ l ≤ 60) (hwt : 1 ≤ wt ∧ wt ≤ 9) (hh0 : 0 ≤ h) (hh1 : h < vH A) (h0 : 0 ≤ t) (h1 : t < vT A) (hb : 0 ≤ br ∧ br ≤ 60) (h25 : ∀ o, 0 ≤ o → o < vH A → hI σ 25 o = zmin l (R o)) (hbd : ∀ j, 0 ≤ j → j ≤ br → -1000000000000 ≤ hL σ 28 j ∧ hL σ 28 j ≤ 1000000000000) : ∃ τ, fX0_fillAgainstOthers_111 r14 zF (z32 h) (z32 t) (z32 br) (z32 k) (z32 l) (z64 wt) (z32 0) σ = r14 (z32 h) (z32 t) (z32 br) (z32 (k + 1)) τ ∧ fS σ τ ∧ ∀ s, 0 ≤ s → s ≤ br → hL τ 28 s = hL σ 28 s + wt * sAW oW A (fun o => zmin l (if o = h then s else R o)) h t l := by
  have hH := hR.2.1
  have zb : 0 ≤ zmin l br ∧ zmin l br ≤ l ∧ zmin l br ≤ br := by unfold zmin; split <;> omega
  obtain ⟨trm, htrm⟩ : ∃ f : Int → Int, f = fun s => wt * sAW oW A (fun o => zmin l (if o = h then s else R o)) h t l := ⟨_, rfl⟩
  have tmb : ∀ s, -8991 ≤ trm s ∧ trm s ≤ 8991 := fun s => by
    have b1 := sAW_b (oW := oW) (A := A) (t := t) (l := l) (h := h) (hr := fun o => zmin l (if o = h then s else R o))
    have := mulb (a := 999) (b := 9) (x := sAW oW A (fun o => zmin l (if o = h then s else R o)) h t l) (y := wt) b1.1 b1.2 (by omega) (by omega)
    rw [htrm]
    try simp only []
    rw [Int.mul_comm wt]
    omega
  have tmz : ∀ s, trm (zmin l s) = trm s := fun s => by
    rw [htrm]
    try simp only []
    rw [wBt_z]
  have fin := zupP0 (β := zS) (L := fun f x a => fX0_fillAgainstOthers_111 r14 f (z32 h) (z32 t) (z32 br) (z32 k) (z32 l) (z64 wt) (z32 x) a) (n := zmin l br + 1) (Q := fun r => ∃ τ, r = r14 (z32 h) (z32 t) (z32 br) (z32 (k + 1)) τ ∧ fS σ τ ∧ ∀ s, 0 ≤ s → s ≤ br → hL τ 28 s = hL σ 28 s + trm (zmin l s))
    (fun x τ => fS σ τ ∧ (∀ o, 0 ≤ o → o < vH A → o ≠ h → hI τ 25 o = zmin l (R o)) ∧ ∀ s, 0 ≤ s → s ≤ br → hL τ 28 s = hL σ 28 s + (if zmin l s < x then trm (zmin l s) else 0)) (a := σ) (by omega) (by omega)
    ⟨fS_r, fun o g0 g1 _ => h25 o g0 g1, fun s g0 g1 => by rw [if_neg (by unfold zmin; split <;> omega)]; omega⟩ ?_ ?_
  · obtain ⟨τ, f1, f2, f3⟩ := fin
    refine ⟨τ, f1, f2, fun s g0 g1 => ?_⟩
    rw [f3 s g0 g1, tmz, htrm]
  · intro f x a hx hx' ⟨p1, p2, p3⟩
    have fj : fS a (jS a 25 h x) := fS_25 oIa_j
    have qa := qC_t q (qC_t p1.1 fj.1)
    obtain ⟨B1, b1, b2, b3, b4⟩ := cAW_z (A := jS a 25 h x) (oW := oW) (hr := fun o => zmin l (if o = h then x else R o)) (h := h) (t := t) (l := l) (e_okR qa.1 hR) (e_okN qa.1 hN) (e_sum qa.1 (by omega) hW) (fun i g0 g1 => by
      rw [e_H qa.1] at g1
      rw [hI_jS hh0 g0 (by omega) (by omega)]
      by_cases g : i = h
      · rw [if_pos g, if_pos g]
        unfold zmin
        split <;> omega
      · rw [if_neg g, if_neg g]; exact p2 i g0 g1 g) (fun i g0 g1 => by
      rw [e_H qa.1] at g1
      have := hRb i g0 g1
      try simp only []
      unfold zmin
      split <;> split <;> omega) hh0 (by rw [e_H qa.1]; exact hh1) h0 (by rw [e_T qa.1]; exact h1) (by omega)
    rw [e_AW qa.1 hh0 h0] at b1
    have fb1 : fS (jS a 25 h x) B1 := fS_o b2 b3
    have wab := sAW_b (oW := oW) (A := A) (t := t) (l := l) (h := h) (hr := fun o => zmin l (if o = h then x else R o))
    have row : ∀ s, 0 ≤ s → s ≤ br → hL B1 28 s = hL σ 28 s + (if zmin l s < x then trm (zmin l s) else 0) := fun s g0 g1 => by
      rw [(b3 28 s (by omega) (by omega) g0).2, hL_jS]; exact p3 s g0 g1
    have tx := tmb x
    have rowb : ∀ s, 0 ≤ s → s ≤ br → -2000000000000 ≤ hL B1 28 s ∧ hL B1 28 s ≤ 2000000000000 := fun s g0 g1 => by
      rw [row s g0 g1]
      have h1 := hbd s g0 g1
      have h2 := tmb (zmin l s)
      split <;> omega
    obtain ⟨la, hla, hla2⟩ : ∃ la, (if x = l then la = br else la = x) ∧ (x ≤ la ∧ la ≤ br) := by
      by_cases gx : x = l
      · exact ⟨br, by rw [if_pos gx], by omega, by omega⟩
      · exact ⟨x, by rw [if_neg gx], by omega, by omega⟩
    obtain ⟨D, e1, e2, e3⟩ := addS_z (σ := B1) (row := 0) (f := x) (l := la) (w := trm x) (by omega) hx (by omega) (by omega) (by omega) (fun j g0 g1 => by
      have := rowb j (by omega) (by omega)
      omega)
    refine ⟨D, ?_, fS_t p1 (fS_t fj (fS_t fb1 (fS_28 e2))), fun o g0 g1 g2 => ?_, fun s g0 g1 => ?_⟩
    · show fX0_fillAgainstOthers_111 r14 (f + 1) (z32 h) (z32 t) (z32 br) (z32 k) (z32 l) (z64 wt) (z32 x) a = fX0_fillAgainstOthers_111 r14 f (z32 h) (z32 t) (z32 br) (z32 k) (z32 l) (z64 wt) (z32 (x + 1)) D
      have ew : z64 wt * (z32 (sAW oW A (fun o => zmin l (if o = h then x else R o)) h t l)).toInt64 = z64 (trm x) := by
        rw [z32_64 (by omega) (by omega), z64_mul, htrm]
      have x0 : (0 : Int32) = z32 0 := z32_litn 0
      rw [fX0_fillAgainstOthers_111, jmin_z (by omega) (by omega) (by omega) (by omega), if_neg (by rw [z32_lt (by omega) (by omega) (by omega) (by omega)]; omega), wI_h (by omega) (by omega) (by omega), b1, bnc_q]
      dsimp only
      rw [ew]
      unfold fX0_fillAgainstOthers_167
      by_cases gx : x = l
      · rw [if_pos gx] at hla
        rw [if_pos (by rw [gx]), x0, ← hla, e1, bnr_q, z1p]
      · rw [if_neg gx] at hla
        rw [if_neg (by rw [z32_eq (by omega) (by omega) (by omega) (by omega)]; exact gx), x0]
        rw [hla] at e1
        rw [e1, bnr_q, z1p]
    · rw [e2.2.1 25 o, b4 o g0, hI_jS hh0 g0 (by omega) (by omega), if_neg g2]; exact p2 o g0 g1 g2
    · rw [e3 _ g0, row s g0 g1]
      by_cases g2 : zmin l s = x
      · have g3 : 0 + x ≤ s ∧ s ≤ 0 + la := by
          unfold zmin at g2
          split at hla <;> split at g2 <;> omega
        rw [if_pos g3, if_neg (by omega), if_pos (by omega), g2]; omega
      · have g3 : ¬ (0 + x ≤ s ∧ s ≤ 0 + la) := by
          unfold zmin at g2
          split at hla <;> split at g2 <;> omega
        rw [if_neg g3]
        by_cases g4 : zmin l s < x
        · rw [if_pos g4, if_pos (by omega)]; omega
        · rw [if_neg g4, if_neg (by omega)]; omega
  · intro f a ⟨p1, p2, p3⟩
    refine ⟨a, ?_, p1, fun s g0 g1 => ?_⟩
    · show fX0_fillAgainstOthers_111 r14 (f + 1) (z32 h) (z32 t) (z32 br) (z32 k) (z32 l) (z64 wt) (z32 (zmin l br + 1)) a = _
      rw [fX0_fillAgainstOthers_111, jmin_z (by omega) (by omega) (by omega) (by omega), if_pos (by rw [z32_lt (by omega) (by omega) (by omega) (by omega)]; omega), z1p]
    · rw [p3 s g0 g1, if_pos]
      unfold zmin
      split <;> split <;> omega
theorem fag_z (hR : okR A) (hN : okN A) (hW : cSum A 0 oW) (q : qC A σ) (h31 : ∀ o, 0 ≤ o → o < vH A → hI σ 31 o = R o) (hRb : ∀ o, 0 ≤ o → o < vH A → 0 ≤ R o ∧ R o ≤ 60) (hh0 : 0 ≤ h) (hh1 : h < vH A) (h0 : 0 ≤ t) (h1 : t < vT A) (hb : 0 ≤ br ∧ br ≤ 60) : ∃ τ, fX0_fillAgainstOthers (z32 h) (z32 t) (z32 br) σ = some τ ∧ fS σ τ ∧ ∀ s, 0 ≤ s → s ≤ br → hL τ 28 s = wB oW A t R h s := by
  have hc := (hR.2.2.2.2.1 t h0 h1).2.1
  have hT6 := hR.1
  obtain ⟨σ1, f1, f2, f3⟩ := fillR_z (σ := σ) (c := 28) (n := 244) (i := 0) (j := 61) (v := 0) (by omega) (by omega) (by omega) (by omega) (by omega)
  have e1 : fX0_fillAgainstOthers (z32 h) (z32 t) (z32 br) σ = fX0_fillAgainstOthers_14 zF (z32 h) (z32 t) (z32 br) (z32 0) σ1 := by
    unfold fX0_fillAgainstOthers
    rw [show (0 : Int32) = z32 0 from z32_litn 0, show (61 : Int32) = z32 61 from z32_litn 61, show (0 : Int64) = z64 0 from z64_litn 0, f1, bnr_q]
  rw [e1]
  refine zupP0 (β := zS) (L := fun f x a => fX0_fillAgainstOthers_14 f (z32 h) (z32 t) (z32 br) (z32 x) a) (n := vCnt A t) (Q := fun r => ∃ τ, r = some τ ∧ fS σ τ ∧ ∀ s, 0 ≤ s → s ≤ br → hL τ 28 s = wB oW A t R h s)
    (fun x τ => fS σ τ ∧ ∀ s, 0 ≤ s → s ≤ br → hL τ 28 s = zs (fun k => vWt A t k * sAW oW A (fun o => zmin (vLen A t k) (if o = h then s else R o)) h t (vLen A t k)) x) (a := σ1) (by omega) (by omega)
    ⟨fS_28 f2, fun s g0 g1 => by rw [f3 s g0, if_pos (by omega), zs_0]⟩ ?_ ?_
  · intro f x a hx hx' ⟨p1, p2⟩
    have qa := qC_t q p1.1
    have hlw := (hR.2.2.2.2.1 t h0 h1).2.2 x hx hx'
    have hR' := e_okR qa.1 hR
    have efl := e_fl qa.1
    have ecn : hI a (rp A.2.2.2.1 + 3) t = vCnt A t := by rw [e_road qa.1 (by omega) h0]; rfl
    have el := cLen_z (A := a) (t := t) (k := x) hR' h0 (by rw [e_T qa.1]; exact h1) hx (by rw [e_Cnt qa.1 h0]; exact hx')
    have ew := cWt_z (A := a) (t := t) (k := x) hR' h0 (by rw [e_T qa.1]; exact h1) hx (by rw [e_Cnt qa.1 h0]; exact hx')
    rw [e_Len qa.1 h0 hx, efl] at el
    rw [e_Wt qa.1 h0 hx, efl] at ew
    obtain ⟨B1, b1, b2, b3⟩ := f65_z (x1 := z32 h) (x2 := z32 t) (x3 := z32 br) (x4 := z32 x) (x6 := z64 (vWt A t x)) (l := vLen A t x) (fX0_fillAgainstOthers_14 f) hR qa (fun o g0 g1 => by rw [p1.2.2 o g0]; exact h31 o g0 g1) hRb (by omega)
    have fb := fS_25 b2
    obtain ⟨C, c1, c2, c3⟩ := f111_z (k := x) (fX0_fillAgainstOthers_14 f) hR hN hW (qC_t qa fb.1) hRb hlw.1 hlw.2 hh0 hh1 h0 h1 hb b3 (fun j g0 g1 => by
      rw [b2.2.1 28 j, p2 j g0 g1]
      have := wB_p (oW := oW) (h := h) (s := j) (R := R) hR h0 h1 hx (Int.le_of_lt hx')
      omega)
    refine ⟨C, ?_, fS_t p1 (fS_t fb c2), fun s g0 g1 => ?_⟩
    · show fX0_fillAgainstOthers_14 (f + 1) (z32 h) (z32 t) (z32 br) (z32 x) a = fX0_fillAgainstOthers_14 f (z32 h) (z32 t) (z32 br) (z32 (x + 1)) C
      rw [fX0_fillAgainstOthers_14, efl, aI_h (by omega) (by omega) (by omega), ecn, if_neg (by rw [z32_le (by omega) (by omega) (by omega) (by omega)]; omega), el, bnr_q, ew, bnr_q, z32_64 (by omega) (by omega), show (0 : Int32) = z32 0 from z32_litn 0, b1, c1]
    · rw [c3 s g0 g1, b2.2.1 28 s, p2 s g0 g1, zs_s hx]
  · intro f a ⟨p1, p2⟩
    have qa := qC_t q p1.1
    have efl := e_fl qa.1
    have ecn : hI a (rp A.2.2.2.1 + 3) t = vCnt A t := by rw [e_road qa.1 (by omega) h0]; rfl
    refine ⟨a, ?_, p1, p2⟩
    show fX0_fillAgainstOthers_14 (f + 1) (z32 h) (z32 t) (z32 br) (z32 (vCnt A t)) a = _
    rw [fX0_fillAgainstOthers_14, efl, aI_h (by omega) (by omega) (by omega), ecn, if_pos (by rw [z32_le (by omega) (by omega) (by omega) (by omega)]; omega)]
end SE

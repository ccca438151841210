/-! MY OWN: pace: both sides -/
def mB (A : zS) (t l : Int) : Nat → Int32
  | 0 => 0
  | n + 1 => if sHold A n t l = l then mB A t l n ||| (1 <<< (z32 n &&& 31)) else mB A t l n
def pW (A : zS) (t : Int) (x : Int32) (p : Int) : Int := zs (fun k => if mB A t (zmax 1 (vLen A t k / p)) (vH A).toNat = x then vWt A t k else 0) (vCnt A t)
section PC
variable {A B σ τ υ : zS} {oW oT : Option ((Int → Int) → Int)} {t l p k a b c : Int} {x : Int32} {n m : Nat}
theorem or0 (x : Int32) : x ||| 0 = x := Int32.or_zero
theorem cBits_z (hR : okR A) (hN : okN A) (h0 : 0 ≤ t) (h1 : t < vT A) (hl : 0 ≤ l ∧ l ≤ 60) : fX4_madeBits A (z32 t) (z32 l) = some (mB A t l (vH A).toNat) := by
  have hH := hR.2.1
  rw [fX4_madeBits]
  have e0 : (0 : Int32) = z32 0 := z32_litn 0
  refine (zup0 (L := fun f k (y : Int32) => fX4_madeBits_5 A f (z32 t) (z32 l) y (z32 k)) (n := vH A) (w := some (mB A t l (vH A).toNat)) (fun k => mB A t l k.toNat) hH.1 (by omega) ?_ ?_ : fX4_madeBits_5 A zF (z32 t) (z32 l) (mB A t l (0 : Int).toNat) (z32 0) = _)
  · intro f k hk hk'
    obtain ⟨m, rfl⟩ := Int.eq_ofNat_of_zero_le hk
    have e1 : ((m : Int)).toNat = m := by omega
    have e2 : ((m : Int) + 1).toNat = m + 1 := by omega
    have eH : hI A (rp A.2.2.2.1 + 0) 2 = vH A := rfl
    have hb := sHold_b (t := t) (l := l) hN hk hk' hl.1 hl.2
    have n2 : mB A t l (m + 1) = if sHold A m t l = l then mB A t l m ||| (1 <<< (z32 m &&& 31)) else mB A t l m := rfl
    show fX4_madeBits_5 A (f + 1) (z32 t) (z32 l) (mB A t l ((m : Int)).toNat) (z32 (m : Int)) = fX4_madeBits_5 A f (z32 t) (z32 l) (mB A t l ((m : Int) + 1).toNat) (z32 ((m : Int) + 1))
    rw [e1, e2, n2, fX4_madeBits_5, show iG A (rp A.2.2.2.1 + 0) 2 = z32 (hI A (rp A.2.2.2.1 + 0) 2) from iG_h _ _ 2, eH, if_neg (by rw [z32_le (by omega) (by omega) (by omega) (by omega)]; omega), cHold_z hR hN hk hk' h0 h1 hl.1 hl.2, bnr_q]
    unfold fX4_madeBits_36
    by_cases g : sHold A m t l = l
    · rw [if_pos (by rw [g]), if_pos g, z1p]
    · rw [if_neg (by rw [z32_eq (by omega) (by omega) (by omega) (by omega)]; exact g), if_neg g, z1p]
  · intro f
    have eH : hI A (rp A.2.2.2.1 + 0) 2 = vH A := rfl
    show fX4_madeBits_5 A (f + 1) (z32 t) (z32 l) (mB A t l (vH A).toNat) (z32 (vH A)) = _
    rw [fX4_madeBits_5, show iG A (rp A.2.2.2.1 + 0) 2 = z32 (hI A (rp A.2.2.2.1 + 0) 2) from iG_h _ _ 2, eH, if_pos (by rw [z32_le (by omega) (by omega) (by omega) (by omega)]; omega)]
theorem mBits_z (hR : okR A) (hN : okN A) (hm : rlR A σ) (hn : rlN A σ) (h0 : 0 ≤ t) (h1 : t < vT A) (hl : 0 ≤ l ∧ l ≤ 60) : fX11_madeBy σ (z32 t) (z32 l) = some (mB A t l (vH A).toNat) := by
  have hH := hR.2.1
  have eH := hm.2.2.1
  have hbk := hm.1
  rw [fX11_madeBy]
  refine (zup0 (L := fun f k (y : Int32) => fX11_madeBy_5 σ f (z32 t) (z32 l) y (z32 k)) (n := vH A) (w := some (mB A t l (vH A).toNat)) (fun k => mB A t l k.toNat) hH.1 (by omega) ?_ ?_ : fX11_madeBy_5 σ zF (z32 t) (z32 l) (mB A t l (0 : Int).toNat) (z32 0) = _)
  · intro f k hk hk'
    obtain ⟨m, rfl⟩ := Int.eq_ofNat_of_zero_le hk
    have e1 : ((m : Int)).toNat = m := by omega
    have e2 : ((m : Int) + 1).toNat = m + 1 := by omega
    have hb := sHold_b (t := t) (l := l) hN hk hk' hl.1 hl.2
    have n2 : mB A t l (m + 1) = if sHold A m t l = l then mB A t l m ||| (1 <<< (z32 m &&& 31)) else mB A t l m := rfl
    show fX11_madeBy_5 σ (f + 1) (z32 t) (z32 l) (mB A t l ((m : Int)).toNat) (z32 (m : Int)) = fX11_madeBy_5 σ f (z32 t) (z32 l) (mB A t l ((m : Int) + 1).toNat) (z32 ((m : Int) + 1))
    rw [e1, e2, n2, fX11_madeBy_5, show iG σ 56 13 = z32 (hI σ 56 13) from iG_h σ 56 13, aI_h (by omega) (by omega) (by omega), eH, if_neg (by rw [z32_le (by omega) (by omega) (by omega) (by omega)]; omega), mHold_z hR hN hn hk hk' h0 h1 hl.1 hl.2, bnr_q]
    unfold fX11_madeBy_40
    by_cases g : sHold A m t l = l
    · rw [if_pos (by rw [g]), if_pos g, z1p]
    · rw [if_neg (by rw [z32_eq (by omega) (by omega) (by omega) (by omega)]; exact g), if_neg g, z1p, or0]
  · intro f
    show fX11_madeBy_5 σ (f + 1) (z32 t) (z32 l) (mB A t l (vH A).toNat) (z32 (vH A)) = _
    rw [fX11_madeBy_5, show iG σ 56 13 = z32 (hI σ 56 13) from iG_h σ 56 13, aI_h (by omega) (by omega) (by omega), eH, if_pos (by rw [z32_le (by omega) (by omega) (by omega) (by omega)]; omega)]
theorem pW_p (hR : okR A) (h0 : 0 ≤ t) (h1 : t < vT A) (hk : 0 ≤ k) (hk' : k ≤ vCnt A t) : 0 ≤ zs (fun k => if mB A t (zmax 1 (vLen A t k / p)) (vH A).toNat = x then vWt A t k else 0) k ∧ zs (fun k => if mB A t (zmax 1 (vLen A t k / p)) (vH A).toNat = x then vWt A t k else 0) k ≤ 36 := by
  have hc := (hR.2.2.2.2.1 t h0 h1).2.1
  have := zs_b (g := fun k => if mB A t (zmax 1 (vLen A t k / p)) (vH A).toNat = x then vWt A t k else 0) (a := 0) (b := 9) (k := k) hk (fun i g0 g1 => by
    have hw := ((hR.2.2.2.2.1 t h0 h1).2.2 i g0 (by omega)).2
    split <;> omega)
  omega
theorem pW_b (hR : okR A) (h0 : 0 ≤ t) (h1 : t < vT A) : 0 ≤ pW A t x p ∧ pW A t x p ≤ 36 := pW_p hR h0 h1 (by have := (hR.2.2.2.2.1 t h0 h1).2.1; omega) (Int.le_refl _)
theorem dv_b {v : Int} (hv : 1 ≤ v ∧ v ≤ 60) (hp : 1 ≤ p) : (0 ≤ v / p ∧ v / p ≤ 60) ∧ (1 ≤ zmax 1 (v / p) ∧ zmax 1 (v / p) ≤ 60) := by
  have h1 : 0 ≤ v / p := Int.ediv_nonneg (by omega) (by omega)
  have h2 := Int.ediv_le_self p (show 0 ≤ v by omega)
  refine ⟨by omega, ?_⟩
  unfold zmax
  split <;> omega
theorem cPW_z (hR : okR A) (hN : okN A) (h0 : 0 ≤ t) (h1 : t < vT A) (hp : 1 ≤ p ∧ p ≤ 4) : fX0_paceWeights A (z32 t) x (z32 p) = some (z32 (pW A t x p)) := by
  have hc := (hR.2.2.2.2.1 t h0 h1).2.1
  have hT6 := hR.1
  have e3 : hI A (rp A.2.2.2.1 + 3) t = vCnt A t := rfl
  rw [fX0_paceWeights, show (0 : Int32) = z32 0 from z32_litn 0]
  refine zup0 (L := fun f k y => fX0_paceWeights_6 A f (z32 t) x (z32 p) (z32 y) (z32 k)) (n := vCnt A t) (w := some (z32 (pW A t x p))) (zs (fun k => if mB A t (zmax 1 (vLen A t k / p)) (vH A).toNat = x then vWt A t k else 0)) (by omega) (by omega) ?_ ?_
  · intro f k hk hk'
    have hlw := (hR.2.2.2.2.1 t h0 h1).2.2 k hk hk'
    obtain ⟨d1, d2⟩ := dv_b hlw.1 hp.1
    have pb := pW_p (p := p) (x := x) hR h0 h1 hk (Int.le_of_lt hk')
    have eb := cBits_z (l := zmax 1 (vLen A t k / p)) hR hN h0 h1 (by omega)
    show fX0_paceWeights_6 A (f + 1) (z32 t) x (z32 p) (z32 (zs (fun k => if mB A t (zmax 1 (vLen A t k / p)) (vH A).toNat = x then vWt A t k else 0) k)) (z32 k) = fX0_paceWeights_6 A f (z32 t) x (z32 p) (z32 (zs (fun k => if mB A t (zmax 1 (vLen A t k / p)) (vH A).toNat = x then vWt A t k else 0) (k + 1))) (z32 (k + 1))
    rw [zs_s hk, fX0_paceWeights_6, if_neg (by rw [z32_litn, z32_le (by omega) (by omega) (by omega) (by omega)]; omega), aI_h (by omega) (by omega) (by omega), e3, if_neg (by rw [z32_le (by omega) (by omega) (by omega) (by omega)]; omega), cLen_z hR h0 h1 hk hk', bnr_q, gd_pos (by rw [z32_litn, z32_eq (by omega) (by omega) (by omega) (by omega)]; omega), z32_div (by omega) (by omega) (by omega) (by omega), show (1 : Int32) = z32 1 from z32_litn 1, jmax_z (by omega) (by omega) (by omega) (by omega), eb, bnr_q]
    unfold fX0_paceWeights_80
    by_cases g : mB A t (zmax 1 (vLen A t k / p)) (vH A).toNat = x
    · rw [if_pos g, if_pos g, cWt_z hR h0 h1 hk hk', bnr_q, z32_add, z1p]
    · rw [if_neg g, if_neg g, z1p, Int.add_zero]
  · intro f
    show fX0_paceWeights_6 A (f + 1) (z32 t) x (z32 p) (z32 (pW A t x p)) (z32 (vCnt A t)) = _
    rw [fX0_paceWeights_6, if_neg (by rw [z32_litn, z32_le (by omega) (by omega) (by omega) (by omega)]; omega), aI_h (by omega) (by omega) (by omega), e3, if_pos (by rw [z32_le (by omega) (by omega) (by omega) (by omega)]; omega)]
theorem cBP_z (hR : okR A) (hN : okN A) (h0 : 0 ≤ t) (h1 : t < vT A) : fX0_bestPace A (z32 t) x = some (z32 (am (fun i => pW A t x (i + 1)) 3 + 1)) := by
  have e1 := cPW_z (p := 1) (x := x) hR hN h0 h1 (by omega)
  rw [fX0_bestPace, show (1 : Int32) = z32 1 from z32_litn 1, e1, bnr_q, show (2 : Int32) = z32 2 from z32_litn 2]
  refine zup0 (L := fun f k y => fX0_bestPace_14 A f (z32 t) x (z32 (y + 1)) (z32 (pW A t x (y + 1))) (z32 (k + 2))) (n := 3) (w := some (z32 (am (fun i => pW A t x (i + 1)) 3 + 1))) (am (fun i => pW A t x (i + 1))) (by omega) (by omega) ?_ ?_
  · intro f k hk hk'
    have ab := am_b (g := fun i => pW A t x (i + 1)) hk
    have e2 := cPW_z (p := k + 2) (x := x) hR hN h0 h1 (by omega)
    have w1 := pW_b (p := k + 2) (x := x) hR h0 h1
    have w2 := pW_b (p := am (fun i => pW A t x (i + 1)) k + 1) (x := x) hR h0 h1
    show fX0_bestPace_14 A (f + 1) (z32 t) x (z32 (am (fun i => pW A t x (i + 1)) k + 1)) (z32 (pW A t x (am (fun i => pW A t x (i + 1)) k + 1))) (z32 (k + 2)) = fX0_bestPace_14 A f (z32 t) x (z32 (am (fun i => pW A t x (i + 1)) (k + 1) + 1)) (z32 (pW A t x (am (fun i => pW A t x (i + 1)) (k + 1) + 1))) (z32 (k + 1 + 2))
    rw [am_s hk, fX0_bestPace_14, if_neg (by rw [z32_litn, z32_lt (by omega) (by omega) (by omega) (by omega)]; omega), e2, bnr_q]
    unfold fX0_bestPace_44
    rw [show k + 1 + 1 = k + 2 by omega, show k + 1 + 2 = k + 2 + 1 by omega]
    by_cases g : pW A t x (k + 2) ≤ pW A t x (am (fun i => pW A t x (i + 1)) k + 1)
    · rw [if_pos (by rw [z32_le (by omega) (by omega) (by omega) (by omega)]; exact g), if_pos g, z1p]
    · rw [if_neg (by rw [z32_le (by omega) (by omega) (by omega) (by omega)]; exact g), if_neg g, z1p, show k + 1 + 1 = k + 2 by omega]
  · intro f
    show fX0_bestPace_14 A (f + 1) (z32 t) x (z32 (am (fun i => pW A t x (i + 1)) 3 + 1)) (z32 (pW A t x (am (fun i => pW A t x (i + 1)) 3 + 1))) (z32 (3 + 2)) = _
    rw [fX0_bestPace_14, if_pos (by rw [z32_litn, z32_lt (by omega) (by omega) (by omega) (by omega)]; omega)]
def pcE (σ : zS) (r49 : Int32 → Int32 → Int32 → Int32 → Int32 → Int32 → Option Int32) (x1 x2 x3 x4 x5 x6 x7 : Int32) : Option Int32 := if x5 < x7 then fX11_pace_144 σ r49 x1 x2 x3 x6 x7 x6 else fX11_pace_144 σ r49 x1 x2 x3 x4 x5 x6
theorem mPW_z (r49 : Int32 → Int32 → Int32 → Int32 → Int32 → Int32 → Option Int32) {y3 y4 y5 : Int32} (hR : okR A) (hN : okN A) (hm : rlR A σ) (hn : rlN A σ) (h0 : 0 ≤ t) (h1 : t < vT A) (hp : 1 ≤ p ∧ p ≤ 4) : fX11_pace_61 σ r49 zF (z32 t) x y3 y4 y5 (z32 p) (z32 0) (z32 0) = pcE σ r49 (z32 t) x y3 y4 y5 (z32 p) (z32 (pW A t x p)) := by
  have hc := (hR.2.2.2.2.1 t h0 h1).2.1
  refine zup0 (L := fun f k y => fX11_pace_61 σ r49 f (z32 t) x y3 y4 y5 (z32 p) (z32 y) (z32 k)) (n := vCnt A t) (w := pcE σ r49 (z32 t) x y3 y4 y5 (z32 p) (z32 (pW A t x p))) (zs (fun k => if mB A t (zmax 1 (vLen A t k / p)) (vH A).toNat = x then vWt A t k else 0)) (by omega) (by omega) ?_ ?_
  · intro f k hk hk'
    have hlw := (hR.2.2.2.2.1 t h0 h1).2.2 k hk hk'
    obtain ⟨d1, d2⟩ := dv_b hlw.1 hp.1
    have eb := mBits_z (l := zmax 1 (vLen A t k / p)) hR hN hm hn h0 h1 (by omega)
    show fX11_pace_61 σ r49 (f + 1) (z32 t) x y3 y4 y5 (z32 p) (z32 (zs (fun k => if mB A t (zmax 1 (vLen A t k / p)) (vH A).toNat = x then vWt A t k else 0) k)) (z32 k) = fX11_pace_61 σ r49 f (z32 t) x y3 y4 y5 (z32 p) (z32 (zs (fun k => if mB A t (zmax 1 (vLen A t k / p)) (vH A).toNat = x then vWt A t k else 0) (k + 1))) (z32 (k + 1))
    have e99 : ∀ y, fX11_pace_99 σ r49 (fX11_pace_61 σ r49 f) (z32 t) x y3 y4 y5 (z32 p) (z32 k) (z32 (zmax 1 (vLen A t k / p))) (z32 t) (z32 y) = fX11_pace_61 σ r49 f (z32 t) x y3 y4 y5 (z32 p) (z32 (y + if mB A t (zmax 1 (vLen A t k / p)) (vH A).toNat = x then vWt A t k else 0)) (z32 (k + 1)) := fun y => by
      unfold fX11_pace_99 fX11_pace_117
      rw [eb, bnr_q]
      by_cases g : mB A t (zmax 1 (vLen A t k / p)) (vH A).toNat = x
      · rw [if_pos g, if_pos g, mWt_z hR hm h0 h1 hk hk', bnr_q, z32_add, z1p]
      · rw [if_neg g, if_neg g, show (0 : Int32) = z32 0 from z32_litn 0, z32_add, z1p]
    rw [zs_s hk, fX11_pace_61, mCnt_z hR hm h0 h1, bnr_q, if_neg (by rw [z32_le (by omega) (by omega) (by omega) (by omega)]; omega), mLen_z hR hm h0 h1 hk hk', bnr_q, gd_pos (by rw [z32_litn, z32_eq (by omega) (by omega) (by omega) (by omega)]; omega), z32_div (by omega) (by omega) (by omega) (by omega)]
    by_cases g : 1 ≤ vLen A t k / p
    · rw [if_pos (by rw [z32_litn, z32_le (by omega) (by omega) (by omega) (by omega)]; exact g)]
      have := e99 (zs (fun k => if mB A t (zmax 1 (vLen A t k / p)) (vH A).toNat = x then vWt A t k else 0) k)
      rw [show zmax 1 (vLen A t k / p) = vLen A t k / p by unfold zmax; rw [if_pos g]] at this
      rw [show zmax 1 (vLen A t k / p) = vLen A t k / p by unfold zmax; rw [if_pos g]]
      exact this
    · rw [if_neg (by rw [z32_litn, z32_le (by omega) (by omega) (by omega) (by omega)]; exact g), show (1 : Int32) = z32 1 from z32_litn 1]
      have := e99 (zs (fun k => if mB A t (zmax 1 (vLen A t k / p)) (vH A).toNat = x then vWt A t k else 0) k)
      rw [show zmax 1 (vLen A t k / p) = 1 by unfold zmax; rw [if_neg g]] at this
      rw [show zmax 1 (vLen A t k / p) = 1 by unfold zmax; rw [if_neg g]]
      exact this
  · intro f
    show fX11_pace_61 σ r49 (f + 1) (z32 t) x y3 y4 y5 (z32 p) (z32 (pW A t x p)) (z32 (vCnt A t)) = _
    rw [fX11_pace_61, mCnt_z hR hm h0 h1, bnr_q, if_pos (by rw [z32_le (by omega) (by omega) (by omega) (by omega)]; omega)]
    rfl
/-- best and most behind k paces -/
def pcB (A : zS) (t : Int) (x : Int32) (k : Int) : Int × Int := if k = 0 then (1, -1) else (am (fun i => pW A t x (i + 1)) (k - 1) + 1, pW A t x (am (fun i => pW A t x (i + 1)) (k - 1) + 1))
theorem mPc_z (hR : okR A) (hN : okN A) (hm : rlR A σ) (hn : rlN A σ) (h0 : 0 ≤ t) (h1 : t < vT A) (hc : c = 0 ∨ c = 1) : fX11_pace_49 σ zF (z32 t) x (z32 c) (z32 1) (z32 (-1)) (z32 1) = some (z32 (if c = 0 then am (fun i => pW A t x (i + 1)) 3 + 1 else (1000 * pW A t x (am (fun i => pW A t x (i + 1)) 3 + 1)).fdiv (sW A t))) := by
  have swb := sW_b hR h0 h1
  refine zup0 (L := fun f k (y : Int × Int) => fX11_pace_49 σ f (z32 t) x (z32 c) (z32 y.1) (z32 y.2) (z32 (k + 1))) (n := 4) (w := some (z32 (if c = 0 then am (fun i => pW A t x (i + 1)) 3 + 1 else (1000 * pW A t x (am (fun i => pW A t x (i + 1)) 3 + 1)).fdiv (sW A t)))) (pcB A t x) (by omega) (by omega) ?_ ?_
  · intro f k hk hk'
    have w1 := pW_b (p := k + 1) (x := x) hR h0 h1
    show fX11_pace_49 σ (f + 1) (z32 t) x (z32 c) (z32 (pcB A t x k).1) (z32 (pcB A t x k).2) (z32 (k + 1)) = fX11_pace_49 σ f (z32 t) x (z32 c) (z32 (pcB A t x (k + 1)).1) (z32 (pcB A t x (k + 1)).2) (z32 (k + 1 + 1))
    rw [fX11_pace_49, if_neg (by rw [z32_litn, z32_lt (by omega) (by omega) (by omega) (by omega)]; omega), show (0 : Int32) = z32 0 from z32_litn 0, mPW_z _ hR hN hm hn h0 h1 (by omega)]
    unfold pcE fX11_pace_144 pcB
    rw [if_neg (by omega : ¬ k + 1 = 0), show k + 1 - 1 = k by omega]
    by_cases g0 : k = 0
    · subst g0
      rw [if_pos rfl, am_0]
      rw [if_pos (by rw [z32_lt (by omega) (by omega) (by omega) (by omega)]; simp only [Int.zero_add] at w1 ⊢; omega), z1p]
    · have w2 := pW_b (p := am (fun i => pW A t x (i + 1)) (k - 1) + 1) (x := x) hR h0 h1
      have e := am_s (g := fun i => pW A t x (i + 1)) (k := k - 1) (by omega)
      rw [show k - 1 + 1 = k by omega] at e
      rw [if_neg g0, e]
      try simp only []
      by_cases g : pW A t x (k + 1) ≤ pW A t x (am (fun i => pW A t x (i + 1)) (k - 1) + 1)
      · rw [if_pos g, if_neg (by rw [z32_lt (by omega) (by omega) (by omega) (by omega)]; omega), z1p]
      · rw [if_neg g, if_pos (by rw [z32_lt (by omega) (by omega) (by omega) (by omega)]; omega), z1p]
  · intro f
    have w2 := pW_b (p := am (fun i => pW A t x (i + 1)) 3 + 1) (x := x) hR h0 h1
    show fX11_pace_49 σ (f + 1) (z32 t) x (z32 c) (z32 (am (fun i => pW A t x (i + 1)) 3 + 1)) (z32 (pW A t x (am (fun i => pW A t x (i + 1)) 3 + 1))) (z32 (4 + 1)) = _
    rw [fX11_pace_49, if_pos (by rw [z32_litn, z32_lt (by omega) (by omega) (by omega) (by omega)]; omega)]
    rcases hc with hc | hc
    · rw [hc, if_pos z00, if_pos rfl]
    · rw [hc, if_neg z10, if_neg (by omega), mW_z hR hm h0 h1, bnr_q, gd_pos (by rw [z32_litn, z32_eq (by omega) (by omega) (by omega) (by omega)]; omega), show (1000 : Int32) = z32 1000 from z32_litn 1000, mThou32 (by omega) (by omega) (by omega) (by omega)]
theorem shl_z {H : Int} (h0 : 0 ≤ H) (h1 : H ≤ 6) : ∃ w : Int, (1 : Int32) <<< (z32 H &&& 31) = z32 w ∧ 1 ≤ w ∧ w ≤ 64 := by
  rcases (by omega : H = 0 ∨ H = 1 ∨ H = 2 ∨ H = 3 ∨ H = 4 ∨ H = 5 ∨ H = 6) with g | g | g | g | g | g | g <;> subst g
  · exact ⟨1, by decide, by omega, by omega⟩
  · exact ⟨2, by decide, by omega, by omega⟩
  · exact ⟨4, by decide, by omega, by omega⟩
  · exact ⟨8, by decide, by omega, by omega⟩
  · exact ⟨16, by decide, by omega, by omega⟩
  · exact ⟨32, by decide, by omega, by omega⟩
  · exact ⟨64, by decide, by omega, by omega⟩
theorem Q_pace (H : RC oW oT A) (h1 : -2147483648 ≤ a) (h2 : a < 2147483648) (h3 : -2147483648 ≤ b) (h4 : b < 2147483648) (h5 : -2147483648 ≤ c) (h6 : c < 2147483648) : QP oW oT (fun s => fX10_pace s (z32 a) (z32 b) (z32 c)) (fun s => fX11_pace s (z32 a) (z32 b) (z32 c)) A := by
  have hR := H.1
  have hN := H.2.1
  have hH := hR.2.1
  have eH : hI A (rp A.2.2.2.1 + 0) 2 = vH A := rfl
  have en : (-1 : Int32) = z32 (-1) := by rw [z32_litn, z32_neg]
  obtain ⟨w, w1, w2, w3⟩ := shl_z hH.1 hH.2
  have pc : ∀ x y z, fX10_pace A x y z = if (fX6_hasTunnel A.2.2.2.1 A x) = 0 then some (z32 (-1)) else if y < 0 then some (z32 (-1)) else if z32 w ≤ y then some (z32 (-1)) else if z < 0 then some (z32 (-1)) else if z ≤ 1 then bnr (fX0_bestPace A x y) fun v1 => if z = 0 then some v1 else bnr (fX0_paceWeights A x y v1) fun v3 => bnr (fX6_allWeights A.2.2.2.1 A x) fun v5 => bnr (fX10_thousandths v3.toInt64 v5.toInt64) fun v7 => some v7 else some (z32 (-1)) := fun x y z => by
    unfold fX10_pace
    rw [show iG A (rp A.2.2.2.1 + 0) 2 = z32 (hI A (rp A.2.2.2.1 + 0) 2) from iG_h _ _ 2, eH, w1, en]
  have pm : ∀ σ, rlR A σ → ∀ x y z, fX11_pace σ x y z = bnr (fX11_isTunnel σ x) fun v1 => if v1 = 0 then some (z32 (-1)) else if (fX11_is y (z32 0) (z32 (w - 1))) = 0 then some (z32 (-1)) else if (fX11_is z (z32 0) (z32 1)) = 0 then some (z32 (-1)) else fX11_pace_49 σ zF x y z (z32 1) (z32 (-1)) (z32 1) := fun σ hm x y z => by
    have eb := hm.2.2.1
    have hbk := hm.1
    unfold fX11_pace
    rw [show iG σ 56 13 = z32 (hI σ 56 13) from iG_h σ 56 13, aI_h (by omega) (by omega) (by omega), eb, w1, en, show (1 : Int32) = z32 1 from z32_litn 1, z32_sub, show (0 : Int32) = z32 0 from z32_litn 0]
  by_cases ht : 0 ≤ a ∧ a < vT A
  · by_cases hb : 0 ≤ b ∧ b < w
    · by_cases hc : 0 ≤ c ∧ c ≤ 1
      · have swb := sW_b hR ht.1 ht.2
        have ab := am_b (g := fun i => pW A a (z32 b) (i + 1)) (k := 3) (by omega)
        have pb := pW_b (p := am (fun i => pW A a (z32 b) (i + 1)) 3 + 1) (x := z32 b) hR ht.1 ht.2
        refine ⟨z32 (if c = 0 then am (fun i => pW A a (z32 b) (i + 1)) 3 + 1 else (1000 * pW A a (z32 b) (am (fun i => pW A a (z32 b) (i + 1)) 3 + 1)).fdiv (sW A a)), ?_, fun σ hm => ?_⟩
        · show fX10_pace A (z32 a) (z32 b) (z32 c) = _
          rw [pc, hasT_p ht.1 ht.2, if_neg z10, if_neg (by rw [z32_litn, z32_lt (by omega) (by omega) (by omega) (by omega)]; omega), if_neg (by rw [z32_le (by omega) (by omega) (by omega) (by omega)]; omega), if_neg (by rw [z32_litn, z32_lt (by omega) (by omega) (by omega) (by omega)]; omega), if_pos (by rw [z32_litn, z32_le (by omega) (by omega) (by omega) (by omega)]; omega), cBP_z hR hN ht.1 ht.2, bnr_q]
          by_cases g : c = 0
          · rw [if_pos (by rw [g]; exact z00), if_pos g]
          · rw [if_neg (by rw [z32_litn, z32_eq (by omega) (by omega) (by omega) (by omega)]; exact g), if_neg g, cPW_z hR hN ht.1 ht.2 (by omega), bnr_q, cW_z hR ht.1 ht.2, bnr_q, z32_64 (by omega) (by omega), z32_64 (by omega) (by omega), cThou (by omega) (by omega) (by omega) (by omega), bnr_q]
        · show fX11_pace σ (z32 a) (z32 b) (z32 c) = _
          rw [pm σ hm.1, isT_p hR hm.1 ht.1 ht.2, bnr_q, if_neg z10, is_p (by omega) (by omega) (by omega) (by omega), if_neg z10, is_p (by omega) (by omega) (by omega) (by omega), if_neg z10, mPc_z hR hN hm.1 hm.2.1 ht.1 ht.2 (by omega)]
      · refine ⟨z32 (-1), ?_, fun σ hm => ?_⟩
        · show fX10_pace A (z32 a) (z32 b) (z32 c) = _
          rw [pc, hasT_p ht.1 ht.2, if_neg z10, if_neg (by rw [z32_litn, z32_lt (by omega) (by omega) (by omega) (by omega)]; omega), if_neg (by rw [z32_le (by omega) (by omega) (by omega) (by omega)]; omega)]
          by_cases g : c < 0
          · rw [if_pos (by rw [z32_litn, z32_lt (by omega) (by omega) (by omega) (by omega)]; exact g)]
          · rw [if_neg (by rw [z32_litn, z32_lt (by omega) (by omega) (by omega) (by omega)]; exact g), if_neg (by rw [z32_litn, z32_le (by omega) (by omega) (by omega) (by omega)]; omega)]
        · show fX11_pace σ (z32 a) (z32 b) (z32 c) = _
          rw [pm σ hm.1, isT_p hR hm.1 ht.1 ht.2, bnr_q, if_neg z10, is_p (by omega) (by omega) (by omega) (by omega), if_neg z10, is_n (by omega) (by omega) (by omega) (by omega) (by omega) (by omega) hc, if_pos z00]
    · refine ⟨z32 (-1), ?_, fun σ hm => ?_⟩
      · show fX10_pace A (z32 a) (z32 b) (z32 c) = _
        rw [pc, hasT_p ht.1 ht.2, if_neg z10]
        by_cases g : b < 0
        · rw [if_pos (by rw [z32_litn, z32_lt (by omega) (by omega) (by omega) (by omega)]; exact g)]
        · rw [if_neg (by rw [z32_litn, z32_lt (by omega) (by omega) (by omega) (by omega)]; exact g), if_pos (by rw [z32_le (by omega) (by omega) (by omega) (by omega)]; omega)]
      · show fX11_pace σ (z32 a) (z32 b) (z32 c) = _
        rw [pm σ hm.1, isT_p hR hm.1 ht.1 ht.2, bnr_q, if_neg z10, is_n (by omega) (by omega) (by omega) (by omega) (by omega) (by omega) (by omega), if_pos z00]
  · refine ⟨z32 (-1), ?_, fun σ hm => ?_⟩
    · show fX10_pace A (z32 a) (z32 b) (z32 c) = _
      rw [pc, hasT_n h1 h2 ht, if_pos z00]
    · show fX11_pace σ (z32 a) (z32 b) (z32 c) = _
      rw [pm σ hm.1, isT_n hR hm.1 h1 h2 ht, bnr_q, if_pos z00]
end PC

/-! MY OWN: whom: both sides -/
def tA (oW : Option ((Int → Int) → Int)) (A : zS) (h t o : Int) : Int := zs (fun k => vWt A t k * sAW oW A (fun i => if i = o then 0 else sHold A i t (vLen A t k)) h t (vLen A t k)) (vCnt A t)
def whb (oW : Option ((Int → Int) → Int)) (A : zS) (h t : Int) : Nat → Int
  | 0 => -1
  | n + 1 => if (n : Int) = h then whb oW A h t n else if tA oW A h t n ≤ tA oW A h t (whb oW A h t n) then whb oW A h t n else n
section WH
variable {A B σ τ υ : zS} {oW oT : Option ((Int → Int) → Int)} {t br s k l h o a b c x4 x5 : Int} {n m : Nat}
theorem whb_b (n : Nat) : -1 ≤ whb oW A h t n ∧ whb oW A h t n < n := by
  induction n with
  | zero =>
    show (-1 : Int) ≤ -1 ∧ (-1 : Int) < ((0 : Nat) : Int)
    omega
  | succ n ih =>
    unfold whb
    split
    · omega
    · split <;> omega
theorem tA_p (hR : okR A) (h0 : 0 ≤ t) (h1 : t < vT A) (hk : 0 ≤ k) (hk' : k ≤ vCnt A t) : -1000000 ≤ zs (fun k => vWt A t k * sAW oW A (fun i => if i = o then 0 else sHold A i t (vLen A t k)) h t (vLen A t k)) k ∧ zs (fun k => vWt A t k * sAW oW A (fun i => if i = o then 0 else sHold A i t (vLen A t k)) h t (vLen A t k)) k ≤ 1000000 := by
  have hc := (hR.2.2.2.2.1 t h0 h1).2.1
  have := zs_b (g := fun k => vWt A t k * sAW oW A (fun i => if i = o then 0 else sHold A i t (vLen A t k)) h t (vLen A t k)) (a := -8991) (b := 8991) (k := k) hk (fun i g0 g1 => by
    have hw := ((hR.2.2.2.2.1 t h0 h1).2.2 i g0 (by omega)).2
    have b1 := sAW_b (oW := oW) (A := A) (t := t) (l := vLen A t i) (h := h) (hr := fun j => if j = o then 0 else sHold A j t (vLen A t i))
    have := mulb (a := 999) (b := 9) (x := sAW oW A (fun j => if j = o then 0 else sHold A j t (vLen A t i)) h t (vLen A t i)) (y := vWt A t i) b1.1 b1.2 (by omega) (by omega)
    rw [Int.mul_comm (vWt A t i)]
    omega)
  omega
theorem tA_b (hR : okR A) (h0 : 0 ≤ t) (h1 : t < vT A) : -1000000 ≤ tA oW A h t o ∧ tA oW A h t o ≤ 1000000 := tA_p hR h0 h1 (by have := (hR.2.2.2.2.1 t h0 h1).2.1; omega) (Int.le_refl _)
theorem hrO_b (hN : okN A) (hl : 0 ≤ l ∧ l ≤ 60) : ∀ i, 0 ≤ i → i < vH A → 0 ≤ (if i = o then 0 else sHold A i t l) ∧ (if i = o then 0 else sHold A i t l) ≤ 60 := fun i g0 g1 => by
  have := sHold_b (t := t) (l := l) hN g0 g1 hl.1 hl.2
  split <;> omega
theorem cTot_z (hR : okR A) (hN : okN A) (hW : cSum A 0 oW) (q : qC A σ) (hh0 : 0 ≤ h) (hh1 : h < vH A) (h0 : 0 ≤ t) (h1 : t < vT A) (ho : -1 ≤ o) (ho' : o < vH A) : ∃ B, fX0_totalAmong (z32 h) (z32 t) (z32 o) σ = some (z64 (tA oW A h t o), B) ∧ qC σ B ∧ kO σ B := by
  have hH := hR.2.1
  have hT6 := hR.1
  have hc := (hR.2.2.2.2.1 t h0 h1).2.1
  rw [fX0_totalAmong, show (0 : Int32) = z32 0 from z32_litn 0, show (0 : Int64) = z64 0 from z64_litn 0]
  refine zupP0 (β := Int64 × zS) (L := fun f x a => fX0_totalAmong_6 f (z32 h) (z32 t) (z32 o) (z64 (zs (fun k => vWt A t k * sAW oW A (fun i => if i = o then 0 else sHold A i t (vLen A t k)) h t (vLen A t k)) x)) (z32 x) a) (n := vCnt A t) (Q := fun r => ∃ B, r = some (z64 (tA oW A h t o), B) ∧ qC σ B ∧ kO σ B)
    (fun x a => qC σ a ∧ kO σ a) (a := σ) (by omega) (by omega) ⟨qC_r σ, kO_r σ⟩ ?_ ?_
  · intro f x a hx hx' ⟨p1, p2⟩
    have qa := qC_t q p1
    have hlw := (hR.2.2.2.2.1 t h0 h1).2.2 x hx hx'
    have hR' := e_okR qa.1 hR
    have hN' := e_okN qa.1 hN
    have efl := e_fl qa.1
    have ecn : hI a (rp A.2.2.2.1 + 3) t = vCnt A t := by rw [e_road qa.1 (by omega) h0]; rfl
    have el := cLen_z (A := a) (t := t) (k := x) hR' h0 (by rw [e_T qa.1]; exact h1) hx (by rw [e_Cnt qa.1 h0]; exact hx')
    rw [e_Len qa.1 h0 hx, efl] at el
    obtain ⟨B1, b1, b2, b3, -⟩ := cAll_z (A := a) (t := t) (l := vLen A t x) hR' hN' h0 (by rw [e_T qa.1]; exact h1) (by omega)
    obtain ⟨qb, kb'⟩ := oH_q b2
    have q1 := qC_t qa qb
    -- the one who laughs
    obtain ⟨C, c1, c2, c3⟩ : ∃ C, (if (fX6_hasHolder B1.2.2.2.1 B1 (z32 o)) = 0 then fX0_totalAmong_72 (fX0_totalAmong_6 f) (z32 h) (z32 t) (z32 o) (z64 (zs (fun k => vWt A t k * sAW oW A (fun i => if i = o then 0 else sHold A i t (vLen A t k)) h t (vLen A t k)) x)) (z32 x) (z32 (vLen A t x)) B1 else wI B1 25 6 (z32 o) 0 fun σ11 => fX0_totalAmong_72 (fX0_totalAmong_6 f) (z32 h) (z32 t) (z32 o) (z64 (zs (fun k => vWt A t k * sAW oW A (fun i => if i = o then 0 else sHold A i t (vLen A t k)) h t (vLen A t k)) x)) (z32 x) (z32 (vLen A t x)) σ11) = fX0_totalAmong_72 (fX0_totalAmong_6 f) (z32 h) (z32 t) (z32 o) (z64 (zs (fun k => vWt A t k * sAW oW A (fun i => if i = o then 0 else sHold A i t (vLen A t k)) h t (vLen A t k)) x)) (z32 x) (z32 (vLen A t x)) C ∧ oH B1 C ∧ ∀ i, 0 ≤ i → i < vH A → hI C 25 i = if i = o then 0 else sHold A i t (vLen A t x) := by
      by_cases go : o = -1
      · refine ⟨B1, ?_, oH_r B1, fun i g0 g1 => ?_⟩
        · rw [hasH_n (by omega) (by omega) (by rw [e_H q1.1]; omega), if_pos z00]
        · rw [if_neg (by omega), b3 i g0 (by rw [e_H qa.1]; exact g1), e_hold qa.1 g0 h0]
      · refine ⟨jS B1 25 o 0, ?_, oH_25, fun i g0 g1 => ?_⟩
        · rw [hasH_p (by omega) (by rw [e_H q1.1]; omega), if_neg z10, show (0 : Int32) = z32 0 from z32_litn 0, wI_h (by omega) (by omega) (by omega)]
        · rw [hI_jS (by omega) g0 (by omega) (by omega)]
          by_cases g : i = o
          · rw [if_pos g, if_pos g]
          · rw [if_neg g, if_neg g, b3 i g0 (by rw [e_H qa.1]; exact g1), e_hold qa.1 g0 h0]
    obtain ⟨qc, kc⟩ := oH_q c2
    have q2 := qC_t q1 qc
    obtain ⟨D, d1, d2, d3, -⟩ := cAW_z (A := C) (oW := oW) (hr := fun i => if i = o then 0 else sHold A i t (vLen A t x)) (h := h) (t := t) (l := vLen A t x) (e_okR q2.1 hR) (e_okN q2.1 hN) (e_sum q2.1 (by omega) hW) (fun i g0 g1 => c3 i g0 (by rw [← e_H q2.1]; exact g1)) (fun i g0 g1 => hrO_b hN (by omega) i g0 (by rw [← e_H q2.1]; exact g1)) hh0 (by rw [e_H q2.1]; exact hh1) h0 (by rw [e_T q2.1]; exact h1) (by omega)
    rw [e_AW q2.1 hh0 h0] at d1
    have ew := cWt_z (A := C) (t := t) (k := x) (e_okR q2.1 hR) h0 (by rw [e_T q2.1]; exact h1) hx (by rw [e_Cnt q2.1 h0]; exact hx')
    rw [e_Wt q2.1 h0 hx] at ew
    have wab := sAW_b (oW := oW) (A := A) (t := t) (l := vLen A t x) (h := h) (hr := fun i => if i = o then 0 else sHold A i t (vLen A t x))
    refine ⟨D, ?_, qC_t p1 (qC_t qb (qC_t qc d2)), kO_t p2 (kO_t kb' (kO_t kc d3))⟩
    show fX0_totalAmong_6 (f + 1) (z32 h) (z32 t) (z32 o) (z64 (zs (fun k => vWt A t k * sAW oW A (fun i => if i = o then 0 else sHold A i t (vLen A t k)) h t (vLen A t k)) x)) (z32 x) a = fX0_totalAmong_6 f (z32 h) (z32 t) (z32 o) (z64 (zs (fun k => vWt A t k * sAW oW A (fun i => if i = o then 0 else sHold A i t (vLen A t k)) h t (vLen A t k)) (x + 1))) (z32 (x + 1)) D
    rw [fX0_totalAmong_6, efl, aI_h (by omega) (by omega) (by omega), ecn, if_neg (by rw [z32_le (by omega) (by omega) (by omega) (by omega)]; omega), el, bnr_q, b1, bnr_q, c1]
    unfold fX0_totalAmong_72
    rw [ew, bnr_q, d1, bnc_q]
    dsimp only
    rw [z32_64 (by omega) (by omega), z32_64 (by omega) (by omega), z64_mul, z64_add, z1p, zs_s hx]
  · intro f a ⟨p1, p2⟩
    have qa := qC_t q p1
    have efl := e_fl qa.1
    have ecn : hI a (rp A.2.2.2.1 + 3) t = vCnt A t := by rw [e_road qa.1 (by omega) h0]; rfl
    refine ⟨a, ?_, p1, p2⟩
    show fX0_totalAmong_6 (f + 1) (z32 h) (z32 t) (z32 o) (z64 (tA oW A h t o)) (z32 (vCnt A t)) a = _
    rw [fX0_totalAmong_6, efl, aI_h (by omega) (by omega) (by omega), ecn, if_pos (by rw [z32_le (by omega) (by omega) (by omega) (by omega)]; omega)]
theorem cLau_z (hR : okR A) (hN : okN A) (hW : cSum A 0 oW) (hh0 : 0 ≤ h) (hh1 : h < vH A) (h0 : 0 ≤ t) (h1 : t < vT A) : ∃ B, fX0_bestToLaugh (z32 h) (z32 t) A = some (z32 (whb oW A h t (vH A).toNat), B) ∧ qC A B ∧ kO A B := by
  have hH := hR.2.1
  obtain ⟨B, b1, b2, b3⟩ := cTot_z (o := -1) hR hN hW (qC_r A) hh0 hh1 h0 h1 (by omega) (by omega)
  have en : (-1 : Int32) = z32 (-1) := by rw [z32_litn, z32_neg]
  rw [fX0_bestToLaugh, en, b1, bnc_q, show (0 : Int32) = z32 0 from z32_litn 0]
  refine zupP0 (β := Int32 × zS) (L := fun f x a => fX0_bestToLaugh_14 f (z32 h) (z32 t) (z32 (whb oW A h t x.toNat)) (z64 (tA oW A h t (whb oW A h t x.toNat))) (z32 x) a) (n := vH A) (Q := fun r => ∃ B, r = some (z32 (whb oW A h t (vH A).toNat), B) ∧ qC A B ∧ kO A B)
    (fun x a => qC A a ∧ kO A a) (a := B) hH.1 (by omega) ⟨b2, b3⟩ ?_ ?_
  · intro f x a hx hx' ⟨p1, p2⟩
    obtain ⟨m, rfl⟩ := Int.eq_ofNat_of_zero_le hx
    have e1 : ((m : Int)).toNat = m := by omega
    have e2 : ((m : Int) + 1).toNat = m + 1 := by omega
    have eH : hI a (rp A.2.2.2.1 + 0) 2 = vH A := by rw [e_road p1.1 (by omega) (by omega)]; rfl
    have efl := e_fl p1.1
    have n2 : whb oW A h t (m + 1) = if (m : Int) = h then whb oW A h t m else if tA oW A h t m ≤ tA oW A h t (whb oW A h t m) then whb oW A h t m else m := rfl
    show ∃ a', fX0_bestToLaugh_14 (f + 1) (z32 h) (z32 t) (z32 (whb oW A h t ((m : Int)).toNat)) (z64 (tA oW A h t (whb oW A h t ((m : Int)).toNat))) (z32 (m : Int)) a = fX0_bestToLaugh_14 f (z32 h) (z32 t) (z32 (whb oW A h t ((m : Int) + 1).toNat)) (z64 (tA oW A h t (whb oW A h t ((m : Int) + 1).toNat))) (z32 ((m : Int) + 1)) a' ∧ qC A a' ∧ kO A a'
    rw [e1, e2, n2, fX0_bestToLaugh_14, efl, show iG a (rp A.2.2.2.1 + 0) 2 = z32 (hI a (rp A.2.2.2.1 + 0) 2) from iG_h _ _ 2, eH, if_neg (by rw [z32_le (by omega) (by omega) (by omega) (by omega)]; omega)]
    unfold fX0_bestToLaugh_60
    by_cases g1 : (m : Int) = h
    · refine ⟨a, ?_, p1, p2⟩
      rw [if_pos (by rw [g1]), if_pos g1, z1p]
    · obtain ⟨C, c1, c2, c3⟩ := cTot_z (σ := a) (o := (m : Int)) hR hN hW p1 hh0 hh1 h0 h1 (by omega) hx'
      have w1 := tA_b (oW := oW) (h := h) (o := (m : Int)) hR h0 h1
      have w2 := tA_b (oW := oW) (h := h) (o := whb oW A h t m) hR h0 h1
      rw [if_neg (by rw [z32_eq (by omega) (by omega) (by omega) (by omega)]; exact g1), if_neg g1, c1, bnc_q]
      by_cases g2 : tA oW A h t m ≤ tA oW A h t (whb oW A h t m)
      · refine ⟨C, ?_, qC_t p1 c2, kO_t p2 c3⟩
        rw [if_pos (by rw [z64_le (by omega) (by omega) (by omega) (by omega)]; exact g2), if_pos g2, z1p]
      · refine ⟨C, ?_, qC_t p1 c2, kO_t p2 c3⟩
        rw [if_neg (by rw [z64_le (by omega) (by omega) (by omega) (by omega)]; exact g2), if_neg g2, z1p]
  · intro f a ⟨p1, p2⟩
    have eH : hI a (rp A.2.2.2.1 + 0) 2 = vH A := by rw [e_road p1.1 (by omega) (by omega)]; rfl
    have efl := e_fl p1.1
    refine ⟨a, ?_, p1, p2⟩
    show fX0_bestToLaugh_14 (f + 1) (z32 h) (z32 t) (z32 (whb oW A h t (vH A).toNat)) (z64 (tA oW A h t (whb oW A h t (vH A).toNat))) (z32 (vH A)) a = _
    rw [fX0_bestToLaugh_14, efl, show iG a (rp A.2.2.2.1 + 0) 2 = z32 (hI a (rp A.2.2.2.1 + 0) 2) from iG_h _ _ 2, eH, if_pos (by rw [z32_le (by omega) (by omega) (by omega) (by omega)]; omega)]
def whE (r38 : Int32 → Int32 → Int32 → Int32 → Int64 → Int32 → zS → Option (Int32 × zS)) (x1 x2 x3 x4 : Int32) (x5 : Int64) (x7 : Int32) (x8 : Int64) (σ : zS) : Option (Int32 × zS) := if x7 = ((-1)) then fX11_whom_153 r38 x1 x2 x3 x7 x8 σ else if x5 < x8 then fX11_whom_153 r38 x1 x2 x3 x7 x8 σ else fX11_whom_161 r38 x1 x2 x3 x4 x5 x7 σ
theorem w67_z (r38 : Int32 → Int32 → Int32 → Int32 → Int64 → Int32 → zS → Option (Int32 × zS)) {y4 : Int32} {y5 : Int64} (hR : okR A) (hN : okN A) (hm : RM oW oT A σ) (hh0 : 0 ≤ h) (hh1 : h < vH A) (h0 : 0 ≤ t) (h1 : t < vT A) (ho : -1 ≤ o) (ho' : o < vH A) : ∃ τ, fX11_whom_67 r38 zF (z32 h) (z32 t) (z32 c) y4 y5 (z32 o) (z64 0) (z32 0) σ = whE r38 (z32 h) (z32 t) (z32 c) y4 y5 (z32 o) (z64 (tA oW A h t o)) τ ∧ qM σ τ := by
  have hH := hR.2.1
  have hc := (hR.2.2.2.2.1 t h0 h1).2.1
  refine zupP0 (β := Int32 × zS) (L := fun f x a => fX11_whom_67 r38 f (z32 h) (z32 t) (z32 c) y4 y5 (z32 o) (z64 (zs (fun k => vWt A t k * sAW oW A (fun i => if i = o then 0 else sHold A i t (vLen A t k)) h t (vLen A t k)) x)) (z32 x) a) (n := vCnt A t) (Q := fun r => ∃ τ, r = whE r38 (z32 h) (z32 t) (z32 c) y4 y5 (z32 o) (z64 (tA oW A h t o)) τ ∧ qM σ τ)
    (fun x a => qM σ a) (a := σ) (by omega) (by omega) (qM_r σ) ?_ ?_
  · intro f x a hx hx' p1
    have hma := m_RM p1.1 hR hm
    have hlw := (hR.2.2.2.2.1 t h0 h1).2.2 x hx hx'
    obtain ⟨B1, b1, b2, b3, b4, b5⟩ := mAll_z (σ := a) (t := t) (l := vLen A t x) hR hN hma.1 hma.2.1 h0 h1 (by omega)
    obtain ⟨C, c1, c2, c3⟩ : ∃ C, (if z32 o = ((-1)) then fX11_whom_103 r38 (fX11_whom_67 r38 f) (z32 h) (z32 t) (z32 c) y4 y5 (z32 o) (z64 (zs (fun k => vWt A t k * sAW oW A (fun i => if i = o then 0 else sHold A i t (vLen A t k)) h t (vLen A t k)) x)) (z32 x) B1 else wI B1 96 6 (z32 o) 0 fun σ23 => fX11_whom_103 r38 (fX11_whom_67 r38 f) (z32 h) (z32 t) (z32 c) y4 y5 (z32 o) (z64 (zs (fun k => vWt A t k * sAW oW A (fun i => if i = o then 0 else sHold A i t (vLen A t k)) h t (vLen A t k)) x)) (z32 x) σ23) = fX11_whom_103 r38 (fX11_whom_67 r38 f) (z32 h) (z32 t) (z32 c) y4 y5 (z32 o) (z64 (zs (fun k => vWt A t k * sAW oW A (fun i => if i = o then 0 else sHold A i t (vLen A t k)) h t (vLen A t k)) x)) (z32 x) C ∧ qM B1 C ∧ ∀ i, 0 ≤ i → i < vH A → hI C 96 i = if i = o then 0 else sHold A i t (vLen A t x) := by
      by_cases go : o = -1
      · refine ⟨B1, ?_, qM_r B1, fun i g0 g1 => ?_⟩
        · rw [if_pos (by rw [go, z32_litn, z32_neg])]
        · rw [if_neg (by omega)]; exact b3 i g0 g1
      · refine ⟨jS B1 96 o 0, ?_, fV_96.1, fun i g0 g1 => ?_⟩
        · rw [if_neg (by rw [z32_litn, z32_neg, z32_eq (by omega) (by omega) (by omega) (by omega)]; exact go), show (0 : Int32) = z32 0 from z32_litn 0, wI_h (by omega) (by omega) (by omega)]
        · rw [hI_jS (by omega) g0 (by omega) (by omega)]
          by_cases g : i = o
          · rw [if_pos g, if_pos g]
          · rw [if_neg g, if_neg g]; exact b3 i g0 g1
    have hmc := m_RM (qM_t b2 c2).1 hR hma
    obtain ⟨D, d1, d2, -⟩ := mRW_z (σ := C) (hr := fun i => if i = o then 0 else sHold A i t (vLen A t x)) (h := h) (t := t) (l := vLen A t x) hR hN hmc.1 hmc.2.1 hmc.2.2.1 c3 (hrO_b hN (by omega)) hh0 hh1 h0 h1 (by omega)
    have wab := sAW_b (oW := oW) (A := A) (t := t) (l := vLen A t x) (h := h) (hr := fun i => if i = o then 0 else sHold A i t (vLen A t x))
    have mb := mulb (a := 999) (b := 9) (x := sAW oW A (fun i => if i = o then 0 else sHold A i t (vLen A t x)) h t (vLen A t x)) (y := vWt A t x) wab.1 wab.2 (by omega) (by omega)
    rw [Int.mul_comm (sAW oW A (fun i => if i = o then 0 else sHold A i t (vLen A t x)) h t (vLen A t x))] at mb
    refine ⟨D, ?_, qM_t p1 (qM_t b2 (qM_t c2 d2))⟩
    show fX11_whom_67 r38 (f + 1) (z32 h) (z32 t) (z32 c) y4 y5 (z32 o) (z64 (zs (fun k => vWt A t k * sAW oW A (fun i => if i = o then 0 else sHold A i t (vLen A t k)) h t (vLen A t k)) x)) (z32 x) a = fX11_whom_67 r38 f (z32 h) (z32 t) (z32 c) y4 y5 (z32 o) (z64 (zs (fun k => vWt A t k * sAW oW A (fun i => if i = o then 0 else sHold A i t (vLen A t k)) h t (vLen A t k)) (x + 1))) (z32 (x + 1)) D
    rw [fX11_whom_67, mCnt_z hR hma.1 h0 h1, bnr_q, if_neg (by rw [z32_le (by omega) (by omega) (by omega) (by omega)]; omega), mLen_z hR hma.1 h0 h1 hx hx', bnr_q, b1, bnr_q, c1]
    unfold fX11_whom_103
    rw [mWt_z hR hmc.1 h0 h1 hx hx', bnr_q, mLen_z hR hmc.1 h0 h1 hx hx', bnr_q, d1, bnc_q]
    dsimp only
    rw [z32_mul, z32_64 (by omega) (by omega), z64_add, z1p, zs_s hx]
  · intro f a p1
    have hma := m_RM p1.1 hR hm
    refine ⟨a, ?_, p1⟩
    show fX11_whom_67 r38 (f + 1) (z32 h) (z32 t) (z32 c) y4 y5 (z32 o) (z64 (tA oW A h t o)) (z32 (vCnt A t)) a = _
    rw [fX11_whom_67, mCnt_z hR hma.1 h0 h1, bnr_q, if_pos (by rw [z32_le (by omega) (by omega) (by omega) (by omega)]; omega)]
    rfl
theorem mWho_z (hR : okR A) (hN : okN A) (hm : RM oW oT A σ) (hh0 : 0 ≤ h) (hh1 : h < vH A) (h0 : 0 ≤ t) (h1 : t < vT A) (hc : c = 0 ∨ c = 1) : ∃ τ, fX11_whom_38 zF (z32 h) (z32 t) (z32 c) (z32 (-1)) (z64 0) (z32 (-1)) σ = some (z32 (if c = 0 then whb oW A h t (vH A).toNat else (1000 * tA oW A h t (whb oW A h t (vH A).toNat)).fdiv (sW A t)), τ) ∧ qM σ τ := by
  have hH := hR.2.1
  have swb := sW_b hR h0 h1
  obtain ⟨g', hg⟩ : ∃ g, zF = g + 1 := zF_ex
  have eH := hm.1.2.2.1
  have hbk := hm.1.1
  obtain ⟨σ1, s1, s2⟩ := w67_z (o := -1) (c := c) (y4 := z32 (-1)) (y5 := z64 0) (fX11_whom_38 g') hR hN hm hh0 hh1 h0 h1 (by omega) (by omega)
  have en : (-1 : Int32) = z32 (-1) := by rw [z32_litn, z32_neg]
  have pre : fX11_whom_38 zF (z32 h) (z32 t) (z32 c) (z32 (-1)) (z64 0) (z32 (-1)) σ = fX11_whom_38 g' (z32 h) (z32 t) (z32 c) (z32 (-1)) (z64 (tA oW A h t (-1))) (z32 0) σ1 := by
    rw [hg, fX11_whom_38, show iG σ 56 13 = z32 (hI σ 56 13) from iG_h σ 56 13, aI_h (by omega) (by omega) (by omega), eH, if_neg (by rw [z32_le (by omega) (by omega) (by omega) (by omega)]; omega), if_neg (by rw [z32_eq (by omega) (by omega) (by omega) (by omega)]; omega), show (0 : Int32) = z32 0 from z32_litn 0, show (0 : Int64) = z64 0 from z64_litn 0, s1]
    unfold whE fX11_whom_153 fX11_whom_161
    rw [if_pos en.symm, z1p]
    rfl
  rw [pre]
  refine zupP (β := Int32 × zS) (L := fun f x a => fX11_whom_38 f (z32 h) (z32 t) (z32 c) (z32 (whb oW A h t x.toNat)) (z64 (tA oW A h t (whb oW A h t x.toNat))) (z32 x) a) (n := vH A) (Q := fun r => ∃ τ, r = some (z32 (if c = 0 then whb oW A h t (vH A).toNat else (1000 * tA oW A h t (whb oW A h t (vH A).toNat)).fdiv (sW A t)), τ) ∧ qM σ τ)
    (fun x a => qM σ a) ?_ ?_ (vH A).toNat 0 σ1 g' (by omega) (by omega) (by unfold zF at hg; omega) s2
  · intro f x a hx hx' p1
    obtain ⟨m, rfl⟩ := Int.eq_ofNat_of_zero_le hx
    have e1 : ((m : Int)).toNat = m := by omega
    have e2 : ((m : Int) + 1).toNat = m + 1 := by omega
    have hma := m_RM p1.1 hR hm
    have eH := hma.1.2.2.1
    have hbk := hma.1.1
    have n2 : whb oW A h t (m + 1) = if (m : Int) = h then whb oW A h t m else if tA oW A h t m ≤ tA oW A h t (whb oW A h t m) then whb oW A h t m else m := rfl
    show ∃ a', fX11_whom_38 (f + 1) (z32 h) (z32 t) (z32 c) (z32 (whb oW A h t ((m : Int)).toNat)) (z64 (tA oW A h t (whb oW A h t ((m : Int)).toNat))) (z32 (m : Int)) a = fX11_whom_38 f (z32 h) (z32 t) (z32 c) (z32 (whb oW A h t ((m : Int) + 1).toNat)) (z64 (tA oW A h t (whb oW A h t ((m : Int) + 1).toNat))) (z32 ((m : Int) + 1)) a' ∧ qM σ a'
    rw [e1, e2, n2, fX11_whom_38, show iG a 56 13 = z32 (hI a 56 13) from iG_h a 56 13, aI_h (by omega) (by omega) (by omega), eH, if_neg (by rw [z32_le (by omega) (by omega) (by omega) (by omega)]; omega)]
    by_cases g1 : (m : Int) = h
    · refine ⟨a, ?_, p1⟩
      unfold fX11_whom_161
      rw [if_pos (by rw [g1]), if_pos g1, z1p]
    · obtain ⟨C, c1, c2⟩ := w67_z (σ := a) (o := (m : Int)) (c := c) (y4 := z32 (whb oW A h t m)) (y5 := z64 (tA oW A h t (whb oW A h t m))) (fX11_whom_38 f) hR hN hma hh0 hh1 h0 h1 (by omega) hx'
      have w1 := tA_b (oW := oW) (h := h) (o := (m : Int)) hR h0 h1
      have w2 := tA_b (oW := oW) (h := h) (o := whb oW A h t m) hR h0 h1
      refine ⟨C, ?_, qM_t p1 c2⟩
      rw [if_neg (by rw [z32_eq (by omega) (by omega) (by omega) (by omega)]; exact g1), if_neg g1, show (0 : Int32) = z32 0 from z32_litn 0, show (0 : Int64) = z64 0 from z64_litn 0, c1]
      unfold whE fX11_whom_153 fX11_whom_161
      rw [if_neg (by rw [en, z32_eq (by omega) (by omega) (by omega) (by omega)]; omega)]
      by_cases g2 : tA oW A h t m ≤ tA oW A h t (whb oW A h t m)
      · rw [if_pos g2, if_neg (by rw [z64_lt (by omega) (by omega) (by omega) (by omega)]; omega), z1p]
      · rw [if_neg g2, if_pos (by rw [z64_lt (by omega) (by omega) (by omega) (by omega)]; omega), z1p]
  · intro f a p1
    have hma := m_RM p1.1 hR hm
    have eH := hma.1.2.2.1
    have hbk := hma.1.1
    have ew := mW_z hR hma.1 h0 h1
    have w2 := tA_b (oW := oW) (h := h) (o := whb oW A h t (vH A).toNat) hR h0 h1
    refine ⟨a, ?_, p1⟩
    show fX11_whom_38 (f + 1) (z32 h) (z32 t) (z32 c) (z32 (whb oW A h t (vH A).toNat)) (z64 (tA oW A h t (whb oW A h t (vH A).toNat))) (z32 (vH A)) a = _
    rw [fX11_whom_38, show iG a 56 13 = z32 (hI a 56 13) from iG_h a 56 13, aI_h (by omega) (by omega) (by omega), eH, if_pos (by rw [z32_le (by omega) (by omega) (by omega) (by omega)]; omega)]
    rcases hc with hc | hc
    · rw [hc, if_pos z00, if_pos rfl]
    · rw [hc, if_neg z10, if_neg (by omega), ew, bnr_q, z32_64 (by omega) (by omega), mThou (by omega) (by omega) (by omega) (by omega), bnr_q]
theorem Q_whom (H : RC oW oT A) (h1 : -2147483648 ≤ a) (h2 : a < 2147483648) (h3 : -2147483648 ≤ b) (h4 : b < 2147483648) (h5 : -2147483648 ≤ c) (h6 : c < 2147483648) : QJ oW oT (fX10_whom (z32 a) (z32 b) (z32 c)) (fX11_whom (z32 a) (z32 b) (z32 c)) A := by
  have hR := H.1
  have hN := H.2.1
  by_cases hh : 0 ≤ a ∧ a < vH A
  · by_cases ht : 0 ≤ b ∧ b < vT A
    · by_cases hc : 0 ≤ c ∧ c ≤ 1
      · have hH := hR.2.1
        have swb := sW_b hR ht.1 ht.2
        obtain ⟨B, b1, b2, b3⟩ := cLau_z hR hN H.2.2.1 hh.1 hh.2 ht.1 ht.2
        have wb := whb_b (oW := oW) (A := A) (h := a) (t := b) (vH A).toNat
        have w2 := tA_b (oW := oW) (h := a) (o := whb oW A a b (vH A).toNat) hR ht.1 ht.2
        have en : (-1 : Int32) = z32 (-1) := by rw [z32_litn, z32_neg]
        by_cases g : c = 0
        · subst g
          refine ⟨z32 (whb oW A a b (vH A).toNat), B, ?_, b2, b3, fun σ hm => ?_⟩
          · simp (disch := omega) only [fX10_whom, hasB_p, z32_add, z32_sub, z32_mul, z32_neg, z32_litn, z32_lt, z32_le, z32_eq, iG_h, lG_h, iS_q, lS_q, aI_h, wI_h, aL_h, wL_h, ↓bnd_q, bnr_q, bnc_q, ↓reduceIte, ieqT, ieqF, iltT, iltF, ileT, ileF, not_true, not_false_iff, z64_add, z64_sub, z64_mul, z64_neg, z64_litn, z64_lt, z64_le, z64_eq, z32_64, z64_32, b1]
          · obtain ⟨τ, t1, t2⟩ := mWho_z (c := 0) hR hN hm hh.1 hh.2 ht.1 ht.2 (Or.inl rfl)
            rw [if_pos rfl] at t1
            refine ⟨τ, ?_, t2⟩
            simp (disch := omega) only [fX11_whom, isH_p hR hm.1, isT_p hR hm.1, is_p, z32_add, z32_sub, z32_mul, z32_neg, z32_litn, z32_lt, z32_le, z32_eq, iG_h, lG_h, iS_q, lS_q, aI_h, wI_h, aL_h, wL_h, ↓bnd_q, bnr_q, bnc_q, ↓reduceIte, ieqT, ieqF, iltT, iltF, ileT, ileF, not_true, not_false_iff, z64_add, z64_sub, z64_mul, z64_neg, z64_litn, z64_lt, z64_le, z64_eq, z32_64, z64_32, t1]
        · have g1 : c = 1 := by omega
          subst g1
          obtain ⟨C, c1, c2, c3⟩ := cTot_z (σ := B) (o := whb oW A a b (vH A).toNat) hR hN H.2.2.1 b2 hh.1 hh.2 ht.1 ht.2 wb.1 (by omega)
          have q2 := qC_t b2 c2
          have ew := cW_z (A := C) (t := b) (e_okR q2.1 hR) ht.1 (by rw [e_T q2.1]; exact ht.2)
          rw [e_W q2.1 ht.1] at ew
          refine ⟨z32 ((1000 * tA oW A a b (whb oW A a b (vH A).toNat)).fdiv (sW A b)), C, ?_, q2, kO_t b3 c3, fun σ hm => ?_⟩
          · simp (disch := omega) only [fX10_whom, hasB_p, z32_add, z32_sub, z32_mul, z32_neg, z32_litn, z32_lt, z32_le, z32_eq, iG_h, lG_h, iS_q, lS_q, aI_h, wI_h, aL_h, wL_h, ↓bnd_q, bnr_q, bnc_q, ↓reduceIte, ieqT, ieqF, iltT, iltF, ileT, ileF, not_true, not_false_iff, z64_add, z64_sub, z64_mul, z64_neg, z64_litn, z64_lt, z64_le, z64_eq, z32_64, z64_32, b1, c1, ew, cThou]
          · obtain ⟨τ, t1, t2⟩ := mWho_z (c := 1) hR hN hm hh.1 hh.2 ht.1 ht.2 (Or.inr rfl)
            rw [if_neg (by omega : ¬ ((1 : Int) = 0))] at t1
            refine ⟨τ, ?_, t2⟩
            simp (disch := omega) only [fX11_whom, isH_p hR hm.1, isT_p hR hm.1, is_p, z32_add, z32_sub, z32_mul, z32_neg, z32_litn, z32_lt, z32_le, z32_eq, iG_h, lG_h, iS_q, lS_q, aI_h, wI_h, aL_h, wL_h, ↓bnd_q, bnr_q, bnc_q, ↓reduceIte, ieqT, ieqF, iltT, iltF, ileT, ileF, not_true, not_false_iff, z64_add, z64_sub, z64_mul, z64_neg, z64_litn, z64_lt, z64_le, z64_eq, z32_64, z64_32, t1]
      · refine ⟨z32 (-1000000000), A, ?_, qC_r A, kO_r A, fun σ hm => ⟨σ, ?_, qM_r σ⟩⟩
        · by_cases g : c < 0
          · simp (disch := omega) only [fX10_whom, hasB_p, z32_add, z32_sub, z32_mul, z32_neg, z32_litn, z32_lt, z32_le, z32_eq, iG_h, lG_h, iS_q, lS_q, aI_h, wI_h, aL_h, wL_h, ↓bnd_q, bnr_q, bnc_q, ↓reduceIte, ieqT, ieqF, iltT, iltF, ileT, ileF, not_true, not_false_iff]
          · simp (disch := omega) only [fX10_whom, hasB_p, z32_add, z32_sub, z32_mul, z32_neg, z32_litn, z32_lt, z32_le, z32_eq, iG_h, lG_h, iS_q, lS_q, aI_h, wI_h, aL_h, wL_h, ↓bnd_q, bnr_q, bnc_q, ↓reduceIte, ieqT, ieqF, iltT, iltF, ileT, ileF, not_true, not_false_iff]
        · simp (disch := omega) only [fX11_whom, isH_p hR hm.1, isT_p hR hm.1, is_n, z32_add, z32_sub, z32_mul, z32_neg, z32_litn, z32_lt, z32_le, z32_eq, iG_h, lG_h, iS_q, lS_q, aI_h, wI_h, aL_h, wL_h, ↓bnd_q, bnr_q, bnc_q, ↓reduceIte, ieqT, ieqF, iltT, iltF, ileT, ileF, not_true, not_false_iff]
    · refine ⟨z32 (-1000000000), A, ?_, qC_r A, kO_r A, fun σ hm => ⟨σ, ?_, qM_r σ⟩⟩
      · simp (disch := omega) only [fX10_whom, hasB_nt, z32_add, z32_sub, z32_mul, z32_neg, z32_litn, z32_lt, z32_le, z32_eq, iG_h, lG_h, iS_q, lS_q, aI_h, wI_h, aL_h, wL_h, ↓bnd_q, bnr_q, bnc_q, ↓reduceIte, ieqT, ieqF, iltT, iltF, ileT, ileF, not_true, not_false_iff]
      · simp (disch := omega) only [fX11_whom, isH_p hR hm.1, isT_n hR hm.1, z32_add, z32_sub, z32_mul, z32_neg, z32_litn, z32_lt, z32_le, z32_eq, iG_h, lG_h, iS_q, lS_q, aI_h, wI_h, aL_h, wL_h, ↓bnd_q, bnr_q, bnc_q, ↓reduceIte, ieqT, ieqF, iltT, iltF, ileT, ileF, not_true, not_false_iff]
  · refine ⟨z32 (-1000000000), A, ?_, qC_r A, kO_r A, fun σ hm => ⟨σ, ?_, qM_r σ⟩⟩
    · simp (disch := omega) only [fX10_whom, hasB_nh, z32_add, z32_sub, z32_mul, z32_neg, z32_litn, z32_lt, z32_le, z32_eq, iG_h, lG_h, iS_q, lS_q, aI_h, wI_h, aL_h, wL_h, ↓bnd_q, bnr_q, bnc_q, ↓reduceIte, ieqT, ieqF, iltT, iltF, ileT, ileF, not_true, not_false_iff]
    · simp (disch := omega) only [fX11_whom, isH_n hR hm.1, z32_add, z32_sub, z32_mul, z32_neg, z32_litn, z32_lt, z32_le, z32_eq, iG_h, lG_h, iS_q, lS_q, aI_h, wI_h, aL_h, wL_h, ↓bnd_q, bnr_q, bnc_q, ↓reduceIte, ieqT, ieqF, iltT, iltF, ileT, ileF, not_true, not_false_iff]
end WH

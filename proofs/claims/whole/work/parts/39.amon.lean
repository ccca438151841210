/-! MY OWN: worth and tiring among the holders, both sides -/
def zlN (hr : Int → Int) (h : Int) : Nat → Int
  | 0 => 1
  | n + 1 => if hr n ≤ hr h then zlN hr h n else 0
def zl (hr : Int → Int) (h k : Int) : Int := zlN hr h k.toNat
def zb (hr : Int → Int) (h k : Int) : Int := zs (fun i => if hr h ≤ hr i then 0 else 1) k
theorem zl_0 (hr : Int → Int) (h : Int) : zl hr h 0 = 1 := rfl
theorem zl_s {hr : Int → Int} {h k : Int} (h0 : 0 ≤ k) : zl hr h (k + 1) = if hr k ≤ hr h then zl hr h k else 0 := by
  obtain ⟨n, rfl⟩ := Int.eq_ofNat_of_zero_le h0
  show zlN hr h (((n : Int) + 1).toNat) = _
  rw [show ((n : Int) + 1).toNat = n + 1 by omega]
  show (if hr n ≤ hr h then zlN hr h n else 0) = if hr n ≤ hr h then zlN hr h ((n : Int).toNat) else 0
  rw [show ((n : Int)).toNat = n by omega]
theorem zlN_b (hr : Int → Int) (h : Int) (n : Nat) : 0 ≤ zlN hr h n ∧ zlN hr h n ≤ 1 := by
  induction n with
  | zero => simp [zlN]
  | succ n ih => unfold zlN; split <;> omega
theorem zl_b (hr : Int → Int) (h k : Int) : 0 ≤ zl hr h k ∧ zl hr h k ≤ 1 := zlN_b _ _ _
theorem zb_b {hr : Int → Int} {h k : Int} (h0 : 0 ≤ k) : 0 ≤ zb hr h k ∧ zb hr h k ≤ k := by
  have := zs_b (g := fun i => if hr h ≤ hr i then 0 else 1) (a := 0) (b := 1) (k := k) h0 (fun i _ _ => by split <;> omega)
  unfold zb
  omega
theorem zb_s {hr : Int → Int} {h k : Int} (h0 : 0 ≤ k) : zb hr h (k + 1) = if hr h ≤ hr k then zb hr h k else zb hr h k + 1 := by
  unfold zb
  rw [zs_s h0]
  split <;> omega
section M
variable {A σ : zS} {t h l : Int} {oW oT : Option ((Int → Int) → Int)} {hr : Int → Int}
def fctA (A : zS) (hr : Int → Int) (h t l : Int) : Int → Int := fct (hr h) l (zl hr h (vH A)) (zb hr h (vH A)) (vBr A h) (vGap A t)
theorem fctA_ok (hR : okR A) (hN : okN A) (hh : ∀ i, 0 ≤ i → i < vH A → 0 ≤ hr i ∧ hr i ≤ 60) (h0 : 0 ≤ h) (h1 : h < vH A) (h2 : 0 ≤ t) (h3 : t < vT A) (h4 : 0 ≤ l ∧ l ≤ 60) : okF (fctA A hr h t l) := by
  have hH := hR.2.1
  have := zb_b (hr := hr) (h := h) hH.1
  exact fct_ok (hh h h0 h1) h4 (zl_b _ _ _) (by omega) (hN.2 h h0 h1).1 (hR.2.2.2.2.1 t h2 h3).1
theorem tellAmong_z (hR : okR A) (hN : okN A) (he : ∀ i, 0 ≤ i → i < vH A → hI A 25 i = hr i) (hh : ∀ i, 0 ≤ i → i < vH A → 0 ≤ hr i ∧ hr i ≤ 60) (h0 : 0 ≤ h) (h1 : h < vH A) (h2 : 0 ≤ t) (h3 : t < vT A) (h4 : 0 ≤ l ∧ l ≤ 60) : ∃ B, fX4_tellAmong (z32 h) (z32 t) (z32 l) A = some B ∧ oH A B ∧ (∀ k, hI B 25 k = hI A 25 k) ∧ ∀ i, 0 ≤ i → i < 7 → hI B 26 i = fctA A hr h t l i := by
  have hH := hR.2.1
  have hT := hR.1
  have hrp := rp_or A.2.2.2.1
  have hbr := (hN.2 h h0 h1).1
  have heh := he h h0 h1
  have hhh := hh h h0 h1
  have e1 : hI A 5 (50 + h) = vBr A h := rfl
  obtain ⟨B, b1, b2, b3, b4⟩ := tellAlone_z (br := vBr A h) hR h2 h3 hhh h4 hbr
  have key := zupP0 (β := zS) (L := fun f k a => fX4_tellAmong_23 f (z32 h) (z32 k) a) (n := vH A) (Q := fun r => ∃ C, r = some C ∧ oH B C ∧ (∀ j, hI C 25 j = hI B 25 j) ∧ hI C 26 3 = zl hr h (vH A) ∧ hI C 26 4 = zb hr h (vH A) ∧ ∀ i, 0 ≤ i → i < 7 → i ≠ 3 → i ≠ 4 → hI C 26 i = hI B 26 i)
    (fun k C => oH B C ∧ (∀ j, hI C 25 j = hI B 25 j) ∧ hI C 26 3 = zl hr h k ∧ hI C 26 4 = zb hr h k ∧ ∀ i, 0 ≤ i → i < 7 → i ≠ 3 → i ≠ 4 → hI C 26 i = hI B 26 i) (a := B) hH.1 (by omega)
    ⟨oH_r B, fun _ => rfl, by rw [b4 3 (by omega) (by omega)]; rfl, by rw [b4 4 (by omega) (by omega)]; rfl, fun _ _ _ _ _ => rfl⟩ ?_ ?_
  · obtain ⟨C, c1, c2, c3, c4, c5, c6⟩ := key
    refine ⟨C, ?_, oH_t b2 c2, fun k => (c3 k).trans (b3 k), fun i g0 g1 => ?_⟩
    · simp (disch := omega) only [fX4_tellAmong, fX7_breathOf, z32_add, z32_sub, z32_mul, z32_neg, z32_litn, z32_lt, z32_le, z32_eq, iG_h, lG_h, iS_j, lS_k, aI_h, wI_h, aL_h, wL_h, bnd, bnr_s, bnc_s, ↓reduceIte, ieqT, ieqF, iltT, iltF, ileT, ileF, not_true, not_false_iff, heh, e1, b1]
      exact c1
    · by_cases g3 : i = 3
      · subst g3; rw [c4]; rfl
      · by_cases g4 : i = 4
        · subst g4; rw [c5]; rfl
        · rw [c6 i g0 g1 g3 g4, b4 i g0 g1]
          unfold fctA fct
          simp [g3, g4]
  · intro f k C hk hk' ⟨c2, c3, c4, c5, c6⟩
    have efl : C.2.2.2.1 = A.2.2.2.1 := by rw [c2.1, b2.1]
    have eH : hI C (rp A.2.2.2.1 + 0) 2 = vH A := by rw [c2.2.2 _ _ (by omega) (by omega), b2.2.2 _ _ (by omega) (by omega)]; rfl
    have ek : hI C 25 k = hr k := by rw [c3, b3, he k hk hk']
    have eh : hI C 25 h = hr h := by rw [c3, b3, heh]
    have hhk := hh k hk hk'
    have zbb := zb_b (hr := hr) (h := h) hk
    have zlb := zl_b hr h k
    by_cases g1 : hr k ≤ hr h
    · by_cases g2 : hr h ≤ hr k
      · refine ⟨C, ?_, c2, c3, by rw [zl_s hk, if_pos g1]; exact c4, by rw [zb_s hk, if_pos g2]; exact c5, c6⟩
        simp (disch := omega) only [fX4_tellAmong_23, fX4_tellAmong_58, fX4_tellAmong_84, z32_add, z32_sub, z32_mul, z32_neg, z32_litn, z32_lt, z32_le, z32_eq, iG_h, lG_h, iS_j, lS_k, aI_h, wI_h, aL_h, wL_h, bnd, bnr_s, bnc_s, ↓reduceIte, ieqT, ieqF, iltT, iltF, ileT, ileF, not_true, not_false_iff, efl, eH, ek, eh]
      · refine ⟨jS C 26 4 (zb hr h k + 1), ?_, oH_t c2 oH_26, fun j => by rw [hI_jS_ne (by omega), c3], ?_, ?_, ?_⟩
        · simp (disch := omega) only [fX4_tellAmong_23, fX4_tellAmong_58, fX4_tellAmong_84, z32_add, z32_sub, z32_mul, z32_neg, z32_litn, z32_lt, z32_le, z32_eq, iG_h, lG_h, iS_j, lS_k, aI_h, wI_h, aL_h, wL_h, bnd, bnr_s, bnc_s, ↓reduceIte, ieqT, ieqF, iltT, iltF, ileT, ileF, not_true, not_false_iff, efl, eH, ek, eh, c5]
        · rw [hI_jS (by omega) (by omega) (by omega) (by omega), if_neg (by omega), zl_s hk, if_pos g1]; exact c4
        · rw [hI_jS (by omega) (by omega) (by omega) (by omega), if_pos rfl, zb_s hk, if_neg g2]
        · intro i w0 w1 w2 w3
          rw [hI_jS (by omega) (by omega) (by omega) (by omega), if_neg w3]; exact c6 i w0 w1 w2 w3
    · refine ⟨jS C 26 3 0, ?_, oH_t c2 oH_26, fun j => by rw [hI_jS_ne (by omega), c3], ?_, ?_, ?_⟩
      · simp (disch := omega) only [fX4_tellAmong_23, fX4_tellAmong_58, fX4_tellAmong_84, z32_add, z32_sub, z32_mul, z32_neg, z32_litn, z32_lt, z32_le, z32_eq, iG_h, lG_h, iS_j, lS_k, aI_h, wI_h, aL_h, wL_h, bnd, bnr_s, bnc_s, ↓reduceIte, ieqT, ieqF, iltT, iltF, ileT, ileF, not_true, not_false_iff, efl, eH, ek, eh, hI_jS_ne]
      · rw [hI_jS (by omega) (by omega) (by omega) (by omega), if_pos rfl, zl_s hk, if_neg g1]
      · rw [hI_jS (by omega) (by omega) (by omega) (by omega), if_neg (by omega), zb_s hk, if_pos (by omega)]; exact c5
      · intro i w0 w1 w2 w3
        rw [hI_jS (by omega) (by omega) (by omega) (by omega), if_neg w2]; exact c6 i w0 w1 w2 w3
  · intro f C ⟨c2, c3, c4, c5, c6⟩
    have efl : C.2.2.2.1 = A.2.2.2.1 := by rw [c2.1, b2.1]
    have eH : hI C (rp A.2.2.2.1 + 0) 2 = vH A := by rw [c2.2.2 _ _ (by omega) (by omega), b2.2.2 _ _ (by omega) (by omega)]; rfl
    refine ⟨C, ?_, c2, c3, c4, c5, c6⟩
    simp (disch := omega) only [fX4_tellAmong_23, z32_add, z32_sub, z32_mul, z32_neg, z32_litn, z32_lt, z32_le, z32_eq, iG_h, lG_h, iS_j, lS_k, aI_h, wI_h, aL_h, wL_h, bnd, bnr_s, bnc_s, ↓reduceIte, ieqT, ieqF, iltT, iltF, ileT, ileF, not_true, not_false_iff, efl, eH]
def sAW (oW : Option ((Int → Int) → Int)) (A : zS) (hr : Int → Int) (h t l : Int) : Int := clp (-999) 999 (zval oW (fctA A hr h t l))
def sAT (oT : Option ((Int → Int) → Int)) (A : zS) (hr : Int → Int) (h t l : Int) : Int := match oT with
  | none => vBr A h
  | some F => clp 0 60 (F (fctA A hr h t l))
theorem sAW_b : -999 ≤ sAW oW A hr h t l ∧ sAW oW A hr h t l ≤ 999 := clp_b (by omega)
theorem sAT_b (hN : okN A) (h0 : 0 ≤ h) (h1 : h < vH A) : 0 ≤ sAT oT A hr h t l ∧ sAT oT A hr h t l ≤ 60 := by
  cases oT with
  | none => exact (hN.2 h h0 h1).1
  | some F => exact clp_b (by omega)
theorem cAW_z (hR : okR A) (hN : okN A) (hW : cSum A 0 oW) (he : ∀ i, 0 ≤ i → i < vH A → hI A 25 i = hr i) (hh : ∀ i, 0 ≤ i → i < vH A → 0 ≤ hr i ∧ hr i ≤ 60) (h0 : 0 ≤ h) (h1 : h < vH A) (h2 : 0 ≤ t) (h3 : t < vT A) (h4 : 0 ≤ l ∧ l ≤ 60) : ∃ B, fX4_worthAmong (z32 h) (z32 t) (z32 l) A = some (z32 (sAW oW A hr h t l), B) ∧ qC A B ∧ kO A B ∧ ∀ k, 0 ≤ k → hI B 25 k = hI A 25 k := by
  obtain ⟨B, b1, b2, b3, b4⟩ := tellAmong_z hR hN he hh h0 h1 h2 h3 h4
  have ok := fctA_ok hR hN hh h0 h1 h2 h3 h4
  obtain ⟨q1, q2⟩ := oH_q b2
  have hrp := rp_or A.2.2.2.1
  have efl : B.2.2.2.1 = A.2.2.2.1 := e_fl q1.1
  obtain ⟨C, c1, c2⟩ := cVal_z (e_sum q1.1 (by omega) hW) (by omega) (by omega) ok b4
  obtain ⟨q3, q4⟩ := sX_q c2
  have zvb := zval_b (cSum_b hW) ok
  refine ⟨C, ?_, qC_t q1 q3, kO_t q2 q4, fun k g => ?_⟩
  · simp (disch := omega) only [fX4_worthAmong, b1, bnr_s, bnc_s, z32_litn, z32_neg, c1, cWith_z, sAW]
  · rw [c2.2.2 25 k (by rw [efl]; omega) (by rw [efl]; omega) g, b3 k]
theorem cAT_z (hR : okR A) (hN : okN A) (hW : cSum A 1 oT) (he : ∀ i, 0 ≤ i → i < vH A → hI A 25 i = hr i) (hh : ∀ i, 0 ≤ i → i < vH A → 0 ≤ hr i ∧ hr i ≤ 60) (h0 : 0 ≤ h) (h1 : h < vH A) (h2 : 0 ≤ t) (h3 : t < vT A) (h4 : 0 ≤ l ∧ l ≤ 60) : ∃ B, fX4_tiredAmong (z32 h) (z32 t) (z32 l) A = some (z32 (sAT oT A hr h t l), B) ∧ qC A B ∧ kO A B ∧ ∀ k, 0 ≤ k → hI B 25 k = hI A 25 k := by
  have hrp := rp_or A.2.2.2.1
  have hH := hR.2.1
  have e5 : hI A 5 (50 + h) = vBr A h := rfl
  cases oT with
  | none =>
    obtain ⟨e1, e2⟩ := hW
    refine ⟨A, ?_, qC_r A, kO_r A, fun _ _ => rfl⟩
    simp (disch := omega) only [fX4_tiredAmong, fX8_isTold, fX7_breathOf, z32_add, z32_sub, z32_mul, z32_neg, z32_litn, z32_lt, z32_le, z32_eq, iG_h, lG_h, iS_j, lS_k, aI_h, wI_h, aL_h, wL_h, bnd, bnr_s, bnc_s, ↓reduceIte, ieqT, ieqF, iltT, iltF, ileT, ileF, not_true, not_false_iff, e1, e2, e5, sAT]
  | some F =>
    obtain ⟨B, b1, b2, b3, b4⟩ := tellAmong_z hR hN he hh h0 h1 h2 h3 h4
    have ok := fctA_ok hR hN hh h0 h1 h2 h3 h4
    obtain ⟨q1, q2⟩ := oH_q b2
    have efl : B.2.2.2.1 = A.2.2.2.1 := e_fl q1.1
    obtain ⟨C, c1, c2⟩ := cVal_z (e_sum q1.1 (by omega) hW) (by omega) (by omega) ok b4
    obtain ⟨q3, q4⟩ := sX_q c2
    have zvb := zval_b (cSum_b hW) ok
    have i1 := hW.1.1
    have i2 := hW.2.1
    refine ⟨C, ?_, qC_t q1 q3, kO_t q2 q4, fun k g => ?_⟩
    · simp (disch := omega) only [fX4_tiredAmong, fX8_isTold, z32_add, z32_sub, z32_mul, z32_neg, z32_litn, z32_lt, z32_le, z32_eq, iG_h, lG_h, iS_j, lS_k, aI_h, wI_h, aL_h, wL_h, bnd, bnr_s, bnc_s, ↓reduceIte, ieqT, ieqF, iltT, iltF, ileT, ileF, not_true, not_false_iff, b1, c1, cWith_z, sAT]
      rfl
    · rw [c2.2.2 25 k (by rw [efl]; omega) (by rw [efl]; omega) g, b3 k]
theorem mRow_z (hR : okR A) (hN : okN A) (hm : rlR A σ) (hn : rlN A σ) (he : ∀ i, 0 ≤ i → i < vH A → hI σ 96 i = hr i) (hh : ∀ i, 0 ≤ i → i < vH A → 0 ≤ hr i ∧ hr i ≤ 60) (h0 : 0 ≤ h) (h1 : h < vH A) (h2 : 0 ≤ t) (h3 : t < vT A) (h4 : 0 ≤ l ∧ l ≤ 60) : ∃ τ, fX11_asksRow (z32 h) (z32 t) (z32 l) σ = some τ ∧ qM σ τ ∧ okG (fctA A hr h t l) τ ∧ (∀ p k, p ≠ 56 → hI τ p k = hI σ p k) ∧ (∀ p k, hL τ p k = hL σ p k) ∧ hI τ 56 68 = hI σ 56 68 := by
  have hH := hR.2.1
  have hT := hR.1
  have heh := he h h0 h1
  have hhh := hh h h0 h1
  have hbr := (hN.2 h h0 h1).1
  have zbb := zb_b (hr := hr) (h := h) hH.1
  obtain ⟨τ, t1, t2, t3, t4, t5, t6⟩ := mAsk_z (s := hr h) (l := l) (br := vBr A h) (hm.2.2.2.2.2.1 t h2 h3).1 h2 (by omega) hm.1 hhh h4 hbr (zl_b hr h (vH A)) (be := zb hr h (vH A)) (by omega) (hR.2.2.2.2.1 t h2 h3).1
  refine ⟨τ, ?_, t2, t3, t4, t5, t6⟩
  have eH := hm.2.2.1
  have hb := hm.1
  have e86 := (hn.2 h h0 h1).1
  refine zup0 (L := fun f k (a : Int × Int) => fX11_asksRow_9 f (z32 h) (z32 t) (z32 l) (z32 a.1) (z32 a.2) (z32 k) σ) (n := vH A) (fun k => (zl hr h k, zb hr h k)) hH.1 (by omega) ?_ ?_
  · intro f k hk hk'
    have ek := he k hk hk'
    have hhk := hh k hk hk'
    simp only []
    rw [zl_s hk, zb_s hk]
    by_cases g1 : hr k ≤ hr h
    · by_cases g2 : hr h ≤ hr k
      · simp (disch := omega) only [fX11_asksRow_9, fX11_asksRow_45, fX11_asksRow_70, z32_add, z32_sub, z32_mul, z32_neg, z32_litn, z32_lt, z32_le, z32_eq, iG_h, lG_h, iS_j, lS_k, aI_h, wI_h, aL_h, wL_h, bnd, bnr_s, bnc_s, ↓reduceIte, ieqT, ieqF, iltT, iltF, ileT, ileF, not_true, not_false_iff, eH, ek, heh, Int.add_zero]
      · simp (disch := omega) only [fX11_asksRow_9, fX11_asksRow_45, fX11_asksRow_70, z32_add, z32_sub, z32_mul, z32_neg, z32_litn, z32_lt, z32_le, z32_eq, iG_h, lG_h, iS_j, lS_k, aI_h, wI_h, aL_h, wL_h, bnd, bnr_s, bnc_s, ↓reduceIte, ieqT, ieqF, iltT, iltF, ileT, ileF, not_true, not_false_iff, eH, ek, heh]
    · simp (disch := omega) only [fX11_asksRow_9, fX11_asksRow_45, fX11_asksRow_70, z32_add, z32_sub, z32_mul, z32_neg, z32_litn, z32_lt, z32_le, z32_eq, iG_h, lG_h, iS_j, lS_k, aI_h, wI_h, aL_h, wL_h, bnd, bnr_s, bnc_s, ↓reduceIte, ieqT, ieqF, iltT, iltF, ileT, ileF, not_true, not_false_iff, eH, ek, heh, Int.add_zero]
  · intro f
    simp (disch := omega) only [fX11_asksRow_9, z32_add, z32_sub, z32_mul, z32_neg, z32_litn, z32_lt, z32_le, z32_eq, iG_h, lG_h, iS_j, lS_k, aI_h, wI_h, aL_h, wL_h, bnd, bnr_s, bnc_s, ↓reduceIte, ieqT, ieqF, iltT, iltF, ileT, ileF, not_true, not_false_iff, eH, heh, e86, t1]
theorem mRW_z (hR : okR A) (hN : okN A) (hm : rlR A σ) (hn : rlN A σ) (hW : mSum σ 68 69 oW) (he : ∀ i, 0 ≤ i → i < vH A → hI σ 96 i = hr i) (hh : ∀ i, 0 ≤ i → i < vH A → 0 ≤ hr i ∧ hr i ≤ 60) (h0 : 0 ≤ h) (h1 : h < vH A) (h2 : 0 ≤ t) (h3 : t < vT A) (h4 : 0 ≤ l ∧ l ≤ 60) : ∃ τ, fX11_worthRow (z32 h) (z32 t) (z32 l) σ = some (z32 (sAW oW A hr h t l), τ) ∧ qM σ τ ∧ okG (fctA A hr h t l) τ ∧ (∀ p k, p ≠ 56 → hI τ p k = hI σ p k) ∧ (∀ p k, p ≠ 95 → hL τ p k = hL σ p k) ∧ hI τ 56 68 = hI σ 56 68 := by
  have ok := fctA_ok hR hN hh h0 h1 h2 h3 h4
  obtain ⟨τ, t1, t2, t3, t4, t5, t6⟩ := mRow_z hR hN hm hn he hh h0 h1 h2 h3 h4
  have eb := m_bank t2.1
  obtain ⟨υ, u1, u2⟩ := mWN_z (m_sum t2.1 hm.1.1 (by omega) (by omega) (by omega) (by omega) hW) ok t3 (by rw [eb]; exact hm.1)
  refine ⟨υ, ?_, qM_t t2 (sM_q u2), okG_c t3 (u2.2.1 56), fun p k a => (u2.2.1 p k).trans (t4 p k a), fun p k a => (u2.2.2 p k a).trans (t5 p k), (u2.2.1 56 68).trans t6⟩
  simp (disch := omega) only [fX11_worthRow, t1, bnr_s, bnc_s, u1, sAW]
theorem cAll_z (hR : okR A) (hN : okN A) (h2 : 0 ≤ t) (h3 : t < vT A) (h4 : 0 ≤ l ∧ l ≤ 60) : ∃ B, fX4_allHold (z32 t) (z32 l) A = some B ∧ oH A B ∧ (∀ i, 0 ≤ i → i < vH A → hI B 25 i = sHold A i t l) ∧ ∀ i, 0 ≤ i → hI B 26 i = hI A 26 i := by
  have hH := hR.2.1
  have hrp := rp_or A.2.2.2.1
  refine zupP0 (β := zS) (L := fun f k a => fX4_allHold_2 f (z32 t) (z32 l) (z32 k) a) (n := vH A) (Q := fun r => ∃ B, r = some B ∧ oH A B ∧ (∀ i, 0 ≤ i → i < vH A → hI B 25 i = sHold A i t l) ∧ ∀ i, 0 ≤ i → hI B 26 i = hI A 26 i)
    (fun k B => oH A B ∧ (∀ i, 0 ≤ i → i < k → hI B 25 i = sHold A i t l) ∧ ∀ i, 0 ≤ i → hI B 26 i = hI A 26 i) (a := A) hH.1 (by omega) ⟨oH_r A, fun i g0 g1 => by omega, fun _ _ => rfl⟩ ?_ ?_
  · intro f k B hk hk' ⟨b1, b2, b3⟩
    have q := (oH_q b1).1.1
    have hb := sHold_b (t := t) hN hk hk' h4.1 h4.2
    have es := cHold_z (e_okR q hR) (e_okN q hN) hk (by rw [e_H q]; exact hk') h2 (by rw [e_T q]; exact h3) h4.1 h4.2
    rw [e_hold q hk h2] at es
    have eH : hI B (rp A.2.2.2.1 + 0) 2 = vH A := by rw [b1.2.2 _ _ (by omega) (by omega)]; rfl
    have efl := e_fl q
    refine ⟨jS B 25 k (sHold A k t l), ?_, oH_t b1 oH_25, fun i g0 g1 => ?_, fun i g0 => ?_⟩
    · simp (disch := omega) only [fX4_allHold_2, z32_add, z32_sub, z32_mul, z32_neg, z32_litn, z32_lt, z32_le, z32_eq, iG_h, lG_h, iS_j, lS_k, aI_h, wI_h, aL_h, wL_h, bnd, bnr_s, bnc_s, ↓reduceIte, ieqT, ieqF, iltT, iltF, ileT, ileF, not_true, not_false_iff, efl, eH, es]
    · rw [hI_jS hk g0 (by omega) (by omega)]
      by_cases g : i = k
      · rw [if_pos g, g]
      · rw [if_neg g]; exact b2 i g0 (by omega)
    · rw [hI_jS_ne (by omega)]; exact b3 i g0
  · intro f B ⟨b1, b2, b3⟩
    have q := (oH_q b1).1.1
    have eH : hI B (rp A.2.2.2.1 + 0) 2 = vH A := by rw [b1.2.2 _ _ (by omega) (by omega)]; rfl
    have efl := e_fl q
    refine ⟨B, ?_, b1, b2, b3⟩
    simp (disch := omega) only [fX4_allHold_2, z32_add, z32_sub, z32_mul, z32_neg, z32_litn, z32_lt, z32_le, z32_eq, iG_h, lG_h, iS_j, lS_k, aI_h, wI_h, aL_h, wL_h, bnd, bnr_s, bnc_s, ↓reduceIte, ieqT, ieqF, iltT, iltF, ileT, ileF, not_true, not_false_iff, efl, eH]
theorem mAll_z (hR : okR A) (hN : okN A) (hm : rlR A σ) (hn : rlN A σ) (h2 : 0 ≤ t) (h3 : t < vT A) (h4 : 0 ≤ l ∧ l ≤ 60) : ∃ τ, fX11_allHold (z32 t) (z32 l) σ = some τ ∧ qM σ τ ∧ (∀ i, 0 ≤ i → i < vH A → hI τ 96 i = sHold A i t l) ∧ (∀ p k, p ≠ 96 → hI τ p k = hI σ p k) ∧ (∀ p k, hL τ p k = hL σ p k) := by
  have hH := hR.2.1
  refine zupP0 (β := zS) (L := fun f k a => fX11_allHold_2 f (z32 t) (z32 l) (z32 k) a) (n := vH A) (Q := fun r => ∃ τ, r = some τ ∧ qM σ τ ∧ (∀ i, 0 ≤ i → i < vH A → hI τ 96 i = sHold A i t l) ∧ (∀ p k, p ≠ 96 → hI τ p k = hI σ p k) ∧ (∀ p k, hL τ p k = hL σ p k))
    (fun k τ => τ.2.2 = σ.2.2 ∧ (∀ i, 0 ≤ i → i < k → hI τ 96 i = sHold A i t l) ∧ (∀ p k, p ≠ 96 → hI τ p k = hI σ p k) ∧ (∀ p k, hL τ p k = hL σ p k)) (a := σ) hH.1 (by omega) ⟨rfl, fun i g0 g1 => by omega, fun _ _ _ => rfl, fun _ _ => rfl⟩ ?_ ?_
  · intro f k τ hk hk' ⟨b0, b1, b2, b3⟩
    have q : kM σ τ := ⟨fun p k _ _ c _ _ _ => b2 p k c, fun p k _ _ _ _ _ => b3 p k⟩
    have hb := sHold_b (t := t) hN hk hk' h4.1 h4.2
    have es := mHold_z hR hN (m_rlN q hn) hk hk' h2 h3 h4.1 h4.2
    have hm' := m_rlR q hm hR
    have eH := hm'.2.2.1
    have hbk := hm'.1
    refine ⟨jS τ 96 k (sHold A k t l), ?_, b0, fun i g0 g1 => ?_, fun p i g0 => ?_, b3⟩
    · simp (disch := omega) only [fX11_allHold_2, z32_add, z32_sub, z32_mul, z32_neg, z32_litn, z32_lt, z32_le, z32_eq, iG_h, lG_h, iS_j, lS_k, aI_h, wI_h, aL_h, wL_h, bnd, bnr_s, bnc_s, ↓reduceIte, ieqT, ieqF, iltT, iltF, ileT, ileF, not_true, not_false_iff, eH, es]
    · rw [hI_jS hk g0 (by omega) (by omega)]
      by_cases g : i = k
      · rw [if_pos g, g]
      · rw [if_neg g]; exact b1 i g0 (by omega)
    · rw [hI_jS_ne g0]; exact b2 p i g0
  · intro f τ ⟨b0, b1, b2, b3⟩
    have q : kM σ τ := ⟨fun p k _ _ c _ _ _ => b2 p k c, fun p k _ _ _ _ _ => b3 p k⟩
    have hm' := m_rlR q hm hR
    have eH := hm'.2.2.1
    have hbk := hm'.1
    refine ⟨τ, ?_, ⟨q, b0, fun p k a _ => ⟨b2 p k (by omega), b3 p k⟩⟩, b1, b2, b3⟩
    simp (disch := omega) only [fX11_allHold_2, z32_add, z32_sub, z32_mul, z32_neg, z32_litn, z32_lt, z32_le, z32_eq, iG_h, lG_h, iS_j, lS_k, aI_h, wI_h, aL_h, wL_h, bnd, bnr_s, bnc_s, ↓reduceIte, ieqT, ieqF, iltT, iltF, ileT, ileF, not_true, not_false_iff, eH]
end M

/-! MY OWN: acts: undo, believe, give, pause -/
def aU (d : Bool) (p : Nat) (k : Int) : Prop := (p = 1 ∧ k = 10) ∨ (5 ≤ p ∧ p ≤ 7) ∨ (25 ≤ p ∧ p ≤ 31) ∨ p = rp d + 13 ∨ (p = rp d + 11 ∧ k = 2) ∨ (p = 56 ∧ ((57 ≤ k ∧ k ≤ 59) ∨ (61 ≤ k ∧ k ≤ 69))) ∨ (85 ≤ p ∧ p ≤ 98) ∨ p = 101
/-- the cells of an act's own, of the one side and of the other -/
def cU (d : Bool) (p : Nat) (k : Int) : Prop := (p = 1 ∧ k = 10) ∨ p = 5 ∨ (25 ≤ p ∧ p ≤ 26) ∨ p = rp d + 13 ∨ (p = rp d + 11 ∧ k = 2)
def mU (p : Nat) (k : Int) : Prop := (p = 56 ∧ (k = 59 ∨ (61 ≤ k ∧ k ≤ 69))) ∨ ((p = 85 ∨ p = 90) ∧ k = 0) ∨ ((86 ≤ p ∧ p ≤ 88) ∧ k < 6) ∨ (p = 89 ∧ k < 36) ∨ ((91 ≤ p ∧ p ≤ 94) ∧ k < 48) ∨ (95 ≤ p ∧ p ≤ 98) ∨ p = 101
section AC
variable {A B B1 C σ τ υ φ φ1 : zS} {oW oT : Option ((Int → Int) → Int)} {P U : Nat → Int → Prop} {a b c i j k n s h t v H T : Int} {g g' : Int → Int} {p : Nat}
theorem aU_s (h : aU σ.2.2.2.1 p k) : sfR σ p k := by
  have hrp := rp_or σ.2.2.2.1
  unfold aU at h
  unfold sfR fpC fpM
  omega
theorem inv_gi (hR : IR oW oT σ) (hW : IW σ) (f : fi U σ φ) (uR : ∀ p k, 0 ≤ k → U p k → sfR σ p k) (hK : KK oW oT φ φ) (hN : IN φ) (hT : rlT φ φ) (hS : rlS φ φ) (hF : rlF φ φ) (hU : rlU φ φ) (hP : rlP φ φ) (hC : rlC φ φ) (hH : rlH φ φ) : INV φ :=
  ⟨oW, oT, iv_R (jE_i f (fun p k g w u => (uR p k g u).1 w)) (sm_i f (fun p k g w u => (uR p k g u).2.1 w)) hR, hN, hT, hS, hF, hU, hP, hC, hH, iv_O (by rw [f.1]; exact hW.2) (sm_i f (fun p k g w u => (uR p k g u).2.2 w)) hW, hK⟩
theorem a_jE (f : fi (aU σ.2.2.2.1) σ φ) : jE σ φ := jE_i f (fun p k g w u => (aU_s u).1 w)
theorem inv_a (h : INV σ) (f : fi (aU σ.2.2.2.1) σ φ) (hN : IN φ) (hH : rlH φ φ) (hS : rlS φ φ) (k1 : hI φ 27 4 = -1) (k2 : hI φ 27 10 = -1) : INV φ := by
  obtain ⟨oW, oT, h1, h2, h3, h4, h5, h6, h7, h8, h9, h10, h11⟩ := h
  have hrp := rp_or σ.2.2.2.1
  have j := a_jE f
  exact inv_gi h1 h10 f (fun p k g u => aU_s u) (KK_n k1 k2) hN (iv_T (sm_i f (fun p k g w u => by unfold fpT at w; unfold aU at u; omega)) h3) hS (iv_F (sm_i f (fun p k g w u => by unfold fpF at w; unfold aU at u; omega)) h5) (iv_U (sm_i f (fun p k g w u => by unfold fpU at w; unfold aU at u; omega)) h6) (iv_P (sm_i f (fun p k g w u => by unfold fpP at w; unfold aU at u; omega)) h7) (iv_C j (sm_i f (fun p k g w u => by unfold fpQ at w; unfold aU at u; omega)) h8) hH
theorem KPT_c (h : KPT B φ1) (e57 : hI B 56 57 = hI σ 56 57) (e58 : hI B 56 58 = hI σ 56 58) (c1 : ∀ s, 0 ≤ s → CP σ B s s) (e57' : hI φ 56 57 = hI φ1 56 57) (e58' : hI φ 56 58 = hI φ1 56 58) (c2 : ∀ s, 2 ≤ s → CP φ1 φ s s) : KPT σ φ := by
  obtain ⟨f', m, m1, m2, m3, m4, m5⟩ := h
  refine ⟨f', m, e57'.trans m1, e58'.trans m2, by rw [← e57, ← e58]; exact m3, CP_t (CP_t (c1 0 (by omega)) m4) (c2 _ (by omega)), fun s g0 g1 g2 => CP_t (CP_t (c1 s (by omega)) (m5 s g0 g1 g2)) (c2 s g0)⟩
/-- an act that both sides have done -/
theorem act_h (h : INV σ) (b1 : fr bgU σ B1) (b2 : HAD σ B1) (b3 : hI B1 27 4 = -1) (b4 : hI B1 27 10 = -1) (f2 : fi (cU σ.2.2.2.1) B1 B) (k1 : fr kpU B φ1) (k2 : KPT B φ1) (f3 : fr mU φ1 φ) (hN : IN φ) (hS : rlS φ φ) : INV φ := by
  have h' := h
  obtain ⟨oW, oT, h1, h2, h3, h4, h5, h6, h7, h8, h9, h10, h11⟩ := h'
  have hrp := rp_or σ.2.2.2.1
  have fA : fi (aU σ.2.2.2.1) σ φ := fi_t (fi_t (fi_t (fi_f (fr_m b1 (fun p k _ u => by unfold bgU at u; unfold aU; omega))) (fi_m f2 (fun p k _ u => by unfold cU at u; unfold aU; omega))) (fi_f (fr_m k1 (fun p k _ u => by unfold kpU at u; unfold aU; omega)))) (fi_f (fr_m f3 (fun p k _ u => by unfold mU at u; unfold aU; omega)))
  have j := a_jE fA
  have cl : ∀ p k, 0 ≤ k → (p = 6 ∨ p = 7 ∨ (p = 27 ∧ (k = 4 ∨ k = 10))) → hI φ p k = hI B1 p k := fun p k g w => by
    rw [(f3.2 p k g (by unfold mU; omega)).1, (k1.2 p k g (by unfold kpU; omega)).1, (f2.2 p k g (by unfold cU; omega)).1]
  have hd : HAD σ φ := ⟨by rw [cl 6 1 (by omega) (by omega)]; exact b2.1, by rw [cl 6 2 (by omega) (by omega)]; exact b2.2.1, fun k g => by rw [cl 7 k g (by omega)]; exact b2.2.2 k g⟩
  have fB : fi (fun p k => p < 56) σ B := fi_t (fi_f (fr_m b1 (fun p k _ u => by unfold bgU at u; omega))) (fi_m f2 (fun p k _ u => by unfold cU at u; omega))
  have hk : KPT σ φ := KPT_c k2 (fB.2 56 57 (by omega) (by omega)).1 (fB.2 56 58 (by omega) (by omega)).1 (fun s g => CP_f fB g (fun p k _ u w => by unfold cpU at w; omega)) (f3.2 56 57 (by omega) (by unfold mU; omega)).1 (f3.2 56 58 (by omega) (by unfold mU; omega)).1 (fun s g => CP_f (fi_f f3) (by omega) (fun p k _ u w => by unfold mU at u; unfold cpU at w; omega))
  exact inv_a h fA hN (his_j h1.1 h2 h9 (j_T j) (j_H j) hd hk) hS (by rw [cl 27 4 (by omega) (by omega)]; exact b3) (by rw [cl 27 10 (by omega) (by omega)]; exact b4)
theorem RM_f (hR : okR A) (hm : RM oW oT A σ) (f : fr U σ τ) (hu : ∀ p k, 0 ≤ k → U p k → ¬ fpM (hI σ 56 13) p k ∧ ¬ fpN p k) : RM oW oT A τ := by
  have m : sm (fpM (hI σ 56 13)) σ τ := sm_f f (fun p k g w u => (hu p k g u).1 w)
  have nn : sm fpN σ τ := sm_f f (fun p k g w u => (hu p k g u).2 w)
  obtain ⟨r1, r2, r3, r4⟩ := hm
  have b0 := r1.1.1
  refine ⟨iv_rlR jE_r m hR r1, ?_, iv_mSum m b0 (by omega) (by omega) (by omega) (by omega) r3, iv_mSum m b0 (by omega) (by omega) (by omega) (by omega) r4⟩
  refine ⟨by rw [(nn 85 0 (by omega) (by unfold fpN; omega)).1]; exact r2.1, fun h g0 g1 => ?_⟩
  obtain ⟨q1, q2, q3, q4⟩ := r2.2 h g0 g1
  have hH := hR.2.1
  have hT := hR.1
  exact ⟨by rw [(nn 86 h g0 (by unfold fpN; omega)).1]; exact q1, by rw [(nn 87 h g0 (by unfold fpN; omega)).1]; exact q2, by rw [(nn 88 h g0 (by unfold fpN; omega)).1]; exact q3, fun t a b => by rw [(nn 89 (6 * h + t) (by omega) (by unfold fpN; omega)).1]; exact q4 t a b⟩
/-- the other side's beginning of an act, behind the one side's -/
theorem act_k (h : IR oW oT σ) (hN : IN σ) (hH : rlH σ σ) (b1 : fr bgU σ B1) (f2 : fi (cU σ.2.2.2.1) B1 B) : ∃ φ1, fX11_keeps B = some φ1 ∧ fr kpU B φ1 ∧ KPT B φ1 ∧ RM oW oT σ B ∧ RM oW oT σ φ1 := by
  have hrp := rp_or σ.2.2.2.1
  have hm := IR_M h hN
  have hb := hm.1.1
  have fB : fi (fun p k => p < 56) σ B := fi_t (fi_f (fr_m b1 (fun p k _ u => by unfold bgU at u; omega))) (fi_m f2 (fun p k _ u => by unfold cU at u; omega))
  have e57 := (fB.2 56 57 (by omega) (by omega)).1
  have e58 := (fB.2 56 58 (by omega) (by omega)).1
  have hmB : RM oW oT σ B := m_RM (τ := B) (σ := σ) ⟨fun p k a b _ _ _ _ => (fB.2 p k b (by omega)).1, fun p k a b _ _ _ => (fB.2 p k b (by omega)).2 a⟩ h.1 hm
  obtain ⟨q1, q2, q3, q4, q5⟩ := hH
  obtain ⟨φ1, t1, t2, t3⟩ := keeps_z (σ := B) (by omega) (by omega)
  have b13 := hmB.1.1
  exact ⟨φ1, t1, t2, t3, hmB, RM_f h.1 hmB t2 (fun p k _ u => by unfold kpU at u; unfold fpM fpN; omega)⟩
theorem rowS_0 : rowS H T g σ 0 ↔ (hI σ 85 0 = g 0 ∧ (0 ≤ g 0 ∧ (g 0 < T ∨ g 0 = 0)) ∧ ∀ h, 0 ≤ h → h < H → (hI σ 86 h = g (50 + h) ∧ 0 ≤ g (50 + h) ∧ g (50 + h) ≤ 60) ∧ (hI σ 87 h = g (56 + h) ∧ 0 ≤ g (56 + h) ∧ g (56 + h) ≤ 60) ∧ (hI σ 88 h = g (62 + h) ∧ -99999 ≤ g (62 + h) ∧ g (62 + h) ≤ 99999) ∧ ∀ t, 0 ≤ t → t < T → hI σ 89 (6 * h + t) = g (68 + h * 6 + t) ∧ 0 ≤ g (68 + h * 6 + t) ∧ g (68 + h * 6 + t) ≤ 60) := by
  unfold rowS
  simp only [Int.mul_zero, Int.zero_add]
theorem rowK_d {s' : Int} (h : rowK g σ s) (hs : 0 ≤ s) (hg : ∀ i, 1 ≤ i → i < 50 → g' i = g i) (e90 : hI τ 90 s' = hI σ 90 s) (e48 : ∀ p i, 91 ≤ p → p ≤ 94 → 0 ≤ i → i < 48 → hI τ p (48 * s' + i) = hI σ p (48 * s + i)) : rowK g' τ s' := by
  obtain ⟨h1, h2, h3⟩ := h
  have hz : 0 ≤ zmin 48 (g 1) ∧ zmin 48 (g 1) ≤ 48 ∧ zmin 48 (g 1) ≤ g 1 := by unfold zmin; split <;> omega
  unfold rowK
  rw [hg 1 (by omega) (by omega), e90]
  refine ⟨h1, h2, fun k g0 g1 => ?_⟩
  have := h3 k g0 g1
  rw [hg _ (by omega) (by omega), e48 _ _ (by omega) (by omega) (by omega) (by omega), e48 _ _ (by omega) (by omega) (by omega) (by omega), e48 _ _ (by omega) (by omega) (by omega) (by omega), e48 _ _ (by omega) (by omega) (by omega) (by omega)]
  exact this
theorem isS_p (h0 : 0 ≤ c) (h1 : c ≤ 60) : fX10_isSecond (z32 c) = z32 1 := by
  simp (disch := omega) only [fX10_isSecond, z32_add, z32_sub, z32_mul, z32_neg, z32_litn, z32_lt, z32_le, z32_eq, iG_h, lG_h, iS_q, lS_q, aI_h, wI_h, aL_h, wL_h, ↓bnd_q, bnr_q, bnc_q, ↓reduceIte, ieqT, ieqF, iltT, iltF, ileT, ileF, not_true, not_false_iff]
theorem isS_n (h1 : -2147483648 ≤ c) (h2 : c < 2147483648) (h : ¬ (0 ≤ c ∧ c ≤ 60)) : fX10_isSecond (z32 c) = z32 0 := by
  by_cases g : c < 0
  · simp (disch := omega) only [fX10_isSecond, z32_add, z32_sub, z32_mul, z32_neg, z32_litn, z32_lt, z32_le, z32_eq, iG_h, lG_h, iS_q, lS_q, aI_h, wI_h, aL_h, wL_h, ↓bnd_q, bnr_q, bnc_q, ↓reduceIte, ieqT, ieqF, iltT, iltF, ileT, ileF, not_true, not_false_iff]
  · simp (disch := omega) only [fX10_isSecond, z32_add, z32_sub, z32_mul, z32_neg, z32_litn, z32_lt, z32_le, z32_eq, iG_h, lG_h, iS_q, lS_q, aI_h, wI_h, aL_h, wL_h, ↓bnd_q, bnr_q, bnc_q, ↓reduceIte, ieqT, ieqF, iltT, iltF, ileT, ileF, not_true, not_false_iff]
/-- behind the one side's refusal -/
def rfB (σ : zS) (k : Int) : zS := jS σ 37 k (z32 (hI σ 37 k + 1)).toInt
theorem rf_M (hR : okR σ) (hm : RM oW oT σ σ) : RM oW oT σ (rfB σ k) := m_RM (τ := rfB σ k) (σ := σ) ⟨fun p i _ _ _ _ _ _ => hI_jS_ne (by omega), fun _ _ _ _ _ _ _ => rfl⟩ hR hm
/-- an act refused by both -/
theorem CA_ref {f g : zS → Option (Int32 × zS)} (h : INV σ) (hf : f σ = bnc (fX10_refuse 2 σ) fun v3 σ1 => some (v3, σ1)) (hg : g (rfB σ 2) = bnc (fX11_refuses 2 (rfB σ 2)) fun v3 σ1 => some (v3, σ1)) : CA f g σ := by
  refine ⟨z32 (-1), rfB σ 2, jS (rfB σ 2) 84 2 (z32 (hI (rfB σ 2) 84 2 + 1)).toInt, ?_, ?_, inv_F h (by omega) (by omega)⟩
  · unfold rfB
    rw [hf, ref_z (k := 2) (z32_litn 2) (by omega) (by omega), bnc_q]
  · rw [hg, mref_z (k := 2) (z32_litn 2) (by omega) (by omega), bnc_q]
/-- the row's cells that such an act changes, of the one side and of the other -/
def c5U (p : Nat) (k : Int) : Prop := p = 5 ∧ 50 ≤ k
def m8U (p : Nat) (k : Int) : Prop := ((86 ≤ p ∧ p ≤ 88) ∧ k < 6) ∨ (p = 89 ∧ k < 36)
/-- an act that changes breaths, what one gives up at, what one believes, alone -/
theorem act_r (h : INV σ) (b2 : fr bgU σ B1) (b3 : HAD σ B1) (b4 : hI B1 27 4 = -1) (b5 : hI B1 27 10 = -1) (f2 : fr c5U B1 B) (k2 : fr kpU B φ1) (k3 : KPT B φ1) (f3 : fr m8U φ1 φ) (hr : ∀ h, 0 ≤ h → h < vH σ → (hI φ 86 h = hI φ 5 (50 + h) ∧ 0 ≤ hI φ 5 (50 + h) ∧ hI φ 5 (50 + h) ≤ 60) ∧ (hI φ 87 h = hI φ 5 (56 + h) ∧ 0 ≤ hI φ 5 (56 + h) ∧ hI φ 5 (56 + h) ≤ 60) ∧ (hI φ 88 h = hI φ 5 (62 + h) ∧ -99999 ≤ hI φ 5 (62 + h) ∧ hI φ 5 (62 + h) ≤ 99999) ∧ ∀ t, 0 ≤ t → t < vT σ → hI φ 89 (6 * h + t) = hI φ 5 (68 + h * 6 + t) ∧ 0 ≤ hI φ 5 (68 + h * 6 + t) ∧ hI φ 5 (68 + h * 6 + t) ≤ 60) : INV φ := by
  have h' := h
  obtain ⟨oW, oT, i1, i2, i3, i4, i5, i6, i7, i8, i9, i10, i11⟩ := h'
  have hrp := rp_or σ.2.2.2.1
  have f2' : fi (cU σ.2.2.2.1) B1 B := fi_f (fr_m f2 (fun p k _ u => by unfold c5U at u; unfold cU; omega))
  have f3' : fr mU φ1 φ := fr_m f3 (fun p k _ u => by unfold m8U at u; unfold mU; omega)
  have fN : fr (fun p k => bgU p k ∨ c5U p k ∨ kpU p k ∨ m8U p k) σ φ := fr_t (fr_t (fr_t (fr_m b2 (fun p k _ u => Or.inl u)) (fr_m f2 (fun p k _ u => Or.inr (Or.inl u)))) (fr_m k2 (fun p k _ u => Or.inr (Or.inr (Or.inl u))))) (fr_m f3 (fun p k _ u => Or.inr (Or.inr (Or.inr u))))
  have j : jE σ φ := jE_f fN (fun p k g w u => by unfold fpC at w; unfold bgU c5U kpU m8U at u; omega)
  obtain ⟨q1, q2, q3⟩ := rowS_0.1 i2.1
  refine act_h h b2 b3 b4 b5 f2' k2 k3 f3' ⟨?_, ?_⟩ (iv_S (sm_f fN (fun p k g w u => by unfold fpS at w; unfold bgU c5U kpU m8U at u; omega)) i4)
  · rw [j_H j, j_T j]
    have e0 : hI φ 5 0 = hI σ 5 0 := (fN.2 5 0 (by omega) (by unfold bgU c5U kpU m8U; omega)).1
    refine rowS_0.2 ⟨?_, ?_, hr⟩
    · show hI φ 85 0 = hI φ 5 0
      rw [e0, (fN.2 85 0 (by omega) (by unfold bgU c5U kpU m8U; omega)).1]; exact q1
    · show 0 ≤ hI φ 5 0 ∧ (hI φ 5 0 < vT σ ∨ hI φ 5 0 = 0)
      rw [e0]; exact q2
  · exact rowK_d i2.2 (by omega) (fun i g0 g1 => (fN.2 5 i (by omega) (by unfold bgU c5U kpU m8U; omega)).1) (fN.2 90 0 (by omega) (by unfold bgU c5U kpU m8U; omega)).1 (fun p i g0 g1 g2 g3 => (fN.2 p _ (by omega) (by unfold bgU c5U kpU m8U; omega)).1)
theorem C_believe (h : INV σ) (h1 : -2147483648 ≤ a) (h2 : a < 2147483648) (h3 : -2147483648 ≤ b) (h4 : b < 2147483648) (h5 : -2147483648 ≤ c) (h6 : c < 2147483648) : CA (fX10_believe (z32 a) (z32 b) (z32 c)) (fX11_believe (z32 a) (z32 b) (z32 c)) σ := by
  have h' := h
  obtain ⟨oW, oT, i1, i2, i3, i4, i5, i6, i7, i8, i9, i10, i11⟩ := h'
  have hR := i1.1
  have hm := IR_M i1 i2
  have hmf := rf_M (k := 2) hR hm
  have hrp := rp_or σ.2.2.2.1
  by_cases hh : 0 ≤ a ∧ a < vH σ
  · by_cases ht : 0 ≤ b ∧ b < vT σ
    · by_cases hc : 0 ≤ c ∧ c ≤ 60
      · have hH := hR.2.1
        have hT := hR.1
        obtain ⟨B1, b1, b2, b3, b4, b5⟩ := beg_z (σ := σ) i9.1 i9.2.1
        obtain ⟨ix, hix⟩ : ∃ ix, ix = 68 + a * 6 + b := ⟨_, rfl⟩
        have f2 : fr c5U B1 (jS B1 5 ix c) := fr_j (by omega) (by unfold c5U; omega)
        have e5 : ∀ i, 0 ≤ i → hI B1 5 i = hI σ 5 i := fun i g => (b2.2 5 i g (by unfold bgU; omega)).1
        obtain ⟨φ1, k1, k2, k3, k4, k5⟩ := act_k i1 i2 i9 b2 (fi_f (fr_m f2 (fun p k _ u => by unfold c5U at u; unfold cU; omega)))
        have f3 : fr m8U φ1 (jS φ1 89 (6 * a + b) c) := fr_j (by omega) (by unfold m8U; omega)
        have e89 : hI φ1 89 (6 * a + b) = hI σ 5 ix := by
          rw [(k5.2.1.2 a hh.1 hh.2).2.2.2 b ht.1 ht.2, hix]; rfl
        obtain ⟨q1, q2, q3⟩ := rowS_0.1 i2.1
        have l1 := hI_lo σ 5 ix
        have l2 := hI_hi σ 5 ix
        obtain ⟨φ, hφ⟩ : ∃ φ, φ = jS φ1 89 (6 * a + b) c := ⟨_, rfl⟩
        have c5 : ∀ i, 0 ≤ i → hI φ 5 i = if i = ix then c else hI σ 5 i := fun i g => by
          rw [hφ, hI_jS_ne (by omega), (k2.2 5 i g (by unfold kpU; omega)).1, hI_jS (by omega) g (by omega) (by omega), e5 i g]
        have mo : ∀ p i, 86 ≤ p → p ≤ 88 → 0 ≤ i → i < 6 → hI φ p i = hI σ p i := fun p i g0 g1 g2 g3 => by
          rw [hφ, hI_jS_ne (by omega), (k2.2 p i g2 (by unfold kpU; omega)).1, hI_jS_ne (by omega), (b2.2 p i g2 (by unfold bgU; omega)).1]
        have m9 : ∀ i, 0 ≤ i → i < 36 → hI φ 89 i = if i = 6 * a + b then c else hI σ 89 i := fun i g2 g3 => by
          rw [hφ, hI_jS (by omega) g2 (by omega) (by omega), (k2.2 89 i g2 (by unfold kpU; omega)).1, hI_jS_ne (by omega), (b2.2 89 i g2 (by unfold bgU; omega)).1]
        rw [← hφ] at f3
        refine ⟨z32 (hI σ 5 ix), jS B1 5 ix c, φ, ?_, ?_, act_r h b2 b3 b4 b5 f2 k2 k3 f3 (fun h' g0 g1 => ?_)⟩
        · have e5' := e5 ix (by omega)
          simp (disch := omega) only [fX10_believe, hasB_p, isS_p, fX7_thinksOf, fX7_setThinks, z32_add, z32_sub, z32_mul, z32_neg, z32_litn, z32_lt, z32_le, z32_eq, iG_h, lG_h, iS_q, lS_q, aI_h, wI_h, aL_h, wL_h, ↓bnd_q, bnr_q, bnc_q, ↓reduceIte, ieqT, ieqF, iltT, iltF, ileT, ileF, not_true, not_false_iff, b1, ← hix, e5']
        · simp (disch := omega) only [fX11_believe, isH_p hR k4.1, isT_p hR k4.1, is_p, z32_add, z32_sub, z32_mul, z32_neg, z32_litn, z32_lt, z32_le, z32_eq, iG_h, lG_h, iS_q, lS_q, aI_h, wI_h, aL_h, wL_h, ↓bnd_q, bnr_q, bnc_q, ↓reduceIte, ieqT, ieqF, iltT, iltF, ileT, ileF, not_true, not_false_iff, k1, e89, ← hφ]
        · obtain ⟨s1, s2, s3, s4⟩ := q3 h' g0 g1
          refine ⟨?_, ?_, ?_, fun t g2 g3 => ?_⟩
          · rw [mo 86 h' (by omega) (by omega) g0 (by omega), c5 _ (by omega), if_neg (by omega)]; exact s1
          · rw [mo 87 h' (by omega) (by omega) g0 (by omega), c5 _ (by omega), if_neg (by omega)]; exact s2
          · rw [mo 88 h' (by omega) (by omega) g0 (by omega), c5 _ (by omega), if_neg (by omega)]; exact s3
          · rw [m9 _ (by omega) (by omega), c5 _ (by omega)]
            by_cases g4 : h' = a ∧ t = b
            · rw [if_pos (by omega), if_pos (by omega)]; exact ⟨rfl, hc⟩
            · rw [if_neg (by omega), if_neg (by omega)]; exact s4 t g2 g3
      · refine CA_ref h ?_ ?_
        · simp (disch := omega) only [fX10_believe, hasB_p, isS_n h5 h6 hc, z32_add, z32_sub, z32_mul, z32_neg, z32_litn, z32_lt, z32_le, z32_eq, iG_h, lG_h, iS_q, lS_q, aI_h, wI_h, aL_h, wL_h, ↓bnd_q, bnr_q, bnc_q, ↓reduceIte, ieqT, ieqF, iltT, iltF, ileT, ileF, not_true, not_false_iff, fX10_believe_22]
        · simp (disch := omega) only [fX11_believe, isH_p hR hmf.1, isT_p hR hmf.1, is_n, z32_add, z32_sub, z32_mul, z32_neg, z32_litn, z32_lt, z32_le, z32_eq, iG_h, lG_h, iS_q, lS_q, aI_h, wI_h, aL_h, wL_h, ↓bnd_q, bnr_q, bnc_q, ↓reduceIte, ieqT, ieqF, iltT, iltF, ileT, ileF, not_true, not_false_iff, fX11_believe_26]
    · refine CA_ref h ?_ ?_
      · simp (disch := omega) only [fX10_believe, hasB_nt hh.1 hh.2 h3 h4 ht, z32_add, z32_sub, z32_mul, z32_neg, z32_litn, z32_lt, z32_le, z32_eq, iG_h, lG_h, iS_q, lS_q, aI_h, wI_h, aL_h, wL_h, ↓bnd_q, bnr_q, bnc_q, ↓reduceIte, ieqT, ieqF, iltT, iltF, ileT, ileF, not_true, not_false_iff, fX10_believe_22]
      · simp (disch := omega) only [fX11_believe, isH_p hR hmf.1, isT_n hR hmf.1 h3 h4 ht, z32_add, z32_sub, z32_mul, z32_neg, z32_litn, z32_lt, z32_le, z32_eq, iG_h, lG_h, iS_q, lS_q, aI_h, wI_h, aL_h, wL_h, ↓bnd_q, bnr_q, bnc_q, ↓reduceIte, ieqT, ieqF, iltT, iltF, ileT, ileF, not_true, not_false_iff, fX11_believe_26]
  · refine CA_ref h ?_ ?_
    · simp (disch := omega) only [fX10_believe, hasB_nh h1 h2 hh, z32_add, z32_sub, z32_mul, z32_neg, z32_litn, z32_lt, z32_le, z32_eq, iG_h, lG_h, iS_q, lS_q, aI_h, wI_h, aL_h, wL_h, ↓bnd_q, bnr_q, bnc_q, ↓reduceIte, ieqT, ieqF, iltT, iltF, ileT, ileF, not_true, not_false_iff, fX10_believe_22]
    · simp (disch := omega) only [fX11_believe, isH_n hR hmf.1 h1 h2 hh, z32_add, z32_sub, z32_mul, z32_neg, z32_litn, z32_lt, z32_le, z32_eq, iG_h, lG_h, iS_q, lS_q, aI_h, wI_h, aL_h, wL_h, ↓bnd_q, bnr_q, bnc_q, ↓reduceIte, ieqT, ieqF, iltT, iltF, ileT, ileF, not_true, not_false_iff, fX11_believe_26]
theorem C_give (h : INV σ) (h1 : -2147483648 ≤ a) (h2 : a < 2147483648) (h5 : -2147483648 ≤ c) (h6 : c < 2147483648) : CA (fX10_give (z32 a) (z32 c)) (fX11_give (z32 a) (z32 c)) σ := by
  have h' := h
  obtain ⟨oW, oT, i1, i2, i3, i4, i5, i6, i7, i8, i9, i10, i11⟩ := h'
  have hR := i1.1
  have hm := IR_M i1 i2
  have hmf := rf_M (k := 2) hR hm
  have hrp := rp_or σ.2.2.2.1
  by_cases hh : 0 ≤ a ∧ a < vH σ
  · by_cases hc : 0 ≤ c ∧ c ≤ 60
    · have hH := hR.2.1
      have hT := hR.1
      obtain ⟨B1, b1, b2, b3, b4, b5⟩ := beg_z (σ := σ) i9.1 i9.2.1
      have f2 : fr c5U B1 (jS B1 5 (56 + a) c) := fr_j (by omega) (by unfold c5U; omega)
      have e5 : ∀ i, 0 ≤ i → hI B1 5 i = hI σ 5 i := fun i g => (b2.2 5 i g (by unfold bgU; omega)).1
      obtain ⟨φ1, k1, k2, k3, k4, k5⟩ := act_k i1 i2 i9 b2 (fi_f (fr_m f2 (fun p k _ u => by unfold c5U at u; unfold cU; omega)))
      have f3 : fr m8U φ1 (jS φ1 87 a c) := fr_j (by omega) (by unfold m8U; omega)
      have e87 : hI φ1 87 a = hI σ 5 (56 + a) := (k5.2.1.2 a hh.1 hh.2).2.1
      obtain ⟨q1, q2, q3⟩ := rowS_0.1 i2.1
      have l1 := hI_lo σ 5 (56 + a)
      have l2 := hI_hi σ 5 (56 + a)
      obtain ⟨φ, hφ⟩ : ∃ φ, φ = jS φ1 87 a c := ⟨_, rfl⟩
      have c5 : ∀ i, 0 ≤ i → hI φ 5 i = if i = 56 + a then c else hI σ 5 i := fun i g => by
        rw [hφ, hI_jS_ne (by omega), (k2.2 5 i g (by unfold kpU; omega)).1, hI_jS (by omega) g (by omega) (by omega), e5 i g]
      have mo : ∀ p i, 86 ≤ p → p ≤ 89 → p ≠ 87 → 0 ≤ i → ¬ kpU p i → hI φ p i = hI σ p i := fun p i g0 g1 g2 g3 g4 => by
        rw [hφ, hI_jS_ne (by omega), (k2.2 p i g3 g4).1, hI_jS_ne (by omega), (b2.2 p i g3 (by unfold bgU; omega)).1]
      have m7 : ∀ i, 0 ≤ i → i < 6 → hI φ 87 i = if i = a then c else hI σ 87 i := fun i g2 g3 => by
        rw [hφ, hI_jS (by omega) g2 (by omega) (by omega), (k2.2 87 i g2 (by unfold kpU; omega)).1, hI_jS_ne (by omega), (b2.2 87 i g2 (by unfold bgU; omega)).1]
      rw [← hφ] at f3
      refine ⟨z32 (hI σ 5 (56 + a)), jS B1 5 (56 + a) c, φ, ?_, ?_, act_r h b2 b3 b4 b5 f2 k2 k3 f3 (fun h' g0 g1 => ?_)⟩
      · have e5' := e5 (56 + a) (by omega)
        simp (disch := omega) only [fX10_give, hasH_p, isS_p, fX7_givesOf, fX7_setGives, z32_add, z32_sub, z32_mul, z32_neg, z32_litn, z32_lt, z32_le, z32_eq, iG_h, lG_h, iS_q, lS_q, aI_h, wI_h, aL_h, wL_h, ↓bnd_q, bnr_q, bnc_q, ↓reduceIte, ieqT, ieqF, iltT, iltF, ileT, ileF, not_true, not_false_iff, b1, e5']
      · simp (disch := omega) only [fX11_give, isH_p hR k4.1, is_p, z32_add, z32_sub, z32_mul, z32_neg, z32_litn, z32_lt, z32_le, z32_eq, iG_h, lG_h, iS_q, lS_q, aI_h, wI_h, aL_h, wL_h, ↓bnd_q, bnr_q, bnc_q, ↓reduceIte, ieqT, ieqF, iltT, iltF, ileT, ileF, not_true, not_false_iff, k1, e87, ← hφ]
      · obtain ⟨s1, s2, s3, s4⟩ := q3 h' g0 g1
        refine ⟨?_, ?_, ?_, fun t g2 g3 => ?_⟩
        · rw [mo 86 h' (by omega) (by omega) (by omega) g0 (by unfold kpU; omega), c5 _ (by omega), if_neg (by omega)]; exact s1
        · rw [m7 h' g0 (by omega), c5 _ (by omega)]
          by_cases g4 : h' = a
          · rw [if_pos g4, if_pos (by omega)]; exact ⟨rfl, hc⟩
          · rw [if_neg g4, if_neg (by omega)]; exact s2
        · rw [mo 88 h' (by omega) (by omega) (by omega) g0 (by unfold kpU; omega), c5 _ (by omega), if_neg (by omega)]; exact s3
        · rw [mo 89 _ (by omega) (by omega) (by omega) (by omega) (by unfold kpU; omega), c5 _ (by omega), if_neg (by omega)]; exact s4 t g2 g3
    · refine CA_ref h ?_ ?_
      · simp (disch := omega) only [fX10_give, hasH_p, isS_n h5 h6 hc, z32_add, z32_sub, z32_mul, z32_neg, z32_litn, z32_lt, z32_le, z32_eq, iG_h, lG_h, iS_q, lS_q, aI_h, wI_h, aL_h, wL_h, ↓bnd_q, bnr_q, bnc_q, ↓reduceIte, ieqT, ieqF, iltT, iltF, ileT, ileF, not_true, not_false_iff, fX10_give_21]
      · simp (disch := omega) only [fX11_give, isH_p hR hmf.1, is_n, z32_add, z32_sub, z32_mul, z32_neg, z32_litn, z32_lt, z32_le, z32_eq, iG_h, lG_h, iS_q, lS_q, aI_h, wI_h, aL_h, wL_h, ↓bnd_q, bnr_q, bnc_q, ↓reduceIte, ieqT, ieqF, iltT, iltF, ileT, ileF, not_true, not_false_iff, fX11_give_18]
  · refine CA_ref h ?_ ?_
    · simp (disch := omega) only [fX10_give, hasH_n h1 h2 hh, z32_add, z32_sub, z32_mul, z32_neg, z32_litn, z32_lt, z32_le, z32_eq, iG_h, lG_h, iS_q, lS_q, aI_h, wI_h, aL_h, wL_h, ↓bnd_q, bnr_q, bnc_q, ↓reduceIte, ieqT, ieqF, iltT, iltF, ileT, ileF, not_true, not_false_iff, fX10_give_21]
    · simp (disch := omega) only [fX11_give, isH_n hR hmf.1 h1 h2 hh, z32_add, z32_sub, z32_mul, z32_neg, z32_litn, z32_lt, z32_le, z32_eq, iG_h, lG_h, iS_q, lS_q, aI_h, wI_h, aL_h, wL_h, ↓bnd_q, bnr_q, bnc_q, ↓reduceIte, ieqT, ieqF, iltT, iltF, ileT, ileF, not_true, not_false_iff, fX11_give_18]
-- a rest for all
theorem pau_c (hR : okR σ) (f1 : fr bgU σ B1) : ∃ B, fX10_pause_16 zF σ.2.2.2.1 (z32 0) (z32 0) B1 = some (z32 (zs (fun h => vBr0 σ h - vBr σ h) (vH σ)), B) ∧ fr c5U B1 B ∧ ∀ i, 0 ≤ i → hI B 5 i = if 50 ≤ i ∧ i < 50 + vH σ then vBr0 σ (i - 50) else hI σ 5 i := by
  have hH := hR.2.1
  have hrp := rp_or σ.2.2.2.1
  refine zupP0 (β := Int32 × zS) (L := fun f x a => fX10_pause_16 f σ.2.2.2.1 (z32 (zs (fun h => vBr0 σ h - vBr σ h) x)) (z32 x) a) (n := vH σ) (Q := fun r => ∃ B, r = some (z32 (zs (fun h => vBr0 σ h - vBr σ h) (vH σ)), B) ∧ fr c5U B1 B ∧ ∀ i, 0 ≤ i → hI B 5 i = if 50 ≤ i ∧ i < 50 + vH σ then vBr0 σ (i - 50) else hI σ 5 i)
    (fun x a => fr c5U B1 a ∧ ∀ i, 0 ≤ i → hI a 5 i = if 50 ≤ i ∧ i < 50 + x then vBr0 σ (i - 50) else hI σ 5 i) (a := B1) hH.1 (by omega) ⟨fr_r, fun i g => by rw [if_neg (by omega), (f1.2 5 i g (by unfold bgU; omega)).1]⟩ ?_ ?_
  · intro f x a hx hx' ⟨p1, p2⟩
    have er : ∀ p k, 0 ≤ k → 8 ≤ p → p ≤ 60 → p ≠ 27 → hI a p k = hI σ p k := fun p k g0 g1 g2 g3 => by
      rw [(p1.2 p k g0 (by unfold c5U; omega)).1, (f1.2 p k g0 (by unfold bgU; omega)).1]
    have eH : hI a (rp σ.2.2.2.1 + 0) 2 = vH σ := er _ _ (by omega) (by omega) (by omega) (by omega)
    have e7 : hI a (rp σ.2.2.2.1 + 7) x = vBr0 σ x := er _ _ (by omega) (by omega) (by omega) (by omega)
    have e5 : hI a 5 (50 + x) = vBr σ x := by rw [p2 _ (by omega), if_neg (by omega)]; rfl
    have b0 := (hR.2.2.2.2.2 x hx hx').1
    refine ⟨jS a 5 (50 + x) (vBr0 σ x), ?_, fr_t p1 (fr_j (by omega) (by unfold c5U; omega)), fun i g => ?_⟩
    · try simp only []
      rw [zs_s hx]
      simp (disch := omega) only [fX10_pause_16, fX7_breathOf, fX7_setBreath, z32_add, z32_sub, z32_mul, z32_neg, z32_litn, z32_lt, z32_le, z32_eq, iG_h, lG_h, iS_q, lS_q, aI_h, wI_h, aL_h, wL_h, ↓bnd_q, bnr_q, bnc_q, ↓reduceIte, ieqT, ieqF, iltT, iltF, ileT, ileF, not_true, not_false_iff, eH, e7, e5]
    · rw [hI_jS (by omega) g (by omega) (by omega), p2 i g]
      by_cases g1 : i = 50 + x
      · rw [if_pos g1, if_pos (by omega), g1, show 50 + x - 50 = x by omega]
      · rw [if_neg g1]
        by_cases g2 : 50 ≤ i ∧ i < 50 + x
        · rw [if_pos g2, if_pos (by omega)]
        · rw [if_neg g2, if_neg (by omega)]
  · intro f a ⟨p1, p2⟩
    have eH : hI a (rp σ.2.2.2.1 + 0) 2 = vH σ := by
      rw [(p1.2 _ 2 (by omega) (by unfold c5U; omega)).1, (f1.2 _ 2 (by omega) (by unfold bgU; omega)).1]; rfl
    refine ⟨a, ?_, p1, p2⟩
    simp (disch := omega) only [fX10_pause_16, z32_add, z32_sub, z32_mul, z32_neg, z32_litn, z32_lt, z32_le, z32_eq, iG_h, lG_h, iS_q, lS_q, aI_h, wI_h, aL_h, wL_h, ↓bnd_q, bnr_q, bnc_q, ↓reduceIte, ieqT, ieqF, iltT, iltF, ileT, ileF, not_true, not_false_iff, eH]
theorem pau_m (hR : okR σ) (hm : RM oW oT σ φ1) : ∃ φ, fX11_pause_8 zF (z32 0) (z32 0) φ1 = some (z32 (zs (fun h => vBr0 σ h - vBr σ h) (vH σ)), φ) ∧ fr m8U φ1 φ ∧ (∀ p i, p ≠ 86 → hI φ p i = hI φ1 p i) ∧ ∀ i, 0 ≤ i → hI φ 86 i = if i < vH σ then vBr0 σ i else hI φ1 86 i := by
  have hH := hR.2.1
  obtain ⟨⟨⟨z0, z1⟩, m2, m3, m4, m5, m6, m7⟩, ⟨n1, n2⟩, -, -⟩ := hm
  obtain ⟨b, hb⟩ : ∃ b, b = hI φ1 56 13 := ⟨_, rfl⟩
  rw [← hb] at z0 z1 m3 m7
  refine zupP0 (β := Int32 × zS) (L := fun f x a => fX11_pause_8 f (z32 (zs (fun h => vBr0 σ h - vBr σ h) x)) (z32 x) a) (n := vH σ) (Q := fun r => ∃ φ, r = some (z32 (zs (fun h => vBr0 σ h - vBr σ h) (vH σ)), φ) ∧ fr m8U φ1 φ ∧ (∀ p i, p ≠ 86 → hI φ p i = hI φ1 p i) ∧ ∀ i, 0 ≤ i → hI φ 86 i = if i < vH σ then vBr0 σ i else hI φ1 86 i)
    (fun x a => fr m8U φ1 a ∧ (∀ p i, p ≠ 86 → hI a p i = hI φ1 p i) ∧ ∀ i, 0 ≤ i → hI a 86 i = if i < x then vBr0 σ i else hI φ1 86 i) (a := φ1) hH.1 (by omega) ⟨fr_r, fun _ _ _ => rfl, fun i g => by rw [if_neg (by omega)]⟩ ?_ ?_
  · intro f x a hx hx' ⟨p1, p2, p3⟩
    have e13 : hI a 56 13 = b := by rw [p2 56 13 (by omega), hb]
    have e63 : hI a 63 b = vH σ := by rw [p2 63 b (by omega), m3]
    have e64 : hI a 64 (6 * b + x) = vBr0 σ x := by rw [p2 64 _ (by omega)]; exact (m7 x hx hx').1
    have e86 : hI a 86 x = vBr σ x := by rw [p3 x hx, if_neg (by omega)]; exact (n2 x hx hx').1
    have b0 := (hR.2.2.2.2.2 x hx hx').1
    refine ⟨jS a 86 x (vBr0 σ x), ?_, fr_t p1 (fr_j (by omega) (by unfold m8U; omega)), fun p i g => by rw [hI_jS_ne g, p2 p i g], fun i g => ?_⟩
    · try simp only []
      rw [zs_s hx]
      simp (disch := omega) only [fX11_pause_8, z32_add, z32_sub, z32_mul, z32_neg, z32_litn, z32_lt, z32_le, z32_eq, iG_h, lG_h, iS_q, lS_q, aI_h, wI_h, aL_h, wL_h, ↓bnd_q, bnr_q, bnc_q, ↓reduceIte, ieqT, ieqF, iltT, iltF, ileT, ileF, not_true, not_false_iff, e13, e63, e64, e86]
    · rw [hI_jS hx g (by omega) (by omega), p3 i g]
      by_cases g1 : i = x
      · rw [if_pos g1, if_pos (by omega), g1]
      · rw [if_neg g1]
        by_cases g2 : i < x
        · rw [if_pos g2, if_pos (by omega)]
        · rw [if_neg g2, if_neg (by omega)]
  · intro f a ⟨p1, p2, p3⟩
    have e13 : hI a 56 13 = b := by rw [p2 56 13 (by omega), hb]
    have e63 : hI a 63 b = vH σ := by rw [p2 63 b (by omega), m3]
    refine ⟨a, ?_, p1, p2, p3⟩
    simp (disch := omega) only [fX11_pause_8, z32_add, z32_sub, z32_mul, z32_neg, z32_litn, z32_lt, z32_le, z32_eq, iG_h, lG_h, iS_q, lS_q, aI_h, wI_h, aL_h, wL_h, ↓bnd_q, bnr_q, bnc_q, ↓reduceIte, ieqT, ieqF, iltT, iltF, ileT, ileF, not_true, not_false_iff, e13, e63]
theorem C_pause (h : INV σ) : CA fX10_pause fX11_pause σ := by
  have h' := h
  obtain ⟨oW, oT, i1, i2, i3, i4, i5, i6, i7, i8, i9, i10, i11⟩ := h'
  have hR := i1.1
  have hH := hR.2.1
  have hT := hR.1
  have hrp := rp_or σ.2.2.2.1
  obtain ⟨B1, b1, b2, b3, b4, b5⟩ := beg_z (σ := σ) i9.1 i9.2.1
  obtain ⟨B, c1, c2, c3⟩ := pau_c hR b2
  obtain ⟨φ1, k1, k2, k3, k4, k5⟩ := act_k i1 i2 i9 b2 (fi_f (fr_m c2 (fun p k _ u => by unfold c5U at u; unfold cU; omega)))
  obtain ⟨φ, d1, d2, d3, d4⟩ := pau_m hR k5
  obtain ⟨q1, q2, q3⟩ := rowS_0.1 i2.1
  have efl : B1.2.2.2.1 = σ.2.2.2.1 := by rw [b2.1]
  have c5 : ∀ i, 0 ≤ i → hI φ 5 i = if 50 ≤ i ∧ i < 50 + vH σ then vBr0 σ (i - 50) else hI σ 5 i := fun i g => by
    rw [d3 5 i (by omega), (k2.2 5 i g (by unfold kpU; omega)).1, c3 i g]
  have mo : ∀ p i, 87 ≤ p → p ≤ 89 → 0 ≤ i → ¬ kpU p i → hI φ p i = hI σ p i := fun p i g0 g1 g2 g3 => by
    rw [d3 p i (by omega), (k2.2 p i g2 g3).1, (c2.2 p i g2 (by unfold c5U; omega)).1, (b2.2 p i g2 (by unfold bgU; omega)).1]
  refine ⟨z32 (zs (fun h => vBr0 σ h - vBr σ h) (vH σ)), B, φ, ?_, ?_, act_r h b2 b3 b4 b5 c2 k2 k3 d2 (fun h' g0 g1 => ?_)⟩
  · unfold fX10_pause
    rw [b1, bnr_q, efl, show (0 : Int32) = z32 0 from z32_litn 0, c1]
  · unfold fX11_pause
    rw [k1, bnr_q, show (0 : Int32) = z32 0 from z32_litn 0, d1]
  · obtain ⟨s1, s2, s3, s4⟩ := q3 h' g0 g1
    refine ⟨?_, ?_, ?_, fun t g2 g3 => ?_⟩
    · have b0 := (hR.2.2.2.2.2 h' g0 g1).1
      rw [d4 h' g0, if_pos g1, c5 _ (by omega), if_pos (by omega), show 50 + h' - 50 = h' by omega]
      exact ⟨rfl, by omega, by omega⟩
    · rw [mo 87 h' (by omega) (by omega) g0 (by unfold kpU; omega), c5 _ (by omega), if_neg (by omega)]; exact s2
    · rw [mo 88 h' (by omega) (by omega) g0 (by unfold kpU; omega), c5 _ (by omega), if_neg (by omega)]; exact s3
    · rw [mo 89 _ (by omega) (by omega) (by omega) (by unfold kpU; omega), c5 _ (by omega), if_neg (by omega)]; exact s4 t g2 g3
-- the latest act undone
def unU (p : Nat) (k : Int) : Prop := p = 5 ∨ p = 6 ∨ (p = 27 ∧ (k = 4 ∨ k = 10)) ∨ (p = 56 ∧ k = 58) ∨ cpU 0 p k
theorem C_undo (h : INV σ) : CA fX10_undo fX11_undo σ := by
  have h' := h
  obtain ⟨oW, oT, i1, i2, i3, i4, i5, i6, i7, i8, i9, i10, i11⟩ := h'
  obtain ⟨b1, b2, b3, b4, b5⟩ := i9
  have hR := i1.1
  have hrp := rp_or σ.2.2.2.1
  have e62 : iG σ 6 2 = z32 (hI σ 6 2) := iG_h σ 6 2
  by_cases g : hI σ 6 2 = 0
  · refine ⟨z32 0, rfB σ 3, jS (rfB σ 3) 84 3 (z32 (hI (rfB σ 3) 84 3 + 1)).toInt, ?_, ?_, inv_F h (by omega) (by omega)⟩
    · unfold fX10_undo rfB
      rw [e62, if_pos (by rw [g, z32_litn]), ref_z (k := 3) (z32_litn 3) (by omega) (by omega), bnc_q, z32_litn]
    · have e : iG (rfB σ 3) 56 58 = z32 0 := by
        rw [show iG (rfB σ 3) 56 58 = z32 (hI (rfB σ 3) 56 58) from iG_h _ 56 58]
        unfold rfB
        rw [hI_jS_ne (by omega), b3, g]
      unfold fX11_undo
      rw [e, if_pos (by rw [z32_litn]), mref_z (k := 3) (z32_litn 3) (by omega) (by omega), bnc_q, if_pos (by rw [z32_litn, z32_lt (by omega) (by omega) (by omega) (by omega)]; omega), z32_litn]
  · obtain ⟨X, hX⟩ : ∃ X, X = (hI σ 6 1 + 20 - 1) % 20 := ⟨_, rfl⟩
    obtain ⟨N, hN⟩ : ∃ N, N = hI σ 6 2 - 1 := ⟨_, rfl⟩
    obtain ⟨σ2, hσ2⟩ : ∃ σ2, σ2 = jS (jS σ 6 1 X) 6 2 N := ⟨_, rfl⟩
    have f2 : fr (fun p _ => p = 6) σ σ2 := by
      rw [hσ2]; exact fr_t (fr_j (by omega) rfl) (fr_j (by omega) rfl)
    have e61' : hI σ2 6 1 = X := by rw [hσ2, hI_jS (by omega) (by omega) (by omega) (by omega), if_neg (by omega), hI_jS (by omega) (by omega) (by omega) (by omega), if_pos rfl]
    have e62' : hI σ2 6 2 = N := by rw [hσ2, hI_jS (by omega) (by omega) (by omega) (by omega), if_pos rfl]
    obtain ⟨C, c1, c2, c3⟩ := wC_z (β := zS) (σ := σ2) (x := 7) (y := 5) (nx := 2080) (ny := 104) (a := X * 104) (b := 0) (n := 104) (F := fun σ3 => some σ3) (by omega) (by omega) (by omega) (by omega) (by omega) (by omega) (by omega) (by omega)
    obtain ⟨B, d1, d2, d3, d4⟩ := fgt_z (σ := C)
    have fB : fr (fun p k => p = 5 ∨ p = 6 ∨ (p = 27 ∧ (k = 4 ∨ k = 10))) σ B := fr_t (fr_t (fr_m f2 (fun p k _ u => by omega)) (fr_oI c2 (fun k _ => by omega))) (fr_m d2 (fun p k _ u => by omega))
    have e57 : hI B 56 57 = hI σ 56 57 := (fB.2 56 57 (by omega) (by omega)).1
    have e58 : hI B 56 58 = hI σ 6 2 := by rw [(fB.2 56 58 (by omega) (by omega)).1, b3]
    obtain ⟨S, hS⟩ : ∃ S, S = 2 + (hI σ 56 57 + N) % 20 := ⟨_, rfl⟩
    obtain ⟨φ, t1, t2, t3⟩ := cop_z (σ := jS B 56 58 N) (d := 0) (s := S) (by omega) (by omega) (by omega)
    have fJ : fr (fun p k => p = 56 ∧ k = 58) B (jS B 56 58 N) := fr_j (by omega) ⟨rfl, rfl⟩
    have fN : fr unU σ φ := fr_t (fr_t (fr_m fB (fun p k _ u => by unfold unU cpU; omega)) (fr_m fJ (fun p k _ u => by unfold unU cpU; omega))) (fr_m t2 (fun p k _ u => Or.inr (Or.inr (Or.inr (Or.inr u)))))
    have fA : fi (aU σ.2.2.2.1) σ φ := fi_f (fr_m fN (fun p k _ u => by unfold unU cpU at u; unfold aU; omega))
    have j := a_jE fA
    have k6 : hI φ 6 1 = X ∧ hI φ 6 2 = N := by
      constructor
      · rw [(t2.2 6 1 (by omega) (by unfold cpU; omega)).1, hI_jS_ne (by omega), (d2.2 6 1 (by omega) (by omega)).1, c2.2.2 6 1 (by omega), e61']
      · rw [(t2.2 6 2 (by omega) (by unfold cpU; omega)).1, hI_jS_ne (by omega), (d2.2 6 2 (by omega) (by omega)).1, c2.2.2 6 2 (by omega), e62']
    have k58 : hI φ 56 58 = N := by rw [(t2.2 56 58 (by omega) (by unfold cpU; omega)).1, hI_jS (by omega) (by omega) (by omega) (by omega), if_pos rfl]
    have k57 : hI φ 56 57 = hI σ 56 57 := by rw [(t2.2 56 57 (by omega) (by unfold cpU; omega)).1, hI_jS (by omega) (by omega) (by omega) (by omega), if_neg (by omega), e57]
    have k5 : ∀ i, 0 ≤ i → i < 104 → hI φ 5 i = hI σ 7 (X * 104 + i) := fun i g0 g1 => by
      rw [(t2.2 5 i g0 (by unfold cpU; omega)).1, hI_jS_ne (by omega), (d2.2 5 i g0 (by omega)).1, c3 i g0, if_pos (by omega), show X * 104 + (i - 0) = X * 104 + i by omega, (f2.2 7 _ (by omega) (by omega)).1]
    have cp0 : CP σ φ 0 S := CP_t (CP_t (CP_f (fi_f fB) (by omega) (fun p k _ u w => by unfold cpU at w; omega)) (CP_f (fi_f fJ) (by omega) (fun p k _ u w => by unfold cpU at w; omega))) t3
    have cps : ∀ s, 2 ≤ s → CP σ φ s s := fun s g0 => CP_f (fi_f fN) (by omega) (fun p k _ u w => by unfold unU cpU at u; unfold cpU at w; omega)
    refine ⟨z32 1, B, φ, ?_, ?_, inv_a h fA ?_ ?_ (iv_S (sm_f fN (fun p k g w u => by unfold fpS at w; unfold unU cpU at u; omega)) i4) ?_ ?_⟩
    · have tb : fX2_takeBack σ = some C := by
        unfold fX2_takeBack
        rw [show iG σ 6 1 = z32 (hI σ 6 1) from iG_h σ 6 1, show (20 : Int32) = z32 20 from z32_litn 20, z32_add, show (1 : Int32) = z32 1 from z32_litn 1, z32_sub, z32_rem (by omega) (by omega) (by omega) (by omega), ← hX, iS_q, bnd_q, show iG (jS σ 6 1 X) 6 2 = z32 (hI (jS σ 6 1 X) 6 2) from iG_h _ 6 2, hI_jS (by omega) (by omega) (by omega) (by omega), if_neg (by omega), z32_sub, ← hN, iS_q, bnd_q, ← hσ2, show iG σ2 6 1 = z32 (hI σ2 6 1) from iG_h σ2 6 1, e61', show (104 : Int32) = z32 104 from z32_litn 104, z32_mul, show (0 : Int32) = z32 0 from z32_litn 0, c1]
      unfold fX10_undo
      rw [e62, if_neg (by rw [z32_litn, z32_eq (by omega) (by omega) (by omega) (by omega)]; exact g), tb, bnr_q, d1, bnr_q, z32_litn]
    · have e58' : iG B 56 58 = z32 (hI σ 6 2) := by rw [show iG B 56 58 = z32 (hI B 56 58) from iG_h B 56 58, e58]
      have eN : iG (jS B 56 58 N) 56 58 = z32 N := by rw [show iG (jS B 56 58 N) 56 58 = z32 (hI (jS B 56 58 N) 56 58) from iG_h _ 56 58, hI_jS (by omega) (by omega) (by omega) (by omega), if_pos rfl]
      have er : fX11_ring (jS B 56 58 N) (z32 N) = z32 S := by
        rw [ring_z (σ := jS B 56 58 N) (a := hI σ 56 57) (b := N) (by rw [hI_jS (by omega) (by omega) (by omega) (by omega), if_neg (by omega), e57]) b4 (by omega), hS]
      unfold fX11_undo
      rw [e58', if_neg (by rw [z32_litn, z32_eq (by omega) (by omega) (by omega) (by omega)]; exact g), show (1 : Int32) = z32 1 from z32_litn 1, z32_sub, ← hN, iS_q, bnd_q, eN, er, show (0 : Int32) = z32 0 from z32_litn 0, t1, bnr_q]
    · obtain ⟨r1, r2⟩ := b5 N (by omega) (by omega)
      rw [← hS] at r1 r2
      have eg : ∀ i, 0 ≤ i → i < 104 → gNow φ i = gHis σ N i := fun i g0 g1 => by
        show hI φ 5 i = hI σ 7 (((hI σ 6 1 + 20 - hI σ 6 2 + N) % 20) * 104 + i)
        rw [k5 i g0 g1, show (hI σ 6 1 + 20 - hI σ 6 2 + N) % 20 = X by omega]
      unfold IN
      rw [j_H j, j_T j]
      exact ⟨CP_S r1 cp0 hR.2.1.2 hR.1.2 (by omega) eg, CP_K r2 cp0 (by omega) eg⟩
    · refine ⟨by omega, by omega, by omega, by omega, fun j' g0 g1 => ?_⟩
      rw [k6.2] at g1
      obtain ⟨r1, r2⟩ := b5 j' g0 (by omega)
      have eg : ∀ i, 0 ≤ i → i < 104 → gHis φ j' i = gHis σ j' i := fun i g2 g3 => by
        show hI φ 7 (((hI φ 6 1 + 20 - hI φ 6 2 + j') % 20) * 104 + i) = hI σ 7 (((hI σ 6 1 + 20 - hI σ 6 2 + j') % 20) * 104 + i)
        rw [k6.1, k6.2, show (X + 20 - N + j') % 20 = (hI σ 6 1 + 20 - hI σ 6 2 + j') % 20 by omega, (fN.2 7 _ (by omega) (by unfold unU cpU; omega)).1]
      rw [j_H j, j_T j, k57]
      exact ⟨CP_S r1 (cps _ (by omega)) hR.2.1.2 hR.1.2 (by omega) eg, CP_K r2 (cps _ (by omega)) (by omega) eg⟩
    · rw [(t2.2 27 4 (by omega) (by unfold cpU; omega)).1, hI_jS_ne (by omega), d3]
    · rw [(t2.2 27 10 (by omega) (by unfold cpU; omega)).1, hI_jS_ne (by omega), d4]
end AC

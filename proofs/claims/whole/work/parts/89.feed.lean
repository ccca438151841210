/-! MY OWN: calls that change little: feed, end, seed, refusals -/
theorem bp_b (x : Int32) : x.toInt8.toInt32 &&& 255 = x &&& 255 := by
  apply Int32.toBitVec_inj.mp
  rw [Int32.toBitVec_and, Int32.toBitVec_and, Int8.toBitVec_toInt32, Int32.toBitVec_toInt8]
  apply BitVec.eq_of_getLsbD_eq
  intro i hi
  rw [BitVec.getLsbD_and, BitVec.getLsbD_and]
  have hm : ∀ i < 32, 8 ≤ i → (255 : Int32).toBitVec.getLsbD i = false := by decide
  rcases Nat.lt_or_ge i 8 with z | z
  · rw [BitVec.getLsbD_signExtend, BitVec.getLsbD_signExtend, if_pos z, if_pos hi]
    simp only [z, hi, decide_true, Bool.true_and]
  · rw [hm i hi z]; simp
section FD
variable {σ B φ τ : zS} {oW oT : Option ((Int → Int) → Int)} {P Q U : Nat → Int → Prop} {a b c k n : Int}
/-- nothing of the road, of the row, of the history, of the chooser is changed -/
def sfR (σ : zS) (p : Nat) (k : Int) : Prop := ¬ fpC σ.2.2.2.1 p k ∧ ¬ fpM (hI σ 56 13) p k ∧ p ≠ 55
theorem inv_g (hR : IR oW oT σ) (hW : IW σ) (f : fr U σ φ) (uR : ∀ p k, 0 ≤ k → U p k → sfR σ p k) (hK : KK oW oT φ φ) (hN : IN φ) (hT : rlT φ φ) (hS : rlS φ φ) (hF : rlF φ φ) (hU : rlU φ φ) (hP : rlP φ φ) (hC : rlC φ φ) (hH : rlH φ φ) : INV φ :=
  ⟨oW, oT, iv_R (jE_f f (fun p k g w u => (uR p k g u).1 w)) (sm_f f (fun p k g w u => (uR p k g u).2.1 w)) hR, hN, hT, hS, hF, hU, hP, hC, hH, iv_O (by rw [f.1]; exact hW.2) (sm_f f (fun p k g w u => (uR p k g u).2.2 w)) hW, hK⟩
theorem f_jE (f : fr U σ φ) (uR : ∀ p k, 0 ≤ k → U p k → sfR σ p k) : jE σ φ := jE_f f (fun p k g w u => (uR p k g u).1 w)
theorem KK_n (h1 : hI φ 27 4 = -1) (h2 : hI φ 27 10 = -1) : KK oW oT φ φ := ⟨Or.inl h1, Or.inl h2⟩
theorem KK_f (h : KK oW oT σ σ) (f : fr U σ φ) (j : jE σ φ) (uK : ∀ p k, 0 ≤ k → U p k → p ≠ 27 ∧ p ≠ 31 ∧ p ≠ 5) : KK oW oT φ φ :=
  ⟨c_KPp (jE_vE j) (KPp_c h.1 (fun k g _ => (f.2 27 k g (fun u => (uK 27 k g u).1 rfl)).1) (fun k g => (f.2 27 k g (fun u => (uK 27 k g u).1 rfl)).2)), c_KPs (jE_vE j) (fun h g => (f.2 5 (50 + h) (by omega) (fun u => (uK 5 _ (by omega) u).2.2 rfl)).1) (KPs_c h.2 (fun k g => (f.2 27 k (by omega) (fun u => (uK 27 k (by omega) u).1 rfl)).1) (fun k g => (f.2 31 k g (fun u => (uK 31 k g u).2.1 rfl)).1))⟩
theorem ref_z {x : Int32} (hx : x = z32 k) (h0 : 0 ≤ k) (h1 : k < 5) : fX10_refuse x σ = some (z32 (-1), jS σ 37 k (z32 (hI σ 37 k + 1)).toInt) := by
  have b1 := hI_lo σ 37 k
  have b2 := hI_hi σ 37 k
  subst hx
  have e : z32 (hI σ 37 k) + 1 = z32 (z32 (hI σ 37 k + 1)).toInt := by rw [z32_of, z1p]
  unfold fX10_refuse
  rw [if_neg (by rw [z32_litn, z32_lt (by omega) (by omega) (by omega) (by omega)]; omega), if_neg (by rw [z32_litn, z32_le (by omega) (by omega) (by omega) (by omega)]; omega), aI_h h0 (by omega) (by omega), e, wI_h h0 (by omega) (by omega), z32_litn, z32_neg]
theorem mref_z {x : Int32} (hx : x = z32 k) (h0 : 0 ≤ k) (h1 : k < 5) : fX11_refuses x σ = some (z32 (-1), jS σ 84 k (z32 (hI σ 84 k + 1)).toInt) := by
  subst hx
  have e : z32 (hI σ 84 k) + 1 = z32 (z32 (hI σ 84 k + 1)).toInt := by rw [z32_of, z1p]
  unfold fX11_refuses
  rw [aI_h h0 (by omega) (by omega), e, wI_h h0 (by omega) (by omega), z32_litn, z32_neg]
/-- refusals are counted alike -/
theorem rlF_r (h : rlF σ σ) (h0 : 0 ≤ k) (h1 : k < 5) (e1 : ∀ i, 0 ≤ i → i ≠ k → hI φ 37 i = hI σ 37 i ∧ hI φ 84 i = hI σ 84 i) (e2 : hI φ 37 k = (z32 (hI σ 37 k + 1)).toInt) (e3 : hI φ 84 k = (z32 (hI σ 84 k + 1)).toInt) : rlF φ φ := fun i g0 g1 => by
  by_cases g : i = k
  · rw [g, e2, e3, h k h0 h1]
  · rw [(e1 i g0 g).1, (e1 i g0 g).2]; exact h i g0 g1
theorem z32_b (x : Int32) : -2147483648 ≤ x.toInt ∧ x.toInt < 2147483648 := ⟨Int32.le_toInt x, Int32.toInt_lt x⟩
def uF (k : Int) (p : Nat) (i : Int) : Prop := (p = 37 ∨ p = 84) ∧ i = k
theorem uF_s (hrp : rp σ.2.2.2.1 = 9 ∨ rp σ.2.2.2.1 = 38) {p : Nat} {i : Int} (h : uF k p i) : sfR σ p i := by
  unfold uF at h
  unfold sfR fpC fpM
  omega
/-- a call that touches neither road nor row nor history nor the chooser's cells -/
theorem inv_l (h : INV σ) (f : fr U σ φ) (uA : ∀ p k, 0 ≤ k → U p k → sfR σ p k ∧ p ≠ 27 ∧ p ≠ 31 ∧ p ≠ 5 ∧ ¬ fpN p k ∧ ¬ fpH p k) (hT : rlT σ σ → rlT φ φ) (hS : rlS σ σ → rlS φ φ) (hF : rlF σ σ → rlF φ φ) (hU : rlU σ σ → rlU φ φ) (hP : rlP σ σ → rlP φ φ) (hC : rlC σ σ → jE σ φ → rlC φ φ) : INV φ := by
  obtain ⟨oW, oT, h1, h2, h3, h4, h5, h6, h7, h8, h9, h10, h11⟩ := h
  have j := f_jE f (fun p k g u => (uA p k g u).1)
  exact inv_g h1 h10 f (fun p k g u => (uA p k g u).1) (KK_f h11 f j (fun p k g u => ⟨(uA p k g u).2.1, (uA p k g u).2.2.1, (uA p k g u).2.2.2.1⟩)) (iv_N j (sm_f f (fun p k g w u => (uA p k g u).2.2.2.2.1 w)) h1.1 h2) (hT h3) (hS h4) (hF h5) (hU h6) (hP h7) (hC h8 j) (iv_H j (sm_f f (fun p k g w u => (uA p k g u).2.2.2.2.2 w)) h1.1 h9)
theorem frF (h0 : 0 ≤ k) {v w : Int} : fr (uF k) σ (jS (jS σ 37 k v) 84 k w) := fr_t (fr_j h0 (by unfold uF; omega)) (fr_j h0 (by unfold uF; omega))
/-- refused by both -/
theorem inv_F (h : INV σ) (h0 : 0 ≤ k) (h1 : k < 5) : INV (jS (jS σ 37 k (z32 (hI σ 37 k + 1)).toInt) 84 k (z32 (hI (jS σ 37 k (z32 (hI σ 37 k + 1)).toInt) 84 k + 1)).toInt) := by
  have hrp := rp_or σ.2.2.2.1
  have z1 := z32_b (z32 (hI σ 37 k + 1))
  have z2 := z32_b (z32 (hI (jS σ 37 k (z32 (hI σ 37 k + 1)).toInt) 84 k + 1))
  refine inv_l h (frF h0) (fun p i g u => ?_) (iv_T (sm_f (frF h0) (fun p i g w u => by unfold fpT at w; unfold uF at u; omega))) (iv_S (sm_f (frF h0) (fun p i g w u => by unfold fpS at w; unfold uF at u; omega))) (fun hf => ?_) (iv_U (sm_f (frF h0) (fun p i g w u => by unfold fpU at w; unfold uF at u; omega))) (iv_P (sm_f (frF h0) (fun p i g w u => by unfold fpP at w; unfold uF at u; omega))) (fun hc j => iv_C j (sm_f (frF h0) (fun p i g w u => by unfold fpQ at w; unfold uF at u; omega)) hc)
  · refine ⟨uF_s hrp u, ?_⟩
    unfold uF at u
    unfold fpN fpH
    omega
  · refine rlF_r hf h0 h1 (fun i g0 g => ⟨?_, ?_⟩) ?_ ?_
    · rw [hI_jS_ne (by omega), hI_j0 h0 g0 (by omega)]
    · rw [hI_j0 h0 g0 (by omega), hI_jS_ne (by omega)]
    · rw [hI_jS_ne (by omega), hI_jS h0 h0 z1.1 z1.2, if_pos rfl]
    · rw [hI_jS h0 h0 z2.1 z2.2, if_pos rfl, hI_jS_ne (by omega)]
-- end
theorem C_end (h : INV σ) (h1 : -2147483648 ≤ a) (h2 : a < 2147483648) : CA (fX10_end (z32 a)) (fX11_end (z32 a)) σ := by
  have hrp := rp_or σ.2.2.2.1
  have hT : rlT σ σ := by obtain ⟨_, _, _, _, g, _⟩ := h; exact g
  obtain ⟨t1, t2, t3⟩ := hT
  have ec : iG σ 2 1 = z32 (hI σ 2 1) := iG_h σ 2 1
  have em : ∀ τ : zS, iG τ 56 1 = z32 (hI τ 56 1) := fun τ => iG_h τ 56 1
  have bad : fX10_end (z32 a) σ = fX10_end_15 σ → (∀ τ : zS, hI τ 56 1 = hI σ 2 1 → fX11_end (z32 a) τ = fX11_end_12 τ) → CA (fX10_end (z32 a)) (fX11_end (z32 a)) σ := fun g1 g2 => by
    refine ⟨z32 0, jS σ 37 0 (z32 (hI σ 37 0 + 1)).toInt, jS (jS σ 37 0 (z32 (hI σ 37 0 + 1)).toInt) 84 0 (z32 (hI (jS σ 37 0 (z32 (hI σ 37 0 + 1)).toInt) 84 0 + 1)).toInt, ?_, ?_, inv_F h (by omega) (by omega)⟩
    · rw [g1, fX10_end_15, ref_z (k := 0) (z32_litn 0) (by omega) (by omega), bnc_q, z32_litn]
    · rw [g2 _ (by rw [hI_jS_ne (by omega)]; exact t1), fX11_end_12, mref_z (k := 0) (z32_litn 0) (by omega) (by omega), bnc_q, if_pos (by rw [z32_litn, z32_lt (by omega) (by omega) (by omega) (by omega)]; omega), z32_litn]
  by_cases g : 0 ≤ a ∧ a ≤ hI σ 2 1
  · refine ⟨z32 1, jS σ 2 1 a, jS (jS σ 2 1 a) 56 1 a, ?_, ?_, ?_⟩
    · simp (disch := omega) only [fX10_end, z32_add, z32_sub, z32_mul, z32_neg, z32_litn, z32_lt, z32_le, z32_eq, iG_h, lG_h, iS_q, lS_q, aI_h, wI_h, aL_h, wL_h, ↓bnd_q, bnr_q, bnc_q, ↓reduceIte, ieqT, ieqF, iltT, iltF, ileT, ileF, not_true, not_false_iff]
    · have e56 : hI (jS σ 2 1 a) 56 1 = hI σ 2 1 := by rw [hI_jS_ne (by omega)]; exact t1
      simp (disch := omega) only [fX11_end, z32_add, z32_sub, z32_mul, z32_neg, z32_litn, z32_lt, z32_le, z32_eq, iG_h, lG_h, iS_q, lS_q, aI_h, wI_h, aL_h, wL_h, ↓bnd_q, bnr_q, bnc_q, ↓reduceIte, ieqT, ieqF, iltT, iltF, ileT, ileF, not_true, not_false_iff, e56]
    · have f : fr (fun p k => (p = 2 ∧ k = 1) ∨ (p = 56 ∧ k = 1)) σ (jS (jS σ 2 1 a) 56 1 a) := fr_t (fr_j (by omega) (by omega)) (fr_j (by omega) (by omega))
      refine inv_l h f (fun p i g u => ?_) (fun ht => ?_) (iv_S (sm_f f (fun p i g w u => by unfold fpS at w; omega))) (iv_F (sm_f f (fun p i g w u => by unfold fpF at w; omega))) (iv_U (sm_f f (fun p i g w u => by unfold fpU at w; omega))) (iv_P (sm_f f (fun p i g w u => by unfold fpP at w; omega))) (fun hc j => iv_C j (sm_f f (fun p i g w u => by unfold fpQ at w; omega)) hc)
      · unfold sfR fpC fpM fpN fpH
        omega
      · refine ⟨?_, ?_, fun k g0 g1 => ?_⟩
        · rw [hI_jS (by omega) (by omega) (by omega) (by omega), if_pos rfl, hI_jS_ne (by omega), hI_jS (by omega) (by omega) (by omega) (by omega), if_pos rfl]
        · rw [hI_jS_ne (by omega), hI_jS (by omega) (by omega) (by omega) (by omega), if_pos rfl]; omega
        · rw [hI_jS_ne (by omega), hI_jS_ne (by omega), tx_c (A := σ) (by rw [hI_jS_ne (by omega), hI_jS_ne (by omega)])]; exact t3 k g0 g1
  · by_cases g1 : a < 0
    · exact bad (by simp (disch := omega) only [fX10_end, z32_add, z32_sub, z32_mul, z32_neg, z32_litn, z32_lt, z32_le, z32_eq, iG_h, lG_h, iS_q, lS_q, aI_h, wI_h, aL_h, wL_h, ↓bnd_q, bnr_q, bnc_q, ↓reduceIte, ieqT, ieqF, iltT, iltF, ileT, ileF, not_true, not_false_iff]) (fun τ _ => by simp (disch := omega) only [fX11_end, z32_add, z32_sub, z32_mul, z32_neg, z32_litn, z32_lt, z32_le, z32_eq, iG_h, lG_h, iS_q, lS_q, aI_h, wI_h, aL_h, wL_h, ↓bnd_q, bnr_q, bnc_q, ↓reduceIte, ieqT, ieqF, iltT, iltF, ileT, ileF, not_true, not_false_iff])
    · exact bad (by simp (disch := omega) only [fX10_end, z32_add, z32_sub, z32_mul, z32_neg, z32_litn, z32_lt, z32_le, z32_eq, iG_h, lG_h, iS_q, lS_q, aI_h, wI_h, aL_h, wL_h, ↓bnd_q, bnr_q, bnc_q, ↓reduceIte, ieqT, ieqF, iltT, iltF, ileT, ileF, not_true, not_false_iff]) (fun τ e => by simp (disch := omega) only [fX11_end, z32_add, z32_sub, z32_mul, z32_neg, z32_litn, z32_lt, z32_le, z32_eq, iG_h, lG_h, iS_q, lS_q, aI_h, wI_h, aL_h, wL_h, ↓bnd_q, bnr_q, bnc_q, ↓reduceIte, ieqT, ieqF, iltT, iltF, ileT, ileF, not_true, not_false_iff, e])
-- seed
theorem C_seed (h : INV σ) (h1 : -2147483648 ≤ a) (h2 : a < 2147483648) : CA (fX10_seed (z32 a)) (fX11_seed (z32 a)) σ := by
  have hrp := rp_or σ.2.2.2.1
  by_cases g : 0 ≤ a
  · refine ⟨z32 1, jS σ 1 10 a, kS (jS σ 1 10 a) 56 59 a, ?_, ?_, ?_⟩
    · simp (disch := omega) only [fX10_seed, z32_add, z32_sub, z32_mul, z32_neg, z32_litn, z32_lt, z32_le, z32_eq, iG_h, lG_h, iS_q, lS_q, aI_h, wI_h, aL_h, wL_h, ↓bnd_q, bnr_q, bnc_q, ↓reduceIte, ieqT, ieqF, iltT, iltF, ileT, ileF, not_true, not_false_iff]
    · simp (disch := omega) only [fX11_seed, z32_add, z32_sub, z32_mul, z32_neg, z32_litn, z32_lt, z32_le, z32_eq, iG_h, lG_h, iS_q, lS_q, aI_h, wI_h, aL_h, wL_h, ↓bnd_q, bnr_q, bnc_q, ↓reduceIte, ieqT, ieqF, iltT, iltF, ileT, ileF, not_true, not_false_iff, z64_add, z64_sub, z64_mul, z64_neg, z64_litn, z64_lt, z64_le, z64_eq, z32_64, z64_32]
    · have f : fr (fun p k => (p = 1 ∧ k = 10) ∨ (p = 56 ∧ k = 59)) σ (kS (jS σ 1 10 a) 56 59 a) := fr_t (fr_j (by omega) (by omega)) (fr_k (by omega) (by omega))
      refine inv_l h f (fun p i g u => ?_) (iv_T (sm_f f (fun p i g w u => by unfold fpT at w; omega))) (fun _ => ?_) (iv_F (sm_f f (fun p i g w u => by unfold fpF at w; omega))) (iv_U (sm_f f (fun p i g w u => by unfold fpU at w; omega))) (iv_P (sm_f f (fun p i g w u => by unfold fpP at w; omega))) (fun hc j => iv_C j (sm_f f (fun p i g w u => by unfold fpQ at w; omega)) hc)
      · unfold sfR fpC fpM fpN fpH
        omega
      · refine ⟨?_, ?_⟩
        · rw [hL_kS (by omega) (by omega) (by omega) (by omega), if_pos rfl, hI_kS, hI_jS (by omega) (by omega) (by omega) (by omega), if_pos rfl]
        · rw [hI_kS, hI_jS (by omega) (by omega) (by omega) (by omega), if_pos rfl]; exact g
  · refine ⟨z32 0, jS σ 37 4 (z32 (hI σ 37 4 + 1)).toInt, jS (jS σ 37 4 (z32 (hI σ 37 4 + 1)).toInt) 84 4 (z32 (hI (jS σ 37 4 (z32 (hI σ 37 4 + 1)).toInt) 84 4 + 1)).toInt, ?_, ?_, inv_F h (by omega) (by omega)⟩
    · rw [fX10_seed, if_neg (by rw [z32_litn, z32_le (by omega) (by omega) (by omega) (by omega)]; omega), ref_z (k := 4) (z32_litn 4) (by omega) (by omega), bnc_q, z32_litn]
    · rw [fX11_seed, if_neg (by rw [z32_litn, z32_le (by omega) (by omega) (by omega) (by omega)]; omega), mref_z (k := 4) (z32_litn 4) (by omega) (by omega), bnc_q, if_pos (by rw [z32_litn, z32_lt (by omega) (by omega) (by omega) (by omega)]; omega), z32_litn]
end FD

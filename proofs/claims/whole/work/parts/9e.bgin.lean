/-! MY OWN: road: how the reading begins, both sides -/
section BG
variable {A B C σ τ υ φ T : zS} {c : Int → Int} {N b bk q k p m : Int} {d : Bool}
/-- all but the flags stays -/
def fz (P : Nat → Int → Prop) (σ τ : zS) : Prop := ∀ p k, 0 ≤ k → ¬ P p k → hI τ p k = hI σ p k ∧ hL τ p k = hL σ p k
theorem fz_f {P : Nat → Int → Prop} (f : fr P σ τ) : fz P σ τ := f.2
theorem fz_t {P : Nat → Int → Prop} (h1 : fz P σ τ) (h2 : fz P τ υ) : fz P σ υ := fun p k a b => ⟨(h2 p k a b).1.trans (h1 p k a b).1, (h2 p k a b).2.trans (h1 p k a b).2⟩
theorem fz_m {P Q : Nat → Int → Prop} (h : fz P σ τ) (hp : ∀ p k, 0 ≤ k → P p k → Q p k) : fz Q σ τ := fun p k a b => h p k a (fun g => b (hp p k a g))
theorem sm_z {P Q : Nat → Int → Prop} (h : fz Q σ τ) (hp : ∀ p k, 0 ≤ k → P p k → ¬ Q p k) : sm P σ τ := fun p k a b => ⟨(h p k a (hp p k a b)).1, fun _ => (h p k a (hp p k a b)).2⟩
/-- the one side, as the reading begins -/
theorem bgn_z : ∃ A, fX5_begin d σ = some A ∧ A.2.2 = (σ.2.2.1, σ.2.2.2.1, d) ∧ fz (cRa (rp d)) σ A ∧ (hI A 54 3 = 0 ∧ hI A 54 9 = 0 ∧ hI A 54 10 = -1) ∧ (∀ k, 0 ≤ k → k < 5 → hI A (rp d + 0) k = 0) ∧ (∀ k, 0 ≤ k → k < 6 → hI A (rp d + 3) k = 0) ∧ (∀ k, 0 ≤ k → k < 6 → hI A (rp d + 9) k = 60) ∧ (∀ k, 0 ≤ k → k < 36 → hI A (rp d + 10) k = 0) ∧ hI A (rp d + 11) 3 = 0 ∧ (∀ k, 0 ≤ k → k < 2 → hI A (rp d + 14) k = 0) ∧ (∀ k, 0 ≤ k → k < 2 → hI A (rp d + 15) k = 0) := by
  have hrp := rp_or d
  obtain ⟨s0, hs0⟩ : ∃ s0, s0 = qS σ (σ.2.2.1, σ.2.2.2.1, d) := ⟨_, rfl⟩
  have f0 : fz (cRa (rp d)) σ s0 := by rw [hs0]; exact fun p k _ _ => ⟨rfl, rfl⟩
  obtain ⟨s5, hs5⟩ : ∃ s5, s5 = jS (jS (jS (jS (jS s0 (rp d + 0) 0 0) (rp d + 0) 1 0) (rp d + 0) 2 0) (rp d + 0) 3 0) (rp d + 0) 4 0 := ⟨_, rfl⟩
  have f5 : fr (cRa (rp d)) s0 s5 := by
    rw [hs5]
    exact fr_t (fr_t (fr_t (fr_t (fr_j (by omega) (by unfold cRa; omega)) (fr_j (by omega) (by unfold cRa; omega))) (fr_j (by omega) (by unfold cRa; omega))) (fr_j (by omega) (by unfold cRa; omega))) (fr_j (by omega) (by unfold cRa; omega))
  have v5 : ∀ k, 0 ≤ k → k < 5 → hI s5 (rp d + 0) k = 0 := fun k g0 g1 => by
    rw [hs5, hI_jS (by omega) g0 (by omega) (by omega), hI_jS (by omega) g0 (by omega) (by omega), hI_jS (by omega) g0 (by omega) (by omega), hI_jS (by omega) g0 (by omega) (by omega), hI_jS (by omega) g0 (by omega) (by omega)]
    rcases (by omega : k = 0 ∨ k = 1 ∨ k = 2 ∨ k = 3 ∨ k = 4) with g | g | g | g | g <;> subst g <;> rfl
  obtain ⟨s6, a1, a2, a3⟩ := fillI_z (σ := s5) (c := rp d + 3) (n := 6) (v := 0) (by omega) (by omega)
  obtain ⟨s7, b1, b2, b3⟩ := fillI_z (σ := s6) (c := rp d + 9) (n := 6) (v := 60) (by omega) (by omega)
  obtain ⟨s8, c1, c2, c3⟩ := fillI_z (σ := s7) (c := rp d + 10) (n := 36) (v := 0) (by omega) (by omega)
  obtain ⟨s9, hs9⟩ : ∃ s9, s9 = jS s8 (rp d + 11) 3 0 := ⟨_, rfl⟩
  obtain ⟨sa, d1, d2, d3⟩ := fillI_z (σ := s9) (c := rp d + 14) (n := 2) (v := 0) (by omega) (by omega)
  obtain ⟨sb, e1, e2, e3⟩ := fillI_z (σ := sa) (c := rp d + 15) (n := 2) (v := 0) (by omega) (by omega)
  obtain ⟨A, hA⟩ : ∃ A, A = jS (jS (jS sb 54 3 0) 54 9 0) 54 10 (-1) := ⟨_, rfl⟩
  have f9 : fr (cRa (rp d)) s8 s9 := by rw [hs9]; exact fr_j (by omega) (by unfold cRa; omega)
  have fA : fr (fun p _ => p = 54) sb A := by
    rw [hA]; exact fr_t (fr_t (fr_j (by omega) (by omega)) (fr_j (by omega) (by omega))) (fr_j (by omega) (by omega))
  have fin : fr (cRa (rp d)) s0 A := fr_t (fr_t (fr_t (fr_t (fr_t (fr_t (fr_t f5 (fr_oI a2 (fun k _ => by unfold cRa; omega))) (fr_oI b2 (fun k _ => by unfold cRa; omega))) (fr_oI c2 (fun k _ => by unfold cRa; omega))) f9) (fr_oI d2 (fun k _ => by unfold cRa; omega))) (fr_oI e2 (fun k _ => by unfold cRa; omega))) (fr_m fA (fun p k _ u => by unfold cRa; omega))
  have tA : ∀ p k, p ≠ 54 → 0 ≤ k → hI A p k = hI sb p k := fun p k g0 g1 => (fA.2 p k g1 (by omega)).1
  have t9 : ∀ p k, p ≠ rp d + 11 → hI s9 p k = hI s8 p k := fun p k g => by rw [hs9, hI_jS_ne g]
  refine ⟨A, ?_, by rw [fin.1, hs0]; rfl, fz_t f0 (fz_f fin), ⟨?_, ?_, ?_⟩, fun k g0 g1 => ?_, fun k g0 g1 => ?_, fun k g0 g1 => ?_, fun k g0 g1 => ?_, ?_, fun k g0 g1 => ?_, fun k g0 g1 => ?_⟩
  · have k8 : fX8_clear d s8 = some sb := by
      unfold fX8_clear
      rw [show (0 : Int32) = z32 0 from z32_litn 0, iS_q, bnd_q, ← hs9, d1, bnr_q, e1, bnr_q]
    have k6 : fX6_clear d s0 = some sb := by
      unfold fX6_clear
      rw [show (0 : Int32) = z32 0 from z32_litn 0, show (60 : Int32) = z32 60 from z32_litn 60, iS_q, bnd_q, iS_q, bnd_q, iS_q, bnd_q, iS_q, bnd_q, iS_q, bnd_q, ← hs5, a1, bnr_q, b1, bnr_q, c1, bnr_q, k8, bnr_q]
    have ed : s0.2.2.2.2 = d := by rw [hs0]; rfl
    unfold fX5_begin
    rw [← hs0, bnd_q, ed, k6, bnr_q, show (0 : Int32) = z32 0 from z32_litn 0, show (-1 : Int32) = z32 (-1) by rw [z32_litn, z32_neg], iS_q, bnd_q, iS_q, bnd_q, iS_q, bnd_q, ← hA]
  · rw [hA, hI_jS (by omega) (by omega) (by omega) (by omega), if_neg (by omega), hI_jS (by omega) (by omega) (by omega) (by omega), if_neg (by omega), hI_jS (by omega) (by omega) (by omega) (by omega), if_pos rfl]
  · rw [hA, hI_jS (by omega) (by omega) (by omega) (by omega), if_neg (by omega), hI_jS (by omega) (by omega) (by omega) (by omega), if_pos rfl]
  · rw [hA, hI_jS (by omega) (by omega) (by omega) (by omega), if_pos rfl]
  · rw [tA _ k (by omega) g0, e2.2.2 _ k (by omega), d2.2.2 _ k (by omega), t9 _ k (by omega), c2.2.2 _ k (by omega), b2.2.2 _ k (by omega), a2.2.2 _ k (by omega)]; exact v5 k g0 g1
  · rw [tA _ k (by omega) g0, e2.2.2 _ k (by omega), d2.2.2 _ k (by omega), t9 _ k (by omega), c2.2.2 _ k (by omega), b2.2.2 _ k (by omega)]; exact a3 k g0 (by omega)
  · rw [tA _ k (by omega) g0, e2.2.2 _ k (by omega), d2.2.2 _ k (by omega), t9 _ k (by omega), c2.2.2 _ k (by omega)]; exact b3 k g0 (by omega)
  · rw [tA _ k (by omega) g0, e2.2.2 _ k (by omega), d2.2.2 _ k (by omega), t9 _ k (by omega)]; exact c3 k g0 (by omega)
  · rw [tA _ 3 (by omega) (by omega), e2.2.2 _ 3 (by omega), d2.2.2 _ 3 (by omega), hs9, hI_jS (by omega) (by omega) (by omega) (by omega), if_pos rfl]
  · rw [tA _ k (by omega) g0, e2.2.2 _ k (by omega)]; exact d3 k g0 (by omega)
  · rw [tA _ k (by omega) g0]; exact e3 k g0 (by omega)
-- the other side
def mB0 (T : zS) (N b : Int) : zS := jS (jS (jS (jS (jS (jS (jS (jS (jS (jS (jS (jS (jS T 56 2 N) 56 1 0) 56 5 0) 56 8 0) 56 9 (-1)) 56 35 b) 58 b 0) 63 b 0) 68 b (-1)) 70 b (-1)) 72 b 0) 73 b 0) 56 34 0
def mbU (b : Int) (p : Nat) (k : Int) : Prop := (p = 56 ∧ (k = 1 ∨ k = 2 ∨ k = 5 ∨ k = 8 ∨ k = 9 ∨ k = 34 ∨ k = 35)) ∨ ((p = 58 ∨ p = 63 ∨ p = 68 ∨ p = 70 ∨ p = 72 ∨ p = 73) ∧ k = b)
theorem mB0_f (hb : 0 ≤ b) : fr (mbU b) T (mB0 T N b) := by
  unfold mB0
  exact fr_t (fr_t (fr_t (fr_t (fr_t (fr_t (fr_t (fr_t (fr_t (fr_t (fr_t (fr_t (fr_j (by omega) (by unfold mbU; omega)) (fr_j (by omega) (by unfold mbU; omega))) (fr_j (by omega) (by unfold mbU; omega))) (fr_j (by omega) (by unfold mbU; omega))) (fr_j (by omega) (by unfold mbU; omega))) (fr_j (by omega) (by unfold mbU; omega))) (fr_j hb (by unfold mbU; omega))) (fr_j hb (by unfold mbU; omega))) (fr_j hb (by unfold mbU; omega))) (fr_j hb (by unfold mbU; omega))) (fr_j hb (by unfold mbU; omega))) (fr_j hb (by unfold mbU; omega))) (fr_j (by omega) (by unfold mbU; omega))
theorem mB0_56 (hb : 0 ≤ b ∧ b ≤ 1) (hN : 0 ≤ N ∧ N ≤ 1600) : hI (mB0 T N b) 56 1 = 0 ∧ hI (mB0 T N b) 56 2 = N ∧ hI (mB0 T N b) 56 5 = 0 ∧ hI (mB0 T N b) 56 8 = 0 ∧ hI (mB0 T N b) 56 9 = -1 ∧ hI (mB0 T N b) 56 35 = b ∧ hI (mB0 T N b) 56 34 = 0 := by
  unfold mB0
  refine ⟨?_, ?_, ?_, ?_, ?_, ?_, ?_⟩ <;> simp (disch := omega) only [hI_jS, hI_jS_ne, ↓reduceIte, ieqT, ieqF, iltT, iltF, ileT, ileF, not_true, not_false_iff]
theorem mB0_x (hb : 0 ≤ b ∧ b ≤ 1) : hI (mB0 T N b) 58 b = 0 ∧ hI (mB0 T N b) 63 b = 0 ∧ hI (mB0 T N b) 68 b = -1 ∧ hI (mB0 T N b) 70 b = -1 ∧ hI (mB0 T N b) 72 b = 0 ∧ hI (mB0 T N b) 73 b = 0 := by
  unfold mB0
  refine ⟨?_, ?_, ?_, ?_, ?_, ?_⟩ <;> simp (disch := omega) only [hI_jS, hI_jS_ne, ↓reduceIte, ieqT, ieqF, iltT, iltF, ileT, ileF, not_true, not_false_iff]
theorem mB0_r (e1 : hI T 56 1 = N) (e13 : hI T 56 13 = 1 - b) (hb : 0 ≤ b ∧ b ≤ 1) (hN : 0 ≤ N ∧ N ≤ 1600) : fX11_road T = bnr (fX11_ahead (mB0 T N b)) fun σ14 => fX11_road_109 zF (z32 0) σ14 := by
  have eb : 1 - (1 - b) = b := by omega
  unfold mB0
  simp (disch := omega) only [fX11_road, z32_add, z32_sub, z32_mul, z32_neg, z32_litn, z32_lt, z32_le, z32_eq, iG_h, lG_h, iS_q, lS_q, aI_h, wI_h, aL_h, wL_h, ↓bnd_q, bnr_q, bnc_q, ↓reduceIte, ieqT, ieqF, iltT, iltF, ileT, ileF, not_true, not_false_iff, hI_jS, hI_jS_ne, e1, e13, eb]
/-- both sides are at the loop over statements -/
theorem LH_0 (hA : A.2.2 = (σ.2.2.1, σ.2.2.2.1, d)) (f : fz (cRa (rp d)) σ A) (h54 : hI A 54 3 = 0 ∧ hI A 54 9 = 0 ∧ hI A 54 10 = -1) (v0 : ∀ k, 0 ≤ k → k < 5 → hI A (rp d + 0) k = 0) (v3 : ∀ k, 0 ≤ k → k < 6 → hI A (rp d + 3) k = 0) (v9 : ∀ k, 0 ≤ k → k < 6 → hI A (rp d + 9) k = 60) (v10 : ∀ k, 0 ≤ k → k < 36 → hI A (rp d + 10) k = 0) (v11 : hI A (rp d + 11) 3 = 0) (v14 : ∀ k, 0 ≤ k → k < 2 → hI A (rp d + 14) k = 0) (v15 : ∀ k, 0 ≤ k → k < 2 → hI A (rp d + 15) k = 0) (hO : OWN σ) (hN : hI σ 2 1 = N) (hN' : 0 ≤ N ∧ N ≤ 1600) (e57 : ∀ k, 0 ≤ k → k < 1600 → hI T 57 k = tx σ k) (hb : 0 ≤ b ∧ b ≤ 1) : ∃ τ q, fX11_ahead (mB0 T N b) = some τ ∧ oM (mB0 T N b) τ ∧ LH A τ (tx σ) N d b 0 q 0 := by
  have hrp := rp_or d
  obtain ⟨x1, x2, x5, x8, x9, x35, x34⟩ := mB0_56 (T := T) hb hN'
  obtain ⟨y58, y63, y68, y70, y72, y73⟩ := mB0_x (T := T) (N := N) hb
  have fB := mB0_f (T := T) (N := N) hb.1
  have hM : MX (mB0 T N b) (tx σ) N := ⟨x2, hN', fun k g0 g1 => ⟨by rw [(fB.2 57 k g0 (by unfold mbU; omega)).1]; exact e57 k g0 (by omega), tx_b σ k⟩⟩
  obtain ⟨τ, q, t1, t2, t3, t4⟩ := hd_m (a := 0) hM ⟨x2, rfl, rfl, x5, rfl, rfl, x8, x9, rfl⟩ (by omega) (by omega)
  have o1 : ∀ p k, p ≠ 56 → hI τ p k = hI (mB0 T N b) p k := fun p k g => (t2.2.1 p k g).1
  have o56 : ∀ k, 0 ≤ k → (k < 3 ∨ 6 < k) → k ≠ 8 → k ≠ 9 → k ≠ 12 → hI τ 56 k = hI (mB0 T N b) 56 k := t2.2.2.1
  have z0 := v0 0 (by omega) (by omega)
  have z1 := v0 1 (by omega) (by omega)
  have z2 := v0 2 (by omega) (by omega)
  have z3 := v0 3 (by omega) (by omega)
  have z4 := v0 4 (by omega) (by omega)
  have w35 : hI τ 56 35 = b := by rw [o56 35 (by omega) (by omega) (by omega) (by omega) (by omega), x35]
  have w34 : hI τ 56 34 = 0 := by rw [o56 34 (by omega) (by omega) (by omega) (by omega) (by omega), x34]
  have w58 : hI τ 58 b = 0 := by rw [o1 58 b (by omega), y58]
  have w63 : hI τ 63 b = 0 := by rw [o1 63 b (by omega), y63]
  have w68 : hI τ 68 b = -1 := by rw [o1 68 b (by omega), y68]
  have w70 : hI τ 70 b = -1 := by rw [o1 70 b (by omega), y70]
  have w72 : hI τ 72 b = 0 := by rw [o1 72 b (by omega), y72]
  have w73 : hI τ 73 b = 0 := by rw [o1 73 b (by omega), y73]
  refine ⟨τ, q, t1, t2, ⟨⟨?_, ?_, ?_⟩, fun i g0 g1 => ?_, ?_⟩, ⟨h54.1, h54.2.1, h54.2.2, z0⟩, ⟨by omega, fun g => by unfold sdP at g; omega, t3, Or.inl (by omega), by omega, by omega⟩, ?_, t4⟩
  · rw [(f 2 1 (by omega) (by unfold cRa; omega)).1, hN]
  · exact hN'
  · intro k g0 g1
    exact tx_c (f 3 k g0 (by unfold cRa; omega)).1
  · rw [(f 55 i g0 (by unfold cRa; omega)).1]; exact hO i g0 g1
  · refine ⟨by rw [o56 2 (by omega) (by omega) (by omega) (by omega) (by omega), x2], hN', fun k g0 g1 => ?_⟩
    rw [o1 57 k (by omega)]; exact hM.2.2 k g0 g1
  · refine ⟨by rw [hA], ⟨⟨w35, hb⟩, ⟨by rw [w58, z1], by rw [z1]; omega, by rw [z1]; omega⟩, ⟨by rw [w63, z2], by rw [z2]; omega, by rw [z2]; omega⟩, fun t g0 g1 => by rw [z1] at g1; omega, fun h g0 g1 => by rw [z2] at g1; omega⟩, ⟨fun t g0 g1 => by rw [z1] at g1; omega, fun t g0 g1 => by rw [z1] at g0; exact v3 t g0 g1⟩, ⟨fun h g0 g1 => by rw [z2] at g1; omega, fun h g0 g1 => by rw [z2] at g0; exact ⟨v9 h g0 g1, fun t w0 w1 => v10 _ (by omega) (by omega)⟩⟩, ⟨⟨by rw [w72, z3], by rw [z3]; omega, by rw [z3]; omega⟩, ⟨by rw [w73, z4], by rw [z4]; omega, by rw [z4]; omega⟩⟩, ⟨none, none, ⟨v14 0 (by omega) (by omega), v15 0 (by omega) (by omega), w68⟩, ⟨v14 1 (by omega) (by omega), v15 1 (by omega) (by omega), w70⟩⟩, ⟨⟨by rw [v11]; omega, by rw [v11]; omega⟩, ⟨by rw [w34]; omega, by rw [w34]; omega⟩⟩⟩
end BG

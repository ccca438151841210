/-! MY OWN: road: how it ends, both sides -/
def rgU (p : Nat) (k : Int) : Prop := (p = 2 ∧ k = 1) ∨ p = 5 ∨ (p = 6 ∧ k = 2) ∨ (p = 32 ∧ k = 3) ∨ (p = 27 ∧ (k = 4 ∨ k = 10))
def rmU (p : Nat) (k : Int) : Prop := (p = 56 ∧ (k = 10 ∨ k = 11 ∨ k = 13 ∨ k = 58 ∨ k = 72)) ∨ ((p = 85 ∨ p = 90) ∧ k = 0) ∨ ((86 ≤ p ∧ p ≤ 88) ∧ k < 6) ∨ (p = 89 ∧ k < 36)
section RE
variable {A B C σ τ υ φ T : zS} {N b k p m x : Int} {d j : Bool}
/-- the row as at first -/
theorem rowb_z : ∃ τ, fX7_begin d σ = some τ ∧ oIa 5 σ τ ∧ hI τ 5 0 = 0 ∧ hI τ 5 1 = 0 ∧ (∀ h, 0 ≤ h → h < 6 → hI τ 5 (50 + h) = hI σ (rp d + 7) h ∧ hI τ 5 (56 + h) = hI σ (rp d + 9) h ∧ hI τ 5 (62 + h) = 0) ∧ ∀ i, 0 ≤ i → i < 36 → hI τ 5 (68 + i) = hI σ (rp d + 10) i := by
  have hrp := rp_or d
  obtain ⟨s0, hs0⟩ : ∃ s0, s0 = jS (jS σ 5 0 0) 5 1 0 := ⟨_, rfl⟩
  have o0 : oIa 5 σ s0 := by rw [hs0]; exact oIa_t oIa_j oIa_j
  have go : fX7_begin d σ = fX7_begin_16 d zF (z32 0) s0 := by
    simp (disch := omega) only [fX7_begin, z32_add, z32_sub, z32_mul, z32_neg, z32_litn, z32_lt, z32_le, z32_eq, iG_h, lG_h, iS_q, lS_q, aI_h, wI_h, aL_h, wL_h, ↓bnd_q, bnr_q, bnc_q, ↓reduceIte, ieqT, ieqF, iltT, iltF, ileT, ileF, not_true, not_false_iff, ← hs0]
  rw [go]
  refine zupP0 (β := zS) (L := fun f x a => fX7_begin_16 d f (z32 x) a) (n := 6) (Q := fun r => ∃ τ, r = some τ ∧ oIa 5 σ τ ∧ hI τ 5 0 = 0 ∧ hI τ 5 1 = 0 ∧ (∀ h, 0 ≤ h → h < 6 → hI τ 5 (50 + h) = hI σ (rp d + 7) h ∧ hI τ 5 (56 + h) = hI σ (rp d + 9) h ∧ hI τ 5 (62 + h) = 0) ∧ ∀ i, 0 ≤ i → i < 36 → hI τ 5 (68 + i) = hI σ (rp d + 10) i)
    (fun x a => oIa 5 σ a ∧ hI a 5 0 = 0 ∧ hI a 5 1 = 0 ∧ ∀ h, 0 ≤ h → h < x → hI a 5 (50 + h) = hI σ (rp d + 7) h ∧ hI a 5 (56 + h) = hI σ (rp d + 9) h ∧ hI a 5 (62 + h) = 0) (a := s0) (by omega) (by omega) ⟨o0, ?_, ?_, fun h g0 g1 => by omega⟩ ?_ ?_
  · rw [hs0, hI_jS (by omega) (by omega) (by omega) (by omega), if_neg (by omega), hI_jS (by omega) (by omega) (by omega) (by omega), if_pos rfl]
  · rw [hs0, hI_jS (by omega) (by omega) (by omega) (by omega), if_pos rfl]
  · intro f x a hx hx' ⟨p1, p2, p3, p4⟩
    have e7 : hI a (rp d + 7) x = hI σ (rp d + 7) x := p1.2.2 _ x (by omega)
    have e9 : hI a (rp d + 9) x = hI σ (rp d + 9) x := p1.2.2 _ x (by omega)
    have l1 := hI_lo σ (rp d + 7) x
    have l2 := hI_hi σ (rp d + 7) x
    have l3 := hI_lo σ (rp d + 9) x
    have l4 := hI_hi σ (rp d + 9) x
    obtain ⟨a3, ha3⟩ : ∃ a3, a3 = jS (jS (jS a 5 (50 + x) (hI σ (rp d + 7) x)) 5 (56 + x) (hI σ (rp d + 9) x)) 5 (62 + x) 0 := ⟨_, rfl⟩
    have r3 : ∀ k, 0 ≤ k → hI a3 5 k = if k = 62 + x then 0 else if k = 56 + x then hI σ (rp d + 9) x else if k = 50 + x then hI σ (rp d + 7) x else hI a 5 k := fun k g => by
      rw [ha3, hI_jS (by omega) g (by omega) (by omega), hI_jS (by omega) g l3 l4, hI_jS (by omega) g l1 l2]
    refine ⟨a3, ?_, ?_, ?_, ?_, fun h g0 g1 => ?_⟩
    · simp (disch := omega) only [fX7_begin_16, z32_add, z32_sub, z32_mul, z32_neg, z32_litn, z32_lt, z32_le, z32_eq, iG_h, lG_h, iS_q, lS_q, aI_h, wI_h, aL_h, wL_h, ↓bnd_q, bnr_q, bnc_q, ↓reduceIte, ieqT, ieqF, iltT, iltF, ileT, ileF, not_true, not_false_iff, hI_jS_ne, e7, e9, ← ha3]
    · rw [ha3]; exact oIa_t p1 (oIa_t (oIa_t oIa_j oIa_j) oIa_j)
    · rw [r3 0 (by omega), if_neg (by omega), if_neg (by omega), if_neg (by omega), p2]
    · rw [r3 1 (by omega), if_neg (by omega), if_neg (by omega), if_neg (by omega), p3]
    · by_cases gh : h = x
      · subst gh
        refine ⟨?_, ?_, ?_⟩
        · rw [r3 _ (by omega), if_neg (by omega), if_neg (by omega), if_pos rfl]
        · rw [r3 _ (by omega), if_neg (by omega), if_pos rfl]
        · rw [r3 _ (by omega), if_pos rfl]
      · obtain ⟨q1, q2, q3⟩ := p4 h g0 (by omega)
        refine ⟨?_, ?_, ?_⟩
        · rw [r3 _ (by omega), if_neg (by omega), if_neg (by omega), if_neg (by omega)]; exact q1
        · rw [r3 _ (by omega), if_neg (by omega), if_neg (by omega), if_neg (by omega)]; exact q2
        · rw [r3 _ (by omega), if_neg (by omega), if_neg (by omega), if_neg (by omega)]; exact q3
  · intro f a ⟨p1, p2, p3, p4⟩
    obtain ⟨τ, t1, t2, t3⟩ := wC_z (β := zS) (σ := a) (x := rp d + 10) (y := 5) (nx := 36) (ny := 104) (a := 0) (b := 68) (n := 36) (F := fun σ3 => some σ3) (by omega) (by omega) (by omega) (by omega) (by omega) (by omega) (by omega) (by omega)
    refine ⟨τ, ?_, oIa_t p1 t2, ?_, ?_, fun h g0 g1 => ?_, fun i g0 g1 => ?_⟩
    · show fX7_begin_16 d (f + 1) (z32 6) a = _
      rw [fX7_begin_16, if_pos (by rw [z32_litn, z32_le (by omega) (by omega) (by omega) (by omega)]; omega), show (0 : Int32) = z32 0 from z32_litn 0, show (68 : Int32) = z32 68 from z32_litn 68, show (36 : Int32) = z32 36 from z32_litn 36, t1]
    · rw [t3 0 (by omega), if_neg (by omega), p2]
    · rw [t3 1 (by omega), if_neg (by omega), p3]
    · rw [t3 _ (by omega), if_neg (by omega), t3 _ (by omega), if_neg (by omega), t3 _ (by omega), if_neg (by omega)]; exact p4 h g0 g1
    · rw [t3 _ (by omega), if_pos (by omega), show 0 + (68 + i - 68) = i by omega, p1.2.2 _ i (by omega)]
theorem r42_g (h9 : hI C 54 9 = 0) (hfl : C.2.2 = (d, j, d)) : ∃ B, fX10_road_42 C = some (z32 (hI C (rp d + 0) 0), B) ∧ B.2.2 = (j, d, d) ∧ fz rgU C B ∧ hI B 2 1 = 0 ∧ hI B 5 0 = 0 ∧ hI B 5 1 = 0 ∧ (∀ h, 0 ≤ h → h < 6 → hI B 5 (50 + h) = hI C (rp d + 7) h ∧ hI B 5 (56 + h) = hI C (rp d + 9) h ∧ hI B 5 (62 + h) = 0) ∧ (∀ i, 0 ≤ i → i < 36 → hI B 5 (68 + i) = hI C (rp d + 10) i) ∧ hI B 6 2 = 0 ∧ hI B 32 3 = 0 ∧ hI B 27 4 = -1 ∧ hI B 27 10 = -1 := by
  have hrp := rp_or d
  obtain ⟨s3, hs3⟩ : ∃ s3, s3 = jS C 2 1 0 := ⟨_, rfl⟩
  have q3 : s3.2.2 = (d, j, d) := by rw [hs3, fl_jS, hfl]
  obtain ⟨s5, hs5⟩ : ∃ s5, s5 = qS (qS s3 (j, j, d)) (j, d, d) := ⟨_, rfl⟩
  have q5 : s5.2.2 = (j, d, d) := by rw [hs5]; rfl
  have i5 : ∀ p k, hI s5 p k = hI s3 p k := fun p k => by rw [hs5]; rfl
  have l5 : ∀ p k, hL s5 p k = hL s3 p k := fun p k => by rw [hs5]; rfl
  obtain ⟨s6, a1, a2, a3, a4, a5, a6⟩ := rowb_z (σ := s5) (d := d)
  obtain ⟨s9, hs9⟩ : ∃ s9, s9 = jS (jS s6 6 2 0) 32 3 0 := ⟨_, rfl⟩
  obtain ⟨B, b1, b2, b3, b4⟩ := fgt_z (σ := s9)
  have i9 : ∀ p k, p ≠ 6 → p ≠ 32 → hI s9 p k = hI s6 p k := fun p k g0 g1 => by rw [hs9, hI_jS_ne g1, hI_jS_ne g0]
  have c5 : ∀ k, 0 ≤ k → hI B 5 k = hI s6 5 k := fun k g => by rw [(b2.2 5 k g (by omega)).1, i9 5 k (by omega) (by omega)]
  have cr : ∀ n k, 0 ≤ k → n ≤ 15 → hI s5 (rp d + n) k = hI C (rp d + n) k := fun n k g0 g1 => by rw [i5, hs3, hI_jS_ne (by omega)]
  refine ⟨B, ?_, ?_, fun p k g u => ?_, ?_, ?_, ?_, fun h g0 g1 => ?_, fun i g0 g1 => ?_, ?_, ?_, b3, b4⟩
  · have e9 : iG s3 54 9 = z32 0 := by rw [show iG s3 54 9 = z32 (hI s3 54 9) from iG_h s3 54 9, hs3, hI_jS_ne (by omega), h9]
    have eB : hI B (rp d + 0) 0 = hI C (rp d + 0) 0 := by rw [(b2.2 _ 0 (by omega) (by omega)).1, i9 _ 0 (by omega) (by omega), a2.2.2 _ 0 (by omega), cr 0 0 (by omega) (by omega)]
    have f1 : s3.2.2.1 = d := by rw [q3]
    have f2 : s3.2.2.2.1 = j := by rw [q3]
    have f3 : s3.2.2.2.2 = d := by rw [q3]
    unfold fX10_road_42
    rw [show (0 : Int32) = z32 0 from z32_litn 0, iS_q, bnd_q, ← hs3, e9, if_pos rfl, f1, f2, f3, bnd_q, show (qS s3 (j, j, d)).2.2.1 = j from rfl, show (qS s3 (j, j, d)).2.2.2.2 = d from rfl, bnd_q, ← hs5, a1, bnr_q, iS_q, bnd_q, iS_q, bnd_q, ← hs9, b1, bnr_q, show iG B (rp d + 0) 0 = z32 (hI B (rp d + 0) 0) from iG_h B _ 0, eB]
  · rw [b2.1, hs9, fl_jS, fl_jS, a2.1, q5]
  · unfold rgU at u
    have w := b2.2 p k g (by omega)
    rw [w.1, w.2]
    have w9 : hI s9 p k = hI s6 p k ∧ hL s9 p k = hL s6 p k := by
      rw [hs9]
      exact ⟨by rw [hI_j0 (by omega) g (by omega), hI_j0 (by omega) g (by omega)], rfl⟩
    rw [w9.1, w9.2, a2.2.2 p k (by omega), a2.2.1 p k, i5, l5, hs3]
    exact ⟨hI_j0 (by omega) g (by omega), rfl⟩
  · rw [(b2.2 2 1 (by omega) (by omega)).1, i9 2 1 (by omega) (by omega), a2.2.2 2 1 (by omega), i5, hs3, hI_jS (by omega) (by omega) (by omega) (by omega), if_pos rfl]
  · rw [c5 0 (by omega), a3]
  · rw [c5 1 (by omega), a4]
  · rw [c5 _ (by omega), c5 _ (by omega), c5 _ (by omega), ← cr 7 h g0 (by omega), ← cr 9 h g0 (by omega)]; exact a5 h g0 g1
  · rw [c5 _ (by omega), ← cr 10 i g0 (by omega)]; exact a6 i g0 g1
  · rw [(b2.2 6 2 (by omega) (by omega)).1, hs9, hI_jS_ne (by omega), hI_jS (by omega) (by omega) (by omega) (by omega), if_pos rfl]
  · rw [(b2.2 32 3 (by omega) (by omega)).1, hs9, hI_jS (by omega) (by omega) (by omega) (by omega), if_pos rfl]
theorem r42_b (h9 : hI C 54 9 = k) (hk : k ≠ 0) : fX10_road_42 C = some (z32 (-1), jS (jS C 2 1 0) 37 1 (z32 (hI (jS C 2 1 0) 37 1 + 1)).toInt) := by
  have l1 := hI_lo C 54 9
  have l2 := hI_hi C 54 9
  have e9 : iG (jS C 2 1 0) 54 9 = z32 k := by rw [show iG (jS C 2 1 0) 54 9 = z32 (hI (jS C 2 1 0) 54 9) from iG_h _ 54 9, hI_jS_ne (by omega), h9]
  unfold fX10_road_42
  rw [show (0 : Int32) = z32 0 from z32_litn 0, iS_q, bnd_q, e9, if_neg (by rw [z32_eq (by omega) (by omega) (by omega) (by omega)]; exact hk), ref_z (k := 1) (z32_litn 1) (by omega) (by omega), bnc_q]
-- the other side
theorem m87_z (h13 : hI σ 56 13 = b) (hb : 0 ≤ b ∧ b ≤ 1) : ∃ φ, fX11_begin_87 zF (z32 0) σ = some φ ∧ fr (fun p k => p = 89 ∧ k < 36) σ φ ∧ ∀ i, 0 ≤ i → i < 36 → hI φ 89 i = hI σ 67 (36 * b + i) := by
  refine zupP0 (β := zS) (L := fun f x a => fX11_begin_87 f (z32 x) a) (n := 36) (Q := fun r => ∃ φ, r = some φ ∧ fr (fun p k => p = 89 ∧ k < 36) σ φ ∧ ∀ i, 0 ≤ i → i < 36 → hI φ 89 i = hI σ 67 (36 * b + i))
    (fun x a => fr (fun p k => p = 89 ∧ k < 36) σ a ∧ ∀ i, 0 ≤ i → i < x → hI a 89 i = hI σ 67 (36 * b + i)) (a := σ) (by omega) (by omega) ⟨fr_r, fun i g0 g1 => by omega⟩ ?_ ?_
  · intro f x a hx hx' ⟨p1, p2⟩
    have e13 : hI a 56 13 = b := by rw [(p1.2 56 13 (by omega) (by omega)).1, h13]
    have e67 : hI a 67 (36 * b + x) = hI σ 67 (36 * b + x) := (p1.2 67 _ (by omega) (by omega)).1
    have l1 := hI_lo σ 67 (36 * b + x)
    have l2 := hI_hi σ 67 (36 * b + x)
    refine ⟨jS a 89 x (hI σ 67 (36 * b + x)), ?_, fr_t p1 (fr_j hx (by omega)), fun i g0 g1 => ?_⟩
    · simp (disch := omega) only [fX11_begin_87, z32_add, z32_sub, z32_mul, z32_neg, z32_litn, z32_lt, z32_le, z32_eq, iG_h, lG_h, iS_q, lS_q, aI_h, wI_h, aL_h, wL_h, ↓bnd_q, bnr_q, bnc_q, ↓reduceIte, ieqT, ieqF, iltT, iltF, ileT, ileF, not_true, not_false_iff, e13, e67]
    · rw [hI_jS hx g0 l1 l2]
      by_cases gi : i = x
      · rw [if_pos gi, gi]
      · rw [if_neg gi]; exact p2 i g0 (by omega)
  · intro f a ⟨p1, p2⟩
    refine ⟨a, ?_, p1, p2⟩
    simp (disch := omega) only [fX11_begin_87, z32_add, z32_sub, z32_mul, z32_neg, z32_litn, z32_lt, z32_le, z32_eq, iG_h, lG_h, iS_q, lS_q, aI_h, wI_h, aL_h, wL_h, ↓bnd_q, bnr_q, bnc_q, ↓reduceIte, ieqT, ieqF, iltT, iltF, ileT, ileF, not_true, not_false_iff]
theorem m26_z (h13 : hI σ 56 13 = b) (hb : 0 ≤ b ∧ b ≤ 1) : ∃ φ, fX11_begin_26 zF (z32 0) σ = fX11_begin_87 zF (z32 0) φ ∧ fr (fun p k => (86 ≤ p ∧ p ≤ 88) ∧ k < 6) σ φ ∧ ∀ h, 0 ≤ h → h < 6 → hI φ 86 h = hI σ 64 (6 * b + h) ∧ hI φ 87 h = hI σ 66 (6 * b + h) ∧ hI φ 88 h = 0 := by
  refine zupP0 (β := zS) (L := fun f x a => fX11_begin_26 f (z32 x) a) (n := 6) (Q := fun r => ∃ φ, r = fX11_begin_87 zF (z32 0) φ ∧ fr (fun p k => (86 ≤ p ∧ p ≤ 88) ∧ k < 6) σ φ ∧ ∀ h, 0 ≤ h → h < 6 → hI φ 86 h = hI σ 64 (6 * b + h) ∧ hI φ 87 h = hI σ 66 (6 * b + h) ∧ hI φ 88 h = 0)
    (fun x a => fr (fun p k => (86 ≤ p ∧ p ≤ 88) ∧ k < 6) σ a ∧ ∀ h, 0 ≤ h → h < x → hI a 86 h = hI σ 64 (6 * b + h) ∧ hI a 87 h = hI σ 66 (6 * b + h) ∧ hI a 88 h = 0) (a := σ) (by omega) (by omega) ⟨fr_r, fun i g0 g1 => by omega⟩ ?_ ?_
  · intro f x a hx hx' ⟨p1, p2⟩
    have e13 : hI a 56 13 = b := by rw [(p1.2 56 13 (by omega) (by omega)).1, h13]
    have e64 : hI a 64 (6 * b + x) = hI σ 64 (6 * b + x) := (p1.2 64 _ (by omega) (by omega)).1
    have e66 : hI a 66 (6 * b + x) = hI σ 66 (6 * b + x) := (p1.2 66 _ (by omega) (by omega)).1
    have l1 := hI_lo σ 64 (6 * b + x)
    have l2 := hI_hi σ 64 (6 * b + x)
    have l3 := hI_lo σ 66 (6 * b + x)
    have l4 := hI_hi σ 66 (6 * b + x)
    refine ⟨jS (jS (jS a 86 x (hI σ 64 (6 * b + x))) 87 x (hI σ 66 (6 * b + x))) 88 x 0, ?_, fr_t p1 (fr_t (fr_t (fr_j hx (by omega)) (fr_j hx (by omega))) (fr_j hx (by omega))), fun h g0 g1 => ?_⟩
    · simp (disch := omega) only [fX11_begin_26, z32_add, z32_sub, z32_mul, z32_neg, z32_litn, z32_lt, z32_le, z32_eq, iG_h, lG_h, iS_q, lS_q, aI_h, wI_h, aL_h, wL_h, ↓bnd_q, bnr_q, bnc_q, ↓reduceIte, ieqT, ieqF, iltT, iltF, ileT, ileF, not_true, not_false_iff, hI_jS_ne, e13, e64, e66]
    · have y1 : hI (jS (jS (jS a 86 x (hI σ 64 (6 * b + x))) 87 x (hI σ 66 (6 * b + x))) 88 x 0) 86 h = if h = x then hI σ 64 (6 * b + x) else hI a 86 h := by rw [hI_jS_ne (by omega), hI_jS_ne (by omega), hI_jS hx g0 l1 l2]
      have y2 : hI (jS (jS (jS a 86 x (hI σ 64 (6 * b + x))) 87 x (hI σ 66 (6 * b + x))) 88 x 0) 87 h = if h = x then hI σ 66 (6 * b + x) else hI a 87 h := by rw [hI_jS_ne (by omega), hI_jS hx g0 l3 l4, hI_jS_ne (by omega)]
      have y3 : hI (jS (jS (jS a 86 x (hI σ 64 (6 * b + x))) 87 x (hI σ 66 (6 * b + x))) 88 x 0) 88 h = if h = x then 0 else hI a 88 h := by rw [hI_jS hx g0 (by omega) (by omega), hI_jS_ne (by omega), hI_jS_ne (by omega)]
      rw [y1, y2, y3]
      by_cases gh : h = x
      · rw [if_pos gh, if_pos gh, if_pos gh, gh]; exact ⟨rfl, rfl, rfl⟩
      · rw [if_neg gh, if_neg gh, if_neg gh]; exact p2 h g0 (by omega)
  · intro f a ⟨p1, p2⟩
    refine ⟨a, ?_, p1, p2⟩
    simp (disch := omega) only [fX11_begin_26, z32_add, z32_sub, z32_mul, z32_neg, z32_litn, z32_lt, z32_le, z32_eq, iG_h, lG_h, iS_q, lS_q, aI_h, wI_h, aL_h, wL_h, ↓bnd_q, bnr_q, bnc_q, ↓reduceIte, ieqT, ieqF, iltT, iltF, ileT, ileF, not_true, not_false_iff]
theorem r138_g (h8 : hI υ 56 8 = 0) (h9 : hI υ 56 9 = -1) (h35 : hI υ 56 35 = b) (hb : 0 ≤ b ∧ b ≤ 1) : ∃ φ, fX11_road_138 (z32 m) υ = some (z32 m, φ) ∧ fr rmU υ φ ∧ (hI φ 56 10 = 0 ∧ hI φ 56 11 = -1 ∧ hI φ 56 13 = b ∧ hI φ 56 58 = 0 ∧ hI φ 56 72 = 0) ∧ (hI φ 85 0 = 0 ∧ hI φ 90 0 = 0) ∧ (∀ h, 0 ≤ h → h < 6 → hI φ 86 h = hI υ 64 (6 * b + h) ∧ hI φ 87 h = hI υ 66 (6 * b + h) ∧ hI φ 88 h = 0) ∧ ∀ i, 0 ≤ i → i < 36 → hI φ 89 i = hI υ 67 (36 * b + i) := by
  obtain ⟨s, hs⟩ : ∃ s, s = jS (jS (jS (jS (jS (jS (jS υ 56 10 0) 56 11 (-1)) 56 13 b) 85 0 0) 90 0 0) 56 58 0) 56 72 0 := ⟨_, rfl⟩
  have fs : fr rmU υ s := by
    rw [hs]
    exact fr_t (fr_t (fr_t (fr_t (fr_t (fr_t (fr_j (by omega) (by unfold rmU; omega)) (fr_j (by omega) (by unfold rmU; omega))) (fr_j (by omega) (by unfold rmU; omega))) (fr_j (by omega) (by unfold rmU; omega))) (fr_j (by omega) (by unfold rmU; omega))) (fr_j (by omega) (by unfold rmU; omega))) (fr_j (by omega) (by unfold rmU; omega))
  have v56 : hI s 56 10 = 0 ∧ hI s 56 11 = -1 ∧ hI s 56 13 = b ∧ hI s 56 58 = 0 ∧ hI s 56 72 = 0 := by
    rw [hs]
    refine ⟨?_, ?_, ?_, ?_, ?_⟩ <;> simp (disch := omega) only [hI_jS, hI_jS_ne, ↓reduceIte, ieqT, ieqF, iltT, iltF, ileT, ileF, not_true, not_false_iff]
  have v85 : hI s 85 0 = 0 ∧ hI s 90 0 = 0 := by
    rw [hs]
    refine ⟨?_, ?_⟩ <;> simp (disch := omega) only [hI_jS, hI_jS_ne, ↓reduceIte, ieqT, ieqF, iltT, iltF, ileT, ileF, not_true, not_false_iff]
  obtain ⟨s1, a1, a2, a3⟩ := m26_z (σ := s) v56.2.2.1 hb
  obtain ⟨φ, b1, b2, b3⟩ := m87_z (σ := s1) (b := b) (by rw [(a2.2 56 13 (by omega) (by omega)).1]; exact v56.2.2.1) hb
  have go : fX11_road_138 (z32 m) υ = bnr (fX11_begin_26 zF (z32 0) s) fun σ19 => some (z32 m, σ19) := by
    have en : (-1 : Int32) = z32 (-1) := by rw [z32_litn, z32_neg]
    rw [hs]
    simp (disch := omega) only [fX11_road_138, fX11_begin, z32_add, z32_sub, z32_mul, z32_neg, z32_litn, z32_lt, z32_le, z32_eq, iG_h, lG_h, iS_q, lS_q, aI_h, wI_h, aL_h, wL_h, ↓bnd_q, bnr_q, bnc_q, ↓reduceIte, ieqT, ieqF, iltT, iltF, ileT, ileF, not_true, not_false_iff, hI_jS, hI_jS_ne, h8, h9, h35]
  have cc : ∀ k, 0 ≤ k → hI φ 56 k = hI s 56 k := fun k g => by rw [(b2.2 56 k g (by omega)).1, (a2.2 56 k g (by omega)).1]
  refine ⟨φ, ?_, fr_t (fr_t fs (fr_m a2 (fun p k _ u => by unfold rmU; omega))) (fr_m b2 (fun p k _ u => by unfold rmU; omega)), ?_, ?_, fun h g0 g1 => ?_, fun i g0 g1 => ?_⟩
  · rw [go, a1, b1, bnr_q]
  · rw [cc 10 (by omega), cc 11 (by omega), cc 13 (by omega), cc 58 (by omega), cc 72 (by omega)]; exact v56
  · rw [(b2.2 85 0 (by omega) (by omega)).1, (b2.2 90 0 (by omega) (by omega)).1, (a2.2 85 0 (by omega) (by omega)).1, (a2.2 90 0 (by omega) (by omega)).1]; exact v85
  · rw [(b2.2 86 h g0 (by omega)).1, (b2.2 87 h g0 (by omega)).1, (b2.2 88 h g0 (by omega)).1, ← (fs.2 64 (6 * b + h) (by omega) (by unfold rmU; omega)).1, ← (fs.2 66 (6 * b + h) (by omega) (by unfold rmU; omega)).1]; exact a3 h g0 g1
  · rw [b3 i g0 g1, (a2.2 67 _ (by omega) (by omega)).1, (fs.2 67 _ (by omega) (by unfold rmU; omega)).1]
theorem r138_b (h8 : hI υ 56 8 = k) (hk : 0 < k) (h9 : hI υ 56 9 = p) {x1 : Int32} : fX11_road_138 x1 υ = some (z32 (-1), jS (jS (jS υ 56 10 k) 56 11 p) 84 1 (z32 (hI (jS (jS υ 56 10 k) 56 11 p) 84 1 + 1)).toInt) := by
  have l1 := hI_lo υ 56 8
  have l2 := hI_hi υ 56 8
  have l3 := hI_lo υ 56 9
  have l4 := hI_hi υ 56 9
  rw [h8] at l1 l2
  rw [h9] at l3 l4
  have e8 : iG (jS (jS υ 56 10 k) 56 11 p) 56 8 = z32 k := by
    rw [show iG (jS (jS υ 56 10 k) 56 11 p) 56 8 = z32 (hI (jS (jS υ 56 10 k) 56 11 p) 56 8) from iG_h _ 56 8, hI_jS (by omega) (by omega) l3 l4, if_neg (by omega), hI_jS (by omega) (by omega) l1 l2, if_neg (by omega), h8]
  have e9 : iG (jS υ 56 10 k) 56 9 = z32 p := by
    rw [show iG (jS υ 56 10 k) 56 9 = z32 (hI (jS υ 56 10 k) 56 9) from iG_h _ 56 9, hI_jS (by omega) (by omega) l1 l2, if_neg (by omega), h9]
  unfold fX11_road_138
  rw [show iG υ 56 8 = z32 (hI υ 56 8) from iG_h υ 56 8, h8, iS_q, bnd_q, e9, iS_q, bnd_q, e8, if_neg (by rw [z32_litn, z32_le (by omega) (by omega) (by omega) (by omega)]; omega), mref_z (k := 1) (z32_litn 1) (by omega) (by omega), bnc_q]
end RE

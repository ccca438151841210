/-! MY OWN: an image put on: both sides -/
def hoU (x : Int) (p : Nat) (k : Int) : Prop := ((86 ≤ p ∧ p ≤ 88) ∧ k = 6 + x) ∨ (p = 89 ∧ 36 + 6 * x ≤ k ∧ k < 42 + 6 * x)
/-- the row has what the tape tells of holder h -/
def rwC (A a : zS) (h : Int) : Prop := hI a 5 (50 + h) = tx A (1 + h * (5 + vT A)) ∧ hI a 5 (56 + h) = tx A (1 + h * (5 + vT A) + 1) ∧ hI a 5 (62 + h) = scv A (1 + h * (5 + vT A) + 2) ∧ ∀ k, 0 ≤ k → k < vT A → hI a 5 (68 + h * 6 + k) = tx A (1 + h * (5 + vT A) + 5 + k)
def rwM (A b : zS) (h : Int) : Prop := hI b 86 (6 + h) = tx A (1 + h * (5 + vT A)) ∧ hI b 87 (6 + h) = tx A (1 + h * (5 + vT A) + 1) ∧ hI b 88 (6 + h) = scv A (1 + h * (5 + vT A) + 2) ∧ ∀ k, 0 ≤ k → k < vT A → hI b 89 (36 + 6 * h + k) = tx A (1 + h * (5 + vT A) + 5 + k)
section GP
variable {A B a b σ τ φ : zS} {T H E L q x v w u : Int} {oW oT : Option ((Int → Int) → Int)}
theorem p73_z (hR : okR A) (h1 : hI A 2 1 = 1 + vH A * (5 + vT A) + 1) (hx : 0 ≤ x) (hx' : x < vH A) (r15 : Int32 → zS → Option zS) (f0 : fr (fun p _ => p = 5) A a) : ∃ a', fX3_putInto_73 A.2.2.2.1 r15 zF (z32 x) (z32 (1 + x * (5 + vT A))) (z32 0) a = r15 (z32 (x + 1)) a' ∧ fr (fun p k => p = 5 ∧ 68 + x * 6 ≤ k ∧ k < 74 + x * 6) a a' ∧ ∀ k, 0 ≤ k → k < vT A → hI a' 5 (68 + x * 6 + k) = tx A (1 + x * (5 + vT A) + 5 + k) := by
  have hH := hR.2.1
  have hT := hR.1
  have hrp := rp_or A.2.2.2.1
  have LL := mulL hH.1 hH.2 (E := 5 + vT A) (by omega) (by omega)
  have xE := mulE hx hx' (E := 5 + vT A) (by omega)
  refine zupP0 (β := zS) (L := fun f k c => fX3_putInto_73 A.2.2.2.1 r15 f (z32 x) (z32 (1 + x * (5 + vT A))) (z32 k) c) (n := vT A) (Q := fun r => ∃ a', r = r15 (z32 (x + 1)) a' ∧ fr (fun p k => p = 5 ∧ 68 + x * 6 ≤ k ∧ k < 74 + x * 6) a a' ∧ ∀ k, 0 ≤ k → k < vT A → hI a' 5 (68 + x * 6 + k) = tx A (1 + x * (5 + vT A) + 5 + k))
    (fun k c => fr (fun p k => p = 5 ∧ 68 + x * 6 ≤ k ∧ k < 74 + x * 6) a c ∧ ∀ i, 0 ≤ i → i < k → hI c 5 (68 + x * 6 + i) = tx A (1 + x * (5 + vT A) + 5 + i)) (a := a) hT.1 (by omega) ⟨fr_r, fun i g0 g1 => by omega⟩ ?_ ?_
  · intro f k c hk hk' ⟨p1, p2⟩
    have b1 := tx_b A (1 + x * (5 + vT A) + 5 + k)
    have eT : hI c (rp A.2.2.2.1 + 0) 1 = vT A := by rw [(p1.2 _ 1 (by omega) (by omega)).1, (f0.2 _ 1 (by omega) (by omega)).1]; rfl
    have e21 : hI c 2 1 = hI A 2 1 := by rw [(p1.2 2 1 (by omega) (by omega)).1, (f0.2 2 1 (by omega) (by omega)).1]
    have eb : fX9_byteAt c (z32 (1 + x * (5 + vT A) + 5 + k)) = some (z32 (tx A (1 + x * (5 + vT A) + 5 + k))) := by
      rw [bytA_z (by omega) (by omega) (by omega), tx_c (A := A) (by rw [(p1.2 3 _ (by omega) (by omega)).1, (f0.2 3 _ (by omega) (by omega)).1])]
    refine ⟨jS c 5 (68 + x * 6 + k) (tx A (1 + x * (5 + vT A) + 5 + k)), ?_, fr_t p1 (fr_j (by omega) (by omega)), fun i g0 g1 => ?_⟩
    · simp (disch := omega) only [fX3_putInto_73, fX7_setThinks, z32_add, z32_sub, z32_mul, z32_neg, z32_litn, z32_lt, z32_le, z32_eq, iG_h, lG_h, iS_q, lS_q, aI_h, wI_h, aL_h, wL_h, ↓bnd_q, bnr_q, bnc_q, ↓reduceIte, ieqT, ieqF, iltT, iltF, ileT, ileF, not_true, not_false_iff, eT, eb]
    · rw [hI_jS (by omega) (by omega) (by omega) (by omega)]
      by_cases gi : i = k
      · rw [if_pos (by omega), gi]
      · rw [if_neg (by omega)]; exact p2 i g0 (by omega)
  · intro f c ⟨p1, p2⟩
    have eT : hI c (rp A.2.2.2.1 + 0) 1 = vT A := by rw [(p1.2 _ 1 (by omega) (by omega)).1, (f0.2 _ 1 (by omega) (by omega)).1]; rfl
    refine ⟨c, ?_, p1, p2⟩
    simp (disch := omega) only [fX3_putInto_73, z32_add, z32_sub, z32_mul, z32_neg, z32_litn, z32_lt, z32_le, z32_eq, iG_h, lG_h, iS_q, lS_q, aI_h, wI_h, aL_h, wL_h, ↓bnd_q, bnr_q, bnc_q, ↓reduceIte, ieqT, ieqF, iltT, iltF, ileT, ileF, not_true, not_false_iff, eT]
theorem put_z (hR : okR A) (h1 : hI A 2 1 = 1 + vH A * (5 + vT A) + 1) (ok : ∀ h, 0 ≤ h → h < vH A → hOK A (vT A) (1 + h * (5 + vT A))) : ∃ a', fX3_putInto A.2.2.2.1 A = some a' ∧ fr (fun p _ => p = 5) A a' ∧ hI a' 5 0 = tx A 0 ∧ hI a' 5 1 = 0 ∧ ∀ h, 0 ≤ h → h < vH A → rwC A a' h := by
  have hH := hR.2.1
  have hT := hR.1
  have hrp := rp_or A.2.2.2.1
  have LL := mulL hH.1 hH.2 (E := 5 + vT A) (by omega) (by omega)
  have t0 := tx_b A 0
  obtain ⟨a0, ha0⟩ : ∃ a0, a0 = jS (jS A 5 1 0) 5 0 (tx A 0) := ⟨_, rfl⟩
  have f0 : fr (fun p _ => p = 5) A a0 := by rw [ha0]; exact fr_t (fr_j (by omega) rfl) (fr_j (by omega) rfl)
  have go : fX3_putInto A.2.2.2.1 A = fX3_putInto_15 A.2.2.2.1 zF (z32 0) a0 := by
    have eb : fX9_byteAt (jS A 5 1 0) (z32 0) = some (z32 (tx A 0)) := by
      rw [bytA_z (by omega) (by rw [hI_jS_ne (by omega)]; omega) (by rw [hI_jS_ne (by omega)]; omega), tx_c (A := A) (by rw [hI_jS_ne (by omega)])]
    simp (disch := omega) only [fX3_putInto, fX7_keepNothing, fX7_setNextTunnel, z32_add, z32_sub, z32_mul, z32_neg, z32_litn, z32_lt, z32_le, z32_eq, iG_h, lG_h, iS_q, lS_q, aI_h, wI_h, aL_h, wL_h, ↓bnd_q, bnr_q, bnc_q, ↓reduceIte, ieqT, ieqF, iltT, iltF, ileT, ileF, not_true, not_false_iff, eb, ← ha0]
  rw [go]
  refine zupP0 (β := zS) (L := fun f x c => fX3_putInto_15 A.2.2.2.1 f (z32 x) c) (n := vH A) (Q := fun r => ∃ a', r = some a' ∧ fr (fun p _ => p = 5) A a' ∧ hI a' 5 0 = tx A 0 ∧ hI a' 5 1 = 0 ∧ ∀ h, 0 ≤ h → h < vH A → rwC A a' h)
    (fun x c => fr (fun p _ => p = 5) A c ∧ hI c 5 0 = tx A 0 ∧ hI c 5 1 = 0 ∧ ∀ h, 0 ≤ h → h < x → rwC A c h) (a := a0) hH.1 (by omega) ⟨f0, ?_, ?_, fun h g0 g1 => by omega⟩ ?_ ?_
  · rw [ha0, hI_jS (by omega) (by omega) (by omega) (by omega), if_pos rfl]
  · rw [ha0, hI_jS (by omega) (by omega) (by omega) (by omega), if_neg (by omega), hI_jS (by omega) (by omega) (by omega) (by omega), if_pos rfl]
  · intro f x c hx hx' ⟨p1, p2, p3, p4⟩
    have xE := mulE hx hx' (E := 5 + vT A) (by omega)
    obtain ⟨o1, o2, o3, o4⟩ := ok x hx hx'
    obtain ⟨q, hq⟩ : ∃ q, q = 1 + x * (5 + vT A) := ⟨_, rfl⟩
    have b1 := tx_b A q
    have b2 := tx_b A (q + 1)
    rw [← hq] at o1 o2 o3
    obtain ⟨c1, hc1⟩ : ∃ c1, c1 = jS c 5 (50 + x) (tx A q) := ⟨_, rfl⟩
    obtain ⟨c2, hc2⟩ : ∃ c2, c2 = jS c1 5 (56 + x) (tx A (q + 1)) := ⟨_, rfl⟩
    obtain ⟨c3, hc3⟩ : ∃ c3, c3 = jS c2 5 (62 + x) (scv A (q + 2)) := ⟨_, rfl⟩
    have f1 : fr (fun p _ => p = 5) A c1 := by rw [hc1]; exact fr_t p1 (fr_j (by omega) rfl)
    have f2 : fr (fun p _ => p = 5) A c2 := by rw [hc2]; exact fr_t f1 (fr_j (by omega) rfl)
    have f3 : fr (fun p _ => p = 5) A c3 := by rw [hc3]; exact fr_t f2 (fr_j (by omega) rfl)
    have r3 : ∀ k, 0 ≤ k → hI c3 5 k = if k = 62 + x then scv A (q + 2) else if k = 56 + x then tx A (q + 1) else if k = 50 + x then tx A q else hI c 5 k := fun k g => by
      rw [hc3, hI_jS (by omega) g (by omega) (by omega), hc2, hI_jS (by omega) g (by omega) (by omega), hc1, hI_jS (by omega) g (by omega) (by omega)]
    obtain ⟨c4, d1, d2, d3⟩ := p73_z hR h1 hx hx' (fX3_putInto_15 A.2.2.2.1 f) f3
    rw [← hq] at d1
    refine ⟨c4, ?_, fr_t f3 (fr_m d2 (fun p k _ u => u.1)), ?_, ?_, fun h g0 g1 => ?_⟩
    · have eH : hI c (rp A.2.2.2.1 + 0) 2 = vH A := (p1.2 _ 2 (by omega) (by omega)).1
      have eT : hI c (rp A.2.2.2.1 + 0) 1 = vT A := (p1.2 _ 1 (by omega) (by omega)).1
      have tb : ∀ (y : zS) (i : Int), fr (fun p _ => p = 5) A y → 0 ≤ i → i < hI A 2 1 → fX9_byteAt y (z32 i) = some (z32 (tx A i)) := fun y i fy g0 g1 => by
        rw [bytA_z g0 (by rw [(fy.2 2 1 (by omega) (by omega)).1]; exact g1) (by rw [(fy.2 2 1 (by omega) (by omega)).1]; omega), tx_c (A := A) (fy.2 3 i g0 (by omega)).1]
      have ts : fX3_scoreAt c2 (z32 (q + 2)) = some (z32 (scv A (q + 2))) := by
        rw [scA_z (by omega) (by rw [(f2.2 2 1 (by omega) (by omega)).1]; omega) (by rw [(f2.2 2 1 (by omega) (by omega)).1]; omega)]
        unfold scv
        rw [tx_c (A := A) (f2.2 3 _ (by omega) (by omega)).1, tx_c (A := A) (f2.2 3 _ (by omega) (by omega)).1, tx_c (A := A) (f2.2 3 _ (by omega) (by omega)).1]
      have y1 := tb c q p1 (by omega) (by omega)
      have y2 := tb c1 (q + 1) f1 (by omega) (by omega)
      have w1 : fX7_setBreath (z32 x) (z32 (tx A q)) c = some c1 := by
        unfold fX7_setBreath
        rw [show (50 : Int32) = z32 50 from z32_litn 50, z32_add, wI_h (by omega) (by omega) (by omega), hc1]
      have w2 : fX7_setGives (z32 x) (z32 (tx A (q + 1))) c1 = some c2 := by
        unfold fX7_setGives
        rw [show (56 : Int32) = z32 56 from z32_litn 56, z32_add, wI_h (by omega) (by omega) (by omega), hc2]
      have w3 : fX7_setScore (z32 x) (z32 (scv A (q + 2))) c2 = some c3 := by
        unfold fX7_setScore
        rw [show (62 : Int32) = z32 62 from z32_litn 62, z32_add, wI_h (by omega) (by omega) (by omega), hc3]
      have es : 1 + z32 x * fX3_holderSize A.2.2.2.1 c = z32 q := by
        unfold fX3_holderSize
        rw [show iG c (rp A.2.2.2.1 + 0) 1 = z32 (hI c (rp A.2.2.2.1 + 0) 1) from iG_h c _ 1, eT, show (5 : Int32) = z32 5 from z32_litn 5, z32_add, z32_mul, show (1 : Int32) = z32 1 from z32_litn 1, z32_add, hq]
      show fX3_putInto_15 A.2.2.2.1 (f + 1) (z32 x) c = fX3_putInto_15 A.2.2.2.1 f (z32 (x + 1)) c4
      rw [fX3_putInto_15, show iG c (rp A.2.2.2.1 + 0) 2 = z32 (hI c (rp A.2.2.2.1 + 0) 2) from iG_h c _ 2, eH, if_neg (by rw [z32_le (by omega) (by omega) (by omega) (by omega)]; omega), es, y1, bnr_q, w1, bnr_q, z1p, y2, bnr_q, w2, bnr_q, show (2 : Int32) = z32 2 from z32_litn 2, z32_add, ts, bnr_q, w3, bnr_q, show (0 : Int32) = z32 0 from z32_litn 0, d1]
    · rw [(d2.2 5 0 (by omega) (by omega)).1, r3 0 (by omega), if_neg (by omega), if_neg (by omega), if_neg (by omega), p2]
    · rw [(d2.2 5 1 (by omega) (by omega)).1, r3 1 (by omega), if_neg (by omega), if_neg (by omega), if_neg (by omega), p3]
    · by_cases gh : h = x
      · subst gh
        refine ⟨?_, ?_, ?_, d3⟩
        · rw [(d2.2 5 _ (by omega) (by omega)).1, r3 _ (by omega), if_neg (by omega), if_neg (by omega), if_pos rfl, hq]
        · rw [(d2.2 5 _ (by omega) (by omega)).1, r3 _ (by omega), if_neg (by omega), if_pos rfl, hq]
        · rw [(d2.2 5 _ (by omega) (by omega)).1, r3 _ (by omega), if_pos rfl, hq]
      · obtain ⟨s1, s2, s3, s4⟩ := p4 h g0 (by omega)
        refine ⟨?_, ?_, ?_, fun k g2 g3 => ?_⟩
        · rw [(d2.2 5 _ (by omega) (by omega)).1, r3 _ (by omega), if_neg (by omega), if_neg (by omega), if_neg (by omega)]; exact s1
        · rw [(d2.2 5 _ (by omega) (by omega)).1, r3 _ (by omega), if_neg (by omega), if_neg (by omega), if_neg (by omega)]; exact s2
        · rw [(d2.2 5 _ (by omega) (by omega)).1, r3 _ (by omega), if_neg (by omega), if_neg (by omega), if_neg (by omega)]; exact s3
        · rw [(d2.2 5 _ (by omega) (by omega)).1, r3 _ (by omega), if_neg (by omega), if_neg (by omega), if_neg (by omega)]; exact s4 k g2 g3
  · intro f c ⟨p1, p2, p3, p4⟩
    have eH : hI c (rp A.2.2.2.1 + 0) 2 = vH A := (p1.2 _ 2 (by omega) (by omega)).1
    refine ⟨c, ?_, p1, p2, p3, p4⟩
    simp (disch := omega) only [fX3_putInto_15, z32_add, z32_sub, z32_mul, z32_neg, z32_litn, z32_lt, z32_le, z32_eq, iG_h, lG_h, iS_q, lS_q, aI_h, wI_h, aL_h, wL_h, ↓bnd_q, bnr_q, bnc_q, ↓reduceIte, ieqT, ieqF, iltT, iltF, ileT, ileF, not_true, not_false_iff, eH]
-- the other side
theorem h120_g (hT : 0 ≤ T ∧ T ≤ 6) (hb : 0 ≤ hI b 56 13 ∧ hI b 56 13 ≤ 1) (e58 : hI b 58 (hI b 56 13) = T) (e57 : ∀ k, 0 ≤ k → k < 1600 → hI b 57 k = tx A k) (hx : 0 ≤ x ∧ x < 6) (hq : 0 ≤ q) (hq' : q + 5 + T ≤ 1600) (ok : ∀ k, 0 ≤ k → k < T → tx A (q + 5 + k) ≤ 60) : ∃ b', fX11_holderOn_120 zF (z32 x) (z32 q) (z32 0) b = some (z32 1, b') ∧ fr (fun p k => p = 89 ∧ 36 + 6 * x ≤ k ∧ k < 42 + 6 * x) b b' ∧ ∀ k, 0 ≤ k → k < T → hI b' 89 (36 + 6 * x + k) = tx A (q + 5 + k) := by
  refine zupP0 (β := Int32 × zS) (L := fun f k c => fX11_holderOn_120 f (z32 x) (z32 q) (z32 k) c) (n := T) (Q := fun r => ∃ b', r = some (z32 1, b') ∧ fr (fun p k => p = 89 ∧ 36 + 6 * x ≤ k ∧ k < 42 + 6 * x) b b' ∧ ∀ k, 0 ≤ k → k < T → hI b' 89 (36 + 6 * x + k) = tx A (q + 5 + k))
    (fun k c => fr (fun p k => p = 89 ∧ 36 + 6 * x ≤ k ∧ k < 42 + 6 * x) b c ∧ ∀ i, 0 ≤ i → i < k → hI c 89 (36 + 6 * x + i) = tx A (q + 5 + i)) (a := b) hT.1 (by omega) ⟨fr_r, fun i g0 g1 => by omega⟩ ?_ ?_
  · intro f k c hk hk' ⟨p1, p2⟩
    have b1 := tx_b A (q + 5 + k)
    have o := ok k hk hk'
    have e13 : hI c 56 13 = hI b 56 13 := (p1.2 56 13 (by omega) (by omega)).1
    have e58' : hI c 58 (hI b 56 13) = T := by rw [(p1.2 58 _ (by omega) (by omega)).1, e58]
    have e57' : hI c 57 (q + 5 + k) = tx A (q + 5 + k) := by rw [(p1.2 57 _ (by omega) (by omega)).1, e57 _ (by omega) (by omega)]
    refine ⟨jS c 89 (36 + 6 * x + k) (tx A (q + 5 + k)), ?_, fr_t p1 (fr_j (by omega) (by omega)), fun i g0 g1 => ?_⟩
    · simp (disch := omega) only [fX11_holderOn_120, z32_add, z32_sub, z32_mul, z32_neg, z32_litn, z32_lt, z32_le, z32_eq, iG_h, lG_h, iS_q, lS_q, aI_h, wI_h, aL_h, wL_h, ↓bnd_q, bnr_q, bnc_q, ↓reduceIte, ieqT, ieqF, iltT, iltF, ileT, ileF, not_true, not_false_iff, hI_jS_ne, e13, e58', e57']
    · rw [hI_jS (by omega) (by omega) (by omega) (by omega)]
      by_cases gi : i = k
      · rw [if_pos (by omega), gi]
      · rw [if_neg (by omega)]; exact p2 i g0 (by omega)
  · intro f c ⟨p1, p2⟩
    have e13 : hI c 56 13 = hI b 56 13 := (p1.2 56 13 (by omega) (by omega)).1
    have e58' : hI c 58 (hI b 56 13) = T := by rw [(p1.2 58 _ (by omega) (by omega)).1, e58]
    refine ⟨c, ?_, p1, p2⟩
    simp (disch := omega) only [fX11_holderOn_120, z32_add, z32_sub, z32_mul, z32_neg, z32_litn, z32_lt, z32_le, z32_eq, iG_h, lG_h, iS_q, lS_q, aI_h, wI_h, aL_h, wL_h, ↓bnd_q, bnr_q, bnc_q, ↓reduceIte, ieqT, ieqF, iltT, iltF, ileT, ileF, not_true, not_false_iff, e13, e58']
theorem h120_b (hT : 0 ≤ T ∧ T ≤ 6) (hx : 0 ≤ x ∧ x < 6) (hq : 0 ≤ q) (hq' : q + 5 + T ≤ 1600) : ∀ (d : Nat) (k : Int) (f : Nat) (b : zS), k + d = T → 0 ≤ k → d < f → (0 ≤ hI b 56 13 ∧ hI b 56 13 ≤ 1) → hI b 58 (hI b 56 13) = T → (∀ k, 0 ≤ k → k < 1600 → hI b 57 k = tx A k) → (∃ i, k ≤ i ∧ i < T ∧ ¬ tx A (q + 5 + i) ≤ 60) → ∃ b', fX11_holderOn_120 f (z32 x) (z32 q) (z32 k) b = some (z32 0, b') ∧ fr (fun p k => p = 89 ∧ 36 + 6 * x ≤ k ∧ k < 42 + 6 * x) b b' := by
  intro d
  induction d with
  | zero =>
    intro k f b hk k0 hf hb e58 e57 g
    obtain ⟨i, g1, g2, -⟩ := g
    omega
  | succ d ih =>
    intro k f b hk k0 hf hb e58 e57 g
    obtain ⟨f', rfl⟩ : ∃ f', f = f' + 1 := ⟨f - 1, by omega⟩
    have b1 := tx_b A (q + 5 + k)
    have e57' := e57 (q + 5 + k) (by omega) (by omega)
    have f1 : fr (fun p k => p = 89 ∧ 36 + 6 * x ≤ k ∧ k < 42 + 6 * x) b (jS b 89 (36 + 6 * x + k) (tx A (q + 5 + k))) := fr_j (by omega) (by omega)
    by_cases g1 : tx A (q + 5 + k) ≤ 60
    · obtain ⟨i, w1, w2, w3⟩ := g
      obtain ⟨b', c1, c2⟩ := ih (k + 1) f' (jS b 89 (36 + 6 * x + k) (tx A (q + 5 + k))) (by omega) (by omega) (by omega) (by rw [hI_jS_ne (by omega)]; exact hb) (by rw [hI_jS_ne (by omega), hI_jS_ne (by omega)]; exact e58) (fun j g0 g1 => by rw [hI_jS_ne (by omega)]; exact e57 j g0 g1) ⟨i, by
        by_cases gi : i = k
        · rw [gi] at w3; exact absurd g1 w3
        · omega, w2, w3⟩
      refine ⟨b', ?_, fr_t f1 c2⟩
      rw [← c1]
      simp (disch := omega) only [fX11_holderOn_120, z32_add, z32_sub, z32_mul, z32_neg, z32_litn, z32_lt, z32_le, z32_eq, iG_h, lG_h, iS_q, lS_q, aI_h, wI_h, aL_h, wL_h, ↓bnd_q, bnr_q, bnc_q, ↓reduceIte, ieqT, ieqF, iltT, iltF, ileT, ileF, not_true, not_false_iff, hI_jS_ne, e58, e57']
    · refine ⟨jS b 89 (36 + 6 * x + k) (tx A (q + 5 + k)), ?_, f1⟩
      simp (disch := omega) only [fX11_holderOn_120, z32_add, z32_sub, z32_mul, z32_neg, z32_litn, z32_lt, z32_le, z32_eq, iG_h, lG_h, iS_q, lS_q, aI_h, wI_h, aL_h, wL_h, ↓bnd_q, bnr_q, bnc_q, ↓reduceIte, ieqT, ieqF, iltT, iltF, ileT, ileF, not_true, not_false_iff, hI_jS_ne, e58, e57']
theorem ho_w (e57 : ∀ k, 0 ≤ k → k < 1600 → hI b 57 k = tx A k) (hx : 0 ≤ x ∧ x < 6) (hq : 0 ≤ q) (hq' : q + 5 ≤ 1600) : ∃ b1, fX11_holderOn (z32 x) (z32 q) b = (if 60 < z32 (tx A q) then some (0, b1) else if 60 < z32 (tx A (q + 1)) then some (0, b1) else if fX11_is (z32 (scv A (q + 2))) (-99999) 99999 = 0 then some (0, b1) else fX11_holderOn_120 zF (z32 x) (z32 q) 0 b1) ∧ fr (fun p k => (86 ≤ p ∧ p ≤ 88) ∧ k = 6 + x) b b1 ∧ hI b1 86 (6 + x) = tx A q ∧ hI b1 87 (6 + x) = tx A (q + 1) ∧ hI b1 88 (6 + x) = scv A (q + 2) := by
  have b1 := tx_b A q
  have b2 := tx_b A (q + 1)
  have sb := scv_b (A := A) (q := q + 2)
  have x0 := e57 q (by omega) (by omega)
  have x1 := e57 (q + 1) (by omega) (by omega)
  have x2 := e57 (q + 2) (by omega) (by omega)
  have x3 := e57 (q + 3) (by omega) (by omega)
  have x4 := e57 (q + 4) (by omega) (by omega)
  have es : ((z32 (tx A (q + 2)) <<< (16 &&& 31)) ||| (z32 (tx A (q + 3)) <<< (8 &&& 31)) ||| z32 (tx A (q + 4))) - 100000 = z32 (scv A (q + 2)) := by
    rw [pk3 (tx_b _ _) (tx_b _ _) (tx_b _ _), z32_litn, z32_sub]
    unfold scv
    rw [show q + 2 + 1 = q + 3 by omega, show q + 2 + 2 = q + 4 by omega]
  obtain ⟨c1, hc1⟩ : ∃ c1, c1 = jS b 86 (6 + x) (tx A q) := ⟨_, rfl⟩
  obtain ⟨c2, hc2⟩ : ∃ c2, c2 = jS c1 87 (6 + x) (tx A (q + 1)) := ⟨_, rfl⟩
  obtain ⟨c3, hc3⟩ : ∃ c3, c3 = jS c2 88 (6 + x) (scv A (q + 2)) := ⟨_, rfl⟩
  have f3 : fr (fun p k => (86 ≤ p ∧ p ≤ 88) ∧ k = 6 + x) b c3 := by
    rw [hc3, hc2, hc1]; exact fr_t (fr_t (fr_j (by omega) (by omega)) (fr_j (by omega) (by omega))) (fr_j (by omega) (by omega))
  have y1 : ∀ k, hI c1 57 k = hI b 57 k := fun k => by rw [hc1, hI_jS_ne (by omega)]
  have y2 : ∀ k, hI c2 57 k = hI b 57 k := fun k => by rw [hc2, hI_jS_ne (by omega), y1]
  have y3 : ∀ k, hI c3 57 k = hI b 57 k := fun k => by rw [hc3, hI_jS_ne (by omega), y2]
  have v88 : hI c3 88 (6 + x) = scv A (q + 2) := by rw [hc3, hI_jS (by omega) (by omega) (by omega) (by omega), if_pos rfl]
  refine ⟨c3, ?_, f3, ?_, ?_, v88⟩
  · unfold fX11_holderOn
    rw [aI_h hq (by omega) (by omega), x0, show (6 : Int32) = z32 6 from z32_litn 6, z32_add, wI_h (by omega) (by omega) (by omega), ← hc1, show (1 : Int32) = z32 1 from z32_litn 1, z32_add, aI_h (by omega) (by omega) (by omega), y1, x1, wI_h (by omega) (by omega) (by omega), ← hc2, show (2 : Int32) = z32 2 from z32_litn 2, z32_add, show (3 : Int32) = z32 3 from z32_litn 3, z32_add, show (4 : Int32) = z32 4 from z32_litn 4, z32_add, aI_h (by omega) (by omega) (by omega), aI_h (by omega) (by omega) (by omega), aI_h (by omega) (by omega) (by omega), y2, y2, y2, x2, x3, x4, es, wI_h (by omega) (by omega) (by omega), ← hc3, aI_h (by omega) (by omega) (by omega), y3, x0, aI_h (by omega) (by omega) (by omega), y3, x1, aI_h (by omega) (by omega) (by omega), v88]
  · rw [hc3, hI_jS_ne (by omega), hc2, hI_jS_ne (by omega), hc1, hI_jS (by omega) (by omega) (by omega) (by omega), if_pos rfl]
  · rw [hc3, hI_jS_ne (by omega), hc2, hI_jS (by omega) (by omega) (by omega) (by omega), if_pos rfl]
end GP

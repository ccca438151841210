/-! MY OWN: rows copied; acts that can be undone, both sides -/
/-- what a slot's cells are -/
def cpU (d : Int) (p : Nat) (k : Int) : Prop := ((p = 85 ∨ p = 90) ∧ k = d) ∨ ((86 ≤ p ∧ p ≤ 88) ∧ 6 * d ≤ k ∧ k < 6 * d + 6) ∨ (p = 89 ∧ 36 * d ≤ k ∧ k < 36 * d + 36) ∨ ((91 ≤ p ∧ p ≤ 94) ∧ 48 * d ≤ k ∧ k < 48 * d + 48)
/-- τ has in slot d what σ has in slot s -/
def CP (σ τ : zS) (d s : Int) : Prop := hI τ 85 d = hI σ 85 s ∧ (∀ p i, 86 ≤ p → p ≤ 88 → 0 ≤ i → i < 6 → hI τ p (6 * d + i) = hI σ p (6 * s + i)) ∧ (∀ i, 0 ≤ i → i < 36 → hI τ 89 (36 * d + i) = hI σ 89 (36 * s + i)) ∧ hI τ 90 d = hI σ 90 s ∧ ∀ p i, 91 ≤ p → p ≤ 94 → 0 ≤ i → i < 48 → hI τ p (48 * d + i) = hI σ p (48 * s + i)
/-- as fr, but for the longs of the one side -/
def fi (P : Nat → Int → Prop) (σ τ : zS) : Prop := τ.2.2 = σ.2.2 ∧ ∀ p k, 0 ≤ k → ¬ P p k → hI τ p k = hI σ p k ∧ (56 ≤ p → hL τ p k = hL σ p k)
section HS
variable {A B C σ τ υ φ : zS} {oW oT : Option ((Int → Int) → Int)} {P U : Nat → Int → Prop} {a b c i j k n s d h t v H T : Int} {g g' : Int → Int}
/-- a stretch of one row copied into another -/
theorem wC_z {β : Type} {x y nx ny : Nat} {F : zS → Option β} (h0 : 0 ≤ a) (h1 : 0 ≤ b) (h2 : 0 ≤ n) (h3 : a + n ≤ nx) (h4 : b + n ≤ ny) (h5 : a < 2147483648) (h6 : b < 2147483648) (h7 : n < 2147483648) : ∃ τ, wC σ x y nx ny (z32 a) (z32 b) (z32 n) F = F τ ∧ oIa y σ τ ∧ ∀ k, 0 ≤ k → hI τ y k = if b ≤ k ∧ k < b + n then hI σ x (a + (k - b)) else hI σ y k := by
  refine ⟨aS σ y (va_cpy (σ.1 x) (σ.1 y) a.toNat b.toNat n.toNat), ?_, ⟨rfl, fun _ _ => rfl, fun p k hp => ?_⟩, fun k hk => ?_⟩
  · unfold wC
    rw [z32_int (by omega) h5, z32_int (by omega) h6, z32_int (by omega) h7, if_pos ⟨h0, h1, h2, h3, h4⟩, z32_nat (by omega) h5, z32_nat (by omega) h6, z32_nat (by omega) h7]
  · show (va_up σ.1 y (va_cpy (σ.1 x) (σ.1 y) a.toNat b.toNat n.toNat) p k.toNat).toInt = _
    simp only [va_up, if_neg hp]; rfl
  · show (va_up σ.1 y (va_cpy (σ.1 x) (σ.1 y) a.toNat b.toNat n.toNat) y k.toNat).toInt = _
    simp only [va_up, if_true]
    by_cases hb : b ≤ k ∧ k < b + n
    · rw [if_pos hb, pk_cpy_in (by omega) (by omega), show a.toNat + (k.toNat - b.toNat) = (a + (k - b)).toNat by omega]; rfl
    · rw [if_neg hb, pk_cpy_out (by omega)]; rfl
theorem fr_oI {c : Nat} (o : oIa c σ τ) (hp : ∀ k, 0 ≤ k → P c k) : fr P σ τ := ⟨o.1, fun p k a b => ⟨o.2.2 p k (fun g => b (by rw [g]; exact hp k a)), o.2.1 p k⟩⟩
-- the other side's copies
theorem j4 {w : Nat → Int} (h0 : 0 ≤ i) (hw : ∀ p, -2147483648 ≤ w p ∧ w p < 2147483648) {p : Nat} (h1 : 91 ≤ p) (h2 : p ≤ 94) (hj : 0 ≤ j) : hI (jS (jS (jS (jS A 91 i (w 91)) 92 i (w 92)) 93 i (w 93)) 94 i (w 94)) p j = if j = i then w p else hI A p j := by
  rcases (by omega : p = 91 ∨ p = 92 ∨ p = 93 ∨ p = 94) with g | g | g | g <;> subst g
  · rw [hI_jS_ne (by omega), hI_jS_ne (by omega), hI_jS_ne (by omega), hI_jS h0 hj (hw 91).1 (hw 91).2]
  · rw [hI_jS_ne (by omega), hI_jS_ne (by omega), hI_jS h0 hj (hw 92).1 (hw 92).2, hI_jS_ne (by omega)]
  · rw [hI_jS_ne (by omega), hI_jS h0 hj (hw 93).1 (hw 93).2, hI_jS_ne (by omega), hI_jS_ne (by omega)]
  · rw [hI_jS h0 hj (hw 94).1 (hw 94).2, hI_jS_ne (by omega), hI_jS_ne (by omega), hI_jS_ne (by omega)]
theorem j3 {w : Nat → Int} (h0 : 0 ≤ i) (hw : ∀ p, -2147483648 ≤ w p ∧ w p < 2147483648) {p : Nat} (h1 : 86 ≤ p) (h2 : p ≤ 88) (hj : 0 ≤ j) : hI (jS (jS (jS A 86 i (w 86)) 87 i (w 87)) 88 i (w 88)) p j = if j = i then w p else hI A p j := by
  rcases (by omega : p = 86 ∨ p = 87 ∨ p = 88) with g | g | g <;> subst g
  · rw [hI_jS_ne (by omega), hI_jS_ne (by omega), hI_jS h0 hj (hw 86).1 (hw 86).2]
  · rw [hI_jS_ne (by omega), hI_jS h0 hj (hw 87).1 (hw 87).2, hI_jS_ne (by omega)]
  · rw [hI_jS h0 hj (hw 88).1 (hw 88).2, hI_jS_ne (by omega), hI_jS_ne (by omega)]
def u91 (d : Int) (p : Nat) (k : Int) : Prop := (91 ≤ p ∧ p ≤ 94) ∧ 48 * d ≤ k ∧ k < 48 * d + 48
def u89 (d : Int) (p : Nat) (k : Int) : Prop := (p = 89 ∧ 36 * d ≤ k ∧ k < 36 * d + 36) ∨ (p = 90 ∧ k = d)
def u86 (d : Int) (p : Nat) (k : Int) : Prop := (86 ≤ p ∧ p ≤ 88) ∧ 6 * d ≤ k ∧ k < 6 * d + 6
theorem c142_z (hd : 0 ≤ d ∧ d < 22) (hs : 0 ≤ s ∧ s < 22) (hne : d ≠ s) : ∃ τ, fX11_copies_142 zF (z32 d) (z32 s) (z32 0) σ = some τ ∧ fr (u91 d) σ τ ∧ ∀ p i, 91 ≤ p → p ≤ 94 → 0 ≤ i → i < 48 → hI τ p (48 * d + i) = hI σ p (48 * s + i) := by
  refine zupP0 (β := zS) (L := fun f x a => fX11_copies_142 f (z32 d) (z32 s) (z32 x) a) (n := 48) (Q := fun r => ∃ τ, r = some τ ∧ fr (u91 d) σ τ ∧ ∀ p i, 91 ≤ p → p ≤ 94 → 0 ≤ i → i < 48 → hI τ p (48 * d + i) = hI σ p (48 * s + i))
    (fun x τ => fr (u91 d) σ τ ∧ ∀ p i, 91 ≤ p → p ≤ 94 → 0 ≤ i → i < x → hI τ p (48 * d + i) = hI σ p (48 * s + i)) (a := σ) (by omega) (by omega) ⟨fr_r, fun p i _ _ g0 g1 => by omega⟩ ?_ ?_
  · intro f x a hx hx' ⟨p1, p2⟩
    have ev : ∀ p, hI a p (48 * s + x) = hI σ p (48 * s + x) := fun p => (p1.2 p (48 * s + x) (by omega) (by unfold u91; omega)).1
    have hw : ∀ p, -2147483648 ≤ (fun p => hI σ p (48 * s + x)) p ∧ (fun p => hI σ p (48 * s + x)) p < 2147483648 := fun p => ⟨hI_lo _ _ _, hI_hi _ _ _⟩
    refine ⟨jS (jS (jS (jS a 91 (48 * d + x) (hI σ 91 (48 * s + x))) 92 (48 * d + x) (hI σ 92 (48 * s + x))) 93 (48 * d + x) (hI σ 93 (48 * s + x))) 94 (48 * d + x) (hI σ 94 (48 * s + x)), ?_, ?_, ?_⟩
    · simp (disch := omega) only [fX11_copies_142, z32_add, z32_sub, z32_mul, z32_neg, z32_litn, z32_lt, z32_le, z32_eq, iG_h, lG_h, iS_q, lS_q, aI_h, wI_h, aL_h, wL_h, ↓bnd_q, bnr_q, bnc_q, ↓reduceIte, ieqT, ieqF, iltT, iltF, ileT, ileF, not_true, not_false_iff, hI_jS_ne, ev]
    · exact fr_t p1 (fr_t (fr_t (fr_t (fr_j (by omega) (by unfold u91; omega)) (fr_j (by omega) (by unfold u91; omega))) (fr_j (by omega) (by unfold u91; omega))) (fr_j (by omega) (by unfold u91; omega)))
    · intro p i g0 g1 g2 g3
      rw [j4 (w := fun p => hI σ p (48 * s + x)) (by omega) hw g0 g1 (by omega)]
      by_cases gi : i = x
      · rw [if_pos (by omega), gi]
      · rw [if_neg (by omega)]; exact p2 p i g0 g1 g2 (by omega)
  · intro f a ⟨p1, p2⟩
    refine ⟨a, ?_, p1, p2⟩
    simp (disch := omega) only [fX11_copies_142, z32_add, z32_sub, z32_mul, z32_neg, z32_litn, z32_lt, z32_le, z32_eq, iG_h, lG_h, iS_q, lS_q, aI_h, wI_h, aL_h, wL_h, ↓bnd_q, bnr_q, bnc_q, ↓reduceIte, ieqT, ieqF, iltT, iltF, ileT, ileF, not_true, not_false_iff]
theorem c94_z (hd : 0 ≤ d ∧ d < 22) (hs : 0 ≤ s ∧ s < 22) (hne : d ≠ s) : ∃ τ, fX11_copies_94 zF (z32 d) (z32 s) (z32 0) σ = fX11_copies_142 zF (z32 d) (z32 s) (z32 0) τ ∧ fr (u89 d) σ τ ∧ (∀ i, 0 ≤ i → i < 36 → hI τ 89 (36 * d + i) = hI σ 89 (36 * s + i)) ∧ hI τ 90 d = hI σ 90 s := by
  refine zupP0 (β := zS) (L := fun f x a => fX11_copies_94 f (z32 d) (z32 s) (z32 x) a) (n := 36) (Q := fun r => ∃ τ, r = fX11_copies_142 zF (z32 d) (z32 s) (z32 0) τ ∧ fr (u89 d) σ τ ∧ (∀ i, 0 ≤ i → i < 36 → hI τ 89 (36 * d + i) = hI σ 89 (36 * s + i)) ∧ hI τ 90 d = hI σ 90 s)
    (fun x τ => fr (u89 d) σ τ ∧ ∀ i, 0 ≤ i → i < x → hI τ 89 (36 * d + i) = hI σ 89 (36 * s + i)) (a := σ) (by omega) (by omega) ⟨fr_r, fun i g0 g1 => by omega⟩ ?_ ?_
  · intro f x a hx hx' ⟨p1, p2⟩
    have ev : hI a 89 (36 * s + x) = hI σ 89 (36 * s + x) := (p1.2 89 (36 * s + x) (by omega) (by unfold u89; omega)).1
    have l1 := hI_lo σ 89 (36 * s + x)
    have l2 := hI_hi σ 89 (36 * s + x)
    refine ⟨jS a 89 (36 * d + x) (hI σ 89 (36 * s + x)), ?_, fr_t p1 (fr_j (by omega) (by unfold u89; omega)), fun i g2 g3 => ?_⟩
    · simp (disch := omega) only [fX11_copies_94, z32_add, z32_sub, z32_mul, z32_neg, z32_litn, z32_lt, z32_le, z32_eq, iG_h, lG_h, iS_q, lS_q, aI_h, wI_h, aL_h, wL_h, ↓bnd_q, bnr_q, bnc_q, ↓reduceIte, ieqT, ieqF, iltT, iltF, ileT, ileF, not_true, not_false_iff, ev]
    · rw [hI_jS (by omega) (by omega) l1 l2]
      by_cases gi : i = x
      · rw [if_pos (by omega), gi]
      · rw [if_neg (by omega)]; exact p2 i g2 (by omega)
  · intro f a ⟨p1, p2⟩
    have ev : hI a 90 s = hI σ 90 s := (p1.2 90 s (by omega) (by unfold u89; omega)).1
    have l1 := hI_lo σ 90 s
    have l2 := hI_hi σ 90 s
    refine ⟨jS a 90 d (hI σ 90 s), ?_, fr_t p1 (fr_j (by omega) (by unfold u89; omega)), fun i g2 g3 => ?_, ?_⟩
    · simp (disch := omega) only [fX11_copies_94, z32_add, z32_sub, z32_mul, z32_neg, z32_litn, z32_lt, z32_le, z32_eq, iG_h, lG_h, iS_q, lS_q, aI_h, wI_h, aL_h, wL_h, ↓bnd_q, bnr_q, bnc_q, ↓reduceIte, ieqT, ieqF, iltT, iltF, ileT, ileF, not_true, not_false_iff, ev]
    · rw [hI_jS_ne (by omega)]; exact p2 i g2 g3
    · rw [hI_jS (by omega) (by omega) l1 l2, if_pos rfl]
theorem c14_z (hd : 0 ≤ d ∧ d < 22) (hs : 0 ≤ s ∧ s < 22) (hne : d ≠ s) : ∃ τ, fX11_copies_14 zF (z32 d) (z32 s) (z32 0) σ = fX11_copies_94 zF (z32 d) (z32 s) (z32 0) τ ∧ fr (u86 d) σ τ ∧ ∀ p i, 86 ≤ p → p ≤ 88 → 0 ≤ i → i < 6 → hI τ p (6 * d + i) = hI σ p (6 * s + i) := by
  refine zupP0 (β := zS) (L := fun f x a => fX11_copies_14 f (z32 d) (z32 s) (z32 x) a) (n := 6) (Q := fun r => ∃ τ, r = fX11_copies_94 zF (z32 d) (z32 s) (z32 0) τ ∧ fr (u86 d) σ τ ∧ ∀ p i, 86 ≤ p → p ≤ 88 → 0 ≤ i → i < 6 → hI τ p (6 * d + i) = hI σ p (6 * s + i))
    (fun x τ => fr (u86 d) σ τ ∧ ∀ p i, 86 ≤ p → p ≤ 88 → 0 ≤ i → i < x → hI τ p (6 * d + i) = hI σ p (6 * s + i)) (a := σ) (by omega) (by omega) ⟨fr_r, fun p i _ _ g0 g1 => by omega⟩ ?_ ?_
  · intro f x a hx hx' ⟨p1, p2⟩
    have ev : ∀ p, hI a p (6 * s + x) = hI σ p (6 * s + x) := fun p => (p1.2 p (6 * s + x) (by omega) (by unfold u86; omega)).1
    have hw : ∀ p, -2147483648 ≤ (fun p => hI σ p (6 * s + x)) p ∧ (fun p => hI σ p (6 * s + x)) p < 2147483648 := fun p => ⟨hI_lo _ _ _, hI_hi _ _ _⟩
    refine ⟨jS (jS (jS a 86 (6 * d + x) (hI σ 86 (6 * s + x))) 87 (6 * d + x) (hI σ 87 (6 * s + x))) 88 (6 * d + x) (hI σ 88 (6 * s + x)), ?_, ?_, ?_⟩
    · simp (disch := omega) only [fX11_copies_14, z32_add, z32_sub, z32_mul, z32_neg, z32_litn, z32_lt, z32_le, z32_eq, iG_h, lG_h, iS_q, lS_q, aI_h, wI_h, aL_h, wL_h, ↓bnd_q, bnr_q, bnc_q, ↓reduceIte, ieqT, ieqF, iltT, iltF, ileT, ileF, not_true, not_false_iff, hI_jS_ne, ev]
    · exact fr_t p1 (fr_t (fr_t (fr_j (by omega) (by unfold u86; omega)) (fr_j (by omega) (by unfold u86; omega))) (fr_j (by omega) (by unfold u86; omega)))
    · intro p i g0 g1 g2 g3
      rw [j3 (w := fun p => hI σ p (6 * s + x)) (by omega) hw g0 g1 (by omega)]
      by_cases gi : i = x
      · rw [if_pos (by omega), gi]
      · rw [if_neg (by omega)]; exact p2 p i g0 g1 g2 (by omega)
  · intro f a ⟨p1, p2⟩
    refine ⟨a, ?_, p1, p2⟩
    simp (disch := omega) only [fX11_copies_14, z32_add, z32_sub, z32_mul, z32_neg, z32_litn, z32_lt, z32_le, z32_eq, iG_h, lG_h, iS_q, lS_q, aI_h, wI_h, aL_h, wL_h, ↓bnd_q, bnr_q, bnc_q, ↓reduceIte, ieqT, ieqF, iltT, iltF, ileT, ileF, not_true, not_false_iff]
theorem cop_z (hd : 0 ≤ d ∧ d < 22) (hs : 0 ≤ s ∧ s < 22) (hne : d ≠ s) : ∃ τ, fX11_copies (z32 d) (z32 s) σ = some τ ∧ fr (cpU d) σ τ ∧ CP σ τ d s := by
  have l1 := hI_lo σ 85 s
  have l2 := hI_hi σ 85 s
  obtain ⟨τ1, a1, a2, a3⟩ := c14_z (σ := jS σ 85 d (hI σ 85 s)) hd hs hne
  obtain ⟨τ2, b1, b2, b3, b4⟩ := c94_z (σ := τ1) hd hs hne
  obtain ⟨τ3, c1, c2, c3⟩ := c142_z (σ := τ2) hd hs hne
  have k85 : fr (cpU d) σ (jS σ 85 d (hI σ 85 s)) := fr_j (by omega) (by unfold cpU; omega)
  have k86 : fr (cpU d) (jS σ 85 d (hI σ 85 s)) τ1 := fr_m a2 (fun p k _ u => by unfold u86 at u; unfold cpU; omega)
  have k89 : fr (cpU d) τ1 τ2 := fr_m b2 (fun p k _ u => by unfold u89 at u; unfold cpU; omega)
  have k91 : fr (cpU d) τ2 τ3 := fr_m c2 (fun p k _ u => by unfold u91 at u; unfold cpU; omega)
  refine ⟨τ3, ?_, fr_t k85 (fr_t k86 (fr_t k89 k91)), ?_, fun p i g0 g1 g2 g3 => ?_, fun i g2 g3 => ?_, ?_, fun p i g0 g1 g2 g3 => ?_⟩
  · unfold fX11_copies
    rw [aI_h (by omega) (by omega) (by omega), wI_h (by omega) (by omega) (by omega), show (0 : Int32) = z32 0 from z32_litn 0, a1, b1, c1]
  · rw [(c2.2 85 d (by omega) (by unfold u91; omega)).1, (b2.2 85 d (by omega) (by unfold u89; omega)).1, (a2.2 85 d (by omega) (by unfold u86; omega)).1, hI_jS (by omega) (by omega) l1 l2, if_pos rfl]
  · rw [(c2.2 p _ (by omega) (by unfold u91; omega)).1, (b2.2 p _ (by omega) (by unfold u89; omega)).1, a3 p i g0 g1 g2 g3, hI_jS_ne (by omega)]
  · rw [(c2.2 89 _ (by omega) (by unfold u91; omega)).1, b3 i g2 g3, (a2.2 89 _ (by omega) (by unfold u86; omega)).1, hI_jS_ne (by omega)]
  · rw [(c2.2 90 _ (by omega) (by unfold u91; omega)).1, b4, (a2.2 90 _ (by omega) (by unfold u86; omega)).1, hI_jS_ne (by omega)]
  · rw [c3 p i g0 g1 g2 g3, (b2.2 p _ (by omega) (by unfold u89; omega)).1, (a2.2 p _ (by omega) (by unfold u86; omega)).1, hI_jS_ne (by omega)]
theorem CP_r : CP σ σ s s := ⟨rfl, fun _ _ _ _ _ _ => rfl, fun _ _ _ => rfl, rfl, fun _ _ _ _ _ _ => rfl⟩
theorem CP_t {d' : Int} (h1 : CP σ τ d s) (h2 : CP τ υ d' d) : CP σ υ d' s := ⟨h2.1.trans h1.1, fun p i a b c e => (h2.2.1 p i a b c e).trans (h1.2.1 p i a b c e), fun i c e => (h2.2.2.1 i c e).trans (h1.2.2.1 i c e), h2.2.2.2.1.trans h1.2.2.2.1, fun p i a b c e => (h2.2.2.2.2 p i a b c e).trans (h1.2.2.2.2 p i a b c e)⟩
theorem fi_r : fi P σ σ := ⟨rfl, fun _ _ _ _ => ⟨rfl, fun _ => rfl⟩⟩
theorem fi_f (f : fr P σ τ) : fi P σ τ := ⟨f.1, fun p k a b => ⟨(f.2 p k a b).1, fun _ => (f.2 p k a b).2⟩⟩
theorem fi_t (h1 : fi P σ τ) (h2 : fi P τ υ) : fi P σ υ := ⟨h2.1.trans h1.1, fun p k a b => ⟨(h2.2 p k a b).1.trans (h1.2 p k a b).1, fun w => ((h2.2 p k a b).2 w).trans ((h1.2 p k a b).2 w)⟩⟩
theorem fi_m (h : fi P σ τ) (hp : ∀ p k, 0 ≤ k → P p k → U p k) : fi U σ τ := ⟨h.1, fun p k a b => h.2 p k a (fun g => b (hp p k a g))⟩
theorem sm_i (h : fi U σ τ) (hp : ∀ p k, 0 ≤ k → P p k → ¬ U p k) : sm P σ τ := fun p k a b => h.2 p k a (hp p k a b)
theorem jE_i (h : fi U σ τ) (hp : ∀ p k, 0 ≤ k → fpC σ.2.2.2.1 p k → ¬ U p k) : jE σ τ := ⟨by rw [h.1], sm_i h hp⟩
theorem CP_f (f : fi U σ τ) (hs : 0 ≤ s) (hu : ∀ p k, 0 ≤ k → U p k → ¬ cpU s p k) : CP σ τ s s :=
  ⟨(f.2 85 s hs (fun u => hu 85 s hs u (by unfold cpU; omega))).1, fun p i a b c e => (f.2 p _ (by omega) (fun u => hu p _ (by omega) u (by unfold cpU; omega))).1, fun i c e => (f.2 89 _ (by omega) (fun u => hu 89 _ (by omega) u (by unfold cpU; omega))).1, (f.2 90 s hs (fun u => hu 90 s hs u (by unfold cpU; omega))).1, fun p i a b c e => (f.2 p _ (by omega) (fun u => hu p _ (by omega) u (by unfold cpU; omega))).1⟩
theorem CP_S (h : rowS H T g σ s) (c : CP σ τ d s) (hH : H ≤ 6) (hT : T ≤ 6) (hs : 0 ≤ s) (hg : ∀ i, 0 ≤ i → i < 104 → g' i = g i) : rowS H T g' τ d := rowS_c h hH hT hs hg c.1 c.2.1 c.2.2.1
theorem CP_K (h : rowK g σ s) (c : CP σ τ d s) (hs : 0 ≤ s) (hg : ∀ i, 0 ≤ i → i < 104 → g' i = g i) : rowK g' τ d := rowK_c h hs hg c.2.2.2.1 c.2.2.2.2
/-- what keeping an act's beginning does on the other side -/
def KPT (σ φ : zS) : Prop := ∃ f' m, hI φ 56 57 = f' ∧ hI φ 56 58 = m + 1 ∧ ((hI σ 56 58 < 20 ∧ f' = hI σ 56 57 ∧ m = hI σ 56 58) ∨ (hI σ 56 58 = 20 ∧ f' = (hI σ 56 57 + 1) % 20 ∧ m = 19)) ∧ CP σ φ (2 + (f' + m) % 20) 0 ∧ ∀ s, 2 ≤ s → s < 22 → s ≠ 2 + (f' + m) % 20 → CP σ φ s s
def kpU (p : Nat) (k : Int) : Prop := (p = 56 ∧ (k = 57 ∨ k = 58)) ∨ ((p = 85 ∨ p = 90) ∧ 2 ≤ k) ∨ ((86 ≤ p ∧ p ≤ 88) ∧ 12 ≤ k) ∨ (p = 89 ∧ 72 ≤ k) ∨ ((91 ≤ p ∧ p ≤ 94) ∧ 96 ≤ k)
theorem ring_z (h7 : hI σ 56 57 = a) (ha : 0 ≤ a ∧ a < 20) (hb : 0 ≤ b ∧ b ≤ 20) : fX11_ring σ (z32 b) = z32 (2 + (a + b) % 20) := by
  unfold fX11_ring
  rw [show iG σ 56 57 = z32 (hI σ 56 57) from iG_h σ 56 57, h7, z32_add, show (20 : Int32) = z32 20 from z32_litn 20, z32_rem (by omega) (by omega) (by omega) (by omega), show (2 : Int32) = z32 2 from z32_litn 2, z32_add]
theorem k32_z (h7 : hI σ 56 57 = a) (h8 : hI σ 56 58 = b) (ha : 0 ≤ a ∧ a < 20) (hb : 0 ≤ b ∧ b < 20) : ∃ τ, fX11_keeps_32 σ = some τ ∧ fr kpU σ τ ∧ hI τ 56 57 = a ∧ hI τ 56 58 = b + 1 ∧ CP σ τ (2 + (a + b) % 20) 0 ∧ ∀ s, 2 ≤ s → s < 22 → s ≠ 2 + (a + b) % 20 → CP σ τ s s := by
  obtain ⟨τ, t1, t2, t3⟩ := cop_z (σ := σ) (d := 2 + (a + b) % 20) (s := 0) (by omega) (by omega) (by omega)
  have f1 : fr kpU τ (jS τ 56 58 (b + 1)) := fr_j (by omega) (by unfold kpU; omega)
  have e57 : hI τ 56 57 = a := by rw [(t2.2 56 57 (by omega) (by unfold cpU; omega)).1, h7]
  have e58 : hI τ 56 58 = b := by rw [(t2.2 56 58 (by omega) (by unfold cpU; omega)).1, h8]
  refine ⟨jS τ 56 58 (b + 1), ?_, fr_t (fr_m t2 (fun p k _ u => by unfold cpU at u; unfold kpU; omega)) f1, ?_, ?_, ?_, fun s g0 g1 g2 => ?_⟩
  · unfold fX11_keeps_32
    rw [show iG σ 56 58 = z32 (hI σ 56 58) from iG_h σ 56 58, h8, ring_z h7 ha (by omega), show (0 : Int32) = z32 0 from z32_litn 0, t1, bnr_q, show iG τ 56 58 = z32 (hI τ 56 58) from iG_h τ 56 58, e58, z1p, iS_q, bnd_q]
  · rw [hI_jS (by omega) (by omega) (by omega) (by omega), if_neg (by omega), e57]
  · rw [hI_jS (by omega) (by omega) (by omega) (by omega), if_pos rfl]
  · exact CP_t t3 (CP_f (U := fun p k => p = 56 ∧ k = 58) (fi_f (fr_j (by omega) ⟨rfl, rfl⟩)) (by omega) (fun p k _ u w => by unfold cpU at w; omega))
  · exact CP_t (CP_f (fi_f t2) (by omega) (fun p k _ u w => by unfold cpU at u w; omega)) (CP_f (U := fun p k => p = 56 ∧ k = 58) (fi_f (fr_j (by omega) ⟨rfl, rfl⟩)) (by omega) (fun p k _ u w => by unfold cpU at w; omega))
theorem keeps_z (ha : 0 ≤ hI σ 56 57 ∧ hI σ 56 57 < 20) (hb : 0 ≤ hI σ 56 58 ∧ hI σ 56 58 ≤ 20) : ∃ τ, fX11_keeps σ = some τ ∧ fr kpU σ τ ∧ KPT σ τ := by
  have e58 : iG σ 56 58 = z32 (hI σ 56 58) := iG_h σ 56 58
  have e57 : iG σ 56 57 = z32 (hI σ 56 57) := iG_h σ 56 57
  by_cases g : hI σ 56 58 = 20
  · obtain ⟨σ1, hs1⟩ : ∃ σ1, σ1 = jS (jS σ 56 57 ((hI σ 56 57 + 1) % 20)) 56 58 19 := ⟨_, rfl⟩
    have f1 : fr (fun p k => p = 56 ∧ (k = 57 ∨ k = 58)) σ σ1 := by
      rw [hs1]; exact fr_t (fr_j (by omega) (by omega)) (fr_j (by omega) (by omega))
    obtain ⟨τ, t1, t2, t3, t4, t5, t6⟩ := k32_z (σ := σ1) (a := (hI σ 56 57 + 1) % 20) (b := 19) (by rw [hs1, hI_jS (by omega) (by omega) (by omega) (by omega), if_neg (by omega), hI_jS (by omega) (by omega) (by omega) (by omega), if_pos rfl]) (by rw [hs1, hI_jS (by omega) (by omega) (by omega) (by omega), if_pos rfl]) (by omega) (by omega)
    have cs : ∀ s, 0 ≤ s → CP σ σ1 s s := fun s g0 => CP_f (fi_f f1) g0 (fun p k _ u w => by unfold cpU at w; omega)
    refine ⟨τ, ?_, fr_t (fr_m f1 (fun p k _ u => by unfold kpU; omega)) t2, (hI σ 56 57 + 1) % 20, 19, t3, t4, Or.inr ⟨g, rfl, rfl⟩, CP_t (cs 0 (by omega)) t5, fun s g0 g1 g2 => CP_t (cs s (by omega)) (t6 s g0 g1 g2)⟩
    unfold fX11_keeps
    rw [e58, if_pos (by rw [g, z32_litn]), e57, z1p, show (20 : Int32) = z32 20 from z32_litn 20, z32_rem (by omega) (by omega) (by omega) (by omega), iS_q, bnd_q, show iG (jS σ 56 57 ((hI σ 56 57 + 1) % 20)) 56 58 = z32 (hI (jS σ 56 57 ((hI σ 56 57 + 1) % 20)) 56 58) from iG_h _ 56 58, hI_jS (by omega) (by omega) (by omega) (by omega), if_neg (by omega), g, show (1 : Int32) = z32 1 from z32_litn 1, z32_sub, iS_q, bnd_q, show (20 : Int) - 1 = 19 by omega, ← hs1, t1]
  · obtain ⟨τ, t1, t2, t3, t4, t5, t6⟩ := k32_z (σ := σ) (a := hI σ 56 57) (b := hI σ 56 58) rfl rfl ha (by omega)
    refine ⟨τ, ?_, t2, hI σ 56 57, hI σ 56 58, t3, t4, Or.inl ⟨by omega, rfl, rfl⟩, t5, t6⟩
    unfold fX11_keeps
    rw [e58, if_neg (by rw [z32_litn, z32_eq (by omega) (by omega) (by omega) (by omega)]; exact g), t1]
-- the one side's
def bgU (p : Nat) (k : Int) : Prop := p = 6 ∨ p = 7 ∨ (p = 27 ∧ (k = 4 ∨ k = 10))
def HAD (σ τ : zS) : Prop := hI τ 6 1 = (hI σ 6 1 + 1) % 20 ∧ hI τ 6 2 = zmin 20 (hI σ 6 2 + 1) ∧ ∀ k, 0 ≤ k → hI τ 7 k = if hI σ 6 1 * 104 ≤ k ∧ k < hI σ 6 1 * 104 + 104 then hI σ 5 (k - hI σ 6 1 * 104) else hI σ 7 k
theorem fgt_z : ∃ τ, fX0_forget σ = some τ ∧ fr (fun p k => p = 27 ∧ (k = 4 ∨ k = 10)) σ τ ∧ hI τ 27 4 = -1 ∧ hI τ 27 10 = -1 := by
  refine ⟨jS (jS σ 27 4 (-1)) 27 10 (-1), ?_, fr_t (fr_j (by omega) (by omega)) (fr_j (by omega) (by omega)), ?_, ?_⟩
  · unfold fX0_forget
    rw [show (-1 : Int32) = z32 (-1) by rw [z32_litn, z32_neg], iS_q, bnd_q, iS_q, bnd_q]
  · rw [hI_jS (by omega) (by omega) (by omega) (by omega), if_neg (by omega), hI_jS (by omega) (by omega) (by omega) (by omega), if_pos rfl]
  · rw [hI_jS (by omega) (by omega) (by omega) (by omega), if_pos rfl]
theorem beg_z (ha : 0 ≤ hI σ 6 1 ∧ hI σ 6 1 < 20) (hb : 0 ≤ hI σ 6 2 ∧ hI σ 6 2 ≤ 20) : ∃ τ, fX10_beginAct σ = some τ ∧ fr bgU σ τ ∧ HAD σ τ ∧ hI τ 27 4 = -1 ∧ hI τ 27 10 = -1 := by
  obtain ⟨σ1, s1, s2, s3⟩ := wC_z (β := zS) (σ := σ) (x := 5) (y := 7) (nx := 104) (ny := 2080) (a := 0) (b := hI σ 6 1 * 104) (n := 104) (F := fun σ1 => bnd (iS σ1 6 1 (((iG σ1 6 1) + 1) - ((iG σ1 6 1) + 1) / 20 * 20)) fun σ2 => bnd (iS σ2 6 2 (fJ9_min_7cf53 20 ((iG σ2 6 2) + 1))) fun σ3 => some σ3) (by omega) (by omega) (by omega) (by omega) (by omega) (by omega) (by omega) (by omega)
  have e61 : hI σ1 6 1 = hI σ 6 1 := s2.2.2 6 1 (by omega)
  have e62 : hI σ1 6 2 = hI σ 6 2 := s2.2.2 6 2 (by omega)
  obtain ⟨σ3, hs3⟩ : ∃ σ3, σ3 = jS (jS σ1 6 1 ((hI σ 6 1 + 1) % 20)) 6 2 (zmin 20 (hI σ 6 2 + 1)) := ⟨_, rfl⟩
  have zb : 0 ≤ zmin 20 (hI σ 6 2 + 1) ∧ zmin 20 (hI σ 6 2 + 1) ≤ 20 := by unfold zmin; split <;> omega
  have f3 : fr bgU σ1 σ3 := by
    rw [hs3]; exact fr_t (fr_j (by omega) (by unfold bgU; omega)) (fr_j (by omega) (by unfold bgU; omega))
  obtain ⟨τ, t1, t2, t3, t4⟩ := fgt_z (σ := σ3)
  have k1 : hI σ3 6 1 = (hI σ 6 1 + 1) % 20 := by rw [hs3, hI_jS (by omega) (by omega) (by omega) (by omega), if_neg (by omega), hI_jS (by omega) (by omega) (by omega) (by omega), if_pos rfl]
  have k2 : hI σ3 6 2 = zmin 20 (hI σ 6 2 + 1) := by rw [hs3, hI_jS (by omega) (by omega) (by omega) (by omega), if_pos rfl]
  have add : fX2_add σ = some σ3 := by
    unfold fX2_add
    rw [show iG σ 6 1 = z32 (hI σ 6 1) from iG_h σ 6 1, show (104 : Int32) = z32 104 from z32_litn 104, z32_mul, show (0 : Int32) = z32 0 from z32_litn 0, s1]
    try dsimp only
    rw [show iG σ1 6 1 = z32 (hI σ1 6 1) from iG_h σ1 6 1, e61, z1p, show (20 : Int32) = z32 20 from z32_litn 20, z32_rem (by omega) (by omega) (by omega) (by omega), iS_q, bnd_q, show iG (jS σ1 6 1 ((hI σ 6 1 + 1) % 20)) 6 2 = z32 (hI (jS σ1 6 1 ((hI σ 6 1 + 1) % 20)) 6 2) from iG_h _ 6 2, hI_jS (by omega) (by omega) (by omega) (by omega), if_neg (by omega), e62, z1p, jmin_z (by omega) (by omega) (by omega) (by omega), iS_q, bnd_q, ← hs3]
  refine ⟨τ, ?_, fr_t (fr_t (fr_oI s2 (fun k _ => by unfold bgU; omega)) f3) (fr_m t2 (fun p k _ u => by unfold bgU; omega)), ⟨?_, ?_, fun k g0 => ?_⟩, t3, t4⟩
  · unfold fX10_beginAct
    rw [add, bnr_q, t1, bnr_q]
  · rw [(t2.2 6 1 (by omega) (by omega)).1, k1]
  · rw [(t2.2 6 2 (by omega) (by omega)).1, k2]
  · rw [(t2.2 7 k g0 (by omega)).1, hs3, hI_jS_ne (by omega), hI_jS_ne (by omega), s3 k g0, show (0 : Int) + (k - hI σ 6 1 * 104) = k - hI σ 6 1 * 104 by omega]
/-- the history behind an act -/
theorem his_j (hR : okR σ) (hN : IN σ) (h : rlH σ σ) (eT : vT φ = vT σ) (eH : vH φ = vH σ) (hc : HAD σ φ) (hm : KPT σ φ) : rlH φ φ := by
  obtain ⟨c1, c2, c3⟩ := hc
  obtain ⟨f', m, m1, m2, m3, m4, m5⟩ := hm
  obtain ⟨h1, h2, h3, h4, h5⟩ := h
  have zb : zmin 20 (hI σ 6 2 + 1) = m + 1 := by unfold zmin; split <;> omega
  rw [zb] at c2
  refine ⟨by omega, by omega, by omega, by omega, fun j g0 g1 => ?_⟩
  rw [c2] at g1
  rw [m1, eT, eH]
  have hi : ∀ i, gHis φ j i = hI φ 7 ((((hI σ 6 1 + 1) % 20 + 20 - (m + 1) + j) % 20) * 104 + i) := fun i => by unfold gHis; rw [c1, c2]
  by_cases g : j = m
  · have eg : ∀ i, 0 ≤ i → i < 104 → gHis φ j i = gNow σ i := fun i i0 i1 => by
      rw [hi, show ((hI σ 6 1 + 1) % 20 + 20 - (m + 1) + j) % 20 = hI σ 6 1 by omega, c3 _ (by omega), if_pos (by omega), show hI σ 6 1 * 104 + i - hI σ 6 1 * 104 = i by omega]
      rfl
    rw [g] at eg ⊢
    exact ⟨CP_S hN.1 m4 hR.2.1.2 hR.1.2 (by omega) eg, CP_K hN.2 m4 (by omega) eg⟩
  · obtain ⟨j', hj, hj0, hj1, hj2⟩ : ∃ j', (hI σ 6 1 + 20 - hI σ 6 2 + j') % 20 = ((hI σ 6 1 + 1) % 20 + 20 - (m + 1) + j) % 20 ∧ 0 ≤ j' ∧ j' < hI σ 6 2 ∧ (hI σ 56 57 + j') % 20 = (f' + j) % 20 := by
      rcases m3 with ⟨q1, q2, q3⟩ | ⟨q1, q2, q3⟩
      · exact ⟨j, by omega, by omega, by omega, by omega⟩
      · exact ⟨j + 1, by omega, by omega, by omega, by omega⟩
    obtain ⟨r1, r2⟩ := h5 j' hj0 hj1
    rw [hj2] at r1 r2
    have eg : ∀ i, 0 ≤ i → i < 104 → gHis φ j i = gHis σ j' i := fun i i0 i1 => by
      rw [hi, c3 _ (by omega), if_neg (by omega)]
      unfold gHis
      rw [hj]
    have cp := m5 (2 + (f' + j) % 20) (by omega) (by omega) (by omega)
    exact ⟨CP_S r1 cp hR.2.1.2 hR.1.2 (by omega) eg, CP_K r2 cp (by omega) eg⟩
end HS

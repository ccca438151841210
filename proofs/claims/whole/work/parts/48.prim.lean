/-! MY OWN: frames; small steps of both sides in the reading of sums -/
def fr (P : Nat → Int → Prop) (σ τ : zS) : Prop := τ.2.2 = σ.2.2 ∧ ∀ p k, 0 ≤ k → ¬ P p k → hI τ p k = hI σ p k ∧ hL τ p k = hL σ p k
section FR
variable {P Q : Nat → Int → Prop} {σ τ υ : zS}
theorem fr_r : fr P σ σ := ⟨rfl, fun _ _ _ _ => ⟨rfl, rfl⟩⟩
theorem fr_t (h1 : fr P σ τ) (h2 : fr P τ υ) : fr P σ υ := ⟨h2.1.trans h1.1, fun p k a b => ⟨(h2.2 p k a b).1.trans (h1.2 p k a b).1, (h2.2 p k a b).2.trans (h1.2 p k a b).2⟩⟩
theorem fr_m (h : fr P σ τ) (hp : ∀ p k, 0 ≤ k → P p k → Q p k) : fr Q σ τ := ⟨h.1, fun p k a b => h.2 p k a (fun g => b (hp p k a g))⟩
theorem hI_j0 {p q : Nat} {i j v : Int} (h0 : 0 ≤ i) (h1 : 0 ≤ j) (h : ¬ (q = p ∧ j = i)) : hI (jS σ p i v) q j = hI σ q j := by
  by_cases g : q = p
  · subst g
    show (va_up σ.1 q (upd (σ.1 q) i.toNat (z32 v)) q j.toNat).toInt = _
    simp only [va_up, upd, if_true]
    rw [if_neg (by omega)]; rfl
  · exact hI_jS_ne g
theorem hL_k0 {p q : Nat} {i j v : Int} (h0 : 0 ≤ i) (h1 : 0 ≤ j) (h : ¬ (q = p ∧ j = i)) : hL (kS σ p i v) q j = hL σ q j := by
  by_cases g : q = p
  · subst g
    show (va_up σ.2.1 q (vp_updL (σ.2.1 q) i.toNat (z64 v)) q j.toNat).toInt = _
    simp only [va_up, vp_updL, if_true]
    rw [if_neg (by omega)]; rfl
  · exact hL_kS_ne g
theorem fr_j {p0 : Nat} {i v : Int} (hi : 0 ≤ i) (hp : P p0 i) : fr P σ (jS σ p0 i v) := ⟨rfl, fun p k a b => ⟨hI_j0 hi a (fun g => b (by rw [g.1, g.2]; exact hp)), rfl⟩⟩
theorem fr_k {p0 : Nat} {i v : Int} (hi : 0 ≤ i) (hp : P p0 i) : fr P σ (kS σ p0 i v) := ⟨rfl, fun p k a b => ⟨rfl, hL_k0 hi a (fun g => b (by rw [g.1, g.2]; exact hp))⟩⟩
theorem fr_M (o : oM σ τ) (hp : ∀ k, (3 ≤ k ∧ k ≤ 9) ∨ k = 12 → P 56 k) : fr P σ τ := by
  refine ⟨o.1, fun p k a b => ?_⟩
  by_cases g : p = 56
  · subst g
    have w : ¬ ((3 ≤ k ∧ k ≤ 9) ∨ k = 12) := fun h => b (hp k h)
    exact ⟨o.2.2.1 k a (by omega) (by omega) (by omega) (by omega), o.2.2.2 k a (by omega)⟩
  · exact o.2.1 p k g
theorem fr_R (o : oR σ τ) (hp : ∀ k, 0 ≤ k → P 54 k) : fr P σ τ := ⟨o.1, fun p k a b => ⟨o.2.2 p k (fun g => b (by rw [g]; exact hp k a)), o.2.1 p k⟩⟩
end FR
/-- the other side's word, number or sign; 0 for a byte that is none -/
def tkX (σ : zS) (t v : Int) : Prop := (okT t ∨ t = 0) ∧ tkM σ t v ∧ (t = 0 → hI σ 56 3 = 3 ∧ ¬ isS (hI σ 56 6))
def tkA (A : zS) (t : Int) : Prop := okT t ∧ hI A 54 5 = tkc t ∧ hI A 54 6 = owc t
section TT
variable {A B σ τ : zS} {t v s i : Int} {x : Int32} {y : Int64}
theorem tkX_c (h : tkX σ t v) (e3 : hI τ 56 3 = hI σ 56 3) (e6 : hI τ 56 6 = hI σ 56 6) (e7 : hL τ 56 7 = hL σ 56 7) : tkX τ t v := by
  unfold tkX tkM
  rw [e3, e6, e7]
  exact h
theorem isS_b (h : isS s) : 37 ≤ s ∧ s ≤ 93 := by unfold isS at h; omega
theorem sg_g (h : tkX σ t v) (hx : x = z32 s) (hs : isS s) : (fX11_isSign σ x = 0) = (t ≠ s) := by
  subst hx
  have sb := isS_b hs
  have l1 := hI_lo σ 56 6
  have l2 := hI_hi σ 56 6
  obtain ⟨h1, ⟨m1, m2, m3, m4, m5⟩, h3⟩ := h
  by_cases e : t = s
  · obtain ⟨a, b⟩ := m3 (by rw [e]; exact hs)
    simp (disch := omega) only [fX11_isSign, z32_add, z32_sub, z32_mul, z32_neg, z32_litn, z32_lt, z32_le, z32_eq, iG_h, lG_h, iS_q, lS_q, aI_h, wI_h, aL_h, wL_h, ↓bnd_q, bnr_q, bnc_q, ↓reduceIte, ieqT, ieqF, iltT, iltF, ileT, ileF, not_true, not_false_iff, a, b, e]
    simp
  · apply propext
    refine ⟨fun _ => e, fun _ => ?_⟩
    rcases h1 with (g | g | g | g | g) | g
    · simp (disch := omega) only [fX11_isSign, z32_add, z32_sub, z32_mul, z32_neg, z32_litn, z32_lt, z32_le, z32_eq, iG_h, lG_h, iS_q, lS_q, aI_h, wI_h, aL_h, wL_h, ↓bnd_q, bnr_q, bnc_q, ↓reduceIte, ieqT, ieqF, iltT, iltF, ileT, ileF, not_true, not_false_iff, m1 g]
    · simp (disch := omega) only [fX11_isSign, z32_add, z32_sub, z32_mul, z32_neg, z32_litn, z32_lt, z32_le, z32_eq, iG_h, lG_h, iS_q, lS_q, aI_h, wI_h, aL_h, wL_h, ↓bnd_q, bnr_q, bnc_q, ↓reduceIte, ieqT, ieqF, iltT, iltF, ileT, ileF, not_true, not_false_iff, (m4 g).1]
    · simp (disch := omega) only [fX11_isSign, z32_add, z32_sub, z32_mul, z32_neg, z32_litn, z32_lt, z32_le, z32_eq, iG_h, lG_h, iS_q, lS_q, aI_h, wI_h, aL_h, wL_h, ↓bnd_q, bnr_q, bnc_q, ↓reduceIte, ieqT, ieqF, iltT, iltF, ileT, ileF, not_true, not_false_iff, (m2 g).1]
    · obtain ⟨a, b⟩ := m3 g
      simp (disch := omega) only [fX11_isSign, z32_add, z32_sub, z32_mul, z32_neg, z32_litn, z32_lt, z32_le, z32_eq, iG_h, lG_h, iS_q, lS_q, aI_h, wI_h, aL_h, wL_h, ↓bnd_q, bnr_q, bnc_q, ↓reduceIte, ieqT, ieqF, iltT, iltF, ileT, ileF, not_true, not_false_iff, a, b]
    · simp (disch := omega) only [fX11_isSign, z32_add, z32_sub, z32_mul, z32_neg, z32_litn, z32_lt, z32_le, z32_eq, iG_h, lG_h, iS_q, lS_q, aI_h, wI_h, aL_h, wL_h, ↓bnd_q, bnr_q, bnc_q, ↓reduceIte, ieqT, ieqF, iltT, iltF, ileT, ileF, not_true, not_false_iff, (m5 g.1).1]
    · obtain ⟨a, b⟩ := h3 g
      have : hI σ 56 6 ≠ s := fun e2 => b (by rw [e2]; exact hs)
      simp (disch := omega) only [fX11_isSign, z32_add, z32_sub, z32_mul, z32_neg, z32_litn, z32_lt, z32_le, z32_eq, iG_h, lG_h, iS_q, lS_q, aI_h, wI_h, aL_h, wL_h, ↓bnd_q, bnr_q, bnc_q, ↓reduceIte, ieqT, ieqF, iltT, iltF, ileT, ileF, not_true, not_false_iff, a]
theorem ow8_all : ∀ i : Fin 25, 0 ≤ OW8.getD i.val 0 ∧ OW8.getD i.val 0 < 281474976710656 := by decide +kernel
theorem ow8_b (h0 : 0 ≤ i) (h1 : i < 25) : 0 ≤ ow8 i ∧ ow8 i < 281474976710656 := ow8_all ⟨i.toNat, by omega⟩
theorem ow8_inj {j : Int} (h0 : 0 ≤ i) (h1 : i < 25) (h2 : 0 ≤ j) (h3 : j < 25) (h : ow8 i = ow8 j) : i = j := by
  refine ow_inj h0 h1 h2 h3 ?_
  rw [← (ow_cv h0 h1).2, ← (ow_cv h2 h3).2, h]
theorem iw_g (h : tkX σ t v) (hx : y = z64 (ow8 i)) (h0 : 0 ≤ i) (hi : i < 25) : (fX11_isWord σ y = 0) = (t ≠ 100 + i) := by
  subst hx
  have wb := ow8_b h0 hi
  have l1 := hL_lo σ 56 7
  have l2 := hL_hi σ 56 7
  obtain ⟨h1, ⟨m1, m2, m3, m4, m5⟩, h3⟩ := h
  by_cases e : t = 100 + i
  · obtain ⟨a, b, -⟩ := m5 (by omega)
    rw [show t - 100 = i by omega] at b
    simp (disch := omega) only [fX11_isWord, z32_add, z32_sub, z32_mul, z32_neg, z32_litn, z32_lt, z32_le, z32_eq, iG_h, lG_h, iS_q, lS_q, aI_h, wI_h, aL_h, wL_h, ↓bnd_q, bnr_q, bnc_q, ↓reduceIte, ieqT, ieqF, iltT, iltF, ileT, ileF, not_true, not_false_iff, a, b, e]
    simp
  · apply propext
    refine ⟨fun _ => e, fun _ => ?_⟩
    rcases h1 with (g | g | g | g | g) | g
    · simp (disch := omega) only [fX11_isWord, z32_add, z32_sub, z32_mul, z32_neg, z32_litn, z32_lt, z32_le, z32_eq, iG_h, lG_h, iS_q, lS_q, aI_h, wI_h, aL_h, wL_h, ↓bnd_q, bnr_q, bnc_q, ↓reduceIte, ieqT, ieqF, iltT, iltF, ileT, ileF, not_true, not_false_iff, m1 g]
    · obtain ⟨a, b, -⟩ := m4 g
      have := b i h0 hi
      simp (disch := omega) only [fX11_isWord, z32_add, z32_sub, z32_mul, z32_neg, z32_litn, z32_lt, z32_le, z32_eq, iG_h, lG_h, iS_q, lS_q, aI_h, wI_h, aL_h, wL_h, ↓bnd_q, bnr_q, bnc_q, ↓reduceIte, ieqT, ieqF, iltT, iltF, ileT, ileF, not_true, not_false_iff, a, z64_eq]
    · simp (disch := omega) only [fX11_isWord, z32_add, z32_sub, z32_mul, z32_neg, z32_litn, z32_lt, z32_le, z32_eq, iG_h, lG_h, iS_q, lS_q, aI_h, wI_h, aL_h, wL_h, ↓bnd_q, bnr_q, bnc_q, ↓reduceIte, ieqT, ieqF, iltT, iltF, ileT, ileF, not_true, not_false_iff, (m2 g).1]
    · simp (disch := omega) only [fX11_isWord, z32_add, z32_sub, z32_mul, z32_neg, z32_litn, z32_lt, z32_le, z32_eq, iG_h, lG_h, iS_q, lS_q, aI_h, wI_h, aL_h, wL_h, ↓bnd_q, bnr_q, bnc_q, ↓reduceIte, ieqT, ieqF, iltT, iltF, ileT, ileF, not_true, not_false_iff, (m3 g).1]
    · obtain ⟨a, b, -⟩ := m5 g.1
      have : ow8 (t - 100) ≠ ow8 i := fun e2 => e (by have := ow8_inj (by omega) (by omega) h0 hi e2; omega)
      have wb2 := ow8_b (i := t - 100) (by omega) (by omega)
      simp (disch := omega) only [fX11_isWord, z32_add, z32_sub, z32_mul, z32_neg, z32_litn, z32_lt, z32_le, z32_eq, iG_h, lG_h, iS_q, lS_q, aI_h, wI_h, aL_h, wL_h, ↓bnd_q, bnr_q, bnc_q, ↓reduceIte, ieqT, ieqF, iltT, iltF, ileT, ileF, not_true, not_false_iff, a, b, z64_eq]
    · simp (disch := omega) only [fX11_isWord, z32_add, z32_sub, z32_mul, z32_neg, z32_litn, z32_lt, z32_le, z32_eq, iG_h, lG_h, iS_q, lS_q, aI_h, wI_h, aL_h, wL_h, ↓bnd_q, bnr_q, bnc_q, ↓reduceIte, ieqT, ieqF, iltT, iltF, ileT, ileF, not_true, not_false_iff, (h3 g).1]
theorem mk_2 (h : tkX σ t v) : (iG σ 56 3 = 2) = (t = 3) := by
  obtain ⟨h1, ⟨m1, m2, m3, m4, m5⟩, h3⟩ := h
  rcases h1 with (g | g | g | g | g) | g
  · simp (disch := omega) only [z32_add, z32_sub, z32_mul, z32_neg, z32_litn, z32_lt, z32_le, z32_eq, iG_h, lG_h, iS_q, lS_q, aI_h, wI_h, aL_h, wL_h, ↓bnd_q, bnr_q, bnc_q, ↓reduceIte, ieqT, ieqF, iltT, iltF, ileT, ileF, not_true, not_false_iff, m1 g]
  · simp (disch := omega) only [z32_add, z32_sub, z32_mul, z32_neg, z32_litn, z32_lt, z32_le, z32_eq, iG_h, lG_h, iS_q, lS_q, aI_h, wI_h, aL_h, wL_h, ↓bnd_q, bnr_q, bnc_q, ↓reduceIte, ieqT, ieqF, iltT, iltF, ileT, ileF, not_true, not_false_iff, (m4 g).1]
  · simp (disch := omega) only [z32_add, z32_sub, z32_mul, z32_neg, z32_litn, z32_lt, z32_le, z32_eq, iG_h, lG_h, iS_q, lS_q, aI_h, wI_h, aL_h, wL_h, ↓bnd_q, bnr_q, bnc_q, ↓reduceIte, ieqT, ieqF, iltT, iltF, ileT, ileF, not_true, not_false_iff, (m2 g).1]
  · have := isS_b g
    simp (disch := omega) only [z32_add, z32_sub, z32_mul, z32_neg, z32_litn, z32_lt, z32_le, z32_eq, iG_h, lG_h, iS_q, lS_q, aI_h, wI_h, aL_h, wL_h, ↓bnd_q, bnr_q, bnc_q, ↓reduceIte, ieqT, ieqF, iltT, iltF, ileT, ileF, not_true, not_false_iff, (m3 g).1]
  · simp (disch := omega) only [z32_add, z32_sub, z32_mul, z32_neg, z32_litn, z32_lt, z32_le, z32_eq, iG_h, lG_h, iS_q, lS_q, aI_h, wI_h, aL_h, wL_h, ↓bnd_q, bnr_q, bnc_q, ↓reduceIte, ieqT, ieqF, iltT, iltF, ileT, ileF, not_true, not_false_iff, (m5 g.1).1]
  · simp (disch := omega) only [z32_add, z32_sub, z32_mul, z32_neg, z32_litn, z32_lt, z32_le, z32_eq, iG_h, lG_h, iS_q, lS_q, aI_h, wI_h, aL_h, wL_h, ↓bnd_q, bnr_q, bnc_q, ↓reduceIte, ieqT, ieqF, iltT, iltF, ileT, ileF, not_true, not_false_iff, (h3 g).1]
theorem mk_1 (h : tkX σ t v) : (iG σ 56 3 = 1) = (t = 2 ∨ 100 ≤ t) := by
  obtain ⟨h1, ⟨m1, m2, m3, m4, m5⟩, h3⟩ := h
  have key : ∀ x, hI σ 56 3 = x → 0 ≤ x ∧ x ≤ 3 → (iG σ 56 3 = 1) = (x = 1) := fun x hx hb => by
    rw [show iG σ 56 3 = z32 (hI σ 56 3) from iG_h σ 56 3, hx, z32_litn, z32_eq (by omega) (by omega) (by omega) (by omega)]
  rcases h1 with (g | g | g | g | g) | g
  · rw [key _ (m1 g) (by omega)]; apply propext; omega
  · rw [key _ (m4 g).1 (by omega)]; apply propext; omega
  · rw [key _ (m2 g).1 (by omega)]; apply propext; omega
  · have := isS_b g
    rw [key _ (m3 g).1 (by omega)]; apply propext; omega
  · rw [key _ (m5 g.1).1 (by omega)]; apply propext; omega
  · rw [key _ (h3 g).1 (by omega)]; apply propext; omega
theorem mk_0 (h : tkX σ t v) : (iG σ 56 3 = 0) = (t = 1) := by
  obtain ⟨h1, ⟨m1, m2, m3, m4, m5⟩, h3⟩ := h
  rcases h1 with (g | g | g | g | g) | g
  · simp (disch := omega) only [z32_add, z32_sub, z32_mul, z32_neg, z32_litn, z32_lt, z32_le, z32_eq, iG_h, lG_h, iS_q, lS_q, aI_h, wI_h, aL_h, wL_h, ↓bnd_q, bnr_q, bnc_q, ↓reduceIte, ieqT, ieqF, iltT, iltF, ileT, ileF, not_true, not_false_iff, m1 g]
  · simp (disch := omega) only [z32_add, z32_sub, z32_mul, z32_neg, z32_litn, z32_lt, z32_le, z32_eq, iG_h, lG_h, iS_q, lS_q, aI_h, wI_h, aL_h, wL_h, ↓bnd_q, bnr_q, bnc_q, ↓reduceIte, ieqT, ieqF, iltT, iltF, ileT, ileF, not_true, not_false_iff, (m4 g).1]
  · simp (disch := omega) only [z32_add, z32_sub, z32_mul, z32_neg, z32_litn, z32_lt, z32_le, z32_eq, iG_h, lG_h, iS_q, lS_q, aI_h, wI_h, aL_h, wL_h, ↓bnd_q, bnr_q, bnc_q, ↓reduceIte, ieqT, ieqF, iltT, iltF, ileT, ileF, not_true, not_false_iff, (m2 g).1]
  · have := isS_b g
    simp (disch := omega) only [z32_add, z32_sub, z32_mul, z32_neg, z32_litn, z32_lt, z32_le, z32_eq, iG_h, lG_h, iS_q, lS_q, aI_h, wI_h, aL_h, wL_h, ↓bnd_q, bnr_q, bnc_q, ↓reduceIte, ieqT, ieqF, iltT, iltF, ileT, ileF, not_true, not_false_iff, (m3 g).1]
  · simp (disch := omega) only [z32_add, z32_sub, z32_mul, z32_neg, z32_litn, z32_lt, z32_le, z32_eq, iG_h, lG_h, iS_q, lS_q, aI_h, wI_h, aL_h, wL_h, ↓bnd_q, bnr_q, bnc_q, ↓reduceIte, ieqT, ieqF, iltT, iltF, ileT, ileF, not_true, not_false_iff, (m5 g.1).1]
  · simp (disch := omega) only [z32_add, z32_sub, z32_mul, z32_neg, z32_litn, z32_lt, z32_le, z32_eq, iG_h, lG_h, iS_q, lS_q, aI_h, wI_h, aL_h, wL_h, ↓bnd_q, bnr_q, bnc_q, ↓reduceIte, ieqT, ieqF, iltT, iltF, ileT, ileF, not_true, not_false_iff, (h3 g).1]
theorem tk_b (h : okT t) : 1 ≤ t ∧ t < 125 := by unfold okT isS at h; omega
theorem ca_g (h : tkA A t) (hx : x = z32 s) (hs : isS s ∨ s = 3 ∨ s = 1) : (iG A 54 5 = x) = (t = s) := by
  subst hx
  obtain ⟨h1, h2, -⟩ := h
  have tb := tk_b h1
  have cb := tkc_b h1
  have sb : 1 ≤ s ∧ s ≤ 93 ∧ s ≠ 2 := by unfold isS at hs; omega
  rw [show iG A 54 5 = z32 (hI A 54 5) from iG_h A 54 5, h2, z32_eq (by omega) (by omega) (by omega) (by omega)]
  unfold tkc
  apply propext
  split <;> omega
theorem cb_g (h : tkA A t) (hx : x = z32 i) (h0 : 0 ≤ i) (hi : i < 25) : (iG A 54 6 = x) = (t = 100 + i) := by
  subst hx
  obtain ⟨h1, -, h2⟩ := h
  have tb := tk_b h1
  have ob : -1 ≤ owc t ∧ owc t < 25 := by unfold owc; split <;> omega
  rw [show iG A 54 6 = z32 (hI A 54 6) from iG_h A 54 6, h2, z32_eq (by omega) (by omega) (by omega) (by omega)]
  unfold owc
  apply propext
  split <;> omega
theorem cw_2 (h : tkA A t) : (iG A 54 5 = 2) = (t = 2 ∨ 100 ≤ t) := by
  obtain ⟨h1, h2, -⟩ := h
  have tb := tk_b h1
  have cb := tkc_b h1
  rw [show iG A 54 5 = z32 (hI A 54 5) from iG_h A 54 5, h2, z32_litn, z32_eq (by omega) (by omega) (by omega) (by omega)]
  unfold tkc
  unfold okT isS at h1
  apply propext
  split <;> omega
theorem cw_n (h : tkA A t) : (iG A 54 6 = (-1)) = (t < 100) := by
  obtain ⟨h1, -, h2⟩ := h
  have tb := tk_b h1
  have ob : -1 ≤ owc t ∧ owc t < 25 := by unfold owc; split <;> omega
  rw [show iG A 54 6 = z32 (hI A 54 6) from iG_h A 54 6, h2, z32_litn, z32_neg, z32_eq (by omega) (by omega) (by omega) (by omega)]
  unfold owc
  apply propext
  split <;> omega
theorem sg59 (h : tkX σ t v) : (fX11_isSign σ 59 = 0) = (t ≠ 59) := sg_g h (z32_litn 59) (by unfold isS; omega)
theorem sg40 (h : tkX σ t v) : (fX11_isSign σ 40 = 0) = (t ≠ 40) := sg_g h (z32_litn 40) (by unfold isS; omega)
theorem sg41 (h : tkX σ t v) : (fX11_isSign σ 41 = 0) = (t ≠ 41) := sg_g h (z32_litn 41) (by unfold isS; omega)
theorem sg91 (h : tkX σ t v) : (fX11_isSign σ 91 = 0) = (t ≠ 91) := sg_g h (z32_litn 91) (by unfold isS; omega)
theorem sg93 (h : tkX σ t v) : (fX11_isSign σ 93 = 0) = (t ≠ 93) := sg_g h (z32_litn 93) (by unfold isS; omega)
theorem sg44 (h : tkX σ t v) : (fX11_isSign σ 44 = 0) = (t ≠ 44) := sg_g h (z32_litn 44) (by unfold isS; omega)
theorem sg43 (h : tkX σ t v) : (fX11_isSign σ 43 = 0) = (t ≠ 43) := sg_g h (z32_litn 43) (by unfold isS; omega)
theorem sg45 (h : tkX σ t v) : (fX11_isSign σ 45 = 0) = (t ≠ 45) := sg_g h (z32_litn 45) (by unfold isS; omega)
theorem sg42 (h : tkX σ t v) : (fX11_isSign σ 42 = 0) = (t ≠ 42) := sg_g h (z32_litn 42) (by unfold isS; omega)
theorem sg47 (h : tkX σ t v) : (fX11_isSign σ 47 = 0) = (t ≠ 47) := sg_g h (z32_litn 47) (by unfold isS; omega)
theorem sg37 (h : tkX σ t v) : (fX11_isSign σ 37 = 0) = (t ≠ 37) := sg_g h (z32_litn 37) (by unfold isS; omega)
theorem sg60 (h : tkX σ t v) : (fX11_isSign σ 60 = 0) = (t ≠ 60) := sg_g h (z32_litn 60) (by unfold isS; omega)
theorem sg62 (h : tkX σ t v) : (fX11_isSign σ 62 = 0) = (t ≠ 62) := sg_g h (z32_litn 62) (by unfold isS; omega)
theorem sg61 (h : tkX σ t v) : (fX11_isSign σ 61 = 0) = (t ≠ 61) := sg_g h (z32_litn 61) (by unfold isS; omega)
theorem iw0 (h : tkX σ t v) : (fX11_isWord σ 128047712724332 = 0) = (t ≠ 100) := iw_g h ((z64_litn 128047712724332).trans (congrArg z64 (show (128047712724332 : Int) = ow8 0 by decide))) (by omega) (by omega)
theorem iw1 (h : tkX σ t v) : (fX11_isWord σ 6775152 = 0) = (t ≠ 101) := iw_g h ((z64_litn 6775152).trans (congrArg z64 (show (6775152 : Int) = ow8 1 by decide))) (by omega) (by omega)
theorem iw2 (h : tkX σ t v) : (fX11_isWord σ 24948 = 0) = (t ≠ 102) := iw_g h ((z64_litn 24948).trans (congrArg z64 (show (24948 : Int) = ow8 2 by decide))) (by omega) (by omega)
theorem iw3 (h : tkX σ t v) : (fX11_isWord σ 131277443786867 = 0) = (t ≠ 103) := iw_g h ((z64_litn 131277443786867).trans (congrArg z64 (show (131277443786867 : Int) = ow8 3 by decide))) (by omega) (by omega)
theorem iw4 (h : tkX σ t v) : (fX11_isWord σ 114827769177458 = 0) = (t ≠ 104) := iw_g h ((z64_litn 114827769177458).trans (congrArg z64 (show (114827769177458 : Int) = ow8 4 by decide))) (by omega) (by omega)
theorem iw5 (h : tkX σ t v) : (fX11_isWord σ 108243466679400 = 0) = (t ≠ 105) := iw_g h ((z64_litn 108243466679400).trans (congrArg z64 (show (108243466679400 : Int) = ow8 5 by decide))) (by omega) (by omega)
theorem iw6 (h : tkX σ t v) : (fX11_isWord σ 119165837338739 = 0) = (t ≠ 106) := iw_g h ((z64_litn 119165837338739).trans (congrArg z64 (show (119165837338739 : Int) = ow8 6 by decide))) (by omega) (by omega)
theorem iw7 (h : tkX σ t v) : (fX11_isWord σ 127991794264947 = 0) = (t ≠ 107) := iw_g h ((z64_litn 127991794264947).trans (congrArg z64 (show (127991794264947 : Int) = ow8 7 by decide))) (by omega) (by omega)
theorem iw8 (h : tkX σ t v) : (fX11_isWord σ 444150998387 = 0) = (t ≠ 108) := iw_g h ((z64_litn 444150998387).trans (congrArg z64 (show (444150998387 : Int) = ow8 8 by decide))) (by omega) (by omega)
theorem iw9 (h : tkX σ t v) : (fX11_isWord σ 512970880104 = 0) = (t ≠ 109) := iw_g h ((z64_litn 512970880104).trans (congrArg z64 (show (512970880104 : Int) = ow8 9 by decide))) (by omega) (by omega)
theorem iw10 (h : tkX σ t v) : (fX11_isWord σ 499985311091 = 0) = (t ≠ 110) := iw_g h ((z64_litn 499985311091).trans (congrArg z64 (show (499985311091 : Int) = ow8 10 by decide))) (by omega) (by omega)
theorem iw11 (h : tkX σ t v) : (fX11_isWord σ 1936024942 = 0) = (t ≠ 111) := iw_g h ((z64_litn 1936024942).trans (congrArg z64 (show (1936024942 : Int) = ow8 11 by decide))) (by omega) (by omega)
theorem iw12 (h : tkX σ t v) : (fX11_isWord σ 1718185573 = 0) = (t ≠ 112) := iw_g h ((z64_litn 1718185573).trans (congrArg z64 (show (1718185573 : Int) = ow8 12 by decide))) (by omega) (by omega)
theorem iw13 (h : tkX σ t v) : (fX11_isWord σ 1751477348 = 0) = (t ≠ 113) := iw_g h ((z64_litn 1751477348).trans (congrArg z64 (show (1751477348 : Int) = ow8 13 by decide))) (by omega) (by omega)
theorem iw14 (h : tkX σ t v) : (fX11_isWord σ 1819242087 = 0) = (t ≠ 114) := iw_g h ((z64_litn 1819242087).trans (congrArg z64 (show (1819242087 : Int) = ow8 14 by decide))) (by omega) (by omega)
theorem iw15 (h : tkX σ t v) : (fX11_isWord σ 1835099237 = 0) = (t ≠ 115) := iw_g h ((z64_litn 1835099237).trans (congrArg z64 (show (1835099237 : Int) = ow8 15 by decide))) (by omega) (by omega)
theorem iw16 (h : tkX σ t v) : (fX11_isWord σ 1818325876 = 0) = (t ≠ 116) := iw_g h ((z64_litn 1818325876).trans (congrArg z64 (show (1818325876 : Int) = ow8 16 by decide))) (by omega) (by omega)
theorem iw17 (h : tkX σ t v) : (fX11_isWord σ 108187566237038 = 0) = (t ≠ 117) := iw_g h ((z64_litn 108187566237038).trans (congrArg z64 (show (108187566237038 : Int) = ow8 17 by decide))) (by omega) (by omega)
theorem iw18 (h : tkX σ t v) : (fX11_isWord σ 26982 = 0) = (t ≠ 118) := iw_g h ((z64_litn 26982).trans (congrArg z64 (show (26982 : Int) = ow8 18 by decide))) (by omega) (by omega)
theorem iw19 (h : tkX σ t v) : (fX11_isWord σ 28530 = 0) = (t ≠ 119) := iw_g h ((z64_litn 28530).trans (congrArg z64 (show (28530 : Int) = ow8 19 by decide))) (by omega) (by omega)
theorem iw20 (h : tkX σ t v) : (fX11_isWord σ 6385252 = 0) = (t ≠ 120) := iw_g h ((z64_litn 6385252).trans (congrArg z64 (show (6385252 : Int) = ow8 20 by decide))) (by omega) (by omega)
theorem iw21 (h : tkX σ t v) : (fX11_isWord σ 7237492 = 0) = (t ≠ 121) := iw_g h ((z64_litn 7237492).trans (congrArg z64 (show (7237492 : Int) = ow8 21 by decide))) (by omega) (by omega)
theorem iw22 (h : tkX σ t v) : (fX11_isWord σ 6384748 = 0) = (t ≠ 122) := iw_g h ((z64_litn 6384748).trans (congrArg z64 (show (6384748 : Int) = ow8 22 by decide))) (by omega) (by omega)
theorem iw23 (h : tkX σ t v) : (fX11_isWord σ 7170414 = 0) = (t ≠ 123) := iw_g h ((z64_litn 7170414).trans (congrArg z64 (show (7170414 : Int) = ow8 23 by decide))) (by omega) (by omega)
theorem iw24 (h : tkX σ t v) : (fX11_isWord σ 7168376 = 0) = (t ≠ 124) := iw_g h ((z64_litn 7168376).trans (congrArg z64 (show (7168376 : Int) = ow8 24 by decide))) (by omega) (by omega)
theorem ca59 (h : tkA A t) : (iG A 54 5 = 59) = (t = 59) := ca_g h (z32_litn 59) (by unfold isS; omega)
theorem ca40 (h : tkA A t) : (iG A 54 5 = 40) = (t = 40) := ca_g h (z32_litn 40) (by unfold isS; omega)
theorem ca41 (h : tkA A t) : (iG A 54 5 = 41) = (t = 41) := ca_g h (z32_litn 41) (by unfold isS; omega)
theorem ca91 (h : tkA A t) : (iG A 54 5 = 91) = (t = 91) := ca_g h (z32_litn 91) (by unfold isS; omega)
theorem ca93 (h : tkA A t) : (iG A 54 5 = 93) = (t = 93) := ca_g h (z32_litn 93) (by unfold isS; omega)
theorem ca44 (h : tkA A t) : (iG A 54 5 = 44) = (t = 44) := ca_g h (z32_litn 44) (by unfold isS; omega)
theorem ca43 (h : tkA A t) : (iG A 54 5 = 43) = (t = 43) := ca_g h (z32_litn 43) (by unfold isS; omega)
theorem ca45 (h : tkA A t) : (iG A 54 5 = 45) = (t = 45) := ca_g h (z32_litn 45) (by unfold isS; omega)
theorem ca42 (h : tkA A t) : (iG A 54 5 = 42) = (t = 42) := ca_g h (z32_litn 42) (by unfold isS; omega)
theorem ca47 (h : tkA A t) : (iG A 54 5 = 47) = (t = 47) := ca_g h (z32_litn 47) (by unfold isS; omega)
theorem ca37 (h : tkA A t) : (iG A 54 5 = 37) = (t = 37) := ca_g h (z32_litn 37) (by unfold isS; omega)
theorem ca60 (h : tkA A t) : (iG A 54 5 = 60) = (t = 60) := ca_g h (z32_litn 60) (by unfold isS; omega)
theorem ca62 (h : tkA A t) : (iG A 54 5 = 62) = (t = 62) := ca_g h (z32_litn 62) (by unfold isS; omega)
theorem ca61 (h : tkA A t) : (iG A 54 5 = 61) = (t = 61) := ca_g h (z32_litn 61) (by unfold isS; omega)
theorem ca3 (h : tkA A t) : (iG A 54 5 = 3) = (t = 3) := ca_g h (z32_litn 3) (by unfold isS; omega)
theorem ca1 (h : tkA A t) : (iG A 54 5 = 1) = (t = 1) := ca_g h (z32_litn 1) (by unfold isS; omega)
theorem cb0 (h : tkA A t) : (iG A 54 6 = 0) = (t = 100) := cb_g (i := 0) h (z32_litn 0) (by omega) (by omega)
theorem cb1 (h : tkA A t) : (iG A 54 6 = 1) = (t = 101) := cb_g (i := 1) h (z32_litn 1) (by omega) (by omega)
theorem cb2 (h : tkA A t) : (iG A 54 6 = 2) = (t = 102) := cb_g (i := 2) h (z32_litn 2) (by omega) (by omega)
theorem cb3 (h : tkA A t) : (iG A 54 6 = 3) = (t = 103) := cb_g (i := 3) h (z32_litn 3) (by omega) (by omega)
theorem cb4 (h : tkA A t) : (iG A 54 6 = 4) = (t = 104) := cb_g (i := 4) h (z32_litn 4) (by omega) (by omega)
theorem cb5 (h : tkA A t) : (iG A 54 6 = 5) = (t = 105) := cb_g (i := 5) h (z32_litn 5) (by omega) (by omega)
theorem cb6 (h : tkA A t) : (iG A 54 6 = 6) = (t = 106) := cb_g (i := 6) h (z32_litn 6) (by omega) (by omega)
theorem cb7 (h : tkA A t) : (iG A 54 6 = 7) = (t = 107) := cb_g (i := 7) h (z32_litn 7) (by omega) (by omega)
theorem cb8 (h : tkA A t) : (iG A 54 6 = 8) = (t = 108) := cb_g (i := 8) h (z32_litn 8) (by omega) (by omega)
theorem cb9 (h : tkA A t) : (iG A 54 6 = 9) = (t = 109) := cb_g (i := 9) h (z32_litn 9) (by omega) (by omega)
theorem cb10 (h : tkA A t) : (iG A 54 6 = 10) = (t = 110) := cb_g (i := 10) h (z32_litn 10) (by omega) (by omega)
theorem cb11 (h : tkA A t) : (iG A 54 6 = 11) = (t = 111) := cb_g (i := 11) h (z32_litn 11) (by omega) (by omega)
theorem cb12 (h : tkA A t) : (iG A 54 6 = 12) = (t = 112) := cb_g (i := 12) h (z32_litn 12) (by omega) (by omega)
theorem cb13 (h : tkA A t) : (iG A 54 6 = 13) = (t = 113) := cb_g (i := 13) h (z32_litn 13) (by omega) (by omega)
theorem cb14 (h : tkA A t) : (iG A 54 6 = 14) = (t = 114) := cb_g (i := 14) h (z32_litn 14) (by omega) (by omega)
theorem cb15 (h : tkA A t) : (iG A 54 6 = 15) = (t = 115) := cb_g (i := 15) h (z32_litn 15) (by omega) (by omega)
theorem cb16 (h : tkA A t) : (iG A 54 6 = 16) = (t = 116) := cb_g (i := 16) h (z32_litn 16) (by omega) (by omega)
theorem cb17 (h : tkA A t) : (iG A 54 6 = 17) = (t = 117) := cb_g (i := 17) h (z32_litn 17) (by omega) (by omega)
theorem cb18 (h : tkA A t) : (iG A 54 6 = 18) = (t = 118) := cb_g (i := 18) h (z32_litn 18) (by omega) (by omega)
theorem cb19 (h : tkA A t) : (iG A 54 6 = 19) = (t = 119) := cb_g (i := 19) h (z32_litn 19) (by omega) (by omega)
theorem cb20 (h : tkA A t) : (iG A 54 6 = 20) = (t = 120) := cb_g (i := 20) h (z32_litn 20) (by omega) (by omega)
theorem cb21 (h : tkA A t) : (iG A 54 6 = 21) = (t = 121) := cb_g (i := 21) h (z32_litn 21) (by omega) (by omega)
theorem cb22 (h : tkA A t) : (iG A 54 6 = 22) = (t = 122) := cb_g (i := 22) h (z32_litn 22) (by omega) (by omega)
theorem cb23 (h : tkA A t) : (iG A 54 6 = 23) = (t = 123) := cb_g (i := 23) h (z32_litn 23) (by omega) (by omega)
theorem cb24 (h : tkA A t) : (iG A 54 6 = 24) = (t = 124) := cb_g (i := 24) h (z32_litn 24) (by omega) (by omega)
end TT
theorem nar1 : vp_nar .boolean (z32 1) = z32 1 := by decide
theorem nar0 : vp_nar .boolean (z32 0) = z32 0 := by decide
section PM
variable {A σ : zS} {b e om dp o s v x k p sz q : Int}
theorem cadd_z {d : Bool} (hs : hI A (rp d + 11) 3 = sz) (h0 : 0 ≤ sz) (h1 : sz < 1600) (hv : 0 ≤ v * 64 + x) (hv' : v * 64 + x < 2147483648) : fX8_add d (z32 x) (z32 v) A = some (z32 sz, jS (jS A (rp d + 12) sz (v * 64 + x)) (rp d + 11) 3 (sz + 1)) := by
  have hrp := rp_or d
  have x1 : sz + 1 - 1 = sz := by omega
  simp (disch := omega) only [fX8_add, fX8_add_37, z32_add, z32_sub, z32_mul, z32_neg, z32_litn, z32_lt, z32_le, z32_eq, iG_h, lG_h, iS_q, lS_q, aI_h, wI_h, aL_h, wL_h, ↓bnd_q, bnr_q, bnc_q, ↓reduceIte, ieqT, ieqF, iltT, iltF, ileT, ileF, not_true, not_false_iff, hs, hI_jS_ne, hI_jS, x1]
theorem madd_z (he : hI σ 56 34 = e) (hb : hI σ 56 35 = b) (h0 : 0 ≤ b) (h1 : b ≤ 1) (h2 : 0 ≤ e) (h3 : e < 1600) : fX11_add (z32 s) (z32 v) σ = some (jS (jS (jS σ 74 (1600 * b + e) s) 75 (1600 * b + e) v) 56 34 (e + 1)) := by
  simp (disch := omega) only [fX11_add, z32_add, z32_sub, z32_mul, z32_neg, z32_litn, z32_lt, z32_le, z32_eq, iG_h, lG_h, iS_q, lS_q, aI_h, wI_h, aL_h, wL_h, ↓bnd_q, bnr_q, bnc_q, ↓reduceIte, ieqT, ieqF, iltT, iltF, ileT, ileF, not_true, not_false_iff, he, hb, hI_jS_ne]
theorem mhb_z (ho : hI σ 56 44 = om) (h0 : 0 ≤ om) (h1 : om < 500) : fX11_holdsBack (z32 x) σ = some (jS (jS σ 83 om x) 56 44 (om + 1)) := by
  simp (disch := omega) only [fX11_holdsBack, z32_add, z32_sub, z32_mul, z32_neg, z32_litn, z32_lt, z32_le, z32_eq, iG_h, lG_h, iS_q, lS_q, aI_h, wI_h, aL_h, wL_h, ↓bnd_q, bnr_q, bnc_q, ↓reduceIte, ieqT, ieqF, iltT, iltF, ileT, ileF, not_true, not_false_iff, ho, hI_jS_ne]
theorem mps_z (hd : hI σ 56 41 = dp) (ho : hI σ 56 44 = om) (h0 : 0 ≤ dp) (h1 : dp < 20) : fX11_pushes (z32 x) σ = some (jS (jS (jS (jS (jS σ 78 dp x) 79 dp 0) 80 dp 1) 82 dp om) 56 41 (dp + 1)) := by
  simp (disch := omega) only [fX11_pushes, nar1, z32_add, z32_sub, z32_mul, z32_neg, z32_litn, z32_lt, z32_le, z32_eq, iG_h, lG_h, iS_q, lS_q, aI_h, wI_h, aL_h, wL_h, ↓bnd_q, bnr_q, bnc_q, ↓reduceIte, ieqT, ieqF, iltT, iltF, ileT, ileF, not_true, not_false_iff, hd, ho, hI_jS_ne]
theorem lex_n (h : hI σ 56 12 = -1) : fX11_lex σ = some σ := by
  simp (disch := omega) only [fX11_lex, z32_add, z32_sub, z32_mul, z32_neg, z32_litn, z32_lt, z32_le, z32_eq, iG_h, lG_h, iS_q, lS_q, aI_h, wI_h, aL_h, wL_h, ↓bnd_q, bnr_q, bnc_q, ↓reduceIte, ieqT, ieqF, iltT, iltF, ileT, ileF, not_true, not_false_iff, h]
theorem blm_0 (h : hI σ 56 8 = 0) : fX11_blame (z32 k) (z32 p) σ = some (jS (jS σ 56 8 k) 56 9 p) := by
  simp (disch := omega) only [fX11_blame, z32_add, z32_sub, z32_mul, z32_neg, z32_litn, z32_lt, z32_le, z32_eq, iG_h, lG_h, iS_q, lS_q, aI_h, wI_h, aL_h, wL_h, ↓bnd_q, bnr_q, bnc_q, ↓reduceIte, ieqT, ieqF, iltT, iltF, ileT, ileF, not_true, not_false_iff, h]
theorem blm_1 (h : 0 < hI σ 56 8) : fX11_blame (z32 k) (z32 p) σ = some σ := by
  have := hI_hi σ 56 8
  simp (disch := omega) only [fX11_blame, z32_add, z32_sub, z32_mul, z32_neg, z32_litn, z32_lt, z32_le, z32_eq, iG_h, lG_h, iS_q, lS_q, aI_h, wI_h, aL_h, wL_h, ↓bnd_q, bnr_q, bnc_q, ↓reduceIte, ieqT, ieqF, iltT, iltF, ileT, ileF, not_true, not_false_iff]
theorem lex_b (h : hI σ 56 12 = p) (h0 : 0 ≤ p) (h8 : hI σ 56 8 = 0) : fX11_lex σ = some (jS (jS σ 56 8 1) 56 9 p) := by
  have := hI_hi σ 56 12
  simp (disch := omega) only [fX11_lex, fX11_blame, z32_add, z32_sub, z32_mul, z32_neg, z32_litn, z32_lt, z32_le, z32_eq, iG_h, lG_h, iS_q, lS_q, aI_h, wI_h, aL_h, wL_h, ↓bnd_q, bnr_q, bnc_q, ↓reduceIte, ieqT, ieqF, iltT, iltF, ileT, ileF, not_true, not_false_iff, h, h8]
end PM

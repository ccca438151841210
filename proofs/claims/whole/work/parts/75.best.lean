/-! MY OWN: sums over seconds, the first of the best; rows filled -/
def amN (g : Int → Int) : Nat → Int
  | 0 => 0
  | n + 1 => if g ((n : Int) + 1) ≤ g (amN g n) then amN g n else (n : Int) + 1
def am (g : Int → Int) (k : Int) : Int := amN g k.toNat
theorem am_0 (g : Int → Int) : am g 0 = 0 := rfl
theorem am_s {g : Int → Int} {k : Int} (h : 0 ≤ k) : am g (k + 1) = if g (k + 1) ≤ g (am g k) then am g k else k + 1 := by
  obtain ⟨n, rfl⟩ := Int.eq_ofNat_of_zero_le h
  show amN g (((n : Int) + 1).toNat) = _
  rw [show ((n : Int) + 1).toNat = n + 1 by omega]
  show (if g ((n : Int) + 1) ≤ g (amN g n) then amN g n else (n : Int) + 1) = if g ((n : Int) + 1) ≤ g (amN g ((n : Int).toNat)) then amN g ((n : Int).toNat) else (n : Int) + 1
  rw [show ((n : Int)).toNat = n by omega]
theorem amN_b (g : Int → Int) (n : Nat) : 0 ≤ amN g n ∧ amN g n ≤ n := by
  induction n with
  | zero => simp [amN]
  | succ n ih => unfold amN; split <;> omega
theorem am_b {g : Int → Int} {k : Int} (h : 0 ≤ k) : 0 ≤ am g k ∧ am g k ≤ k := by
  have := amN_b g k.toNat
  unfold am
  omega
theorem amN_c {g g' : Int → Int} (n : Nat) (h : ∀ i, 0 ≤ i → i ≤ (n : Int) → g i = g' i) : amN g n = amN g' n := by
  induction n with
  | zero => rfl
  | succ n ih =>
    have b := amN_b g' n
    unfold amN
    rw [ih (fun i g0 g1 => h i g0 (by omega)), h _ (by omega) (by omega), h _ b.1 (by omega)]
theorem am_c {g g' : Int → Int} {k : Int} (h0 : 0 ≤ k) (h : ∀ i, 0 ≤ i → i ≤ k → g i = g' i) : am g k = am g' k := amN_c _ (fun i g0 g1 => h i g0 (by omega))
/-- only the longs of the cell c differ; only its ints -/
def oLa (c : Nat) (σ τ : zS) : Prop := τ.2.2 = σ.2.2 ∧ (∀ p k, hI τ p k = hI σ p k) ∧ ∀ p k, p ≠ c → hL τ p k = hL σ p k
def oIa (c : Nat) (σ τ : zS) : Prop := τ.2.2 = σ.2.2 ∧ (∀ p k, hL τ p k = hL σ p k) ∧ ∀ p k, p ≠ c → hI τ p k = hI σ p k
section BT
variable {A B σ τ υ : zS} {c : Nat} {row f l w br x v i j : Int} {g : Int → Int}
theorem oLa_r : oLa c σ σ := ⟨rfl, fun _ _ => rfl, fun _ _ _ => rfl⟩
theorem oLa_t (h1 : oLa c σ τ) (h2 : oLa c τ υ) : oLa c σ υ := ⟨h2.1.trans h1.1, fun p k => (h2.2.1 p k).trans (h1.2.1 p k), fun p k a => (h2.2.2 p k a).trans (h1.2.2 p k a)⟩
theorem oLa_k : oLa c σ (kS σ c i v) := ⟨rfl, fun _ _ => rfl, fun _ _ a => hL_kS_ne a⟩
theorem oIa_r : oIa c σ σ := ⟨rfl, fun _ _ => rfl, fun _ _ _ => rfl⟩
theorem oIa_t (h1 : oIa c σ τ) (h2 : oIa c τ υ) : oIa c σ υ := ⟨h2.1.trans h1.1, fun p k => (h2.2.1 p k).trans (h1.2.1 p k), fun p k a => (h2.2.2 p k a).trans (h1.2.2 p k a)⟩
theorem oIa_j : oIa c σ (jS σ c i v) := ⟨rfl, fun _ _ => rfl, fun _ _ a => hI_jS_ne a⟩
theorem addS_z (hr : 0 ≤ row) (hf : 0 ≤ f) (hl : row + l < 244) (hfl : f ≤ l + 1) (hw : -4000000000000000000 ≤ w ∧ w ≤ 4000000000000000000) (hb : ∀ j, row + f ≤ j → j ≤ row + l → -4000000000000000000 ≤ hL σ 28 j ∧ hL σ 28 j ≤ 4000000000000000000) : ∃ τ, fX0_addToSeconds (z32 row) (z32 f) (z32 l) (z64 w) σ = some τ ∧ oLa 28 σ τ ∧ ∀ j, 0 ≤ j → hL τ 28 j = hL σ 28 j + (if row + f ≤ j ∧ j ≤ row + l then w else 0) := by
  have key : ∀ (d : Nat) (x : Int) (n : Nat) (σ : zS), x + d = l + 1 → f ≤ x → d < n → (∀ j, row + x ≤ j → j ≤ row + l → -4000000000000000000 ≤ hL σ 28 j ∧ hL σ 28 j ≤ 4000000000000000000) → ∃ τ, fX0_addToSeconds_3 n (z32 row) (z32 l) (z64 w) (z32 x) σ = some τ ∧ oLa 28 σ τ ∧ ∀ j, 0 ≤ j → hL τ 28 j = hL σ 28 j + (if row + x ≤ j ∧ j ≤ row + l then w else 0) := by
    intro d
    induction d with
    | zero =>
      intro x n σ hx hfx hn hb
      obtain ⟨m, rfl⟩ : ∃ m, n = m + 1 := ⟨n - 1, by omega⟩
      refine ⟨σ, ?_, oLa_r, fun j g0 => ?_⟩
      · simp (disch := omega) only [fX0_addToSeconds_3, z32_add, z32_sub, z32_mul, z32_neg, z32_litn, z32_lt, z32_le, z32_eq, iG_h, lG_h, iS_q, lS_q, aI_h, wI_h, aL_h, wL_h, ↓bnd_q, bnr_q, bnc_q, ↓reduceIte, ieqT, ieqF, iltT, iltF, ileT, ileF, not_true, not_false_iff, z64_add, z64_sub, z64_mul, z64_neg, z64_litn, z64_lt, z64_le, z64_eq, z32_64, z64_32]
      · rw [if_neg (by omega)]; omega
    | succ d ih =>
      intro x n σ hx hfx hn hb
      obtain ⟨m, rfl⟩ : ∃ m, n = m + 1 := ⟨n - 1, by omega⟩
      have h1 := hb (row + x) (by omega) (by omega)
      obtain ⟨τ, t1, t2, t3⟩ := ih (x + 1) m (kS σ 28 (row + x) (hL σ 28 (row + x) + w)) (by omega) (by omega) (by omega) (fun j g0 g1 => by
        rw [hL_kS (by omega) (by omega) (by omega) (by omega), if_neg (by omega)]; exact hb j (by omega) g1)
      refine ⟨τ, ?_, oLa_t oLa_k t2, fun j g0 => ?_⟩
      · simp (disch := omega) only [fX0_addToSeconds_3, z32_add, z32_sub, z32_mul, z32_neg, z32_litn, z32_lt, z32_le, z32_eq, iG_h, lG_h, iS_q, lS_q, aI_h, wI_h, aL_h, wL_h, ↓bnd_q, bnr_q, bnc_q, ↓reduceIte, ieqT, ieqF, iltT, iltF, ileT, ileF, not_true, not_false_iff, z64_add, z64_sub, z64_mul, z64_neg, z64_litn, z64_lt, z64_le, z64_eq, z32_64, z64_32]
        exact t1
      · rw [t3 j g0, hL_kS (by omega) g0 (by omega) (by omega)]
        by_cases g1 : j = row + x
        · subst g1
          rw [if_pos rfl, if_neg (by omega), if_pos (by omega)]; omega
        · rw [if_neg g1]
          by_cases g2 : row + x ≤ j ∧ j ≤ row + l
          · rw [if_pos g2, if_pos (by omega)]
          · rw [if_neg g2, if_neg (by omega)]
  exact key (l + 1 - f).toNat f zF σ (by omega) (by omega) (by unfold zF; omega) hb
theorem bestS_z (hr : 0 ≤ row) (hl : row + br < 244) (h0 : 0 ≤ br) (hg : ∀ s, 0 ≤ s → s ≤ br → hL σ 28 (row + s) = g s) : fX0_bestSecond σ (z32 row) (z32 br) = some (z32 (am g br)) := by
  have key := zup0 (L := fun f k a => fX0_bestSecond_5 σ f (z32 row) (z32 br) (z32 a) (z32 (k + 1))) (n := br) (w := some (z32 (am g br))) (am g) h0 (by omega) ?_ ?_
  · rw [am_0] at key
    simp only [fX0_bestSecond, z32_litn]
    exact key
  · intro f k hk hk'
    have b := am_b (g := g) hk
    have e1 := hg (k + 1) (by omega) (by omega)
    have e2 := hg (am g k) b.1 (by omega)
    have l1 := hL_lo σ 28 (row + (k + 1))
    have l2 := hL_hi σ 28 (row + (k + 1))
    have l3 := hL_lo σ 28 (row + am g k)
    have l4 := hL_hi σ 28 (row + am g k)
    rw [e1] at l1 l2
    rw [e2] at l3 l4
    try simp only []
    rw [am_s hk]
    by_cases c1 : g (k + 1) ≤ g (am g k)
    · rw [if_pos c1]
      simp (disch := omega) only [fX0_bestSecond_5, fX0_bestSecond_35, z32_add, z32_sub, z32_mul, z32_neg, z32_litn, z32_lt, z32_le, z32_eq, iG_h, lG_h, iS_q, lS_q, aI_h, wI_h, aL_h, wL_h, ↓bnd_q, bnr_q, bnc_q, ↓reduceIte, ieqT, ieqF, iltT, iltF, ileT, ileF, not_true, not_false_iff, z64_add, z64_sub, z64_mul, z64_neg, z64_litn, z64_lt, z64_le, z64_eq, z32_64, z64_32, e1, e2]
    · rw [if_neg c1]
      simp (disch := omega) only [fX0_bestSecond_5, fX0_bestSecond_35, z32_add, z32_sub, z32_mul, z32_neg, z32_litn, z32_lt, z32_le, z32_eq, iG_h, lG_h, iS_q, lS_q, aI_h, wI_h, aL_h, wL_h, ↓bnd_q, bnr_q, bnc_q, ↓reduceIte, ieqT, ieqF, iltT, iltF, ileT, ileF, not_true, not_false_iff, z64_add, z64_sub, z64_mul, z64_neg, z64_litn, z64_lt, z64_le, z64_eq, z32_64, z64_32, e1, e2]
  · intro f
    simp (disch := omega) only [fX0_bestSecond_5, z32_add, z32_sub, z32_mul, z32_neg, z32_litn, z32_lt, z32_le, z32_eq, iG_h, lG_h, iS_q, lS_q, aI_h, wI_h, aL_h, wL_h, ↓bnd_q, bnr_q, bnc_q, ↓reduceIte, ieqT, ieqF, iltT, iltF, ileT, ileF, not_true, not_false_iff, z64_add, z64_sub, z64_mul, z64_neg, z64_litn, z64_lt, z64_le, z64_eq, z32_64, z64_32]
theorem fillR_z {n : Nat} (hn : n ≤ 1000) (hi : 0 ≤ i) (hij : i ≤ j) (hj : j ≤ n) (hv : -9223372036854775808 ≤ v ∧ v < 9223372036854775808) : ∃ τ, fJ7_fill_bad5a c n (z32 i) (z32 j) (z64 v) σ = some τ ∧ oLa c σ τ ∧ ∀ k, 0 ≤ k → hL τ c k = if i ≤ k ∧ k < j then v else hL σ c k := by
  have key : ∀ (d : Nat) (x : Int) (m : Nat) (σ : zS), x + d = j → i ≤ x → d < m → ∃ τ, fJ7_fill_bad5a_10 c n m (z32 j) (z64 v) (z32 x) σ = some τ ∧ oLa c σ τ ∧ ∀ k, 0 ≤ k → hL τ c k = if x ≤ k ∧ k < j then v else hL σ c k := by
    intro d
    induction d with
    | zero =>
      intro x m σ hx hfx hm
      obtain ⟨m', rfl⟩ : ∃ m', m = m' + 1 := ⟨m - 1, by omega⟩
      refine ⟨σ, ?_, oLa_r, fun k g0 => ?_⟩
      · simp (disch := omega) only [fJ7_fill_bad5a_10, z32_add, z32_sub, z32_mul, z32_neg, z32_litn, z32_lt, z32_le, z32_eq, iG_h, lG_h, iS_q, lS_q, aI_h, wI_h, aL_h, wL_h, ↓bnd_q, bnr_q, bnc_q, ↓reduceIte, ieqT, ieqF, iltT, iltF, ileT, ileF, not_true, not_false_iff, z64_add, z64_sub, z64_mul, z64_neg, z64_litn, z64_lt, z64_le, z64_eq, z32_64, z64_32]
      · rw [if_neg (by omega)]
    | succ d ih =>
      intro x m σ hx hfx hm
      obtain ⟨m', rfl⟩ : ∃ m', m = m' + 1 := ⟨m - 1, by omega⟩
      obtain ⟨τ, t1, t2, t3⟩ := ih (x + 1) m' (kS σ c x v) (by omega) (by omega) (by omega)
      refine ⟨τ, ?_, oLa_t oLa_k t2, fun k g0 => ?_⟩
      · simp (disch := omega) only [fJ7_fill_bad5a_10, z32_add, z32_sub, z32_mul, z32_neg, z32_litn, z32_lt, z32_le, z32_eq, iG_h, lG_h, iS_q, lS_q, aI_h, wI_h, aL_h, wL_h, ↓bnd_q, bnr_q, bnc_q, ↓reduceIte, ieqT, ieqF, iltT, iltF, ileT, ileF, not_true, not_false_iff, z64_add, z64_sub, z64_mul, z64_neg, z64_litn, z64_lt, z64_le, z64_eq, z32_64, z64_32]
        exact t1
      · rw [t3 k g0, hL_kS (by omega) g0 hv.1 hv.2]
        by_cases g1 : k = x
        · subst g1
          rw [if_neg (by omega), if_pos rfl, if_pos (by omega)]
        · rw [if_neg g1]
          by_cases g2 : x ≤ k ∧ k < j
          · rw [if_pos g2, if_pos (by omega)]
          · rw [if_neg g2, if_neg (by omega)]
  obtain ⟨τ, t1, t2, t3⟩ := key (j - i).toNat i zF σ (by omega) (by omega) (by unfold zF; omega)
  refine ⟨τ, ?_, t2, t3⟩
  simp (disch := omega) only [fJ7_fill_bad5a, fJ7_rangeCheck_23922, z32_ofNat, z32_add, z32_sub, z32_mul, z32_neg, z32_litn, z32_lt, z32_le, z32_eq, iG_h, lG_h, iS_q, lS_q, aI_h, wI_h, aL_h, wL_h, ↓bnd_q, bnr_q, bnc_q, ↓reduceIte, ieqT, ieqF, iltT, iltF, ileT, ileF, not_true, not_false_iff, z64_add, z64_sub, z64_mul, z64_neg, z64_litn, z64_lt, z64_le, z64_eq, z32_64, z64_32]
  exact t1
theorem fillL_z {n : Nat} (hn : n ≤ 1000) (hv : -9223372036854775808 ≤ v ∧ v < 9223372036854775808) : ∃ τ, fJ7_fill_d0a16 c n (z64 v) σ = some τ ∧ oLa c σ τ ∧ ∀ k : Int, 0 ≤ k → k < n → hL τ c k = v := by
  have key : ∀ (d : Nat) (x : Int) (m : Nat) (σ : zS), x + d = n → 0 ≤ x → d < m → ∃ τ, fJ7_fill_d0a16_6 c n m (z64 v) (z32 x) (z32 n) σ = some τ ∧ oLa c σ τ ∧ ∀ k, 0 ≤ k → hL τ c k = if x ≤ k ∧ k < n then v else hL σ c k := by
    intro d
    induction d with
    | zero =>
      intro x m σ hx hfx hm
      obtain ⟨m', rfl⟩ : ∃ m', m = m' + 1 := ⟨m - 1, by omega⟩
      refine ⟨σ, ?_, oLa_r, fun k g0 => ?_⟩
      · simp (disch := omega) only [fJ7_fill_d0a16_6, z32_add, z32_sub, z32_mul, z32_neg, z32_litn, z32_lt, z32_le, z32_eq, iG_h, lG_h, iS_q, lS_q, aI_h, wI_h, aL_h, wL_h, ↓bnd_q, bnr_q, bnc_q, ↓reduceIte, ieqT, ieqF, iltT, iltF, ileT, ileF, not_true, not_false_iff, z64_add, z64_sub, z64_mul, z64_neg, z64_litn, z64_lt, z64_le, z64_eq, z32_64, z64_32]
      · rw [if_neg (by omega)]
    | succ d ih =>
      intro x m σ hx hfx hm
      obtain ⟨m', rfl⟩ : ∃ m', m = m' + 1 := ⟨m - 1, by omega⟩
      obtain ⟨τ, t1, t2, t3⟩ := ih (x + 1) m' (kS σ c x v) (by omega) (by omega) (by omega)
      refine ⟨τ, ?_, oLa_t oLa_k t2, fun k g0 => ?_⟩
      · simp (disch := omega) only [fJ7_fill_d0a16_6, z32_add, z32_sub, z32_mul, z32_neg, z32_litn, z32_lt, z32_le, z32_eq, iG_h, lG_h, iS_q, lS_q, aI_h, wI_h, aL_h, wL_h, ↓bnd_q, bnr_q, bnc_q, ↓reduceIte, ieqT, ieqF, iltT, iltF, ileT, ileF, not_true, not_false_iff, z64_add, z64_sub, z64_mul, z64_neg, z64_litn, z64_lt, z64_le, z64_eq, z32_64, z64_32]
        exact t1
      · rw [t3 k g0, hL_kS (by omega) g0 hv.1 hv.2]
        by_cases g1 : k = x
        · subst g1
          rw [if_neg (by omega), if_pos rfl, if_pos (by omega)]
        · rw [if_neg g1]
          by_cases g2 : x ≤ k ∧ k < n
          · rw [if_pos g2, if_pos (by omega)]
          · rw [if_neg g2, if_neg (by omega)]
  obtain ⟨τ, t1, t2, t3⟩ := key n 0 zF σ (by omega) (by omega) (by unfold zF; omega)
  refine ⟨τ, ?_, t2, fun k g0 g1 => by rw [t3 k g0, if_pos ⟨g0, g1⟩]⟩
  simp (disch := omega) only [fJ7_fill_d0a16, z32_ofNat, z32_litn]
  exact t1
theorem fillI_z {n : Nat} (hn : n ≤ 1000) (hv : -2147483648 ≤ v ∧ v < 2147483648) : ∃ τ, fJ7_fill_53178 c n (z32 v) σ = some τ ∧ oIa c σ τ ∧ ∀ k : Int, 0 ≤ k → k < n → hI τ c k = v := by
  have key : ∀ (d : Nat) (x : Int) (m : Nat) (σ : zS), x + d = n → 0 ≤ x → d < m → ∃ τ, fJ7_fill_53178_5 c n m (z32 v) (z32 x) (z32 n) σ = some τ ∧ oIa c σ τ ∧ ∀ k, 0 ≤ k → hI τ c k = if x ≤ k ∧ k < n then v else hI σ c k := by
    intro d
    induction d with
    | zero =>
      intro x m σ hx hfx hm
      obtain ⟨m', rfl⟩ : ∃ m', m = m' + 1 := ⟨m - 1, by omega⟩
      refine ⟨σ, ?_, oIa_r, fun k g0 => ?_⟩
      · simp (disch := omega) only [fJ7_fill_53178_5, z32_add, z32_sub, z32_mul, z32_neg, z32_litn, z32_lt, z32_le, z32_eq, iG_h, lG_h, iS_q, lS_q, aI_h, wI_h, aL_h, wL_h, ↓bnd_q, bnr_q, bnc_q, ↓reduceIte, ieqT, ieqF, iltT, iltF, ileT, ileF, not_true, not_false_iff, z64_add, z64_sub, z64_mul, z64_neg, z64_litn, z64_lt, z64_le, z64_eq, z32_64, z64_32]
      · rw [if_neg (by omega)]
    | succ d ih =>
      intro x m σ hx hfx hm
      obtain ⟨m', rfl⟩ : ∃ m', m = m' + 1 := ⟨m - 1, by omega⟩
      obtain ⟨τ, t1, t2, t3⟩ := ih (x + 1) m' (jS σ c x v) (by omega) (by omega) (by omega)
      refine ⟨τ, ?_, oIa_t oIa_j t2, fun k g0 => ?_⟩
      · simp (disch := omega) only [fJ7_fill_53178_5, z32_add, z32_sub, z32_mul, z32_neg, z32_litn, z32_lt, z32_le, z32_eq, iG_h, lG_h, iS_q, lS_q, aI_h, wI_h, aL_h, wL_h, ↓bnd_q, bnr_q, bnc_q, ↓reduceIte, ieqT, ieqF, iltT, iltF, ileT, ileF, not_true, not_false_iff, z64_add, z64_sub, z64_mul, z64_neg, z64_litn, z64_lt, z64_le, z64_eq, z32_64, z64_32]
        exact t1
      · rw [t3 k g0, hI_jS (by omega) g0 hv.1 hv.2]
        by_cases g1 : k = x
        · subst g1
          rw [if_neg (by omega), if_pos rfl, if_pos (by omega)]
        · rw [if_neg g1]
          by_cases g2 : x ≤ k ∧ k < n
          · rw [if_pos g2, if_pos (by omega)]
          · rw [if_neg g2, if_neg (by omega)]
  obtain ⟨τ, t1, t2, t3⟩ := key n 0 zF σ (by omega) (by omega) (by unfold zF; omega)
  refine ⟨τ, ?_, t2, fun k g0 g1 => by rw [t3 k g0, if_pos ⟨g0, g1⟩]⟩
  simp (disch := omega) only [fJ7_fill_53178, z32_ofNat, z32_litn]
  exact t1
end BT

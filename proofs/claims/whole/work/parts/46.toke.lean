/-! MY OWN: one step ahead on both sides at once -/
theorem bnd_q {α β : Type} (x : α) (F : α → β) : bnd x F = F x := by show F x = F x; exact of_eq_true (eq_self (F x))
theorem bnr_q {α β : Type} (x : α) (F : α → Option β) : bnr (some x) F = F x := by show F x = F x; exact of_eq_true (eq_self (F x))
theorem bnc_q {α β : Type} (x : α × zS) (F : α → zS → Option β) : bnc (some x) F = F x.1 x.2 := by show F x.1 x.2 = F x.1 x.2; exact of_eq_true (eq_self (F x.1 x.2))
theorem iS_q (σ : zS) (p m : Nat) (v : Int) : iS σ p (no_index (OfNat.ofNat m)) (z32 v) = jS σ p (no_index (OfNat.ofNat m)) v := of_eq_true (eq_self (jS σ p (no_index (OfNat.ofNat m)) v))
theorem lS_q (σ : zS) (p m : Nat) (v : Int) : lS σ p (no_index (OfNat.ofNat m)) (z64 v) = kS σ p (no_index (OfNat.ofNat m)) v := of_eq_true (eq_self (kS σ p (no_index (OfNat.ofNat m)) v))
def mn4 (n : Nat) : Nat := if n ≤ 4 then n else 4
section L6
variable {A σ : zS} {c : Int → Int} {N k a fr tk ow nm nu fa pl x q se fp va wd sg sa : Int} {m : Nat}
set_option maxHeartbeats 400000 in
theorem mNum_z {la : Int} (hT : MX σ c N) (h : mv σ N 2 q se 0 0 0 fp la) (hla : la = -1 ∨ la = q) (h0 : 0 ≤ q) (hm : rnT isD c N q m) : ∃ τ, fX11_ahead_204 zF (z32 q) (z32 0) (z32 1) (z32 4) (z32 0) σ = some τ ∧ oM σ τ ∧ mv τ N 2 q (q + m) (nvl c q (mn4 m)) 0 0 fp (if la = -1 then (if 5 ≤ m then q + 4 else -1) else la) := by
  obtain ⟨hm1, hm2, hm3⟩ := hm
  have hN := hT.2.1
  have key : ∀ (d n : Nat) (f : Nat) (σ : zS), MX σ c N → mv σ N 2 q se (nvl c q (mn4 n)) 0 0 fp (if la = -1 then (if 5 ≤ n then q + 4 else -1) else la) → n + d = m → d < f → ∃ τ, fX11_ahead_204 f (z32 (q + n)) (z32 0) (z32 1) (z32 4) (z32 n) σ = some τ ∧ oM σ τ ∧ mv τ N 2 q (q + m) (nvl c q (mn4 m)) 0 0 fp (if la = -1 then (if 5 ≤ m then q + 4 else -1) else la) := by
    intro d
    induction d with
    | zero =>
      intro n f σ hT h hd hf
      obtain ⟨g, rfl⟩ : ∃ g, f = g + 1 := ⟨f - 1, by omega⟩
      have : n = m := by omega
      subst this
      obtain ⟨e1, e2, e3, e4, e5, e6, e7, e8, e9⟩ := h
      refine ⟨jS σ 56 5 (q + n), ?_, oM_j (by omega) (by omega) (by omega), ?_⟩
      · rcases hm3 with h3 | h3
        · simp (disch := omega) only [fX11_ahead_204, fX11_ahead_334, z32_add, z32_sub, z32_mul, z32_neg, z32_litn, z32_lt, z32_le, z32_eq, iG_h, lG_h, iS_q, lS_q, aI_h, wI_h, aL_h, wL_h, ↓bnd_q, bnr_q, bnc_q, ↓reduceIte, ieqT, ieqF, iltT, iltF, ileT, ileF, not_true, not_false_iff, e1]
        · by_cases g2 : q + n = N
          · simp (disch := omega) only [fX11_ahead_204, fX11_ahead_334, z32_add, z32_sub, z32_mul, z32_neg, z32_litn, z32_lt, z32_le, z32_eq, iG_h, lG_h, iS_q, lS_q, aI_h, wI_h, aL_h, wL_h, ↓bnd_q, bnr_q, bnc_q, ↓reduceIte, ieqT, ieqF, iltT, iltF, ileT, ileF, not_true, not_false_iff, e1]
          · obtain ⟨b1, b2, b3⟩ := hT.2.2 (q + n) (by omega) (by omega)
            simp (disch := omega) only [fX11_ahead_204, fX11_ahead_334, z32_add, z32_sub, z32_mul, z32_neg, z32_litn, z32_lt, z32_le, z32_eq, iG_h, lG_h, iS_q, lS_q, aI_h, wI_h, aL_h, wL_h, ↓bnd_q, bnr_q, bnc_q, ↓reduceIte, ieqT, ieqF, iltT, iltF, ileT, ileF, not_true, not_false_iff, e1, b1, misD_f h3 b2 b3]
      · simp (disch := omega) only [mv, hI_jS, hL_jS, ↓reduceIte, ieqT, ieqF, iltT, iltF, ileT, ileF, not_true, not_false_iff, e1, e2, e3, e5, e6, e7, e8, e9]
        simp
    | succ d ih =>
      intro n f σ hT h hd hf
      obtain ⟨g, rfl⟩ : ∃ g, f = g + 1 := ⟨f - 1, by omega⟩
      obtain ⟨e1, e2, e3, e4, e5, e6, e7, e8, e9⟩ := h
      obtain ⟨b1, b2, b3⟩ := hT.2.2 (q + n) (by omega) (by omega)
      have hl := hm2 n (by omega)
      have hl' : 48 ≤ c (q + n) ∧ c (q + n) ≤ 57 := hl
      by_cases g6 : n < 4
      · have pb := nvl_b (c := c) (q := q) n (by omega) (fun i hi => hm2 i (by omega))
        have m6 : mn4 n = n := by unfold mn4; rw [if_pos (by omega)]
        have m7 : mn4 (n + 1) = n + 1 := by unfold mn4; rw [if_pos (by omega)]
        have x7 : (if la = -1 then (if 5 ≤ n then q + 4 else -1) else la) = la := by
          by_cases hz : la = -1
          · rw [if_pos hz, if_neg (by omega), hz]
          · rw [if_neg hz]
        have x8 : (if la = -1 then (if 5 ≤ n + 1 then q + 4 else -1) else la) = la := by
          by_cases hz : la = -1
          · rw [if_pos hz, if_neg (by omega), hz]
          · rw [if_neg hz]
        rw [m6] at e5
        rw [x7] at e9
        have pk : 10 * nvl c q n + c (q + n) - 48 = nvl c q (n + 1) := rfl
        have pb2 := nvl_b (c := c) (q := q) (n + 1) (by omega) (fun i hi => hm2 i (by omega))
        obtain ⟨τ, t1, t2, t3⟩ := ih (n + 1) g (jS σ 56 6 (nvl c q (n + 1))) (MX_o hT (oM_j (by omega) (by omega) (by omega))) (by
          rw [m7, x8]
          simp (disch := omega) only [mv, hI_jS, hL_jS, ↓reduceIte, ieqT, ieqF, iltT, iltF, ileT, ileF, not_true, not_false_iff, e1, e2, e3, e4, e6, e7, e8, e9]
          simp) (by omega) (by omega)
        refine ⟨τ, ?_, oM_t (oM_j (by omega) (by omega) (by omega)) t2, t3⟩
        rw [show (q + ((n + 1 : Nat) : Int)) = q + n + 1 by omega, show ((n + 1 : Nat) : Int) = (n : Int) + 1 by omega] at t1
        simp (disch := omega) only [fX11_ahead_204, fX11_ahead_243, fX11_ahead_263, fX11_ahead_293, fX11_ahead_325, z32_add, z32_sub, z32_mul, z32_neg, z32_litn, z32_lt, z32_le, z32_eq, iG_h, lG_h, iS_q, lS_q, aI_h, wI_h, aL_h, wL_h, ↓bnd_q, bnr_q, bnc_q, ↓reduceIte, ieqT, ieqF, iltT, iltF, ileT, ileF, not_true, not_false_iff, e1, b1, misD_t hl, e5, pk]
        exact t1
      · have m6 : mn4 n = 4 := by unfold mn4; split <;> omega
        have m7 : mn4 (n + 1) = 4 := by unfold mn4; split <;> omega
        by_cases g7 : n = 4
        · by_cases hz : la = -1
          · subst hz
            rw [if_pos rfl, if_neg (by omega)] at e9
            obtain ⟨τ, t1, t2, t3⟩ := ih (n + 1) g (jS σ 56 12 (q + n)) (MX_o hT (oM_j (by omega) (by omega) (by omega))) (by
              rw [m7, if_pos rfl, if_pos (by omega)]
              rw [m6] at e5
              simp (disch := omega) only [mv, hI_jS, hL_jS, ↓reduceIte, ieqT, ieqF, iltT, iltF, ileT, ileF, not_true, not_false_iff, e1, e2, e3, e4, e5, e6, e7, e8]
              simp) (by omega) (by omega)
            refine ⟨τ, ?_, oM_t (oM_j (by omega) (by omega) (by omega)) t2, t3⟩
            rw [show (q + ((n + 1 : Nat) : Int)) = q + n + 1 by omega, show ((n + 1 : Nat) : Int) = (n : Int) + 1 by omega] at t1
            simp (disch := omega) only [fX11_ahead_204, fX11_ahead_243, fX11_ahead_263, fX11_ahead_293, fX11_ahead_325, z32_add, z32_sub, z32_mul, z32_neg, z32_litn, z32_lt, z32_le, z32_eq, iG_h, lG_h, iS_q, lS_q, aI_h, wI_h, aL_h, wL_h, ↓bnd_q, bnr_q, bnc_q, ↓reduceIte, ieqT, ieqF, iltT, iltF, ileT, ileF, not_true, not_false_iff, e1, b1, misD_t hl, e9]
            exact t1
          · rw [if_neg hz] at e9
            obtain ⟨τ, t1, t2, t3⟩ := ih (n + 1) g σ hT (by
              rw [m7, if_neg hz]
              rw [m6] at e5
              exact ⟨e1, e2, e3, e4, e5, e6, e7, e8, e9⟩) (by omega) (by omega)
            refine ⟨τ, ?_, t2, t3⟩
            rw [show (q + ((n + 1 : Nat) : Int)) = q + n + 1 by omega, show ((n + 1 : Nat) : Int) = (n : Int) + 1 by omega] at t1
            have := hI_hi σ 56 12
            have := hI_lo σ 56 12
            simp (disch := omega) only [fX11_ahead_204, fX11_ahead_243, fX11_ahead_263, fX11_ahead_293, fX11_ahead_325, z32_add, z32_sub, z32_mul, z32_neg, z32_litn, z32_lt, z32_le, z32_eq, iG_h, lG_h, iS_q, lS_q, aI_h, wI_h, aL_h, wL_h, ↓bnd_q, bnr_q, bnc_q, ↓reduceIte, ieqT, ieqF, iltT, iltF, ileT, ileF, not_true, not_false_iff, e1, b1, misD_t hl, e9]
            exact t1
        · obtain ⟨τ, t1, t2, t3⟩ := ih (n + 1) g σ hT (by
            rw [m7]
            rw [m6] at e5
            refine ⟨e1, e2, e3, e4, e5, e6, e7, e8, ?_⟩
            rw [e9]
            by_cases hz : la = -1
            · rw [if_pos hz, if_pos hz, if_pos (by omega), if_pos (by omega)]
            · rw [if_neg hz, if_neg hz]) (by omega) (by omega)
          refine ⟨τ, ?_, t2, t3⟩
          rw [show (q + ((n + 1 : Nat) : Int)) = q + n + 1 by omega, show ((n + 1 : Nat) : Int) = (n : Int) + 1 by omega] at t1
          simp (disch := omega) only [fX11_ahead_204, fX11_ahead_243, fX11_ahead_263, fX11_ahead_293, fX11_ahead_325, z32_add, z32_sub, z32_mul, z32_neg, z32_litn, z32_lt, z32_le, z32_eq, iG_h, lG_h, iS_q, lS_q, aI_h, wI_h, aL_h, wL_h, ↓bnd_q, bnr_q, bnc_q, ↓reduceIte, ieqT, ieqF, iltT, iltF, ileT, ileF, not_true, not_false_iff, e1, b1, misD_t hl]
          exact t1
  have := key m 0 zF σ hT (by
    have x8 : (if la = -1 then (if 5 ≤ 0 then q + 4 else -1) else la) = la := by
      by_cases hz : la = -1
      · rw [if_pos hz, if_neg (by omega), hz]
      · rw [if_neg hz]
    rw [x8]
    exact h) (by omega) (by unfold zF; omega)
  simpa using this
set_option maxHeartbeats 200000 in
theorem a41_end (hT : MX σ c N) (h : mv σ N sg sa a va wd 0 fp k) (hq : q = N) : ∃ τ, fX11_ahead_41 (z32 q) σ = some τ ∧ oM σ τ ∧ mv τ N 0 q q va wd 0 fp (-1) := by
  have hN := hT.2.1
  obtain ⟨e1, e2, e3, e4, e5, e6, e7, e8, e9⟩ := h
  refine ⟨jS (jS (jS (jS σ 56 4 q) 56 5 q) 56 3 0) 56 12 (-1), ?_, ?_, ?_⟩
  · simp (disch := omega) only [fX11_ahead_41, z32_add, z32_sub, z32_mul, z32_neg, z32_litn, z32_lt, z32_le, z32_eq, iG_h, lG_h, iS_q, lS_q, ↓aI_h, ↓wI_h, ↓aL_h, ↓wL_h, aI_h, wI_h, aL_h, wL_h, ↓bnd_q, bnr_q, bnc_q, ↓reduceIte, ieqT, ieqF, iltT, iltF, ileT, ileF, not_true, not_false_iff, hI_jS, e1]
  · exact oM_t (oM_t (oM_t (oM_j (by omega) (by omega) (by omega)) (oM_j (by omega) (by omega) (by omega))) (oM_j (by omega) (by omega) (by omega))) (oM_j (by omega) (by omega) (by omega))
  · simp (disch := omega) only [mv, hI_jS, hL_jS, ↓reduceIte, ieqT, ieqF, iltT, iltF, ileT, ileF, not_true, not_false_iff, e1, e5, e6, e7, e8]
    simp
set_option maxHeartbeats 200000 in
theorem a41_sign (hT : MX σ c N) (h : mv σ N sg sa a va wd 0 fp k) (h0 : 0 ≤ q) (hq : q < N) (hl : ¬ isL (c q)) (hd : ¬ isD (c q)) : ∃ τ, fX11_ahead_41 (z32 q) σ = some τ ∧ oM σ τ ∧ mv τ N 3 q (q + 1) (c q) 0 0 fp (-1) := by
  have hN := hT.2.1
  obtain ⟨b1, b2, b3⟩ := hT.2.2 q h0 hq
  obtain ⟨e1, e2, e3, e4, e5, e6, e7, e8, e9⟩ := h
  refine ⟨jS (jS (jS (kS (jS (jS (jS (jS (jS σ 56 4 q) 56 5 q) 56 3 0) 56 12 (-1)) 56 6 0) 56 7 0) 56 3 3) 56 5 (q + 1)) 56 6 (c q), ?_, ?_, ?_⟩
  · simp (disch := omega) only [fX11_ahead_41, fX11_ahead_135, z32_add, z32_sub, z32_mul, z32_neg, z32_litn, z32_lt, z32_le, z32_eq, iG_h, lG_h, iS_q, lS_q, ↓aI_h, ↓wI_h, ↓aL_h, ↓wL_h, aI_h, wI_h, aL_h, wL_h, ↓bnd_q, bnr_q, bnc_q, ↓reduceIte, ieqT, ieqF, iltT, iltF, ileT, ileF, not_true, not_false_iff, z64_add, z64_sub, z64_mul, z64_neg, z64_litn, z64_lt, z64_le, z64_eq, z32_64, z64_32, hI_jS, hI_jS_ne, hI_kS, e1, b1, misL_f hl b2 b3, misD_f hd b2 b3]
  · exact oM_t (oM_t (oM_t (oM_t (oM_t (oM_t (oM_t (oM_t (oM_j (by omega) (by omega) (by omega)) (oM_j (by omega) (by omega) (by omega))) (oM_j (by omega) (by omega) (by omega))) (oM_j (by omega) (by omega) (by omega))) (oM_j (by omega) (by omega) (by omega))) (oM_k (by omega) (by omega))) (oM_j (by omega) (by omega) (by omega))) (oM_j (by omega) (by omega) (by omega))) (oM_j (by omega) (by omega) (by omega))
  · simp (disch := omega) only [mv, hI_jS, hL_jS, hI_kS, hL_kS, ↓reduceIte, ieqT, ieqF, iltT, iltF, ileT, ileF, not_true, not_false_iff, e1, e7, e8]
    simp
set_option maxHeartbeats 200000 in
theorem a41_w (hT : MX σ c N) (h : mv σ N sg sa a va wd 0 fp k) (h0 : 0 ≤ q) (hq : q < N) (hl : isL (c q)) : ∃ τ, fX11_ahead_41 (z32 q) σ = fX11_ahead_98 (z32 q) (z32 1) (z32 0) τ ∧ oM σ τ ∧ mv τ N 0 q q va wd 0 fp (-1) := by
  have hN := hT.2.1
  obtain ⟨b1, b2, b3⟩ := hT.2.2 q h0 hq
  obtain ⟨e1, e2, e3, e4, e5, e6, e7, e8, e9⟩ := h
  have hd : ¬ isD (c q) := fun g => LD_x g hl
  refine ⟨jS (jS (jS (jS σ 56 4 q) 56 5 q) 56 3 0) 56 12 (-1), ?_, ?_, ?_⟩
  · simp (disch := omega) only [fX11_ahead_41, z32_add, z32_sub, z32_mul, z32_neg, z32_litn, z32_lt, z32_le, z32_eq, iG_h, lG_h, iS_q, lS_q, ↓aI_h, ↓wI_h, ↓aL_h, ↓wL_h, aI_h, wI_h, aL_h, wL_h, ↓bnd_q, bnr_q, bnc_q, ↓reduceIte, ieqT, ieqF, iltT, iltF, ileT, ileF, not_true, not_false_iff, hI_jS, hI_jS_ne, e1, b1, misL_t hl, misD_f hd b2 b3]
  · exact oM_t (oM_t (oM_t (oM_j (by omega) (by omega) (by omega)) (oM_j (by omega) (by omega) (by omega))) (oM_j (by omega) (by omega) (by omega))) (oM_j (by omega) (by omega) (by omega))
  · simp (disch := omega) only [mv, hI_jS, hL_jS, ↓reduceIte, ieqT, ieqF, iltT, iltF, ileT, ileF, not_true, not_false_iff, e1, e5, e6, e7, e8]
    simp
set_option maxHeartbeats 200000 in
theorem a41_d (hT : MX σ c N) (h : mv σ N sg sa a va wd 0 fp k) (h0 : 0 ≤ q) (hq : q < N) (hl : isD (c q)) : ∃ τ, fX11_ahead_41 (z32 q) σ = fX11_ahead_98 (z32 q) (z32 0) (z32 1) τ ∧ oM σ τ ∧ mv τ N 0 q q va wd 0 fp (-1) := by
  have hN := hT.2.1
  obtain ⟨b1, b2, b3⟩ := hT.2.2 q h0 hq
  obtain ⟨e1, e2, e3, e4, e5, e6, e7, e8, e9⟩ := h
  refine ⟨jS (jS (jS (jS σ 56 4 q) 56 5 q) 56 3 0) 56 12 (-1), ?_, ?_, ?_⟩
  · simp (disch := omega) only [fX11_ahead_41, z32_add, z32_sub, z32_mul, z32_neg, z32_litn, z32_lt, z32_le, z32_eq, iG_h, lG_h, iS_q, lS_q, ↓aI_h, ↓wI_h, ↓aL_h, ↓wL_h, aI_h, wI_h, aL_h, wL_h, ↓bnd_q, bnr_q, bnc_q, ↓reduceIte, ieqT, ieqF, iltT, iltF, ileT, ileF, not_true, not_false_iff, hI_jS, hI_jS_ne, e1, b1, misL_f (LD_x hl) b2 b3, misD_t hl]
  · exact oM_t (oM_t (oM_t (oM_j (by omega) (by omega) (by omega)) (oM_j (by omega) (by omega) (by omega))) (oM_j (by omega) (by omega) (by omega))) (oM_j (by omega) (by omega) (by omega))
  · simp (disch := omega) only [mv, hI_jS, hL_jS, ↓reduceIte, ieqT, ieqF, iltT, iltF, ileT, ileF, not_true, not_false_iff, e1, e5, e6, e7, e8]
    simp
set_option maxHeartbeats 200000 in
theorem a98n {i j : Int32} (hT : MX σ c N) (h0 : 0 ≤ q) (hq : q < N) (hn : ¬ sdP c q) : fX11_ahead_98 (z32 q) i j σ = fX11_ahead_135 (z32 q) i j σ := by
  have hN := hT.2.1
  by_cases g : q ≤ 0
  · simp (disch := omega) only [fX11_ahead_98, z32_add, z32_sub, z32_mul, z32_neg, z32_litn, z32_lt, z32_le, z32_eq, iG_h, lG_h, iS_q, lS_q, ↓aI_h, ↓wI_h, ↓aL_h, ↓wL_h, aI_h, wI_h, aL_h, wL_h, ↓bnd_q, bnr_q, bnc_q, ↓reduceIte, ieqT, ieqF, iltT, iltF, ileT, ileF, not_true, not_false_iff]
  · obtain ⟨b1, b2, b3⟩ := hT.2.2 (q - 1) (by omega) (by omega)
    have g1 : ¬ isL (c (q - 1)) := fun w => hn ⟨by omega, Or.inl w⟩
    have g2 : ¬ isD (c (q - 1)) := fun w => hn ⟨by omega, Or.inr w⟩
    simp (disch := omega) only [fX11_ahead_98, z32_add, z32_sub, z32_mul, z32_neg, z32_litn, z32_lt, z32_le, z32_eq, iG_h, lG_h, iS_q, lS_q, ↓aI_h, ↓wI_h, ↓aL_h, ↓wL_h, aI_h, wI_h, aL_h, wL_h, ↓bnd_q, bnr_q, bnc_q, ↓reduceIte, ieqT, ieqF, iltT, iltF, ileT, ileF, not_true, not_false_iff, b1, misL_f g1 b2 b3, misD_f g2 b2 b3]
set_option maxHeartbeats 200000 in
theorem a98s {i j : Int32} (hT : MX σ c N) (h0 : 0 ≤ q) (hq : q < N) (hn : sdP c q) : fX11_ahead_98 (z32 q) i j σ = fX11_ahead_135 (z32 q) i j (jS σ 56 12 q) := by
  have hN := hT.2.1
  obtain ⟨g0, g1⟩ := hn
  obtain ⟨b1, b2, b3⟩ := hT.2.2 (q - 1) (by omega) (by omega)
  by_cases g2 : isL (c (q - 1))
  · simp (disch := omega) only [fX11_ahead_98, fX11_ahead_130, z32_add, z32_sub, z32_mul, z32_neg, z32_litn, z32_lt, z32_le, z32_eq, iG_h, lG_h, iS_q, lS_q, ↓aI_h, ↓wI_h, ↓aL_h, ↓wL_h, aI_h, wI_h, aL_h, wL_h, ↓bnd_q, bnr_q, bnc_q, ↓reduceIte, ieqT, ieqF, iltT, iltF, ileT, ileF, not_true, not_false_iff, b1, misL_t g2]
  · have g3 : isD (c (q - 1)) := by rcases g1 with g | g; exact absurd g g2; exact g
    simp (disch := omega) only [fX11_ahead_98, fX11_ahead_130, z32_add, z32_sub, z32_mul, z32_neg, z32_litn, z32_lt, z32_le, z32_eq, iG_h, lG_h, iS_q, lS_q, ↓aI_h, ↓wI_h, ↓aL_h, ↓wL_h, aI_h, wI_h, aL_h, wL_h, ↓bnd_q, bnr_q, bnc_q, ↓reduceIte, ieqT, ieqF, iltT, iltF, ileT, ileF, not_true, not_false_iff, b1, misL_f g2 b2 b3, misD_t g3]
set_option maxHeartbeats 200000 in
theorem a98 {i j la : Int} (hT : MX σ c N) (h : mv σ N sg q se va wd 0 fp (-1)) (h0 : 0 ≤ q) (hq : q < N) (hla : (la = -1 ∧ ¬ sdP c q) ∨ (la = q ∧ sdP c q)) : ∃ τ, fX11_ahead_98 (z32 q) (z32 i) (z32 j) σ = fX11_ahead_135 (z32 q) (z32 i) (z32 j) τ ∧ oM σ τ ∧ mv τ N sg q se va wd 0 fp la := by
  have hN := hT.2.1
  rcases hla with ⟨g1, g2⟩ | ⟨g1, g2⟩
  · subst g1
    exact ⟨σ, a98n hT h0 hq g2, oM_r σ, h⟩
  · obtain ⟨e1, e2, e3, e4, e5, e6, e7, e8, e9⟩ := h
    refine ⟨jS σ 56 12 q, a98s hT h0 hq g2, oM_j (by omega) (by omega) (by omega), ?_⟩
    simp (disch := omega) only [mv, hI_jS, hL_jS, ↓reduceIte, ieqT, ieqF, iltT, iltF, ileT, ileF, not_true, not_false_iff, e1, e2, e3, e4, e5, e6, e7, e8]
    simp [g1]
set_option maxHeartbeats 200000 in
theorem a135 {i j la u v : Int} (hij : (i = 1 ∧ j = 0 ∧ u = 1 ∧ v = 6) ∨ (i = 0 ∧ j = 1 ∧ u = 2 ∧ v = 4)) (h : mv σ N sg q se va wd 0 fp la) (h0 : 0 ≤ q) (hq : q < 1600) : ∃ τ, fX11_ahead_135 (z32 q) (z32 i) (z32 j) σ = fX11_ahead_204 zF (z32 q) (z32 i) (z32 j) (z32 v) (z32 0) τ ∧ oM σ τ ∧ mv τ N u q (q + 1) 0 0 0 fp la := by
  obtain ⟨e1, e2, e3, e4, e5, e6, e7, e8, e9⟩ := h
  refine ⟨jS (jS (jS (kS (jS σ 56 6 0) 56 7 0) 56 3 3) 56 5 (q + 1)) 56 3 u, ?_, ?_, ?_⟩
  · rcases hij with ⟨g1, g2, g3, g4⟩ | ⟨g1, g2, g3, g4⟩
    · subst g1 g2 g3 g4
      simp (disch := omega) only [fX11_ahead_135, fX11_ahead_176, fX11_ahead_186, fX11_ahead_199, z32_add, z32_sub, z32_mul, z32_neg, z32_litn, z32_lt, z32_le, z32_eq, iG_h, lG_h, iS_q, lS_q, ↓aI_h, ↓wI_h, ↓aL_h, ↓wL_h, aI_h, wI_h, aL_h, wL_h, ↓bnd_q, bnr_q, bnc_q, ↓reduceIte, ieqT, ieqF, iltT, iltF, ileT, ileF, not_true, not_false_iff, z64_add, z64_sub, z64_mul, z64_neg, z64_litn, z64_lt, z64_le, z64_eq, z32_64, z64_32]
    · subst g1 g2 g3 g4
      simp (disch := omega) only [fX11_ahead_135, fX11_ahead_176, fX11_ahead_186, fX11_ahead_199, z32_add, z32_sub, z32_mul, z32_neg, z32_litn, z32_lt, z32_le, z32_eq, iG_h, lG_h, iS_q, lS_q, ↓aI_h, ↓wI_h, ↓aL_h, ↓wL_h, aI_h, wI_h, aL_h, wL_h, ↓bnd_q, bnr_q, bnc_q, ↓reduceIte, ieqT, ieqF, iltT, iltF, ileT, ileF, not_true, not_false_iff, z64_add, z64_sub, z64_mul, z64_neg, z64_litn, z64_lt, z64_le, z64_eq, z32_64, z64_32]
  · exact oM_t (oM_t (oM_t (oM_t (oM_j (by omega) (by omega) (by omega)) (oM_k (by omega) (by omega))) (oM_j (by omega) (by omega) (by omega))) (oM_j (by omega) (by omega) (by omega))) (oM_j (by omega) (by omega) (by omega))
  · have e9' := hI_lo σ 56 12
    have e9'' := hI_hi σ 56 12
    simp (disch := omega) only [mv, hI_jS, hL_jS, hI_kS, hL_kS, ↓reduceIte, ieqT, ieqF, iltT, iltF, ileT, ileF, not_true, not_false_iff, e1, e3, e7, e8, e9]
    simp
set_option maxHeartbeats 200000 in
theorem a41_word {la : Int} (hT : MX σ c N) (h : mv σ N sg sa a va wd 0 fp k) (h0 : 0 ≤ q) (hq : q < N) (hm : rnT isL c N q m) (h1 : 1 ≤ m) (hla : (la = -1 ∧ ¬ sdP c q) ∨ (la = q ∧ sdP c q)) : ∃ τ, fX11_ahead_41 (z32 q) σ = some τ ∧ oM σ τ ∧ mv τ N 1 q (q + m) 0 (pk8 (ltr c q) (mn6 m)) 0 fp (if la = -1 then (if 7 ≤ m then q + 6 else -1) else la) := by
  have hN := hT.2.1
  have hl : isL (c q) := by simpa using hm.2.1 0 (by omega)
  obtain ⟨τ1, t1, t2, t3⟩ := a41_w hT h h0 hq hl
  obtain ⟨τ2, u1, u2, u3⟩ := a98 (i := 1) (j := 0) (MX_o hT t2) t3 h0 hq hla
  obtain ⟨τ3, w1, w2, w3⟩ := a135 (i := 1) (j := 0) (u := 1) (v := 6) (Or.inl ⟨rfl, rfl, rfl, rfl⟩) u3 h0 (by omega)
  obtain ⟨τ4, x1, x2, x3⟩ := mWord_z (MX_o (MX_o (MX_o hT t2) u2) w2) w3 (by omega) h0 hm
  exact ⟨τ4, by rw [t1, u1, w1, x1], oM_t (oM_t (oM_t t2 u2) w2) x2, x3⟩
set_option maxHeartbeats 200000 in
theorem a41_num {la : Int} (hT : MX σ c N) (h : mv σ N sg sa a va wd 0 fp k) (h0 : 0 ≤ q) (hq : q < N) (hm : rnT isD c N q m) (h1 : 1 ≤ m) (hla : (la = -1 ∧ ¬ sdP c q) ∨ (la = q ∧ sdP c q)) : ∃ τ, fX11_ahead_41 (z32 q) σ = some τ ∧ oM σ τ ∧ mv τ N 2 q (q + m) (nvl c q (mn4 m)) 0 0 fp (if la = -1 then (if 5 ≤ m then q + 4 else -1) else la) := by
  have hN := hT.2.1
  have hl : isD (c q) := by simpa using hm.2.1 0 (by omega)
  obtain ⟨τ1, t1, t2, t3⟩ := a41_d hT h h0 hq hl
  obtain ⟨τ2, u1, u2, u3⟩ := a98 (i := 0) (j := 1) (MX_o hT t2) t3 h0 hq hla
  obtain ⟨τ3, w1, w2, w3⟩ := a135 (i := 0) (j := 1) (u := 2) (v := 4) (Or.inr ⟨rfl, rfl, rfl, rfl⟩) u3 h0 (by omega)
  obtain ⟨τ4, x1, x2, x3⟩ := mNum_z (MX_o (MX_o (MX_o hT t2) u2) w2) w3 (by omega) h0 hm
  exact ⟨τ4, by rw [t1, u1, w1, x1], oM_t (oM_t (oM_t t2 u2) w2) x2, x3⟩
end L6

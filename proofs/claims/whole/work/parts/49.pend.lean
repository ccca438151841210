/-! MY OWN: operators held back, and how they are joined -/
def rkI (m : Int) : Int := if m = 21 then 1 else if m = 20 then 2 else if m = 22 then 3 else if m = 17 then 4 else if m = 18 then 4 else if m = 19 then 4 else if m = 10 then 5 else if m = 11 then 5 else 6
theorem rk_z {m : Int} (h0 : -2147483648 ≤ m) (h1 : m < 2147483648) : fX11_rank (z32 m) = z32 (rkI m) := by
  simp (disch := omega) only [fX11_rank, fX11_rank_48, fX11_rank_64, z32_litn, z32_eq, rkI, apply_ite z32]
theorem rk_b (m : Int) : 1 ≤ rkI m ∧ rkI m ≤ 6 := by
  unfold rkI
  repeat' split
  all_goals omega
def nbL : List (Int × Int × ((Int → Int) → Int)) → Int
  | [] => 0
  | x :: L => if x.1 = 22 then nbL L else nbL L + 1
def nnL : List (Int × Int × ((Int → Int) → Int)) → Int
  | [] => 0
  | x :: L => if x.1 = 22 then nnL L + 1 else nnL L
def CH (S V O : Int → Int) (D om E r : Int) : List (Int × Int × ((Int → Int) → Int)) → Int → Int → ((Int → Int) → Int) → ((Int → Int) → Int) → Prop
  | [], om', s, F, G => om' = om ∧ s = E ∧ G = F
  | x :: L, om', s, F, G => O (om' - 1) = x.1 ∧ r ≤ rkI x.1 ∧ ((x.1 = 22 ∧ bT F ∧ CH S V O D om E r L (om' - 1) s (fun f => 1 - F f) G) ∨ ((10 ≤ x.1 ∧ x.1 ≤ 21) ∧ bF F ∧ bF x.2.2 ∧ (20 ≤ x.1 → bT x.2.2 ∧ bT F) ∧ mSeg S V x.2.1 s x.2.2 (D - nbL L) ∧ CH S V O D om E r L (om' - 1) x.2.1 (fun f => zop x.1 (x.2.2 f) (F f)) G))
section CHs
variable {S V O S' V' O' : Int → Int} {D D' D1 om om1 om' E E1 r r' s : Int} {F G G2 : (Int → Int) → Int}
theorem nb_a (L2 L1 : List (Int × Int × ((Int → Int) → Int))) : nbL (L2 ++ L1) = nbL L2 + nbL L1 := by
  induction L2 with
  | nil => simp [nbL]
  | cons x L ih =>
    simp only [List.cons_append, nbL]
    split <;> omega
theorem nn_a (L2 L1 : List (Int × Int × ((Int → Int) → Int))) : nnL (L2 ++ L1) = nnL L2 + nnL L1 := by
  induction L2 with
  | nil => simp [nnL]
  | cons x L ih =>
    simp only [List.cons_append, nnL]
    split <;> omega
theorem nb_0 (L : List (Int × Int × ((Int → Int) → Int))) : 0 ≤ nbL L ∧ 0 ≤ nnL L := by
  induction L with
  | nil => simp [nbL, nnL]
  | cons x L ih =>
    simp only [nbL, nnL]
    split <;> omega
theorem CH_b : ∀ (L : List (Int × Int × ((Int → Int) → Int))) (om' s : Int) (F : (Int → Int) → Int), CH S V O D om E r L om' s F G → om' = om + nbL L + nnL L ∧ om' = om + (L.length : Int) ∧ E ≤ s := by
  intro L
  induction L with
  | nil =>
    intro om' s F h
    obtain ⟨h1, h2, -⟩ := h
    simp only [nbL, nnL, List.length_nil]
    omega
  | cons x L ih =>
    intro om' s F h
    obtain ⟨h1, h2, h3⟩ := h
    simp only [nbL, nnL, List.length_cons]
    rcases h3 with ⟨g1, g2, g3⟩ | ⟨g1, g2, g3, g4, g5, g6⟩
    · have := ih _ _ _ g3
      rw [if_pos g1, if_pos g1]
      omega
    · have := ih _ _ _ g6
      have := g5.1
      rw [if_neg (by omega), if_neg (by omega)]
      omega
theorem CH_m (hr : r' ≤ r) (hD : D ≤ D') : ∀ (L : List (Int × Int × ((Int → Int) → Int))) (om' s : Int) (F : (Int → Int) → Int), CH S V O D om E r L om' s F G → CH S V O D' om E r' L om' s F G := by
  intro L
  induction L with
  | nil => intro om' s F h; exact h
  | cons x L ih =>
    intro om' s F h
    obtain ⟨h1, h2, h3⟩ := h
    refine ⟨h1, by omega, ?_⟩
    rcases h3 with ⟨g1, g2, g3⟩ | ⟨g1, g2, g3, g4, g5, g6⟩
    · exact Or.inl ⟨g1, g2, ih _ _ _ g3⟩
    · exact Or.inr ⟨g1, g2, g3, g4, mSeg_mono g5 (by omega), ih _ _ _ g6⟩
theorem CH_c : ∀ (L : List (Int × Int × ((Int → Int) → Int))) (om' s : Int) (F : (Int → Int) → Int), CH S V O D om E r L om' s F G → (∀ i, E ≤ i → i < s → S' i = S i ∧ V' i = V i) → (∀ i, om ≤ i → i < om' → O' i = O i) → CH S' V' O' D om E r L om' s F G := by
  intro L
  induction L with
  | nil => intro om' s F h _ _; exact h
  | cons x L ih =>
    intro om' s F h hs ho
    have hb := CH_b _ _ _ _ h
    obtain ⟨h1, h2, h3⟩ := h
    simp only [List.length_cons] at hb
    refine ⟨by rw [ho _ (by omega) (by omega)]; exact h1, h2, ?_⟩
    rcases h3 with ⟨g1, g2, g3⟩ | ⟨g1, g2, g3, g4, g5, g6⟩
    · exact Or.inl ⟨g1, g2, ih _ _ _ g3 hs (fun i w0 w1 => ho i w0 (by omega))⟩
    · have hb2 := CH_b _ _ _ _ g6
      have := g5.1
      exact Or.inr ⟨g1, g2, g3, g4, mSeg_cong g5 (fun i w0 w1 => hs i (by omega) w1), ih _ _ _ g6 (fun i w0 w1 => hs i w0 (by omega)) (fun i w0 w1 => ho i w0 (by omega))⟩
theorem CH_a {L1 : List (Int × Int × ((Int → Int) → Int))} (h1 : CH S V O D om E r L1 om1 E1 G2 G) (hD : D1 = D - nbL L1) : ∀ (L : List (Int × Int × ((Int → Int) → Int))) (om' s : Int) (F : (Int → Int) → Int), CH S V O D1 om1 E1 r L om' s F G2 → CH S V O D om E r (L ++ L1) om' s F G := by
  intro L
  induction L with
  | nil =>
    intro om' s F h
    obtain ⟨e1, e2, e3⟩ := h
    subst e1 e2 e3
    exact h1
  | cons x L ih =>
    intro om' s F h
    obtain ⟨h1, h2, h3⟩ := h
    refine ⟨h1, h2, ?_⟩
    rcases h3 with ⟨g1, g2, g3⟩ | ⟨g1, g2, g3, g4, g5, g6⟩
    · exact Or.inl ⟨g1, g2, ih _ _ _ g3⟩
    · exact Or.inr ⟨g1, g2, g3, g4, by show mSeg S V x.2.1 s x.2.2 (D - nbL (L ++ L1)); rw [nb_a, show D - (nbL L + nbL L1) = D1 - nbL L by omega]; exact g5, ih _ _ _ g6⟩
/-- ranks above 3: no not among them -/
theorem CH_n (hr : 4 ≤ r) : ∀ (L : List (Int × Int × ((Int → Int) → Int))) (om' s : Int) (F : (Int → Int) → Int), CH S V O D om E r L om' s F G → nnL L = 0 := by
  intro L
  induction L with
  | nil => intro om' s F h; rfl
  | cons x L ih =>
    intro om' s F h
    obtain ⟨h1, h2, h3⟩ := h
    rcases h3 with ⟨g1, g2, g3⟩ | ⟨g1, g2, g3, g4, g5, g6⟩
    · rw [g1] at h2
      have : rkI 22 = 3 := by decide
      omega
    · simp only [nnL]
      rw [if_neg (by omega)]
      exact ih _ _ _ g6
theorem CH_7 (hr : 7 ≤ r) {L : List (Int × Int × ((Int → Int) → Int))} (h : CH S V O D om E r L om' s F G) : L = [] := by
  cases L with
  | nil => rfl
  | cons x L =>
    obtain ⟨h1, h2, h3⟩ := h
    have := rk_b x.1
    omega
theorem bT_F {F : (Int → Int) → Int} (h : bT F) : bF F := fun f hf => by have := h f hf; omega
theorem bT_n {F : (Int → Int) → Int} (h : bT F) : bT (fun f => 1 - F f) := fun f hf => by have := h f hf; simp only []; omega
end CHs
def jP (b e : Int) (p : Nat) (k : Int) : Prop := (p = 56 ∧ (k = 34 ∨ k = 42 ∨ k = 44)) ∨ ((p = 74 ∨ p = 75) ∧ 1600 * b + e ≤ k ∧ k < 1600 * b + 1600)
theorem jP_m {b e e' : Int} (h : e ≤ e') (p : Nat) (k : Int) (_ : 0 ≤ k) (hp : jP b e' p k) : jP b e p k := by
  unfold jP at hp ⊢
  omega
theorem jn_z {b dp ba om E r D ls : Int} {G : (Int → Int) → Int} (hb : 0 ≤ b ∧ b ≤ 1) (hd : 1 ≤ dp ∧ dp ≤ 20) (hba : 0 ≤ ba ∧ ba ≤ om) (hls : ls ≤ r) (hl1 : 1 ≤ ls ∧ ls ≤ 6) (hE : 0 ≤ E) : ∀ (L : List (Int × Int × ((Int → Int) → Int))) (σ : zS) (e om' s o : Int) (F : (Int → Int) → Int) (f : Nat), hI σ 56 34 = e → hI σ 56 44 = om' → hI σ 56 41 = dp → hI σ 56 42 = o → hI σ 56 35 = b → hI σ 82 (dp - 1) = ba → CH (hI σ 74) (hI σ 75) (hI σ 83) D om E r L om' s F G → mSeg (hI σ 74) (hI σ 75) s (1600 * b + e) F (D - nbL L) → 1 ≤ D - nbL L → (om = ba ∨ rkI (hI σ 83 (om - 1)) < ls) → 0 ≤ e → e + (om' - om) ≤ 1600 → om' ≤ 500 → nnL L ≤ o → o ≤ 100 → L.length < f → ∃ τ, fX11_joins_0 f (z32 ls) σ = some τ ∧ hI τ 56 34 = e + (om' - om) ∧ hI τ 56 44 = om ∧ hI τ 56 42 = o - nnL L ∧ fr (jP b e) σ τ ∧ mSeg (hI τ 74) (hI τ 75) E (1600 * b + (e + (om' - om))) G D := by
  intro L
  induction L with
  | nil =>
    intro σ e om' s o F f h34 h44 h41 h42 h35 h82 hC hS hD ht he he2 ho hn hn2 hf
    obtain ⟨g, rfl⟩ : ∃ g, f = g + 1 := ⟨f - 1, by omega⟩
    obtain ⟨c1, c2, c3⟩ := hC
    subst c1 c2 c3
    simp only [nbL, Int.sub_zero] at hS
    simp only [nnL, Int.sub_zero]
    refine ⟨σ, ?_, by omega, h44, h42, fr_r, by rw [show e + (om' - om') = e by omega]; exact hS⟩
    by_cases g1 : om' = ba
    · simp (disch := omega) only [fX11_joins_0, z32_add, z32_sub, z32_mul, z32_neg, z32_litn, z32_lt, z32_le, z32_eq, iG_h, lG_h, iS_q, lS_q, aI_h, wI_h, aL_h, wL_h, ↓bnd_q, bnr_q, bnc_q, ↓reduceIte, ieqT, ieqF, iltT, iltF, ileT, ileF, not_true, not_false_iff, h41, h44, h82]
    · have ht2 : rkI (hI σ 83 (om' - 1)) < ls := by rcases ht with h | h; exact absurd h g1; exact h
      have l1 := hI_lo σ 83 (om' - 1)
      have l2 := hI_hi σ 83 (om' - 1)
      have rb := rk_b (hI σ 83 (om' - 1))
      simp (disch := omega) only [fX11_joins_0, z32_add, z32_sub, z32_mul, z32_neg, z32_litn, z32_lt, z32_le, z32_eq, iG_h, lG_h, iS_q, lS_q, aI_h, wI_h, aL_h, wL_h, ↓bnd_q, bnr_q, bnc_q, ↓reduceIte, ieqT, ieqF, iltT, iltF, ileT, ileF, not_true, not_false_iff, h41, h44, h82, rk_z]
  | cons x L ih =>
    intro σ e om' s o F f h34 h44 h41 h42 h35 h82 hC hS hD ht he he2 ho hn hn2 hf
    obtain ⟨g, rfl⟩ : ∃ g, f = g + 1 := ⟨f - 1, by omega⟩
    obtain ⟨m, s', F'⟩ := x
    have hbd := CH_b _ _ _ _ hC
    obtain ⟨c1, c2, c3⟩ := hC
    simp only [] at c1 c2 c3
    simp only [List.length_cons] at hbd hf
    have nb0 := nb_0 L
    have ht2 : om = ba ∨ (0 ≤ om - 1 ∧ rkI (hI σ 83 (om - 1)) < ls) := by
      by_cases w : om = ba
      · exact Or.inl w
      · rcases ht with w2 | w2
        · exact Or.inl w2
        · exact Or.inr ⟨by omega, w2⟩
    have hm : m = 22 ∨ (10 ≤ m ∧ m ≤ 21) := by rcases c3 with ⟨w, _⟩ | ⟨w, _⟩; exact Or.inl w; exact Or.inr w
    have ma := madd_z (σ := jS σ 56 44 (om' - 1)) (s := m) (v := 0) (e := e) (b := b) (by rw [hI_j0 (by omega) (by omega) (by omega)]; exact h34) (by rw [hI_j0 (by omega) (by omega) (by omega)]; exact h35) hb.1 hb.2 he (by omega)
    have fr1 : fr (jP b e) σ (jS (jS (jS (jS σ 56 44 (om' - 1)) 74 (1600 * b + e) m) 75 (1600 * b + e) 0) 56 34 (e + 1)) := fr_t (fr_t (fr_t (fr_j (by omega) (by unfold jP; omega)) (fr_j (by omega) (by unfold jP; omega))) (fr_j (by omega) (by unfold jP; omega))) (fr_j (by omega) (by unfold jP; omega))
    have hS2 : ∀ i, i < 1600 * b + e → 0 ≤ i → hI (jS (jS (jS (jS σ 56 44 (om' - 1)) 74 (1600 * b + e) m) 75 (1600 * b + e) 0) 56 34 (e + 1)) 74 i = hI σ 74 i ∧ hI (jS (jS (jS (jS σ 56 44 (om' - 1)) 74 (1600 * b + e) m) 75 (1600 * b + e) 0) 56 34 (e + 1)) 75 i = hI σ 75 i := fun i w0 w1 => ⟨(fr1.2 74 i w1 (by unfold jP; omega)).1, (fr1.2 75 i w1 (by unfold jP; omega)).1⟩
    have hSe : hI (jS (jS (jS (jS σ 56 44 (om' - 1)) 74 (1600 * b + e) m) 75 (1600 * b + e) 0) 56 34 (e + 1)) 74 (1600 * b + e) = m := by
      rw [hI_j0 (by omega) (by omega) (by omega), hI_j0 (by omega) (by omega) (by omega), hI_jS (by omega) (by omega) (by omega) (by omega), if_pos rfl]
    have h83 : ∀ i, 0 ≤ i → hI (jS (jS (jS (jS σ 56 44 (om' - 1)) 74 (1600 * b + e) m) 75 (1600 * b + e) 0) 56 34 (e + 1)) 83 i = hI σ 83 i := fun i w => (fr1.2 83 i w (by unfold jP; omega)).1
    have e34 : hI (jS (jS (jS (jS σ 56 44 (om' - 1)) 74 (1600 * b + e) m) 75 (1600 * b + e) 0) 56 34 (e + 1)) 56 34 = e + 1 := by rw [hI_jS (by omega) (by omega) (by omega) (by omega), if_pos rfl]
    have e44 : hI (jS (jS (jS (jS σ 56 44 (om' - 1)) 74 (1600 * b + e) m) 75 (1600 * b + e) 0) 56 34 (e + 1)) 56 44 = om' - 1 := by
      rw [hI_j0 (by omega) (by omega) (by omega), hI_j0 (by omega) (by omega) (by omega), hI_j0 (by omega) (by omega) (by omega), hI_jS (by omega) (by omega) (by omega) (by omega), if_pos rfl]
    have e42 : hI (jS (jS (jS (jS σ 56 44 (om' - 1)) 74 (1600 * b + e) m) 75 (1600 * b + e) 0) 56 34 (e + 1)) 56 42 = o := by
      rw [hI_j0 (by omega) (by omega) (by omega), hI_j0 (by omega) (by omega) (by omega), hI_j0 (by omega) (by omega) (by omega), hI_j0 (by omega) (by omega) (by omega)]; exact h42
    have e41 : ∀ k, (k = 41 ∨ k = 35) → hI (jS (jS (jS (jS σ 56 44 (om' - 1)) 74 (1600 * b + e) m) 75 (1600 * b + e) 0) 56 34 (e + 1)) 56 k = hI σ 56 k := fun k w => (fr1.2 56 k (by omega) (by unfold jP; omega)).1
    have e82 : hI (jS (jS (jS (jS σ 56 44 (om' - 1)) 74 (1600 * b + e) m) 75 (1600 * b + e) 0) 56 34 (e + 1)) 82 (dp - 1) = ba := by rw [(fr1.2 82 _ (by omega) (by unfold jP; omega)).1]; exact h82
    have c1' := c1
    have o83 := h83 (om' - 1) (by omega)
    have mr : rkI m = rkI m := rfl
    have mr2 := rk_b m
    have o83b : hI (jS σ 56 44 (om' - 1)) 83 (om' - 1) = m := by rw [hI_jS_ne (by omega)]; exact c1
    have e44b : hI (jS σ 56 44 (om' - 1)) 56 44 = om' - 1 := by rw [hI_jS (by omega) (by omega) (by omega) (by omega), if_pos rfl]
    generalize hυ : jS (jS (jS (jS σ 56 44 (om' - 1)) 74 (1600 * b + e) m) 75 (1600 * b + e) 0) 56 34 (e + 1) = υ at *
    have st : fX11_joins_0 (g + 1) (z32 ls) σ = if m = 22 then fX11_joins_0 g (z32 ls) (jS υ 56 42 (o - 1)) else fX11_joins_0 g (z32 ls) υ := by
      simp (disch := omega) only [fX11_joins_0, z32_add, z32_sub, z32_mul, z32_neg, z32_litn, z32_lt, z32_le, z32_eq, iG_h, aI_h, iS_j, bnd, bnr_s, ↓reduceIte, ieqT, ieqF, iltT, iltF, ileT, ileF, not_true, not_false_iff, h41, h44, h82, c1, rk_z, o83b, e44b, ma, e44, e42, o83]
    rcases c3 with ⟨g1, g2, g3⟩ | ⟨g1, g2, g3, g4, g5, g6⟩
    · simp only [nnL, if_pos g1] at hn ⊢
      simp only [nbL, if_pos g1] at hS hD
      have fr2 : fr (jP b e) υ (jS υ 56 42 (o - 1)) := fr_j (by omega) (by unfold jP; omega)
      have q2 : ∀ p k, 0 ≤ k → p ≠ 56 → hI (jS υ 56 42 (o - 1)) p k = hI υ p k := fun p k _ w => hI_jS_ne w
      have hsb := hS.1
      obtain ⟨τ, t1, t2, t3, t4, t5, t6⟩ := ih (jS υ 56 42 (o - 1)) (e + 1) (om' - 1) s (o - 1) (fun f => 1 - F f) g (by rw [hI_j0 (by omega) (by omega) (by omega)]; exact e34) (by rw [hI_j0 (by omega) (by omega) (by omega)]; exact e44) (by rw [hI_j0 (by omega) (by omega) (by omega), e41 41 (by omega)]; exact h41) (by rw [hI_jS (by omega) (by omega) (by omega) (by omega), if_pos rfl]) (by rw [hI_j0 (by omega) (by omega) (by omega), e41 35 (by omega)]; exact h35) (by rw [hI_j0 (by omega) (by omega) (by omega)]; exact e82)
        (CH_c _ _ _ _ g3 (fun i w0 w1 => by
          rw [q2 74 i (by omega) (by omega), q2 75 i (by omega) (by omega)]; exact hS2 i (by omega) (by omega)) (fun i w0 w1 => by rw [q2 83 i (by omega) (by omega)]; exact h83 i (by omega)))
        (by
          rw [show 1600 * b + (e + 1) = 1600 * b + e + 1 by omega]
          refine mSeg_not g2 (mSeg_cong hS (fun i w0 w1 => ?_)) hD (by omega) ?_
          · rw [q2 74 i (by omega) (by omega), q2 75 i (by omega) (by omega)]; exact hS2 i (by omega) (by omega)
          · rw [q2 74 _ (by omega) (by omega), hSe, g1])
        hD (by rcases ht2 with w | w; exact Or.inl w; right; rw [q2 83 _ w.1 (by omega), h83 _ w.1]; exact w.2) (by omega) (by omega) (by omega) (by omega) (by omega) (by omega)
      refine ⟨τ, ?_, by omega, t3, by omega, fr_t fr1 (fr_t fr2 (fr_m t5 (jP_m (by omega)))), by rw [show e + (om' - om) = e + 1 + (om' - 1 - om) by omega]; exact t6⟩
      rw [st, if_pos g1]; exact t1
    · have gn : ¬ m = 22 := by omega
      simp only [nnL, if_neg gn] at hn ⊢
      simp only [nbL, if_neg gn] at hS hD
      have hsb := hS.1
      have hsb2 := g5.1
      obtain ⟨τ, t1, t2, t3, t4, t5, t6⟩ := ih υ (e + 1) (om' - 1) s' o (fun f => zop m (F' f) (F f)) g e34 e44 (by rw [e41 41 (by omega)]; exact h41) e42 (by rw [e41 35 (by omega)]; exact h35) e82
        (CH_c _ _ _ _ g6 (fun i w0 w1 => hS2 i (by omega) (by omega)) (fun i w0 w1 => h83 i (by omega)))
        (by
          rw [show 1600 * b + (e + 1) = 1600 * b + e + 1 by omega]
          exact mSeg_bin (d1 := D - nbL L) (d2 := D - (nbL L + 1)) g3 g2 g1.1 g1.2 g4 (mSeg_cong g5 (fun i w0 w1 => hS2 i (by omega) (by omega))) (mSeg_cong hS (fun i w0 w1 => hS2 i (by omega) (by omega))) (by omega) (by omega) (by omega) (by omega) hSe)
        (by omega) (by rcases ht2 with w | w; exact Or.inl w; right; rw [h83 _ w.1]; exact w.2) (by omega) (by omega) (by omega) (by omega) (by omega) (by omega)
      refine ⟨τ, ?_, by omega, t3, by omega, fr_t fr1 (fr_m t5 (jP_m (by omega))), by rw [show e + (om' - om) = e + 1 + (om' - 1 - om) by omega]; exact t6⟩
      rw [st, if_neg gn]; exact t1
/-- whatever is held back: the joining ends -/
theorem jn_any {b dp ba ls : Int} (hb : 0 ≤ b ∧ b ≤ 1) (hd : 1 ≤ dp ∧ dp ≤ 20) (hba : 0 ≤ ba) (hl1 : 1 ≤ ls ∧ ls ≤ 6) : ∀ (d : Nat) (σ : zS) (e om : Int) (f : Nat), hI σ 56 34 = e → hI σ 56 44 = om → hI σ 56 41 = dp → hI σ 56 35 = b → hI σ 82 (dp - 1) = ba → ba ≤ om → om - ba = d → 0 ≤ e → e + om ≤ 1600 → om ≤ 500 → -1000 + d ≤ hI σ 56 42 → d < f → ∃ τ, fX11_joins_0 f (z32 ls) σ = some τ ∧ fr (jP b e) σ τ := by
  intro d
  induction d with
  | zero =>
    intro σ e om f h34 h44 h41 h35 h82 hbo hd2 he he2 ho hn hf
    obtain ⟨g, rfl⟩ : ∃ g, f = g + 1 := ⟨f - 1, by omega⟩
    refine ⟨σ, ?_, fr_r⟩
    simp (disch := omega) only [fX11_joins_0, z32_add, z32_sub, z32_mul, z32_neg, z32_litn, z32_lt, z32_le, z32_eq, iG_h, lG_h, iS_q, lS_q, aI_h, wI_h, aL_h, wL_h, ↓bnd_q, bnr_q, bnc_q, ↓reduceIte, ieqT, ieqF, iltT, iltF, ileT, ileF, not_true, not_false_iff, h41, h44, h82]
  | succ d ih =>
    intro σ e om f h34 h44 h41 h35 h82 hbo hd2 he he2 ho hn hf
    obtain ⟨g, rfl⟩ : ∃ g, f = g + 1 := ⟨f - 1, by omega⟩
    obtain ⟨m, hm⟩ : ∃ m, hI σ 83 (om - 1) = m := ⟨_, rfl⟩
    have l1 := hI_lo σ 83 (om - 1)
    have l2 := hI_hi σ 83 (om - 1)
    have l3 := hI_hi σ 56 42
    have rb := rk_b m
    by_cases g1 : rkI m < ls
    · refine ⟨σ, ?_, fr_r⟩
      simp (disch := omega) only [fX11_joins_0, z32_add, z32_sub, z32_mul, z32_neg, z32_litn, z32_lt, z32_le, z32_eq, iG_h, lG_h, iS_q, lS_q, aI_h, wI_h, aL_h, wL_h, ↓bnd_q, bnr_q, bnc_q, ↓reduceIte, ieqT, ieqF, iltT, iltF, ileT, ileF, not_true, not_false_iff, h41, h44, h82, rk_z, hm]
    · have ma := madd_z (σ := jS σ 56 44 (om - 1)) (s := m) (v := 0) (e := e) (b := b) (by rw [hI_j0 (by omega) (by omega) (by omega)]; exact h34) (by rw [hI_j0 (by omega) (by omega) (by omega)]; exact h35) hb.1 hb.2 he (by omega)
      have fr1 : fr (jP b e) σ (jS (jS (jS (jS σ 56 44 (om - 1)) 74 (1600 * b + e) m) 75 (1600 * b + e) 0) 56 34 (e + 1)) := fr_t (fr_t (fr_t (fr_j (by omega) (by unfold jP; omega)) (fr_j (by omega) (by unfold jP; omega))) (fr_j (by omega) (by unfold jP; omega))) (fr_j (by omega) (by unfold jP; omega))
      have e34 : hI (jS (jS (jS (jS σ 56 44 (om - 1)) 74 (1600 * b + e) m) 75 (1600 * b + e) 0) 56 34 (e + 1)) 56 34 = e + 1 := by rw [hI_jS (by omega) (by omega) (by omega) (by omega), if_pos rfl]
      have e44 : hI (jS (jS (jS (jS σ 56 44 (om - 1)) 74 (1600 * b + e) m) 75 (1600 * b + e) 0) 56 34 (e + 1)) 56 44 = om - 1 := by
        rw [hI_j0 (by omega) (by omega) (by omega), hI_j0 (by omega) (by omega) (by omega), hI_j0 (by omega) (by omega) (by omega), hI_jS (by omega) (by omega) (by omega) (by omega), if_pos rfl]
      have e42 : hI (jS (jS (jS (jS σ 56 44 (om - 1)) 74 (1600 * b + e) m) 75 (1600 * b + e) 0) 56 34 (e + 1)) 56 42 = hI σ 56 42 := by
        rw [hI_j0 (by omega) (by omega) (by omega), hI_j0 (by omega) (by omega) (by omega), hI_j0 (by omega) (by omega) (by omega), hI_j0 (by omega) (by omega) (by omega)]
      have e41 : ∀ k, (k = 41 ∨ k = 35) → hI (jS (jS (jS (jS σ 56 44 (om - 1)) 74 (1600 * b + e) m) 75 (1600 * b + e) 0) 56 34 (e + 1)) 56 k = hI σ 56 k := fun k w => (fr1.2 56 k (by omega) (by unfold jP; omega)).1
      have e82 : hI (jS (jS (jS (jS σ 56 44 (om - 1)) 74 (1600 * b + e) m) 75 (1600 * b + e) 0) 56 34 (e + 1)) 82 (dp - 1) = ba := by rw [(fr1.2 82 _ (by omega) (by unfold jP; omega)).1]; exact h82
      have o83 : hI (jS (jS (jS (jS σ 56 44 (om - 1)) 74 (1600 * b + e) m) 75 (1600 * b + e) 0) 56 34 (e + 1)) 83 (om - 1) = m := by rw [(fr1.2 83 _ (by omega) (by unfold jP; omega)).1]; exact hm
      have o83b : hI (jS σ 56 44 (om - 1)) 83 (om - 1) = m := by rw [hI_jS_ne (by omega)]; exact hm
      have e44b : hI (jS σ 56 44 (om - 1)) 56 44 = om - 1 := by rw [hI_jS (by omega) (by omega) (by omega) (by omega), if_pos rfl]
      generalize hυ : jS (jS (jS (jS σ 56 44 (om - 1)) 74 (1600 * b + e) m) 75 (1600 * b + e) 0) 56 34 (e + 1) = υ at *
      have st : fX11_joins_0 (g + 1) (z32 ls) σ = if m = 22 then fX11_joins_0 g (z32 ls) (jS υ 56 42 (hI σ 56 42 - 1)) else fX11_joins_0 g (z32 ls) υ := by
        simp (disch := omega) only [fX11_joins_0, z32_add, z32_sub, z32_mul, z32_neg, z32_litn, z32_lt, z32_le, z32_eq, iG_h, aI_h, iS_j, bnd, bnr_s, ↓reduceIte, ieqT, ieqF, iltT, iltF, ileT, ileF, not_true, not_false_iff, h41, h44, h82, hm, rk_z, o83b, e44b, ma, e44, e42, o83]
      by_cases g2 : m = 22
      · obtain ⟨τ, t1, t2⟩ := ih (jS υ 56 42 (hI σ 56 42 - 1)) (e + 1) (om - 1) g (by rw [hI_j0 (by omega) (by omega) (by omega)]; exact e34) (by rw [hI_j0 (by omega) (by omega) (by omega)]; exact e44) (by rw [hI_j0 (by omega) (by omega) (by omega), e41 41 (by omega)]; exact h41) (by rw [hI_j0 (by omega) (by omega) (by omega), e41 35 (by omega)]; exact h35) (by rw [hI_j0 (by omega) (by omega) (by omega)]; exact e82) (by omega) (by omega) (by omega) (by omega) (by omega) (by rw [hI_jS (by omega) (by omega) (by omega) (by omega), if_pos rfl]; omega) (by omega)
        exact ⟨τ, by rw [st, if_pos g2]; exact t1, fr_t fr1 (fr_t (fr_j (by omega) (by unfold jP; omega)) (fr_m t2 (jP_m (by omega))))⟩
      · obtain ⟨τ, t1, t2⟩ := ih υ (e + 1) (om - 1) g e34 e44 (by rw [e41 41 (by omega)]; exact h41) (by rw [e41 35 (by omega)]; exact h35) e82 (by omega) (by omega) (by omega) (by omega) (by omega) (by omega) (by omega)
        exact ⟨τ, by rw [st, if_neg g2]; exact t1, fr_t fr1 (fr_m t2 (jP_m (by omega)))⟩

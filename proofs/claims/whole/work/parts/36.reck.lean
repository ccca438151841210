/-! MY OWN: the other side's evaluator; both at their ends -/
/-- only the long stack differs -/
def sameM (σ σ' : zS) : Prop := σ'.2.2 = σ.2.2 ∧ (∀ p k, hI σ' p k = hI σ p k) ∧ (∀ p k, p ≠ 95 → hL σ' p k = hL σ p k)
theorem sM_r (σ : zS) : sameM σ σ := ⟨rfl, fun _ _ => rfl, fun _ _ _ => rfl⟩
theorem sM_t {σ σ' σ'' : zS} (h1 : sameM σ σ') (h2 : sameM σ' σ'') : sameM σ σ'' :=
  ⟨h2.1.trans h1.1, fun p k => (h2.2.1 p k).trans (h1.2.1 p k), fun p k a => (h2.2.2 p k a).trans (h1.2.2 p k a)⟩
theorem sM_95 {σ : zS} {n v : Int} : sameM σ (kS σ 95 n v) := ⟨rfl, fun _ _ => rfl, fun _ _ h => hL_kS_ne h⟩
def okG (f : Int → Int) (σ : zS) : Prop := hI σ 56 61 = f 0 ∧ hI σ 56 62 = f 1 ∧ f 2 = (if f 0 = f 1 then 1 else 0) ∧ hI σ 56 63 = f 3 ∧ hI σ 56 64 = f 4 ∧ hI σ 56 65 = f 5 ∧ hI σ 56 66 = f 6
theorem okG_c {f : Int → Int} {σ σ' : zS} (h : okG f σ) (e : ∀ k, hI σ' 56 k = hI σ 56 k) : okG f σ' := by
  simpa only [okG, e] using h
def mSeg (S V : Int → Int) (a e : Int) (F : (Int → Int) → Int) (d : Int) : Prop := (0 ≤ a ∧ a < e) ∧ ∀ (σ : zS) (f : Int → Int) (n X : Int), okF f → (∀ i, a ≤ i → i < e → hI σ 74 i = S i ∧ hI σ 75 i = V i) → okG f σ → 0 ≤ n → n + d ≤ 500 → e ≤ 1600 * hI σ 56 13 + X → 0 ≤ hI σ 56 13 → hI σ 56 13 ≤ 1 → 0 ≤ X → X ≤ 1600 → ∃ (σ' : zS) (k : Nat), (k : Int) ≤ e - a ∧ (∀ fu : Nat, fX11_reckons_14 (fu + k) (z32 X) (z32 n) (z32 a) σ = fX11_reckons_14 fu (z32 X) (z32 (n + 1)) (z32 e) σ') ∧ sameM σ σ' ∧ hL σ' 95 n = F f ∧ (∀ j, 0 ≤ j → j < n → hL σ' 95 j = hL σ 95 j)
theorem mSeg_mono {S V : Int → Int} {a e d d' : Int} {F : (Int → Int) → Int} (h : mSeg S V a e F d) (hd : d ≤ d') : mSeg S V a e F d' :=
  ⟨h.1, fun σ f n X h1 h2 h3 h4 h5 h6 h7 h8 h9 h10 => h.2 σ f n X h1 h2 h3 h4 (by omega) h6 h7 h8 h9 h10⟩
theorem mSeg_cong {S V S' V' : Int → Int} {a e d : Int} {F : (Int → Int) → Int} (h : mSeg S V a e F d) (hc : ∀ i, a ≤ i → i < e → S' i = S i ∧ V' i = V i) : mSeg S' V' a e F d :=
  ⟨h.1, fun σ f n X h1 h2 h3 h4 h5 h6 h7 h8 h9 h10 => h.2 σ f n X h1 (fun i g1 g2 => ⟨(h2 i g1 g2).1.trans (hc i g1 g2).1, (h2 i g1 g2).2.trans (hc i g1 g2).2⟩) h3 h4 h5 h6 h7 h8 h9 h10⟩
/-- one operand's code: s is its sort -/
theorem mSeg_leaf {S V : Int → Int} {a s d : Int} {F : (Int → Int) → Int} (ha : 0 ≤ a) (ha' : a < 3200) (hd : 1 ≤ d) (hS : S a = s) (hs : 0 ≤ s) (hs' : s ≤ 9) (hV : 0 ≤ V a ∧ V a ≤ 9999) (hF : F = fun f => if s = 0 then V a else if s ≤ 7 then f (s - 1) else 1) : mSeg S V a (a + 1) F d := by
  subst hF
  refine ⟨by omega, fun σ f n X h1 h2 h3 h4 h5 h6 h7 h8 h9 h10 => ?_⟩
  obtain ⟨e, e'⟩ := h2 a (by omega) (by omega)
  rw [hS] at e
  obtain ⟨o1, o2, o3, o4, o5, o6, o7⟩ := h3
  have b0 := h1 0 (by omega) (by omega)
  have b1 := h1 1 (by omega) (by omega)
  have b3 := h1 3 (by omega) (by omega)
  have b4 := h1 4 (by omega) (by omega)
  have b5 := h1 5 (by omega) (by omega)
  have b6 := h1 6 (by omega) (by omega)
  have hp : fX11_part σ (z32 s) (z32 (V a)) = z64 (if s = 0 then V a else if s ≤ 7 then f (s - 1) else 1) ∧ -1 ≤ (if s = 0 then V a else if s ≤ 7 then f (s - 1) else 1) ∧ (if s = 0 then V a else if s ≤ 7 then f (s - 1) else 1) ≤ 9999 := by
    rcases (by omega : s = 0 ∨ s = 1 ∨ s = 2 ∨ s = 3 ∨ s = 4 ∨ s = 5 ∨ s = 6 ∨ s = 7 ∨ 8 ≤ s) with h | h | h | h | h | h | h | h | h
    · subst h
      simp (disch := omega) only [fX11_part, z32_add, z32_sub, z32_mul, z32_neg, z32_litn, z32_lt, z32_le, z32_eq, iG_h, lG_h, iS_j, lS_k, aI_h, wI_h, aL_h, wL_h, bnd, bnr_s, bnc_s, ↓reduceIte, ieqT, ieqF, iltT, iltF, ileT, ileF, not_true, not_false_iff, z32_64]
      (try simp only [show (1 : Int) - 1 = 0 from rfl, show (2 : Int) - 1 = 1 from rfl, show (4 : Int) - 1 = 3 from rfl, show (5 : Int) - 1 = 4 from rfl, show (6 : Int) - 1 = 5 from rfl, show (7 : Int) - 1 = 6 from rfl, true_and])
      try omega
    · subst h
      simp (disch := omega) only [fX11_part, z32_add, z32_sub, z32_mul, z32_neg, z32_litn, z32_lt, z32_le, z32_eq, iG_h, lG_h, iS_j, lS_k, aI_h, wI_h, aL_h, wL_h, bnd, bnr_s, bnc_s, ↓reduceIte, ieqT, ieqF, iltT, iltF, ileT, ileF, not_true, not_false_iff, z32_64, o1]
      (try simp only [show (1 : Int) - 1 = 0 from rfl, show (2 : Int) - 1 = 1 from rfl, show (4 : Int) - 1 = 3 from rfl, show (5 : Int) - 1 = 4 from rfl, show (6 : Int) - 1 = 5 from rfl, show (7 : Int) - 1 = 6 from rfl, true_and])
      try omega
    · subst h
      simp (disch := omega) only [fX11_part, z32_add, z32_sub, z32_mul, z32_neg, z32_litn, z32_lt, z32_le, z32_eq, iG_h, lG_h, iS_j, lS_k, aI_h, wI_h, aL_h, wL_h, bnd, bnr_s, bnc_s, ↓reduceIte, ieqT, ieqF, iltT, iltF, ileT, ileF, not_true, not_false_iff, z32_64, o2]
      (try simp only [show (1 : Int) - 1 = 0 from rfl, show (2 : Int) - 1 = 1 from rfl, show (4 : Int) - 1 = 3 from rfl, show (5 : Int) - 1 = 4 from rfl, show (6 : Int) - 1 = 5 from rfl, show (7 : Int) - 1 = 6 from rfl, true_and])
      try omega
    · subst h
      simp (disch := omega) only [fX11_part, z32_add, z32_sub, z32_mul, z32_neg, z32_litn, z32_lt, z32_le, z32_eq, iG_h, lG_h, iS_j, lS_k, aI_h, wI_h, aL_h, wL_h, bnd, bnr_s, bnc_s, ↓reduceIte, ieqT, ieqF, iltT, iltF, ileT, ileF, not_true, not_false_iff, z32_64, o1, o2, z64_litn]
      simp only [show (3 : Int) - 1 = 2 by omega, o3]
      split
      · exact ⟨rfl, by omega, by omega⟩
      · exact ⟨rfl, by omega, by omega⟩
    · subst h
      simp (disch := omega) only [fX11_part, z32_add, z32_sub, z32_mul, z32_neg, z32_litn, z32_lt, z32_le, z32_eq, iG_h, lG_h, iS_j, lS_k, aI_h, wI_h, aL_h, wL_h, bnd, bnr_s, bnc_s, ↓reduceIte, ieqT, ieqF, iltT, iltF, ileT, ileF, not_true, not_false_iff, z32_64, o4]
      (try simp only [show (1 : Int) - 1 = 0 from rfl, show (2 : Int) - 1 = 1 from rfl, show (4 : Int) - 1 = 3 from rfl, show (5 : Int) - 1 = 4 from rfl, show (6 : Int) - 1 = 5 from rfl, show (7 : Int) - 1 = 6 from rfl, true_and])
      try omega
    · subst h
      simp (disch := omega) only [fX11_part, z32_add, z32_sub, z32_mul, z32_neg, z32_litn, z32_lt, z32_le, z32_eq, iG_h, lG_h, iS_j, lS_k, aI_h, wI_h, aL_h, wL_h, bnd, bnr_s, bnc_s, ↓reduceIte, ieqT, ieqF, iltT, iltF, ileT, ileF, not_true, not_false_iff, z32_64, o5]
      (try simp only [show (1 : Int) - 1 = 0 from rfl, show (2 : Int) - 1 = 1 from rfl, show (4 : Int) - 1 = 3 from rfl, show (5 : Int) - 1 = 4 from rfl, show (6 : Int) - 1 = 5 from rfl, show (7 : Int) - 1 = 6 from rfl, true_and])
      try omega
    · subst h
      simp (disch := omega) only [fX11_part, z32_add, z32_sub, z32_mul, z32_neg, z32_litn, z32_lt, z32_le, z32_eq, iG_h, lG_h, iS_j, lS_k, aI_h, wI_h, aL_h, wL_h, bnd, bnr_s, bnc_s, ↓reduceIte, ieqT, ieqF, iltT, iltF, ileT, ileF, not_true, not_false_iff, z32_64, o6]
      (try simp only [show (1 : Int) - 1 = 0 from rfl, show (2 : Int) - 1 = 1 from rfl, show (4 : Int) - 1 = 3 from rfl, show (5 : Int) - 1 = 4 from rfl, show (6 : Int) - 1 = 5 from rfl, show (7 : Int) - 1 = 6 from rfl, true_and])
      try omega
    · subst h
      simp (disch := omega) only [fX11_part, z32_add, z32_sub, z32_mul, z32_neg, z32_litn, z32_lt, z32_le, z32_eq, iG_h, lG_h, iS_j, lS_k, aI_h, wI_h, aL_h, wL_h, bnd, bnr_s, bnc_s, ↓reduceIte, ieqT, ieqF, iltT, iltF, ileT, ileF, not_true, not_false_iff, z32_64, o7]
      (try simp only [show (1 : Int) - 1 = 0 from rfl, show (2 : Int) - 1 = 1 from rfl, show (4 : Int) - 1 = 3 from rfl, show (5 : Int) - 1 = 4 from rfl, show (6 : Int) - 1 = 5 from rfl, show (7 : Int) - 1 = 6 from rfl, true_and])
      try omega
    · simp (disch := omega) only [fX11_part, z32_add, z32_sub, z32_mul, z32_neg, z32_litn, z32_lt, z32_le, z32_eq, iG_h, lG_h, iS_j, lS_k, aI_h, wI_h, aL_h, wL_h, bnd, bnr_s, bnc_s, ↓reduceIte, ieqT, ieqF, iltT, iltF, ileT, ileF, not_true, not_false_iff, z64_litn]
      (try simp only [show (1 : Int) - 1 = 0 from rfl, show (2 : Int) - 1 = 1 from rfl, show (4 : Int) - 1 = 3 from rfl, show (5 : Int) - 1 = 4 from rfl, show (6 : Int) - 1 = 5 from rfl, show (7 : Int) - 1 = 6 from rfl, true_and])
      try omega
  obtain ⟨hp, hp1, hp2⟩ := hp
  refine ⟨kS σ 95 n (if s = 0 then V a else if s ≤ 7 then f (s - 1) else 1), 1, by omega, ?_, sM_95, ?_, fun j g1 g2 => ?_⟩
  · intro fu
    simp (disch := omega) only [fX11_reckons_14, z32_add, z32_sub, z32_mul, z32_neg, z32_litn, z32_lt, z32_le, z32_eq, iG_h, lG_h, iS_j, lS_k, aI_h, wI_h, aL_h, wL_h, bnd, bnr_s, bnc_s, ↓reduceIte, ieqT, ieqF, iltT, iltF, ileT, ileF, not_true, not_false_iff, e]
    simp (disch := omega) only [fX11_reckons_179, z32_add, z32_sub, z32_mul, z32_neg, z32_litn, z32_lt, z32_le, z32_eq, iG_h, lG_h, iS_j, lS_k, aI_h, wI_h, aL_h, wL_h, bnd, bnr_s, bnc_s, ↓reduceIte, ieqT, ieqF, iltT, iltF, ileT, ileF, not_true, not_false_iff, e', hp]
  · rw [hL_kS h4 h4 (by omega) (by omega), if_pos rfl]
  · rw [hL_kS h4 g1 (by omega) (by omega), if_neg (by omega)]
theorem mSeg_bin {S V : Int → Int} {a m e d1 d2 d op : Int} {F G : (Int → Int) → Int} (hF : bF F) (hG : bF G) (hop : 10 ≤ op) (hop' : op ≤ 21) (hT : 20 ≤ op → bT F ∧ bT G) (s1 : mSeg S V a m F d1) (s2 : mSeg S V m e G d2) (hd1 : d1 ≤ d) (hd2 : d2 + 1 ≤ d) (hd3 : 1 ≤ d2) (he : e < 3200) (hC : S e = op) : mSeg S V a (e + 1) (fun f => zop op (F f) (G f)) d := by
  have i1 := s1.1
  have i2 := s2.1
  refine ⟨by omega, fun σ f n X h1 h2 h3 h4 h5 h6 h7 h8 h9 h10 => ?_⟩
  obtain ⟨σ1, k1, g1, g2, g3, g4, g5⟩ := s1.2 σ f n X h1 (fun i q1 q2 => h2 i q1 (by omega)) h3 h4 (by omega) (by omega) h7 h8 h9 h10
  have c1 := g3.2.1 56 13
  obtain ⟨σ2, k2, q1, q2, q3, q4, q5⟩ := s2.2 σ1 f (n + 1) X h1 (fun i w1 w2 => by rw [g3.2.1, g3.2.1]; exact h2 i (by omega) (by omega)) (okG_c h3 (g3.2.1 56)) (by omega) (by omega) (by omega) (by omega) (by omega) h9 h10
  have c2 := q3.2.1 56 13
  have jn := mTwo (m := op) (x := F f) (y := G f) hop hop' (hF f h1).1 (hF f h1).2 (hG f h1).1 (hG f h1).2 (fun w => ⟨(hT w).1 f h1, (hT w).2 f h1⟩)
  have zb := zop_b (m := op) (x := F f) (y := G f) (hF f h1).1 (hF f h1).2 (hG f h1).1 (hG f h1).2
  have e5 : hL σ2 95 n = F f := (q5 n h4 (by omega)).trans g4
  have eC : hI σ2 74 e = op := by
    rw [q3.2.1, g3.2.1, (h2 e (by omega) (by omega)).1, hC]
  refine ⟨kS σ2 95 n (zop op (F f) (G f)), k1 + k2 + 1, by omega, ?_, sM_t (sM_t g3 q3) sM_95, ?_, fun j w1 w2 => ?_⟩
  · intro fu
    rw [show fu + (k1 + k2 + 1) = (fu + 1 + k2) + k1 by omega, g2, q2]
    have x1 : n + 1 - 1 = n := by omega
    have x2 : n + 1 + 1 + -1 = n + 1 := by omega
    simp (disch := omega) only [fX11_reckons_14, z32_add, z32_sub, z32_mul, z32_neg, z32_litn, z32_lt, z32_le, z32_eq, iG_h, lG_h, iS_j, lS_k, aI_h, wI_h, aL_h, wL_h, bnd, bnr_s, bnc_s, ↓reduceIte, ieqT, ieqF, iltT, iltF, ileT, ileF, not_true, not_false_iff, eC]
    simp (disch := omega) only [fX11_reckons_179, z32_add, z32_sub, z32_mul, z32_neg, z32_litn, z32_lt, z32_le, z32_eq, iG_h, lG_h, iS_j, lS_k, aI_h, wI_h, aL_h, wL_h, bnd, bnr_s, bnc_s, ↓reduceIte, ieqT, ieqF, iltT, iltF, ileT, ileF, not_true, not_false_iff, x1, x2, e5, q4, jn]
  · rw [hL_kS h4 h4 (by omega) (by omega), if_pos rfl]
  · rw [hL_kS h4 w1 (by omega) (by omega), if_neg (by omega), q5 j w1 (by omega), g5 j w1 w2]
theorem mSeg_not {S V : Int → Int} {a e d : Int} {F : (Int → Int) → Int} (hT : bT F) (s1 : mSeg S V a e F d) (hd : 1 ≤ d) (he : e < 3200) (hC : S e = 22) : mSeg S V a (e + 1) (fun f => 1 - F f) d := by
  have i1 := s1.1
  refine ⟨by omega, fun σ f n X h1 h2 h3 h4 h5 h6 h7 h8 h9 h10 => ?_⟩
  obtain ⟨σ1, k1, g1, g2, g3, g4, g5⟩ := s1.2 σ f n X h1 (fun i q1 q2 => h2 i q1 (by omega)) h3 h4 (by omega) (by omega) h7 h8 h9 h10
  have c1 := g3.2.1 56 13
  have zb := hT f h1
  have eC : hI σ1 74 e = 22 := by
    rw [g3.2.1, (h2 e (by omega) (by omega)).1, hC]
  refine ⟨kS σ1 95 n (1 - F f), k1 + 1, by omega, ?_, sM_t g3 sM_95, ?_, fun j w1 w2 => ?_⟩
  · intro fu
    rw [show fu + (k1 + 1) = (fu + 1) + k1 by omega, g2]
    have x1 : n + 1 - 1 = n := by omega
    simp (disch := omega) only [fX11_reckons_14, z32_add, z32_sub, z32_mul, z32_neg, z32_litn, z32_lt, z32_le, z32_eq, iG_h, lG_h, iS_j, lS_k, aI_h, wI_h, aL_h, wL_h, bnd, bnr_s, bnc_s, ↓reduceIte, ieqT, ieqF, iltT, iltF, ileT, ileF, not_true, not_false_iff, eC]
    simp (disch := omega) only [fX11_reckons_179, z32_add, z32_sub, z32_mul, z32_neg, z32_litn, z32_lt, z32_le, z32_eq, iG_h, lG_h, iS_j, lS_k, aI_h, wI_h, aL_h, wL_h, bnd, bnr_s, bnc_s, ↓reduceIte, ieqT, ieqF, iltT, iltF, ileT, ileF, not_true, not_false_iff, x1, g4, z64_add, z64_sub, z64_mul, z64_neg, z64_litn]
  · rw [hL_kS h4 h4 (by omega) (by omega), if_pos rfl]
  · rw [hL_kS h4 w1 (by omega) (by omega), if_neg (by omega), g5 j w1 w2]
theorem mSeg_if {S V : Int → Int} {a m s e d : Int} {T F G : (Int → Int) → Int} (hT : bT T) (hF : bF F) (hG : bF G) (s1 : mSeg S V a m T d) (s2 : mSeg S V m s F (d - 1)) (s3 : mSeg S V s e G (d - 2)) (hd : 3 ≤ d) (he : e < 3200) (hC : S e = 23) : mSeg S V a (e + 1) (fun f => if T f = 0 then G f else F f) d := by
  have i1 := s1.1
  have i2 := s2.1
  have i3 := s3.1
  refine ⟨by omega, fun σ f n X h1 h2 h3 h4 h5 h6 h7 h8 h9 h10 => ?_⟩
  obtain ⟨σ1, k1, g1, g2, g3, g4, g5⟩ := s1.2 σ f n X h1 (fun i q1 q2 => h2 i q1 (by omega)) h3 h4 (by omega) (by omega) h7 h8 h9 h10
  have c1 := g3.2.1 56 13
  obtain ⟨σ2, k2, q1, q2, q3, q4, q5⟩ := s2.2 σ1 f (n + 1) X h1 (fun i w1 w2 => by rw [g3.2.1, g3.2.1]; exact h2 i (by omega) (by omega)) (okG_c h3 (g3.2.1 56)) (by omega) (by omega) (by omega) (by omega) (by omega) h9 h10
  have g6 := sM_t g3 q3
  have c2 := g6.2.1 56 13
  obtain ⟨σ3, k3, r1, r2, r3, r4, r5⟩ := s3.2 σ2 f (n + 1 + 1) X h1 (fun i w1 w2 => by rw [g6.2.1, g6.2.1]; exact h2 i (by omega) (by omega)) (okG_c h3 (g6.2.1 56)) (by omega) (by omega) (by omega) (by omega) (by omega) h9 h10
  have g7 := sM_t g6 r3
  have c3 := g7.2.1 56 13
  have zb := hT f h1
  have zF' := hF f h1
  have zG := hG f h1
  have e4 : hL σ3 95 (n + 1) = F f := (r5 _ (by omega) (by omega)).trans q4
  have e5 : hL σ3 95 n = T f := (r5 n h4 (by omega)).trans ((q5 n h4 (by omega)).trans g4)
  have eC : hI σ3 74 e = 23 := by
    rw [g7.2.1, (h2 e (by omega) (by omega)).1, hC]
  have x1 : n + 1 - 1 = n := by omega
  have x2 : n + 1 + 1 + 1 + -2 = n + 1 := by omega
  refine ⟨kS σ3 95 n (if T f = 0 then G f else F f), k1 + k2 + k3 + 1, by omega, ?_, sM_t g7 sM_95, ?_, fun j w1 w2 => ?_⟩
  · intro fu
    rw [show fu + (k1 + k2 + k3 + 1) = (fu + 1 + k3 + k2) + k1 by omega, g2, q2, r2]
    by_cases hz : T f = 0
    · rw [hz] at e5
      simp (disch := omega) only [fX11_reckons_14, z32_add, z32_sub, z32_mul, z32_neg, z32_litn, z32_lt, z32_le, z32_eq, iG_h, lG_h, iS_j, lS_k, aI_h, wI_h, aL_h, wL_h, bnd, bnr_s, bnc_s, ↓reduceIte, ieqT, ieqF, iltT, iltF, ileT, ileF, not_true, not_false_iff, eC]
      simp (disch := omega) only [fX11_reckons_145, fX11_reckons_179, z32_add, z32_sub, z32_mul, z32_neg, z32_litn, z32_lt, z32_le, z32_eq, iG_h, lG_h, iS_j, lS_k, aI_h, wI_h, aL_h, wL_h, bnd, bnr_s, bnc_s, ↓reduceIte, ieqT, ieqF, iltT, iltF, ileT, ileF, not_true, not_false_iff, x1, x2, e4, e5, r4, hz, z64_litn, z64_eq]
    · have hz1 : T f = 1 := by omega
      rw [hz1] at e5
      simp (disch := omega) only [fX11_reckons_14, z32_add, z32_sub, z32_mul, z32_neg, z32_litn, z32_lt, z32_le, z32_eq, iG_h, lG_h, iS_j, lS_k, aI_h, wI_h, aL_h, wL_h, bnd, bnr_s, bnc_s, ↓reduceIte, ieqT, ieqF, iltT, iltF, ileT, ileF, not_true, not_false_iff, eC]
      simp (disch := omega) only [fX11_reckons_145, fX11_reckons_179, z32_add, z32_sub, z32_mul, z32_neg, z32_litn, z32_lt, z32_le, z32_eq, iG_h, lG_h, iS_j, lS_k, aI_h, wI_h, aL_h, wL_h, bnd, bnr_s, bnc_s, ↓reduceIte, ieqT, ieqF, iltT, iltF, ileT, ileF, not_true, not_false_iff, x1, x2, e4, e5, hz1, z64_litn, z64_eq]
  · rw [hL_kS h4 h4 (by split <;> omega) (by split <;> omega), if_pos rfl]
  · rw [hL_kS h4 w1 (by split <;> omega) (by split <;> omega), if_neg (by omega), r5 j w1 (by omega), q5 j w1 (by omega), g5 j w1 w2]
/-- what a sum says: told or not, and what it reckons -/
def cTold (A : zS) (w : Int) (F : (Int → Int) → Int) : Prop := cSeg A.2.2.2.1 (fun i => hI A (rp A.2.2.2.1 + 12) i) (hI A (rp A.2.2.2.1 + 14) w) (hI A (rp A.2.2.2.1 + 15) w) F 38 ∧ hI A (rp A.2.2.2.1 + 15) w ≤ 1600 ∧ bF F
def cSum (A : zS) (w : Int) (o : Option ((Int → Int) → Int)) : Prop := match o with
  | none => hI A (rp A.2.2.2.1 + 14) w = 0 ∧ hI A (rp A.2.2.2.1 + 15) w = 0
  | some F => cTold A w F
def mTold (σ : zS) (p q : Nat) (F : (Int → Int) → Int) : Prop := mSeg (fun i => hI σ 74 i) (fun i => hI σ 75 i) (1600 * hI σ 56 13 + hI σ p (hI σ 56 13)) (1600 * hI σ 56 13 + hI σ q (hI σ 56 13)) F 200 ∧ 0 ≤ hI σ p (hI σ 56 13) ∧ hI σ q (hI σ 56 13) ≤ 1600 ∧ bF F
def mSum (σ : zS) (p q : Nat) (o : Option ((Int → Int) → Int)) : Prop := match o with
  | none => hI σ p (hI σ 56 13) = -1
  | some F => mTold σ p q F
def zval (o : Option ((Int → Int) → Int)) (f : Int → Int) : Int := match o with
  | none => 0
  | some F => F f
theorem zF_ex : ∃ g, zF = g + 1 := ⟨999999, rfl⟩
theorem cVal_z {A : zS} {w : Int} {o : Option ((Int → Int) → Int)} {f : Int → Int} (hs : cSum A w o) (hw : 0 ≤ w) (hw' : w ≤ 1) (hf : okF f) (hc : ∀ i, 0 ≤ i → i < 7 → hI A 26 i = f i) : ∃ σ', fX8_valueOf A.2.2.2.1 26 7 (z32 w) A = some (z32 (zval o f), σ') ∧ sameX A.2.2.2.1 A σ' := by
  have hrp := rp_or A.2.2.2.1
  have u1 := sX_11 (b := A.2.2.2.1) (σ := A) (v := 0) (by omega) (by omega)
  have t1 : hI (jS A (rp A.2.2.2.1 + 11) 2 0) (rp A.2.2.2.1 + 11) 2 = 0 := by simp (disch := omega) only [hI_jS, if_true]
  cases o with
  | none =>
    obtain ⟨h1, h2⟩ := hs
    refine ⟨_, ?_, u1⟩
    obtain ⟨g, hg⟩ := zF_ex
    simp (disch := omega) only [fX8_valueOf, z32_add, z32_sub, z32_mul, z32_neg, z32_litn, z32_lt, z32_le, z32_eq, iG_h, lG_h, iS_j, lS_k, aI_h, wI_h, aL_h, wL_h, bnd, bnr_s, bnc_s, ↓reduceIte, ieqT, ieqF, iltT, iltF, ileT, ileF, not_true, not_false_iff, h1, h2, hI_jS_ne, hg, fX8_valueOf_20, fX8_pop, t1, zval]
  | some F =>
    obtain ⟨h1, h2, h3⟩ := hs
    have i1 := h1.1
    obtain ⟨σ1, k, g1, g2, g3, g4, g5, g6⟩ := h1.2 (jS A (rp A.2.2.2.1 + 11) 2 0) f 0 (hI A (rp A.2.2.2.1 + 15) w) hf (fun i w1 w2 => hI_jS_ne (by omega)) (fun i w1 w2 => (hI_jS_ne (by omega)).trans (hc i w1 w2)) t1 (by omega) (by omega) (by omega) h2
    have p1 := pop_z (b := A.2.2.2.1) (σ := σ1) (n := 0 + 1) g4 (by omega) (by omega)
    rw [show (0 : Int) + 1 - 1 = 0 by omega, g5] at p1
    refine ⟨jS σ1 (rp A.2.2.2.1 + 11) 2 0, ?_, sX_t (sX_t u1 g3) (sX_11 (by omega) (by omega))⟩
    simp (disch := omega) only [fX8_valueOf, z32_add, z32_sub, z32_mul, z32_neg, z32_litn, z32_lt, z32_le, z32_eq, iG_h, lG_h, iS_j, lS_k, aI_h, wI_h, aL_h, wL_h, bnd, bnr_s, bnc_s, ↓reduceIte, ieqT, ieqF, iltT, iltF, ileT, ileF, not_true, not_false_iff, hI_jS_ne]
    have g7 := g2 (1000000 - k - 1 + 1)
    rw [show 1000000 - k - 1 + 1 + k = zF by unfold zF; omega] at g7
    rw [g7]
    simp (disch := omega) only [fX8_valueOf_20, z32_add, z32_sub, z32_mul, z32_neg, z32_litn, z32_lt, z32_le, z32_eq, iG_h, lG_h, iS_j, lS_k, aI_h, wI_h, aL_h, wL_h, bnd, bnr_s, bnc_s, ↓reduceIte, ieqT, ieqF, iltT, iltF, ileT, ileF, not_true, not_false_iff, p1, zval]
theorem mVal_z {σ : zS} {p q : Nat} {F : (Int → Int) → Int} {f : Int → Int} (hs : mTold σ p q F) (hf : okF f) (hg : okG f σ) (h0 : 0 ≤ hI σ 56 13) (h1 : hI σ 56 13 ≤ 1) : ∃ σ', fX11_reckons (z32 (hI σ p (hI σ 56 13))) (z32 (hI σ q (hI σ 56 13))) σ = some (z64 (F f), σ') ∧ sameM σ σ' := by
  obtain ⟨h2, h3, h4, h5⟩ := hs
  have i1 := h2.1
  obtain ⟨σ1, k, g1, g2, g3, g4, g5⟩ := h2.2 σ f 0 (hI σ q (hI σ 56 13)) hf (fun i w1 w2 => ⟨rfl, rfl⟩) hg (by omega) (by omega) (by omega) h0 h1 (by omega) h4
  have c := g3.2.1 56 13
  refine ⟨σ1, ?_, g3⟩
  simp (disch := omega) only [fX11_reckons, z32_add, z32_sub, z32_mul, z32_neg, z32_litn, z32_lt, z32_le, z32_eq, iG_h, lG_h, iS_j, lS_k, aI_h, wI_h, aL_h, wL_h, bnd, bnr_s, bnc_s, ↓reduceIte, ieqT, ieqF, iltT, iltF, ileT, ileF, not_true, not_false_iff]
  have g7 := g2 (1000000 - k - 1 + 1)
  rw [show 1000000 - k - 1 + 1 + k = zF by unfold zF; omega] at g7
  rw [g7]
  simp (disch := omega) only [fX11_reckons_14, z32_add, z32_sub, z32_mul, z32_neg, z32_litn, z32_lt, z32_le, z32_eq, iG_h, lG_h, iS_j, lS_k, aI_h, wI_h, aL_h, wL_h, bnd, bnr_s, bnc_s, ↓reduceIte, ieqT, ieqF, iltT, iltF, ileT, ileF, not_true, not_false_iff, g4]

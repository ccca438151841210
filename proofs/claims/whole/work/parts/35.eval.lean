/-! MY OWN: what a stretch of codes reckons, on both sides -/
def okF (f : Int → Int) : Prop := ∀ i, 0 ≤ i → i < 7 → 0 ≤ f i ∧ f i ≤ 99
def bF (F : (Int → Int) → Int) : Prop := ∀ f, okF f → -1000000 ≤ F f ∧ F f ≤ 1000000
def bT (F : (Int → Int) → Int) : Prop := ∀ f, okF f → F f = 0 ∨ F f = 1
/-- only the stack of the sums of road b may differ -/
def sameX (b : Bool) (σ σ' : zS) : Prop := σ'.2.2 = σ.2.2 ∧ (∀ p k, hL σ' p k = hL σ p k) ∧ (∀ p k, p ≠ rp b + 13 → (p = rp b + 11 → k ≠ 2) → 0 ≤ k → hI σ' p k = hI σ p k)
theorem sX_r (b : Bool) (σ : zS) : sameX b σ σ := ⟨rfl, fun _ _ => rfl, fun _ _ _ _ _ => rfl⟩
theorem sX_t {b : Bool} {σ σ' σ'' : zS} (h1 : sameX b σ σ') (h2 : sameX b σ' σ'') : sameX b σ σ'' :=
  ⟨h2.1.trans h1.1, fun p k => (h2.2.1 p k).trans (h1.2.1 p k), fun p k a c d => (h2.2.2 p k a c d).trans (h1.2.2 p k a c d)⟩
theorem sX_13 {b : Bool} {σ : zS} {n v : Int} : sameX b σ (jS σ (rp b + 13) n v) :=
  ⟨rfl, fun _ _ => rfl, fun p k a _ _ => hI_jS_ne a⟩
theorem sX_11 {b : Bool} {σ : zS} {v : Int} (h1 : -2147483648 ≤ v) (h2 : v < 2147483648) : sameX b σ (jS σ (rp b + 11) 2 v) := by
  refine ⟨rfl, fun _ _ => rfl, fun p k a c d => ?_⟩
  by_cases h : p = rp b + 11
  · subst h
    rw [hI_jS (by omega) d h1 h2, if_neg (c rfl)]
  · exact hI_jS_ne h
def psh (b : Bool) (σ : zS) (n v : Int) : zS := jS (jS σ (rp b + 13) n v) (rp b + 11) 2 (n + 1)
theorem sX_p {b : Bool} {σ : zS} {n v : Int} (h0 : 0 ≤ n) (h1 : n < 64) : sameX b σ (psh b σ n v) := sX_t sX_13 (sX_11 (by omega) (by omega))
theorem psh_t {b : Bool} {σ : zS} {n v : Int} (h0 : 0 ≤ n) (h1 : n < 64) : hI (psh b σ n v) (rp b + 11) 2 = n + 1 := by
  unfold psh
  simp (disch := omega) only [hI_jS, if_true]
theorem psh_v {b : Bool} {σ : zS} {n v : Int} (h0 : 0 ≤ n) (h2 : -2147483648 ≤ v) (h3 : v < 2147483648) : hI (psh b σ n v) (rp b + 13) n = v := by
  unfold psh
  simp (disch := omega) only [hI_jS_ne, hI_jS, if_true]
theorem psh_o {b : Bool} {σ : zS} {n v j : Int} (h0 : 0 ≤ j) (h1 : j < n) (h2 : -2147483648 ≤ v) (h3 : v < 2147483648) : hI (psh b σ n v) (rp b + 13) j = hI σ (rp b + 13) j := by
  unfold psh
  simp (disch := omega) only [hI_jS_ne, hI_jS, if_neg]
theorem push_z {b : Bool} {σ : zS} {n v : Int} (hn : hI σ (rp b + 11) 2 = n) (h0 : 0 ≤ n) (h1 : n < 64) : fX8_push b (z32 v) σ = some (psh b σ n v) := by
  simp (disch := omega) only [fX8_push, z32_add, z32_sub, z32_mul, z32_neg, z32_litn, z32_lt, z32_le, z32_eq, iG_h, lG_h, iS_j, lS_k, aI_h, wI_h, aL_h, wL_h, bnd, bnr_s, bnc_s, ↓reduceIte, ieqT, ieqF, iltT, iltF, ileT, ileF, not_true, not_false_iff, hn, hI_jS_ne, psh]
theorem pop_z {b : Bool} {σ : zS} {n : Int} (hn : hI σ (rp b + 11) 2 = n) (h0 : 0 < n) (h1 : n ≤ 64) : fX8_pop b σ = some (z32 (hI σ (rp b + 13) (n - 1)), jS σ (rp b + 11) 2 (n - 1)) := by
  simp (disch := omega) only [fX8_pop, z32_add, z32_sub, z32_mul, z32_neg, z32_litn, z32_lt, z32_le, z32_eq, iG_h, lG_h, iS_j, lS_k, aI_h, wI_h, aL_h, wL_h, bnd, bnr_s, bnc_s, ↓reduceIte, ieqT, ieqF, iltT, iltF, ileT, ileF, not_true, not_false_iff, hn, hI_jS_ne, hI_jS, if_true]
theorem zcd_b (m : Int) : 6 ≤ zcd m ∧ zcd m ≤ 62 := by
  unfold zcd
  repeat' split
  all_goals omega
def cSeg (b : Bool) (C : Int → Int) (a e : Int) (F : (Int → Int) → Int) (d : Int) : Prop := (0 ≤ a ∧ a < e) ∧ ∀ (σ : zS) (f : Int → Int) (n X : Int), okF f → (∀ i, a ≤ i → i < e → hI σ (rp b + 12) i = C i) → (∀ i, 0 ≤ i → i < 7 → hI σ 26 i = f i) → hI σ (rp b + 11) 2 = n → 0 ≤ n → n + d ≤ 64 → e ≤ X → X ≤ 1600 → ∃ (σ' : zS) (k : Nat), (k : Int) ≤ e - a ∧ (∀ fu : Nat, fX8_valueOf_20 b 26 7 (fu + k) (z32 X) (z32 a) σ = fX8_valueOf_20 b 26 7 fu (z32 X) (z32 e) σ') ∧ sameX b σ σ' ∧ hI σ' (rp b + 11) 2 = n + 1 ∧ hI σ' (rp b + 13) n = F f ∧ (∀ j, 0 ≤ j → j < n → hI σ' (rp b + 13) j = hI σ (rp b + 13) j)
theorem cSeg_mono {b : Bool} {C : Int → Int} {a e d d' : Int} {F : (Int → Int) → Int} (h : cSeg b C a e F d) (hd : d ≤ d') : cSeg b C a e F d' :=
  ⟨h.1, fun σ f n X h1 h2 h3 h4 h5 h6 h7 h8 => h.2 σ f n X h1 h2 h3 h4 h5 (by omega) h7 h8⟩
theorem cSeg_cong {b : Bool} {C C' : Int → Int} {a e d : Int} {F : (Int → Int) → Int} (h : cSeg b C a e F d) (hc : ∀ i, a ≤ i → i < e → C' i = C i) : cSeg b C' a e F d :=
  ⟨h.1, fun σ f n X h1 h2 h3 h4 h5 h6 h7 h8 => h.2 σ f n X h1 (fun i g1 g2 => (h2 i g1 g2).trans (hc i g1 g2)) h3 h4 h5 h6 h7 h8⟩
theorem cSeg_num {b : Bool} {C : Int → Int} {a v d : Int} (ha : 0 ≤ a) (hv : 0 ≤ v) (hv' : v ≤ 9999) (hd : 1 ≤ d) (hC : C a = v * 64 + 1) : cSeg b C a (a + 1) (fun _ => v) d := by
  refine ⟨by omega, fun σ f n X h1 h2 h3 h4 h5 h6 h7 h8 => ⟨psh b σ n v, 1, by omega, ?_, sX_p h5 (by omega), psh_t h5 (by omega), psh_v h5 (by omega) (by omega), fun j g1 g2 => psh_o g1 g2 (by omega) (by omega)⟩⟩
  intro fu
  have e := h2 a (by omega) (by omega)
  rw [hC] at e
  have e1 : (v * 64 + 1) - v * 64 = 1 := by omega
  have e2 : (v * 64 + 1) / 64 = v := by omega
  simp (disch := omega) only [fX8_valueOf_20, fX8_valueOf_164, aI_h, bnr_s, z32_add, z32_sub, z32_mul, z32_neg, z32_litn, z32_lt, z32_le, z32_eq, ↓reduceIte, ieqT, ieqF, iltT, iltF, ileT, ileF, not_true, not_false_iff, e, z32_div, e1, e2, if_true, push_z h4 h5]
theorem cSeg_fact {b : Bool} {C : Int → Int} {a v d : Int} (ha : 0 ≤ a) (hv : 0 ≤ v) (hv' : v < 7) (hd : 1 ≤ d) (hC : C a = v * 64 + 2) : cSeg b C a (a + 1) (fun f => f v) d := by
  refine ⟨by omega, fun σ f n X h1 h2 h3 h4 h5 h6 h7 h8 => ?_⟩
  have hb := h1 v hv hv'
  refine ⟨psh b σ n (f v), 1, by omega, ?_, sX_p h5 (by omega), psh_t h5 (by omega), psh_v h5 (by omega) (by omega), fun j g1 g2 => psh_o g1 g2 (by omega) (by omega)⟩
  intro fu
  have e := h2 a (by omega) (by omega)
  rw [hC] at e
  have e1 : (v * 64 + 2) - v * 64 = 2 := by omega
  have e2 : (v * 64 + 2) / 64 = v := by omega
  have e3 := h3 v hv hv'
  simp (disch := omega) only [fX8_valueOf_20, fX8_valueOf_164, aI_h, bnr_s, z32_add, z32_sub, z32_mul, z32_neg, z32_litn, z32_lt, z32_le, z32_eq, ↓reduceIte, ieqT, ieqF, iltT, iltF, ileT, ileF, not_true, not_false_iff, e, z32_div, e1, e2, e3, if_true, push_z h4 h5]
theorem cSeg_bin {b : Bool} {C : Int → Int} {a m e d1 d2 d op : Int} {F G : (Int → Int) → Int} (hF : bF F) (hG : bF G) (hop : 10 ≤ op) (hop' : op ≤ 21) (hT : 20 ≤ op → bT F ∧ bT G) (s1 : cSeg b C a m F d1) (s2 : cSeg b C m e G d2) (hd1 : d1 ≤ d) (hd2 : d2 + 1 ≤ d) (h2 : 1 ≤ d2) (hC : C e = zcd op) : cSeg b C a (e + 1) (fun f => zop op (F f) (G f)) d := by
  have i1 := s1.1
  have i2 := s2.1
  refine ⟨by omega, fun σ f n X h1 h2 h3 h4 h5 h6 h7 h8 => ?_⟩
  obtain ⟨σ1, k1, g1, g2, g3, g4, g5, g6⟩ := s1.2 σ f n X h1 (fun i q1 q2 => h2 i q1 (by omega)) h3 h4 h5 (by omega) (by omega) h8
  have hrp := rp_or b
  obtain ⟨σ2, k2, q1, q2, q3, q4, q5, q6⟩ := s2.2 σ1 f (n + 1) X h1 (fun i w1 w2 => (g3.2.2 _ _ (by omega) (by omega) (by omega)).trans (h2 i (by omega) (by omega))) (fun i w1 w2 => (g3.2.2 _ _ (by omega) (by omega) (by omega)).trans (h3 i w1 w2)) g4 (by omega) (by omega) (by omega) h8
  obtain ⟨v, j1, j2⟩ := cJoin (m := op) (x := F f) (y := G f) hop hop' (hF f h1).1 (hF f h1).2 (hG f h1).1 (hG f h1).2 (fun w => ⟨(hT w).1 f h1, (hT w).2 f h1⟩)
  have zb := zop_b (m := op) (x := F f) (y := G f) (hF f h1).1 (hF f h1).2 (hG f h1).1 (hG f h1).2
  have zc := zcd_b op
  have e5 : hI σ2 (rp b + 13) n = F f := (q6 n h5 (by omega)).trans g5
  have eC : hI σ2 (rp b + 12) e = zcd op := by
    rw [q3.2.2 _ _ (by omega) (by omega) (by omega), g3.2.2 _ _ (by omega) (by omega) (by omega), h2 e (by omega) (by omega), hC]
  have eM : zcd op / 64 = 0 := by omega
  have eN : zcd op - 0 * 64 = zcd op := by omega
  have u1 := sX_11 (b := b) (σ := σ2) (v := n + 1) (by omega) (by omega)
  have u2 := sX_11 (b := b) (σ := jS σ2 (rp b + 11) 2 (n + 1)) (v := n) (by omega) (by omega)
  refine ⟨psh b (jS (jS σ2 (rp b + 11) 2 (n + 1)) (rp b + 11) 2 n) n (zop op (F f) (G f)), k1 + k2 + 1, by omega, ?_, sX_t (sX_t (sX_t (sX_t g3 q3) u1) u2) (sX_p h5 (by omega)), psh_t h5 (by omega), psh_v h5 (by omega) (by omega), fun j w1 w2 => ?_⟩
  · intro fu
    rw [show fu + (k1 + k2 + 1) = (fu + 1 + k2) + k1 by omega, g2, q2]
    have p1 := pop_z (b := b) (σ := σ2) (n := n + 1 + 1) q4 (by omega) (by omega)
    rw [show n + 1 + 1 - 1 = n + 1 by omega, q5] at p1
    have t1 : hI (jS σ2 (rp b + 11) 2 (n + 1)) (rp b + 11) 2 = n + 1 := by simp (disch := omega) only [hI_jS, if_true]
    have p2 := pop_z (b := b) (σ := jS σ2 (rp b + 11) 2 (n + 1)) (n := n + 1) t1 (by omega) (by omega)
    rw [show n + 1 - 1 = n by omega] at p2
    have e6 : hI (jS σ2 (rp b + 11) 2 (n + 1)) (rp b + 13) n = F f := by rw [hI_jS_ne (by omega)]; exact e5
    rw [e6] at p2
    have t2 : hI (jS (jS σ2 (rp b + 11) 2 (n + 1)) (rp b + 11) 2 n) (rp b + 11) 2 = n := by simp (disch := omega) only [hI_jS, if_true]
    simp (disch := omega) only [fX8_valueOf_20, aI_h, bnr_s, bnc_s, z32_add, z32_sub, z32_mul, z32_neg, z32_litn, z32_lt, z32_le, z32_eq, ↓reduceIte, ieqT, ieqF, iltT, iltF, ileT, ileF, not_true, not_false_iff, eC, z32_div, eM, eN]
    simp (disch := omega) only [fX8_valueOf_115, fX8_valueOf_164, aI_h, bnr_s, bnc_s, z32_add, z32_sub, z32_mul, z32_neg, z32_litn, z32_lt, z32_le, z32_eq, ↓reduceIte, ieqT, ieqF, iltT, iltF, ileT, ileF, not_true, not_false_iff, eC, z32_div, eM, eN, p1, p2, j1, j2, push_z t2 h5]
  · rw [psh_o w1 w2 (by omega) (by omega), hI_jS_ne (by omega), hI_jS_ne (by omega), q6 j w1 (by omega), g6 j w1 w2]
theorem cSeg_not {b : Bool} {C : Int → Int} {a e d : Int} {F : (Int → Int) → Int} (hT : bT F) (s1 : cSeg b C a e F d) (hd : 1 ≤ d) (hC : C e = 5) : cSeg b C a (e + 1) (fun f => 1 - F f) d := by
  have i1 := s1.1
  refine ⟨by omega, fun σ f n X h1 h2 h3 h4 h5 h6 h7 h8 => ?_⟩
  obtain ⟨σ1, k1, g1, g2, g3, g4, g5, g6⟩ := s1.2 σ f n X h1 (fun i q1 q2 => h2 i q1 (by omega)) h3 h4 h5 (by omega) (by omega) h8
  have hrp := rp_or b
  have zb := hT f h1
  have eC : hI σ1 (rp b + 12) e = 5 := by
    rw [g3.2.2 _ _ (by omega) (by omega) (by omega), h2 e (by omega) (by omega), hC]
  have u1 := sX_11 (b := b) (σ := σ1) (v := n) (by omega) (by omega)
  refine ⟨psh b (jS σ1 (rp b + 11) 2 n) n (1 - F f), k1 + 1, by omega, ?_, sX_t (sX_t g3 u1) (sX_p h5 (by omega)), psh_t h5 (by omega), psh_v h5 (by omega) (by omega), fun j w1 w2 => ?_⟩
  · intro fu
    rw [show fu + (k1 + 1) = (fu + 1) + k1 by omega, g2]
    have p1 := pop_z (b := b) (σ := σ1) (n := n + 1) g4 (by omega) (by omega)
    rw [show n + 1 - 1 = n by omega, g5] at p1
    have t2 : hI (jS σ1 (rp b + 11) 2 n) (rp b + 11) 2 = n := by simp (disch := omega) only [hI_jS, if_true]
    have e1 : (5 : Int) / 64 = 0 := rfl
    have e2 : (5 : Int) - 0 * 64 = 5 := rfl
    simp (disch := omega) only [fX8_valueOf_20, aI_h, bnr_s, bnc_s, z32_add, z32_sub, z32_mul, z32_neg, z32_litn, z32_lt, z32_le, z32_eq, ↓reduceIte, ieqT, ieqF, iltT, iltF, ileT, ileF, not_true, not_false_iff, eC, z32_div, e1, e2]
    simp (disch := omega) only [fX8_valueOf_115, fX8_valueOf_164, aI_h, bnr_s, bnc_s, z32_add, z32_sub, z32_mul, z32_neg, z32_litn, z32_lt, z32_le, z32_eq, ↓reduceIte, ieqT, ieqF, iltT, iltF, ileT, ileF, not_true, not_false_iff, eC, z32_div, e1, e2, p1, push_z t2 h5]
  · rw [psh_o w1 w2 (by omega) (by omega), hI_jS_ne (by omega), g6 j w1 w2]
theorem cSeg_if {b : Bool} {C : Int → Int} {a m s e d : Int} {T F G : (Int → Int) → Int} (hT : bT T) (s1 : cSeg b C a m T d) (s2 : cSeg b C (m + 1) s F d) (s3 : cSeg b C (s + 1) e G d) (hd : 1 ≤ d) (he : e ≤ 1600) (hC : C m = (s + 1) * 64 + 3) (hC' : C s = e * 64 + 4) : cSeg b C a e (fun f => if T f = 0 then G f else F f) d := by
  have i1 := s1.1
  have i2 := s2.1
  have i3 := s3.1
  refine ⟨by omega, fun σ f n X h1 h2 h3 h4 h5 h6 h7 h8 => ?_⟩
  obtain ⟨σ1, k1, g1, g2, g3, g4, g5, g6⟩ := s1.2 σ f n X h1 (fun i q1 q2 => h2 i q1 (by omega)) h3 h4 h5 (by omega) (by omega) h8
  have hrp := rp_or b
  have zb := hT f h1
  have eC : hI σ1 (rp b + 12) m = (s + 1) * 64 + 3 := by
    rw [g3.2.2 _ _ (by omega) (by omega) (by omega), h2 m (by omega) (by omega), hC]
  have u1 := sX_11 (b := b) (σ := σ1) (v := n) (by omega) (by omega)
  have p1 := pop_z (b := b) (σ := σ1) (n := n + 1) g4 (by omega) (by omega)
  rw [show n + 1 - 1 = n by omega, g5] at p1
  have t2 : hI (jS σ1 (rp b + 11) 2 n) (rp b + 11) 2 = n := by simp (disch := omega) only [hI_jS, if_true]
  have e1 : ((s + 1) * 64 + 3) - (s + 1) * 64 = 3 := by omega
  have e2 : ((s + 1) * 64 + 3) / 64 = s + 1 := by omega
  have agr : sameX b σ (jS σ1 (rp b + 11) 2 n) := sX_t g3 u1
  have lowr : ∀ j, 0 ≤ j → j < n → hI (jS σ1 (rp b + 11) 2 n) (rp b + 13) j = hI σ (rp b + 13) j := fun j w1 w2 => by rw [hI_jS_ne (by omega), g6 j w1 w2]
  by_cases hz : T f = 0
  · obtain ⟨σ2, k2, q1, q2, q3, q4, q5, q6⟩ := s3.2 (jS σ1 (rp b + 11) 2 n) f n X h1 (fun i w1 w2 => (agr.2.2 _ _ (by omega) (by omega) (by omega)).trans (h2 i (by omega) (by omega))) (fun i w1 w2 => (agr.2.2 _ _ (by omega) (by omega) (by omega)).trans (h3 i w1 w2)) t2 h5 h6 h7 h8
    refine ⟨σ2, k1 + 1 + k2, by omega, ?_, sX_t agr q3, q4, by rw [q5]; simp [hz], fun j w1 w2 => (q6 j w1 w2).trans (lowr j w1 w2)⟩
    intro fu
    have mx : zmax m (s + 1 - 1) = s := by unfold zmax; split <;> omega
    rw [show fu + (k1 + 1 + k2) = (fu + k2 + 1) + k1 by omega, g2, ← q2]
    rw [hz] at p1
    simp (disch := omega) only [fX8_valueOf_20, fX8_valueOf_164, fX8_valueOf_101, aI_h, bnr_s, bnc_s, z32_add, z32_sub, z32_mul, z32_neg, z32_litn, z32_lt, z32_le, z32_eq, ↓reduceIte, ieqT, ieqF, iltT, iltF, ileT, ileF, not_true, not_false_iff, eC, z32_div, e1, e2, p1, jmax_z, mx]
  · obtain ⟨σ2, k2, q1, q2, q3, q4, q5, q6⟩ := s2.2 (jS σ1 (rp b + 11) 2 n) f n X h1 (fun i w1 w2 => (agr.2.2 _ _ (by omega) (by omega) (by omega)).trans (h2 i (by omega) (by omega))) (fun i w1 w2 => (agr.2.2 _ _ (by omega) (by omega) (by omega)).trans (h3 i w1 w2)) t2 h5 h6 (by omega) h8
    have eC2 : hI σ2 (rp b + 12) s = e * 64 + 4 := by
      rw [q3.2.2 _ _ (by omega) (by omega) (by omega), agr.2.2 _ _ (by omega) (by omega) (by omega), h2 s (by omega) (by omega), hC']
    refine ⟨σ2, k1 + 1 + k2 + 1, by omega, ?_, sX_t agr q3, q4, by rw [q5]; simp [hz], fun j w1 w2 => (q6 j w1 w2).trans (lowr j w1 w2)⟩
    intro fu
    have mx : zmax s (e - 1) = e - 1 := by unfold zmax; split <;> omega
    have e3 : (e * 64 + 4) - e * 64 = 4 := by omega
    have e4 : (e * 64 + 4) / 64 = e := by omega
    have step1 : fX8_valueOf_20 b 26 7 (fu + 1 + k2 + 1) (z32 X) (z32 m) σ1 = fX8_valueOf_20 b 26 7 (fu + 1 + k2) (z32 X) (z32 (m + 1)) (jS σ1 (rp b + 11) 2 n) := by
      simp (disch := omega) only [fX8_valueOf_20, aI_h, bnr_s, bnc_s, z32_add, z32_sub, z32_mul, z32_neg, z32_litn, z32_lt, z32_le, z32_eq, ↓reduceIte, ieqT, ieqF, iltT, iltF, ileT, ileF, not_true, not_false_iff, eC, z32_div, e1, e2]
      simp (disch := omega) only [fX8_valueOf_115, fX8_valueOf_164, aI_h, bnr_s, bnc_s, z32_add, z32_sub, z32_mul, z32_neg, z32_litn, z32_lt, z32_le, z32_eq, ↓reduceIte, ieqT, ieqF, iltT, iltF, ileT, ileF, not_true, not_false_iff, eC, z32_div, e1, e2, p1]
    have step2 : fX8_valueOf_20 b 26 7 (fu + 1) (z32 X) (z32 s) σ2 = fX8_valueOf_20 b 26 7 fu (z32 X) (z32 e) σ2 := by
      have : e - 1 + 1 = e := by omega
      simp (disch := omega) only [fX8_valueOf_20, fX8_valueOf_164, fX8_valueOf_101, aI_h, bnr_s, bnc_s, z32_add, z32_sub, z32_mul, z32_neg, z32_litn, z32_lt, z32_le, z32_eq, ↓reduceIte, ieqT, ieqF, iltT, iltF, ileT, ileF, not_true, not_false_iff, eC2, z32_div, e3, e4, jmax_z, mx, this]
    rw [show fu + (k1 + 1 + k2 + 1) = (fu + 1 + k2 + 1) + k1 by omega, g2, step1, q2, step2]

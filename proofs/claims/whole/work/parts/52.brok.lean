/-! MY OWN: the one side behind a fault; what holds between the two sides while a sum is read -/
def cSB (rb : Nat) (p : Nat) (k : Int) : Prop := p = 54 ∨ (p = rb + 11 ∧ k = 3) ∨ p = rb + 12
def szK (A : zS) : Prop := 0 ≤ hI A (rp A.2.2.2.2 + 11) 3 ∧ hI A (rp A.2.2.2.2 + 11) 3 ≤ 1600
def BK (f : zS → Option zS) : Prop := ∀ A k p, cBk A k p → szK A → ∃ B, f A = some B ∧ fr (cSB (rp A.2.2.2.2)) A B ∧ cBk B k p ∧ szK B
section BKs
variable {f g : zS → Option zS}
theorem BK_s : BK (fun A => some A) := fun A k p h hs => ⟨A, rfl, fr_r, h, hs⟩
theorem BK_b (hf : BK f) (hg : BK g) : BK (fun A => bnr (f A) g) := fun A k p h hs => by
  obtain ⟨B, b1, b2, b3, b4⟩ := hf A k p h hs
  obtain ⟨C, c1, c2, c3, c4⟩ := hg B k p b3 b4
  have e : B.2.2.2.2 = A.2.2.2.2 := by rw [b2.1]
  rw [e] at c2
  refine ⟨C, ?_, fr_t b2 c2, c3, c4⟩
  show bnr (f A) g = some C
  rw [b1, bnr_q, c1]
theorem BK_c (hf : BK f) (h : ∀ A k p, cBk A k p → g A = f A) : BK g := fun A k p hb hs => by
  obtain ⟨B, b1, b2, b3, b4⟩ := hf A k p hb hs
  exact ⟨B, (h A k p hb).trans b1, b2, b3, b4⟩
theorem BK_adv : BK fX5_advance := fun A k p h hs => by
  refine ⟨A, ?_, fr_r, h, hs⟩
  have e := h.1
  simp (disch := omega) only [fX5_advance, z32_add, z32_sub, z32_mul, z32_neg, z32_litn, z32_lt, z32_le, z32_eq, iG_h, lG_h, iS_q, lS_q, aI_h, wI_h, aL_h, wL_h, ↓bnd_q, bnr_q, bnc_q, ↓reduceIte, ieqT, ieqF, iltT, iltF, ileT, ileF, not_true, not_false_iff, e]
theorem BK_fail (x : Int32) (y : zS → Int32) : BK (fun A => fX5_fail x (y A) A) := fun A k p h hs => by
  obtain ⟨e1, e2, e3, e4, e5, e6⟩ := h
  have b1 := hI_lo A 54 9
  have b2 := hI_hi A 54 9
  have hrp := rp_or A.2.2.2.2
  refine ⟨jS (jS A 54 5 4) 54 6 (-1), ?_, fr_t (fr_j (by omega) (by unfold cSB; omega)) (fr_j (by omega) (by unfold cSB; omega)), ?_, ?_⟩
  · simp (disch := omega) only [fX5_fail, fX5_fail_17, z32_add, z32_sub, z32_mul, z32_neg, z32_litn, z32_lt, z32_le, z32_eq, iG_h, lG_h, iS_q, lS_q, aI_h, wI_h, aL_h, wL_h, ↓bnd_q, bnr_q, bnc_q, ↓reduceIte, ieqT, ieqF, iltT, iltF, ileT, ileF, not_true, not_false_iff, e3]
  · simp (disch := omega) only [cBk, hI_jS, ↓reduceIte, ieqT, ieqF, iltT, iltF, ileT, ileF, not_true, not_false_iff, e3, e4]
    simp [e5, e6]
  · unfold szK
    show 0 ≤ hI (jS (jS A 54 5 4) 54 6 (-1)) (rp A.2.2.2.2 + 11) 3 ∧ hI (jS (jS A 54 5 4) 54 6 (-1)) (rp A.2.2.2.2 + 11) 3 ≤ 1600
    rw [hI_jS_ne (by omega), hI_jS_ne (by omega)]
    exact hs
theorem BK_w {A : zS} {k p : Int} {i v v2 : Int} (h : cBk A k p) (hi : 0 ≤ i) (h0 : 0 ≤ v2) (h1 : v2 ≤ 1600) : fr (cSB (rp A.2.2.2.2)) A (jS (jS A (rp A.2.2.2.2 + 12) i v) (rp A.2.2.2.2 + 11) 3 v2) ∧ cBk (jS (jS A (rp A.2.2.2.2 + 12) i v) (rp A.2.2.2.2 + 11) 3 v2) k p ∧ szK (jS (jS A (rp A.2.2.2.2 + 12) i v) (rp A.2.2.2.2 + 11) 3 v2) := by
  have hrp := rp_or A.2.2.2.2
  refine ⟨fr_t (fr_j hi (by unfold cSB; omega)) (fr_j (by omega) (by unfold cSB; omega)), ?_, ?_⟩
  · unfold cBk
    rw [hI_jS_ne (by omega), hI_jS_ne (by omega), hI_jS_ne (by omega), hI_jS_ne (by omega), hI_jS_ne (by omega), hI_jS_ne (by omega), hI_jS_ne (by omega), hI_jS_ne (by omega), hI_jS_ne (by omega), hI_jS_ne (by omega)]
    exact h
  · unfold szK
    show 0 ≤ hI (jS (jS A (rp A.2.2.2.2 + 12) i v) (rp A.2.2.2.2 + 11) 3 v2) (rp A.2.2.2.2 + 11) 3 ∧ hI (jS (jS A (rp A.2.2.2.2 + 12) i v) (rp A.2.2.2.2 + 11) 3 v2) (rp A.2.2.2.2 + 11) 3 ≤ 1600
    rw [hI_jS (by omega) (by omega) (by omega) (by omega), if_pos rfl]
    omega
theorem BK_add {G : Int32 → zS → Option zS} (x y : zS → Int32) (hG : ∀ i, BK (G i)) : BK (fun A => bnc (fX8_add A.2.2.2.2 (x A) (y A) A) G) := fun A k p h hs => by
  have hrp := rp_or A.2.2.2.2
  obtain ⟨s1, s2⟩ := hs
  by_cases g : 1600 ≤ hI A (rp A.2.2.2.2 + 11) 3
  · obtain ⟨B, b1, b2, b3, b4⟩ := hG (z32 (hI A (rp A.2.2.2.2 + 11) 3 - 1)) A k p h ⟨s1, s2⟩
    refine ⟨B, ?_, b2, b3, b4⟩
    simp (disch := omega) only [fX8_add, fX8_add_37, z32_add, z32_sub, z32_mul, z32_neg, z32_litn, z32_lt, z32_le, z32_eq, iG_h, lG_h, iS_q, lS_q, aI_h, wI_h, aL_h, wL_h, ↓bnd_q, bnr_q, bnc_q, ↓reduceIte, ieqT, ieqF, iltT, iltF, ileT, ileF, not_true, not_false_iff]
    exact b1
  · obtain ⟨w, hw⟩ : ∃ w : Int, y A * 64 + x A = z32 w := ⟨_, (z32_of _).symm⟩
    obtain ⟨w1, w2, w3⟩ := BK_w (i := hI A (rp A.2.2.2.2 + 11) 3) (v := w) (v2 := hI A (rp A.2.2.2.2 + 11) 3 + 1) h s1 (by omega) (by omega)
    obtain ⟨B, b1, b2, b3, b4⟩ := hG (z32 (hI A (rp A.2.2.2.2 + 11) 3 + 1 - 1)) _ k p w2 w3
    refine ⟨B, ?_, fr_t w1 b2, b3, b4⟩
    have ea : fX8_add A.2.2.2.2 (x A) (y A) A = some (z32 (hI A (rp A.2.2.2.2 + 11) 3 + 1 - 1), jS (jS A (rp A.2.2.2.2 + 12) (hI A (rp A.2.2.2.2 + 11) 3) w) (rp A.2.2.2.2 + 11) 3 (hI A (rp A.2.2.2.2 + 11) 3 + 1)) := by
      unfold fX8_add
      rw [hw]
      simp (disch := omega) only [fX8_add_37, z32_add, z32_sub, z32_mul, z32_neg, z32_litn, z32_lt, z32_le, z32_eq, iG_h, lG_h, iS_q, lS_q, aI_h, wI_h, aL_h, wL_h, ↓bnd_q, bnr_q, bnc_q, ↓reduceIte, ieqT, ieqF, iltT, iltF, ileT, ileF, not_true, not_false_iff, hI_jS_ne, hI_jS]
    simp only []
    rw [ea, bnc_q]
    exact b1
theorem BK_land (x : Int32) : BK (fun A => fX8_landHere A.2.2.2.2 x A) := fun A k p h hs => by
  have hrp := rp_or A.2.2.2.2
  obtain ⟨s1, s2⟩ := hs
  obtain ⟨i, i1, i2, rfl⟩ := r32x x
  by_cases g1 : i < 0
  · refine ⟨A, ?_, fr_r, h, s1, s2⟩
    simp (disch := omega) only [fX8_landHere, z32_add, z32_sub, z32_mul, z32_neg, z32_litn, z32_lt, z32_le, z32_eq, iG_h, lG_h, iS_q, lS_q, aI_h, wI_h, aL_h, wL_h, ↓bnd_q, bnr_q, bnc_q, ↓reduceIte, ieqT, ieqF, iltT, iltF, ileT, ileF, not_true, not_false_iff]
  · by_cases g2 : hI A (rp A.2.2.2.2 + 11) 3 ≤ i
    · refine ⟨A, ?_, fr_r, h, s1, s2⟩
      simp (disch := omega) only [fX8_landHere, z32_add, z32_sub, z32_mul, z32_neg, z32_litn, z32_lt, z32_le, z32_eq, iG_h, lG_h, iS_q, lS_q, aI_h, wI_h, aL_h, wL_h, ↓bnd_q, bnr_q, bnc_q, ↓reduceIte, ieqT, ieqF, iltT, iltF, ileT, ileF, not_true, not_false_iff]
    · have e : ∀ w : Int32, ∃ u : Int, wI A (rp A.2.2.2.2 + 12) 1600 (z32 i) w (fun σ2 => some σ2) = some (jS A (rp A.2.2.2.2 + 12) i u) := fun w => by
        obtain ⟨u, hu⟩ : ∃ u : Int, w = z32 u := ⟨_, (z32_of w).symm⟩
        refine ⟨u, ?_⟩
        rw [hu]
        simp (disch := omega) only [wI_h]
      have e2 : ∃ u : Int, fX8_landHere A.2.2.2.2 (z32 i) A = some (jS A (rp A.2.2.2.2 + 12) i u) := by
        unfold fX8_landHere
        rw [if_neg (by rw [z32_litn, z32_lt (by omega) (by omega) (by omega) (by omega)]; omega), if_neg (by rw [iG_h, z32_le (by omega) (by omega) (by omega) (by omega)]; omega), aI_h (by omega) (by omega) (by omega)]
        exact e _
      obtain ⟨u, hu⟩ := e2
      refine ⟨_, hu, fr_j (by omega) (by unfold cSB; omega), ?_, ?_⟩
      · unfold cBk
        rw [hI_jS_ne (by omega), hI_jS_ne (by omega), hI_jS_ne (by omega), hI_jS_ne (by omega), hI_jS_ne (by omega)]
        exact h
      · unfold szK
        show 0 ≤ hI (jS A (rp A.2.2.2.2 + 12) i u) (rp A.2.2.2.2 + 11) 3 ∧ hI (jS A (rp A.2.2.2.2 + 12) i u) (rp A.2.2.2.2 + 11) 3 ≤ 1600
        rw [hI_jS_ne (by omega)]
        exact ⟨s1, s2⟩
theorem BK_take {s : Int} (hs : s ≠ 4) (h0 : 0 ≤ s) (h1 : s < 256) : BK (fX5_takeSign (z32 s)) :=
  BK_c (BK_b (BK_fail 1 (fun A => iG A 54 4)) BK_s) (fun A k p h => by
    have e := h.1
    unfold fX5_takeSign
    rw [if_neg (by rw [show iG A 54 5 = z32 (hI A 54 5) from iG_h A 54 5, e, z32_eq (by omega) (by omega) (by omega) (by omega)]; omega)])
theorem BK_open {s : Int} {o : Int32} {G : zS → Option zS} (hs : s ≠ 4) (h0 : 0 ≤ s) (h1 : s < 256) : BK (fun A => bnc (fX5_isOpened (z32 s) o A) fun v B => if v = 0 then some B else G B) :=
  BK_c (BK_fail 1 (fun A => iG A 54 4)) (fun A k p h => by
    have e := h.1
    unfold fX5_isOpened
    rw [if_neg (by rw [show iG A 54 5 = z32 (hI A 54 5) from iG_h A 54 5, e, z32_eq (by omega) (by omega) (by omega) (by omega)]; omega)]
    cases hf : fX5_fail 1 (iG A 54 4) A with
    | none => rfl
    | some B =>
      rw [bnr_q, bnc_q]
      exact if_pos rfl)
end BKs
-- the group, opened by one
theorem rdPart (n : Nat) (p1 : Int32) (σ : zS) : fX5_readPart (n + 1) p1 σ = if (iG σ 54 5) = 3 then bnc (fX8_add σ.2.2.2.2 1 (iG σ 54 8) σ) fun v23 σ21 => bnr (fX5_advance σ21) fun σ24 => some σ24 else if (fX5_factOf (iG σ 54 6)) = ((-1)) then if (iG σ 54 5) = 40 then bnc (fX5_isOpened 40 p1 σ) fun v11 σ9 => if v11 = 0 then some σ9 else bnr (fX5_readSum n (p1 + 1) σ9) fun σ12 => bnr (fX5_takeSign 41 σ12) fun σ14 => some σ14 else if (iG σ 54 6) = 18 then bnr (fX5_readIf n p1 σ) fun σ7 => some σ7 else if (iG σ 54 6) = 23 then bnr (fX5_readPair n 8 p1 σ) fun σ5 => some σ5 else if (iG σ 54 6) = 24 then bnr (fX5_readPair n 9 p1 σ) fun σ3 => some σ3 else bnr (fX5_fail 1 (iG σ 54 4) σ) fun σ1 => some σ1 else bnc (fX8_add σ.2.2.2.2 2 (fX5_factOf (iG σ 54 6)) σ) fun v18 σ16 => bnr (fX5_advance σ16) fun σ19 => some σ19 := rfl
theorem rdProd (n : Nat) (p1 : Int32) (σ : zS) : fX5_readProduct (n + 1) p1 σ = bnr (fX5_readPart n p1 σ) fun σ1 => fX5_readProduct'_7 (ggGX5_readBoth n) zF p1 0 σ1 := rfl
theorem rdProd7 (n f : Nat) (x1 x2 : Int32) (σ : zS) : fX5_readProduct'_7 (ggGX5_readBoth n) (f + 1) x1 x2 σ = if 1600 ≤ x2 then some σ else if (iG σ 54 5) = 42 then (bnr (fX5_advance σ) fun σ3 => bnr (fX5_readPart n x1 σ3) fun σ5 => bnc (fX8_add σ5.2.2.2.2 (iG σ 54 5) 0 σ5) fun v9 σ7 => fX5_readProduct'_7 (ggGX5_readBoth n) f x1 (x2 + 1) σ7) else if (iG σ 54 5) = 47 then (bnr (fX5_advance σ) fun σ3 => bnr (fX5_readPart n x1 σ3) fun σ5 => bnc (fX8_add σ5.2.2.2.2 (iG σ 54 5) 0 σ5) fun v9 σ7 => fX5_readProduct'_7 (ggGX5_readBoth n) f x1 (x2 + 1) σ7) else if (iG σ 54 5) = 37 then (bnr (fX5_advance σ) fun σ3 => bnr (fX5_readPart n x1 σ3) fun σ5 => bnc (fX8_add σ5.2.2.2.2 (iG σ 54 5) 0 σ5) fun v9 σ7 => fX5_readProduct'_7 (ggGX5_readBoth n) f x1 (x2 + 1) σ7) else some σ := rfl
theorem rdSum (n : Nat) (p1 : Int32) (σ : zS) : fX5_readSum (n + 1) p1 σ = bnr (fX5_readProduct n p1 σ) fun σ1 => fX5_readSum'_7 (ggGX5_readBoth n) zF p1 0 σ1 := rfl
theorem rdSum7 (n f : Nat) (x1 x2 : Int32) (σ : zS) : fX5_readSum'_7 (ggGX5_readBoth n) (f + 1) x1 x2 σ = if 1600 ≤ x2 then some σ else if (iG σ 54 5) = 43 then (bnr (fX5_advance σ) fun σ3 => bnr (fX5_readProduct n x1 σ3) fun σ5 => bnc (fX8_add σ5.2.2.2.2 (iG σ 54 5) 0 σ5) fun v9 σ7 => fX5_readSum'_7 (ggGX5_readBoth n) f x1 (x2 + 1) σ7) else if (iG σ 54 5) = 45 then (bnr (fX5_advance σ) fun σ3 => bnr (fX5_readProduct n x1 σ3) fun σ5 => bnc (fX8_add σ5.2.2.2.2 (iG σ 54 5) 0 σ5) fun v9 σ7 => fX5_readSum'_7 (ggGX5_readBoth n) f x1 (x2 + 1) σ7) else some σ := rfl
theorem rdComp (n : Nat) (p1 : Int32) (σ : zS) : fX5_readCompared (n + 1) p1 σ = bnr (fX5_readSum n p1 σ) fun σ1 => if (iG σ1 54 5) = 60 then fX5_readCompared'_38 (ggGX5_readBoth n) p1 (iG σ1 54 5) σ1 else if (iG σ1 54 5) = 62 then fX5_readCompared'_38 (ggGX5_readBoth n) p1 (iG σ1 54 5) σ1 else if (iG σ1 54 5) = 61 then fX5_readCompared'_38 (ggGX5_readBoth n) p1 (iG σ1 54 5) σ1 else bnr (fX5_fail 1 (iG σ1 54 4) σ1) fun σ10 => some σ10 := rfl
theorem rdComp38 (n : Nat) (x1 x2 : Int32) (σ : zS) : fX5_readCompared'_38 (ggGX5_readBoth n) x1 x2 σ = bnr (fX5_advance σ) fun σ3 => bnr (fX5_readSum n x1 σ3) fun σ5 => bnc (fX8_add σ5.2.2.2.2 x2 0 σ5) fun v9 σ7 => some σ7 := rfl
theorem rdFact (n : Nat) (p1 : Int32) (σ : zS) : fX5_readFact (n + 1) p1 σ = if (iG σ 54 6) = 21 then bnr (fX5_readNot n p1 σ) fun σ15 => some σ15 else if (iG σ 54 5) = 91 then bnc (fX5_isOpened 91 p1 σ) fun v10 σ8 => if v10 = 0 then some σ8 else bnr (fX5_readTest n (p1 + 1) σ8) fun σ11 => bnr (fX5_takeSign 93 σ11) fun σ13 => some σ13 else if (iG σ 54 6) = 22 then bnc (fX8_add σ.2.2.2.2 1 1 σ) fun v5 σ3 => bnr (fX5_advance σ3) fun σ6 => some σ6 else bnr (fX5_readCompared n p1 σ) fun σ1 => some σ1 := rfl
theorem rdNot (n : Nat) (p1 : Int32) (σ : zS) : fX5_readNot (n + 1) p1 σ = if p1 < 7 then bnr (fX5_advance σ) fun σ1 => bnr (fX5_readFact n (p1 + 1) σ1) fun σ3 => bnc (fX8_add σ3.2.2.2.2 5 0 σ3) fun v7 σ5 => some σ5 else bnr (fX5_fail 5 (iG σ 54 4) σ) fun σ8 => some σ8 := rfl
theorem rdPair (n : Nat) (p1 p2 : Int32) (σ : zS) : fX5_readPair (n + 1) p1 p2 σ = bnr (fX5_advance σ) fun σ1 => bnc (fX5_isOpened 40 p2 σ1) fun v5 σ3 => if v5 = 0 then some σ3 else bnr (fX5_readSum n (p2 + 1) σ3) fun σ6 => bnr (fX5_takeSign 44 σ6) fun σ8 => bnr (fX5_readSum n (p2 + 1) σ8) fun σ10 => bnr (fX5_takeSign 41 σ10) fun σ12 => bnc (fX8_add σ12.2.2.2.2 p1 0 σ12) fun v16 σ14 => some σ14 := rfl
theorem rdIf (n : Nat) (p1 : Int32) (σ : zS) : fX5_readIf (n + 1) p1 σ = bnr (fX5_advance σ) fun σ1 => bnc (fX5_isOpened 40 p1 σ1) fun v5 σ3 => if v5 = 0 then some σ3 else bnr (fX5_readTest n (p1 + 1) σ3) fun σ6 => bnr (fX5_takeSign 44 σ6) fun σ8 => bnc (fX8_add σ8.2.2.2.2 3 0 σ8) fun v12 σ10 => bnr (fX5_readSum n (p1 + 1) σ10) fun σ13 => bnr (fX5_takeSign 44 σ13) fun σ15 => bnc (fX8_add σ15.2.2.2.2 4 0 σ15) fun v19 σ17 => bnr (fX8_landHere σ17.2.2.2.2 v12 σ17) fun σ20 => bnr (fX5_readSum n (p1 + 1) σ20) fun σ22 => bnr (fX5_takeSign 41 σ22) fun σ24 => bnr (fX8_landHere σ24.2.2.2.2 v19 σ24) fun σ26 => some σ26 := rfl
theorem rdBoth (n : Nat) (p1 : Int32) (σ : zS) : fX5_readBoth (n + 1) p1 σ = bnr (fX5_readFact n p1 σ) fun σ1 => fX5_readBoth'_7 (ggGX5_readBoth n) zF p1 0 σ1 := rfl
theorem rdBoth7 (n f : Nat) (x1 x2 : Int32) (σ : zS) : fX5_readBoth'_7 (ggGX5_readBoth n) (f + 1) x1 x2 σ = if 1600 ≤ x2 then some σ else if (iG σ 54 6) = 20 then bnr (fX5_advance σ) fun σ3 => bnr (fX5_readFact n x1 σ3) fun σ5 => bnc (fX8_add σ5.2.2.2.2 6 0 σ5) fun v9 σ7 => fX5_readBoth'_7 (ggGX5_readBoth n) f x1 (x2 + 1) σ7 else some σ := rfl
theorem rdTest (n : Nat) (p1 : Int32) (σ : zS) : fX5_readTest (n + 1) p1 σ = bnr (fX5_readBoth n p1 σ) fun σ1 => fX5_readTest'_7 (ggGX5_readBoth n) zF p1 0 σ1 := rfl
theorem rdTest7 (n f : Nat) (x1 x2 : Int32) (σ : zS) : fX5_readTest'_7 (ggGX5_readBoth n) (f + 1) x1 x2 σ = if 1600 ≤ x2 then some σ else if (iG σ 54 6) = 19 then bnr (fX5_advance σ) fun σ3 => bnr (fX5_readBoth n x1 σ3) fun σ5 => bnc (fX8_add σ5.2.2.2.2 7 0 σ5) fun v9 σ7 => fX5_readTest'_7 (ggGX5_readBoth n) f x1 (x2 + 1) σ7 else some σ := rfl
section BR
variable {n : Nat} {o : Int32}
theorem b5 {A : zS} {k p s : Int} {x : Int32} (h : cBk A k p) (hx : x = z32 s) (hs : s ≠ 4) (h0 : 0 ≤ s) (h1 : s < 256) : ¬ (iG A 54 5 = x) := by
  rw [hx, show iG A 54 5 = z32 (hI A 54 5) from iG_h A 54 5, h.1, z32_eq (by omega) (by omega) (by omega) (by omega)]
  omega
theorem b6 {A : zS} {k p s : Int} {x : Int32} (h : cBk A k p) (hx : x = z32 s) (h0 : 0 ≤ s) (h1 : s < 256) : ¬ (iG A 54 6 = x) := by
  rw [hx, show iG A 54 6 = z32 (hI A 54 6) from iG_h A 54 6, h.2.1, z32_eq (by omega) (by omega) (by omega) (by omega)]
  omega
theorem b6n {A : zS} {k p : Int} (h : cBk A k p) : fX5_factOf (iG A 54 6) = ((-1)) := by
  rw [show iG A 54 6 = z32 (hI A 54 6) from iG_h A 54 6, h.2.1]
  decide
theorem BK_part : BK (fX5_readPart (n + 1) o) :=
  BK_c (BK_b (BK_fail 1 (fun A => iG A 54 4)) BK_s) (fun A k p h => by
    rw [rdPart, if_neg (b5 (s := 3) h (z32_litn 3) (by omega) (by omega) (by omega)), if_pos (b6n h), if_neg (b5 (s := 40) h (z32_litn 40) (by omega) (by omega) (by omega)), if_neg (b6 (s := 18) h (z32_litn 18) (by omega) (by omega)), if_neg (b6 (s := 23) h (z32_litn 23) (by omega) (by omega)), if_neg (b6 (s := 24) h (z32_litn 24) (by omega) (by omega))])
theorem BK_prod7 {x : Int32} : BK (fX5_readProduct'_7 (ggGX5_readBoth n) zF o x) :=
  BK_c BK_s (fun A k p h => by
    obtain ⟨g, hg⟩ := zF_ex
    rw [hg, rdProd7]
    split
    · rfl
    · rw [if_neg (b5 (s := 42) h (z32_litn 42) (by omega) (by omega) (by omega)), if_neg (b5 (s := 47) h (z32_litn 47) (by omega) (by omega) (by omega)), if_neg (b5 (s := 37) h (z32_litn 37) (by omega) (by omega) (by omega))])
theorem BK_prod : BK (fX5_readProduct (n + 2) o) := BK_b BK_part BK_prod7
theorem BK_sum7 {x : Int32} : BK (fX5_readSum'_7 (ggGX5_readBoth n) zF o x) :=
  BK_c BK_s (fun A k p h => by
    obtain ⟨g, hg⟩ := zF_ex
    rw [hg, rdSum7]
    split
    · rfl
    · rw [if_neg (b5 (s := 43) h (z32_litn 43) (by omega) (by omega) (by omega)), if_neg (b5 (s := 45) h (z32_litn 45) (by omega) (by omega) (by omega))])
theorem BK_sum : BK (fX5_readSum (n + 3) o) := BK_b BK_prod BK_sum7
theorem BK_comp : BK (fX5_readCompared (n + 4) o) :=
  BK_b (f := fX5_readSum (n + 3) o) BK_sum (BK_c (BK_b (BK_fail 1 (fun A => iG A 54 4)) BK_s) (fun A k p h => by
    rw [if_neg (b5 (s := 60) h (z32_litn 60) (by omega) (by omega) (by omega)), if_neg (b5 (s := 62) h (z32_litn 62) (by omega) (by omega) (by omega)), if_neg (b5 (s := 61) h (z32_litn 61) (by omega) (by omega) (by omega))]))
theorem BK_fact : BK (fX5_readFact (n + 5) o) :=
  BK_c (BK_b (f := fX5_readCompared (n + 4) o) BK_comp BK_s) (fun A k p h => by
    rw [rdFact, if_neg (b6 (s := 21) h (z32_litn 21) (by omega) (by omega)), if_neg (b5 (s := 91) h (z32_litn 91) (by omega) (by omega) (by omega)), if_neg (b6 (s := 22) h (z32_litn 22) (by omega) (by omega))])
theorem BK_both7 {x : Int32} : BK (fX5_readBoth'_7 (ggGX5_readBoth n) zF o x) :=
  BK_c BK_s (fun A k p h => by
    obtain ⟨g, hg⟩ := zF_ex
    rw [hg, rdBoth7]
    split
    · rfl
    · rw [if_neg (b6 (s := 20) h (z32_litn 20) (by omega) (by omega))])
theorem BK_both : BK (fX5_readBoth (n + 6) o) := BK_b BK_fact BK_both7
theorem BK_test7 {x : Int32} : BK (fX5_readTest'_7 (ggGX5_readBoth n) zF o x) :=
  BK_c BK_s (fun A k p h => by
    obtain ⟨g, hg⟩ := zF_ex
    rw [hg, rdTest7]
    split
    · rfl
    · rw [if_neg (b6 (s := 19) h (z32_litn 19) (by omega) (by omega))])
theorem BK_test : BK (fX5_readTest (n + 7) o) := BK_b BK_both BK_test7
end BR

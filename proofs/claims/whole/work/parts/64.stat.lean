/-! MY OWN: statements: the road as far as it is read, both sides; seen, fine, gives, thinks -/
def RLt (A σ : zS) (d : Bool) (b t : Int) : Prop := (hI σ 59 (6 * b + t) = hI A (rp d + 2) t ∧ 0 ≤ hI A (rp d + 2) t ∧ hI A (rp d + 2) t ≤ 99) ∧ (hI σ 60 (6 * b + t) = hI A (rp d + 3) t ∧ 1 ≤ hI A (rp d + 3) t ∧ hI A (rp d + 3) t ≤ 4) ∧ ∀ k, 0 ≤ k → k < hI A (rp d + 3) t → (hI σ 61 (4 * (6 * b + t) + k) = hI A (rp d + 4) (t * 4 + k) ∧ 1 ≤ hI A (rp d + 4) (t * 4 + k) ∧ hI A (rp d + 4) (t * 4 + k) ≤ 60) ∧ (hI σ 62 (4 * (6 * b + t) + k) = hI A (rp d + 5) (t * 4 + k) ∧ 1 ≤ hI A (rp d + 5) (t * 4 + k) ∧ hI A (rp d + 5) (t * 4 + k) ≤ 9)
def RLs (A σ : zS) (d : Bool) (b : Int) : Prop := (∀ t, 0 ≤ t → t < hI A (rp d + 0) 1 → RLt A σ d b t) ∧ (∀ t, hI A (rp d + 0) 1 ≤ t → t < 6 → hI A (rp d + 3) t = 0)
def RHt (A σ : zS) (d : Bool) (b h : Int) : Prop := (hI σ 64 (6 * b + h) = hI A (rp d + 7) h ∧ 1 ≤ hI A (rp d + 7) h ∧ hI A (rp d + 7) h ≤ 60) ∧ (hI σ 65 (6 * b + h) = hI A (rp d + 8) h ∧ 0 ≤ hI A (rp d + 8) h ∧ hI A (rp d + 8) h ≤ 50) ∧ (hI σ 66 (6 * b + h) = hI A (rp d + 9) h ∧ 0 ≤ hI A (rp d + 9) h ∧ hI A (rp d + 9) h ≤ 60) ∧ ∀ t, 0 ≤ t → t < 6 → hI σ 67 (6 * (6 * b + h) + t) = hI A (rp d + 10) (h * 6 + t) ∧ 0 ≤ hI A (rp d + 10) (h * 6 + t) ∧ hI A (rp d + 10) (h * 6 + t) ≤ 60
def RH (A σ : zS) (d : Bool) (b : Int) : Prop := (∀ h, 0 ≤ h → h < hI A (rp d + 0) 2 → RHt A σ d b h) ∧ (∀ h, hI A (rp d + 0) 2 ≤ h → h < 6 → hI A (rp d + 9) h = 60 ∧ ∀ t, 0 ≤ t → t < 6 → hI A (rp d + 10) (h * 6 + t) = 0)
def RF (A σ : zS) (d : Bool) (b : Int) : Prop := (hI σ 72 b = hI A (rp d + 0) 3 ∧ 0 ≤ hI A (rp d + 0) 3 ∧ hI A (rp d + 0) 3 ≤ 100) ∧ (hI σ 73 b = hI A (rp d + 0) 4 ∧ 0 ≤ hI A (rp d + 0) 4 ∧ hI A (rp d + 0) 4 ≤ 999)
def SMt (A σ : zS) (d : Bool) (b w : Int) (P Q : Nat) (F : (Int → Int) → Int) : Prop := cSeg d (hI A (rp d + 12)) (hI A (rp d + 14) w) (hI A (rp d + 15) w) F 38 ∧ hI A (rp d + 15) w ≤ hI A (rp d + 11) 3 ∧ mSeg (hI σ 74) (hI σ 75) (1600 * b + hI σ P b) (1600 * b + hI σ Q b) F 38 ∧ 0 ≤ hI σ P b ∧ hI σ Q b ≤ hI σ 56 34 ∧ bF F
def SMo (A σ : zS) (d : Bool) (b w : Int) (P Q : Nat) (o : Option ((Int → Int) → Int)) : Prop := match o with
  | none => hI A (rp d + 14) w = 0 ∧ hI A (rp d + 15) w = 0 ∧ hI σ P b = -1
  | some F => SMt A σ d b w P Q F
def RSm (A σ : zS) (d : Bool) (b : Int) : Prop := ∃ oW oT, SMo A σ d b 0 68 69 oW ∧ SMo A σ d b 1 70 71 oT
def RZ (A σ : zS) (d : Bool) (q : Int) : Prop := (0 ≤ hI A (rp d + 11) 3 ∧ hI A (rp d + 11) 3 ≤ q) ∧ (0 ≤ hI σ 56 34 ∧ hI σ 56 34 ≤ q)
def RR (A σ : zS) (d : Bool) (b q : Int) : Prop := A.2.2.2.2 = d ∧ NR A σ d b ∧ RLs A σ d b ∧ RH A σ d b ∧ RF A σ d b ∧ RSm A σ d b ∧ RZ A σ d q
section RRs
variable {A B σ τ : zS} {d : Bool} {b q q' : Int} {P Q : Nat → Int → Prop}
theorem NR_f (h : NR A σ d b) (f1 : fr P A B) (f2 : fr Q σ τ) (hP : ∀ p k, P p k → p ≠ rp d + 1 ∧ p ≠ rp d + 6 ∧ ¬ (p = rp d + 0 ∧ (k = 1 ∨ k = 2))) (hQ : ∀ p k, Q p k → p ≠ 58 ∧ p ≠ 63 ∧ p ≠ 76 ∧ p ≠ 77 ∧ ¬ (p = 56 ∧ k = 35)) : NR B τ d b := by
  obtain ⟨⟨n1, n2⟩, ⟨n3, n4⟩, ⟨n5, n6⟩, n7, n8⟩ := h
  have e1 : hI B (rp d + 0) 1 = hI A (rp d + 0) 1 := (f1.2 _ _ (by omega) (fun w => by have := hP _ _ w; omega)).1
  have e2 : hI B (rp d + 0) 2 = hI A (rp d + 0) 2 := (f1.2 _ _ (by omega) (fun w => by have := hP _ _ w; omega)).1
  unfold NR
  rw [e1, e2]
  refine ⟨⟨?_, n2⟩, ⟨?_, n4⟩, ⟨?_, n6⟩, fun t g0 g1 => ?_, fun t g0 g1 => ?_⟩
  · rw [(f2.2 _ _ (by omega) (fun w => by have := hQ _ _ w; omega)).1]; exact n1
  · rw [(f2.2 _ _ (by omega) (fun w => by have := hQ _ _ w; omega)).1]; exact n3
  · rw [(f2.2 _ _ (by omega) (fun w => by have := hQ _ _ w; omega)).1]; exact n5
  · rw [(f1.2 _ _ g0 (fun w => by have := hP _ _ w; omega)).1, (f2.2 _ _ (by omega) (fun w => by have := hQ _ _ w; omega)).2]; exact n7 t g0 g1
  · rw [(f1.2 _ _ g0 (fun w => by have := hP _ _ w; omega)).1, (f2.2 _ _ (by omega) (fun w => by have := hQ _ _ w; omega)).2]; exact n8 t g0 g1
theorem RLt_f {t : Int} (hb : 0 ≤ b) (ht : 0 ≤ t) (h : RLt A σ d b t) (f1 : fr P A B) (f2 : fr Q σ τ) (hP : ∀ p k, P p k → p ≠ rp d + 2 ∧ p ≠ rp d + 3 ∧ p ≠ rp d + 4 ∧ p ≠ rp d + 5) (hQ : ∀ p k, Q p k → p ≠ 59 ∧ p ≠ 60 ∧ p ≠ 61 ∧ p ≠ 62) : RLt B τ d b t := by
  obtain ⟨h1, h2, h3⟩ := h
  have e3 : hI B (rp d + 3) t = hI A (rp d + 3) t := (f1.2 _ _ ht (fun w => by have := hP _ _ w; omega)).1
  unfold RLt
  rw [e3]
  refine ⟨?_, ?_, fun k g0 g1 => ⟨?_, ?_⟩⟩
  · rw [(f1.2 _ _ ht (fun w => by have := hP _ _ w; omega)).1, (f2.2 _ _ (by omega) (fun w => by have := hQ _ _ w; omega)).1]; exact h1
  · rw [(f2.2 _ _ (by omega) (fun w => by have := hQ _ _ w; omega)).1]; exact h2
  · rw [(f1.2 _ _ (by omega) (fun w => by have := hP _ _ w; omega)).1, (f2.2 _ _ (by omega) (fun w => by have := hQ _ _ w; omega)).1]; exact (h3 k g0 g1).1
  · rw [(f1.2 _ _ (by omega) (fun w => by have := hP _ _ w; omega)).1, (f2.2 _ _ (by omega) (fun w => by have := hQ _ _ w; omega)).1]; exact (h3 k g0 g1).2
theorem RL_f (hb : 0 ≤ b) (hn : 0 ≤ hI A (rp d + 0) 1) (h : RLs A σ d b) (f1 : fr P A B) (f2 : fr Q σ τ) (hP : ∀ p k, P p k → p ≠ rp d + 2 ∧ p ≠ rp d + 3 ∧ p ≠ rp d + 4 ∧ p ≠ rp d + 5 ∧ ¬ (p = rp d + 0 ∧ k = 1)) (hQ : ∀ p k, Q p k → p ≠ 59 ∧ p ≠ 60 ∧ p ≠ 61 ∧ p ≠ 62) : RLs B τ d b := by
  have e1 : hI B (rp d + 0) 1 = hI A (rp d + 0) 1 := (f1.2 _ _ (by omega) (fun w => by have := hP _ _ w; omega)).1
  unfold RLs
  rw [e1]
  refine ⟨fun t g0 g1 => RLt_f hb g0 (h.1 t g0 g1) f1 f2 (fun p k w => by have := hP p k w; omega) hQ, fun t g0 g1 => ?_⟩
  rw [(f1.2 _ _ (by omega) (fun w => by have := hP _ _ w; omega)).1]; exact h.2 t g0 g1
theorem RHt_f {t : Int} (hb : 0 ≤ b) (ht : 0 ≤ t) (h : RHt A σ d b t) (f1 : fr P A B) (f2 : fr Q σ τ) (hP : ∀ p k, P p k → p ≠ rp d + 7 ∧ p ≠ rp d + 8 ∧ p ≠ rp d + 9 ∧ p ≠ rp d + 10) (hQ : ∀ p k, Q p k → p ≠ 64 ∧ p ≠ 65 ∧ p ≠ 66 ∧ p ≠ 67) : RHt B τ d b t := by
  obtain ⟨h1, h2, h3, h4⟩ := h
  refine ⟨?_, ?_, ?_, fun k g0 g1 => ?_⟩
  · rw [(f1.2 _ _ ht (fun w => by have := hP _ _ w; omega)).1, (f2.2 _ _ (by omega) (fun w => by have := hQ _ _ w; omega)).1]; exact h1
  · rw [(f1.2 _ _ ht (fun w => by have := hP _ _ w; omega)).1, (f2.2 _ _ (by omega) (fun w => by have := hQ _ _ w; omega)).1]; exact h2
  · rw [(f1.2 _ _ ht (fun w => by have := hP _ _ w; omega)).1, (f2.2 _ _ (by omega) (fun w => by have := hQ _ _ w; omega)).1]; exact h3
  · rw [(f1.2 _ _ (by omega) (fun w => by have := hP _ _ w; omega)).1, (f2.2 _ _ (by omega) (fun w => by have := hQ _ _ w; omega)).1]; exact h4 k g0 g1
theorem RH_f (hb : 0 ≤ b) (hn : 0 ≤ hI A (rp d + 0) 2) (h : RH A σ d b) (f1 : fr P A B) (f2 : fr Q σ τ) (hP : ∀ p k, P p k → p ≠ rp d + 7 ∧ p ≠ rp d + 8 ∧ p ≠ rp d + 9 ∧ p ≠ rp d + 10 ∧ ¬ (p = rp d + 0 ∧ k = 2)) (hQ : ∀ p k, Q p k → p ≠ 64 ∧ p ≠ 65 ∧ p ≠ 66 ∧ p ≠ 67) : RH B τ d b := by
  have e1 : hI B (rp d + 0) 2 = hI A (rp d + 0) 2 := (f1.2 _ _ (by omega) (fun w => by have := hP _ _ w; omega)).1
  unfold RH
  rw [e1]
  refine ⟨fun t g0 g1 => RHt_f hb g0 (h.1 t g0 g1) f1 f2 (fun p k w => by have := hP p k w; omega) hQ, fun t g0 g1 => ?_⟩
  obtain ⟨h1, h2⟩ := h.2 t g0 g1
  refine ⟨?_, fun k w0 w1 => ?_⟩
  · rw [(f1.2 _ _ (by omega) (fun w => by have := hP _ _ w; omega)).1]; exact h1
  · rw [(f1.2 _ _ (by omega) (fun w => by have := hP _ _ w; omega)).1]; exact h2 k w0 w1
theorem RF_f (hb : 0 ≤ b) (h : RF A σ d b) (f1 : fr P A B) (f2 : fr Q σ τ) (hP : ∀ p k, P p k → ¬ (p = rp d + 0 ∧ (k = 3 ∨ k = 4))) (hQ : ∀ p k, Q p k → p ≠ 72 ∧ p ≠ 73) : RF B τ d b := by
  obtain ⟨h1, h2⟩ := h
  refine ⟨?_, ?_⟩
  · rw [(f1.2 _ _ (by omega) (fun w => by have := hP _ _ w; omega)).1, (f2.2 _ _ (by omega) (fun w => by have := hQ _ _ w; omega)).1]; exact h1
  · rw [(f1.2 _ _ (by omega) (fun w => by have := hP _ _ w; omega)).1, (f2.2 _ _ (by omega) (fun w => by have := hQ _ _ w; omega)).1]; exact h2
theorem SMo_f {w : Int} {p1 p2 : Nat} {o : Option ((Int → Int) → Int)} (hb : 0 ≤ b) (hw : 0 ≤ w) (h : SMo A σ d b w p1 p2 o) (f1 : fr P A B) (f2 : fr Q σ τ) (hP : ∀ p k, P p k → p ≠ rp d + 12 ∧ p ≠ rp d + 14 ∧ p ≠ rp d + 15 ∧ ¬ (p = rp d + 11 ∧ k = 3)) (hQ : ∀ p k, Q p k → p ≠ 74 ∧ p ≠ 75 ∧ p ≠ p1 ∧ p ≠ p2 ∧ ¬ (p = 56 ∧ k = 34)) : SMo B τ d b w p1 p2 o := by
  have e14 : hI B (rp d + 14) w = hI A (rp d + 14) w := (f1.2 _ _ hw (fun g => by have := hP _ _ g; omega)).1
  have e15 : hI B (rp d + 15) w = hI A (rp d + 15) w := (f1.2 _ _ hw (fun g => by have := hP _ _ g; omega)).1
  have e11 : hI B (rp d + 11) 3 = hI A (rp d + 11) 3 := (f1.2 _ _ (by omega) (fun g => by have := hP _ _ g; omega)).1
  have m1 : hI τ p1 b = hI σ p1 b := (f2.2 _ _ hb (fun g => by have := hQ _ _ g; omega)).1
  have m2 : hI τ p2 b = hI σ p2 b := (f2.2 _ _ hb (fun g => by have := hQ _ _ g; omega)).1
  have m34 : hI τ 56 34 = hI σ 56 34 := (f2.2 _ _ (by omega) (fun g => by have := hQ _ _ g; omega)).1
  cases o with
  | none =>
    obtain ⟨h1, h2, h3⟩ := h
    exact ⟨e14.trans h1, e15.trans h2, m1.trans h3⟩
  | some F =>
    obtain ⟨h1, h2, h3, h4, h5, h6⟩ := h
    have c1 := h1.1
    have c3 := h3.1
    refine ⟨?_, by rw [e15, e11]; exact h2, ?_, by rw [m1]; exact h4, by rw [m2, m34]; exact h5, h6⟩
    · rw [e14, e15]
      exact cSeg_cong h1 (fun i g0 g1 => (f1.2 _ _ (by omega) (fun g => by have := hP _ _ g; omega)).1)
    · rw [m1, m2]
      exact mSeg_cong h3 (fun i g0 g1 => ⟨(f2.2 _ _ (by omega) (fun g => by have := hQ _ _ g; omega)).1, (f2.2 _ _ (by omega) (fun g => by have := hQ _ _ g; omega)).1⟩)
theorem RSm_f (hb : 0 ≤ b) (h : RSm A σ d b) (f1 : fr P A B) (f2 : fr Q σ τ) (hP : ∀ p k, P p k → p ≠ rp d + 12 ∧ p ≠ rp d + 14 ∧ p ≠ rp d + 15 ∧ ¬ (p = rp d + 11 ∧ k = 3)) (hQ : ∀ p k, Q p k → p ≠ 74 ∧ p ≠ 75 ∧ p ≠ 68 ∧ p ≠ 69 ∧ p ≠ 70 ∧ p ≠ 71 ∧ ¬ (p = 56 ∧ k = 34)) : RSm B τ d b := by
  obtain ⟨oW, oT, h1, h2⟩ := h
  exact ⟨oW, oT, SMo_f hb (by omega) h1 f1 f2 hP (fun p k w => by have := hQ p k w; omega), SMo_f hb (by omega) h2 f1 f2 hP (fun p k w => by have := hQ p k w; omega)⟩
theorem RZ_f (h : RZ A σ d q) (hq : q ≤ q') (f1 : fr P A B) (f2 : fr Q σ τ) (hP : ∀ p k, P p k → ¬ (p = rp d + 11 ∧ k = 3)) (hQ : ∀ p k, Q p k → ¬ (p = 56 ∧ k = 34)) : RZ B τ d q' := by
  unfold RZ
  rw [(f1.2 _ _ (by omega) (fun g => by have := hP _ _ g; omega)).1, (f2.2 _ _ (by omega) (fun g => by have := hQ _ _ g; omega)).1]
  obtain ⟨h1, h2⟩ := h
  omega
def p54 (p : Nat) (_ : Int) : Prop := p = 54
theorem oR_54 (h : oR A B) : fr p54 A B := fr_R h (fun _ _ => rfl)
theorem RR_c (h : RR A σ d b q) (o1 : oR A B) (o2 : oM σ τ) (hq : q ≤ q') : RR B τ d b q' := by
  have hrp := rp_or d
  have f1 := oR_54 o1
  have f2 := oM_Q o2
  have hP : ∀ p k, p54 p k → p = 54 := fun p k w => w
  have hQ : ∀ p k, oQ p k → p = 56 ∧ ((3 ≤ k ∧ k ≤ 9) ∨ k = 12 ∨ k = 45) := fun p k w => w
  obtain ⟨h1, h2, h3, h4, h5, h6, h7⟩ := h
  have hb := h2.1.2.1
  exact ⟨by rw [o1.1]; exact h1, NR_f h2 f1 f2 (fun p k w => by have := hP p k w; omega) (fun p k w => by have := hQ p k w; omega), RL_f hb h2.2.1.2.1 h3 f1 f2 (fun p k w => by have := hP p k w; omega) (fun p k w => by have := hQ p k w; omega), RH_f hb h2.2.2.1.2.1 h4 f1 f2 (fun p k w => by have := hP p k w; omega) (fun p k w => by have := hQ p k w; omega), RF_f hb h5 f1 f2 (fun p k w => by have := hP p k w; omega) (fun p k w => by have := hQ p k w; omega), RSm_f hb h6 f1 f2 (fun p k w => by have := hP p k w; omega) (fun p k w => by have := hQ p k w; omega), RZ_f h7 hq f1 f2 (fun p k w => by have := hP p k w; omega) (fun p k w => by have := hQ p k w; omega)⟩
theorem RR_ok (h : RR A σ d b q) (hq : q ≤ 1600) : okB d A := by
  obtain ⟨h1, h2, h3, h4, h5, h6, h7⟩ := h
  have z := h7.1
  refine ⟨h1, by omega, h2.2.1.2, h2.2.2.1.2, fun i g0 g1 => ?_⟩
  by_cases g : i < hI A (rp d + 0) 1
  · have := (h3.1 i g0 g).2.1
    omega
  · have := h3.2 i (by omega) g1
    omega
/-- a statement is read alike -/
def STA (A B σ τ : zS) (c : Int → Int) (N : Int) (d : Bool) (b q : Int) : Prop := fr (cR (rp d)) A B ∧ fr (mRd b) σ τ ∧ ((∃ q' a' t' v', AL B τ c N q' a' t' v' ∧ q < q' ∧ RR B τ d b q') ∨ ∃ k p, cBk B k p ∧ mFb τ k p)
end RRs
section ST1
variable {A B σ τ υ : zS} {c : Int → Int} {N b q a t v i k p w kd cnt : Int} {d : Bool}
theorem cnt_0 (h : hI σ 56 8 = 0) (ha : fX11_ahead σ = some τ) (h2 : hI τ 56 8 = 0) : fX11_counts 0 σ = some (1, τ) := by
  unfold fX11_counts fX11_counts_21 fX11_counts_32
  rw [if_pos (c8q h), if_pos rfl, if_pos (c8q h), ha, bnr_q, if_pos (c8q h2)]
theorem cnt_1 (hr : RD σ q t v) (hq : 0 ≤ q ∧ q ≤ 1600) : fX11_counts 1 σ = some (0, jS (jS σ 56 8 6) 56 9 q) := by
  obtain ⟨f1, f2⟩ := flt (k := 6) (p := q) hr.1 (by omega) (by omega)
  unfold fX11_counts fX11_counts_21 fX11_counts_32
  rw [if_pos (c8q hr.1), if_neg i10, bl4 (z32_litn 6) hr.1 hr.2.2.1, bnr_q, if_neg (c8e f1), if_neg (c8e f1)]
/-- the keyword is gone over by both -/
theorem kw (h : AL A σ c N q a t v) (ht : t ≠ 1) : ∃ B τ, fX5_advance A = some B ∧ oR A B ∧ fX11_counts 0 σ = some (1, τ) ∧ oM σ τ ∧ ((∃ q' a' t' v', AL B τ c N q' a' t' v' ∧ q < q') ∨ ∃ k p, cBk B k p ∧ mFb τ k p) := by
  obtain ⟨hr, hA⟩ := AL_x h
  obtain ⟨p1, p2, p3, p4, p5, p6, p7, p8⟩ := h.2.2.1
  have qa := p6 ht
  obtain ⟨B, τ, b1, b2, t1, t2, hres⟩ := adv_j h ht
  have h8 : hI τ 56 8 = 0 := by
    rcases hres with ⟨q', a', t', v', h3, h4⟩ | ⟨p, h3, h4⟩
    · exact h3.2.1.2.2.2.1
    · exact h4.1
  refine ⟨B, τ, b1, b2, cnt_0 hr.1 t1 h8, t2, ?_⟩
  rcases hres with ⟨q', a', t', v', h3, h4⟩ | ⟨p, h3, h4⟩
  · exact Or.inl ⟨q', a', t', v', h3, by omega⟩
  · exact Or.inr ⟨1, p, h3, Or.inr ⟨rfl, h4⟩⟩
/-- seen (kd 1), fine (kd 0) -/
theorem st_tell (hk : (kd = 1 ∧ i = 3 ∧ w = 100) ∨ (kd = 0 ∧ i = 4 ∧ w = 999)) (h : AL A σ c N q a t v) (ht : t ≠ 1) (hR : RR A σ d b q) : ∃ B τ, (bnr (fX5_advance A) fun σ19 => bnc (fX5_takeNumber 0 (z32 w) σ19) fun v23 σ21 => some (iS σ21 (rp d + 0) i.toNat v23)) = some B ∧ fX11_telling (z32 kd) σ = some τ ∧ STA A B σ τ c N d b q := by
  have hrp := rp_or d
  obtain ⟨p1, p2, p3, p4, p5, p6, p7, p8⟩ := h.2.2.1
  have hb := hR.2.1.1
  have kC : BE d (fun σ19 => bnc (fX5_takeNumber 0 (z32 w) σ19) fun v23 σ21 => some (iS σ21 (rp d + 0) i.toNat v23)) := BE_p (fun A k p h => num_k h _ _) (fun r => BE_i (x := fun _ => r) (by omega))
  have e23 : ∀ σ, (if z32 kd = 0 then fX11_telling_23 (z32 kd) 999 0 σ else fX11_telling_23 (z32 kd) 100 0 σ) = bnc (fX11_number 0 (z32 w) σ) fun v6 σ4 => if (iG σ4 56 8) ≤ 0 then if z32 kd = 0 then wI σ4 73 2 (iG σ4 56 35) v6 fun σ7 => some σ7 else wI σ4 72 2 (iG σ4 56 35) v6 fun σ8 => some σ8 else some σ4 := fun σ => by
    rcases hk with ⟨h1, h2, h3⟩ | ⟨h1, h2, h3⟩ <;> subst h1 h3
    · rw [if_neg (by decide), show (100 : Int32) = z32 100 from z32_litn 100]; rfl
    · rw [if_pos (by decide), show (999 : Int32) = z32 999 from z32_litn 999]; rfl
  have kM : MS b (fun σ => bnc (fX11_number 0 (z32 w) σ) fun v6 σ4 => if (iG σ4 56 8) ≤ 0 then if z32 kd = 0 then wI σ4 73 2 (iG σ4 56 35) v6 fun σ7 => some σ7 else wI σ4 72 2 (iG σ4 56 35) v6 fun σ8 => some σ8 else some σ4) := fun τ k p h1 h2 => by
    obtain ⟨υ, u1, u2, u3⟩ := mm_num (x := 0) (y := z32 w) h1
    refine ⟨υ, ?_, mt_b u3, oM_d u2⟩
    show bnc (fX11_number 0 (z32 w) τ) _ = _
    rw [u1, bnc_q, if_neg (c8p u3)]
  obtain ⟨B1, τ1, b1, b2, t1, t2, hres⟩ := kw h ht
  have eT : fX11_telling (z32 kd) σ = bnc (fX11_number 0 (z32 w) τ1) fun v6 σ4 => if (iG σ4 56 8) ≤ 0 then if z32 kd = 0 then wI σ4 73 2 (iG σ4 56 35) v6 fun σ7 => some σ7 else wI σ4 72 2 (iG σ4 56 35) v6 fun σ8 => some σ8 else some σ4 := by
    unfold fX11_telling
    rw [t1, bnc_q, if_neg i10, e23]
  rw [b1, bnr_q, eT]
  rcases hres with ⟨q1, a1, t1', v1, h1, hq1⟩ | ⟨k, p, h1, h2⟩
  case inr =>
    obtain ⟨B, c1, c2, c3⟩ := kC B1 k p h1 (okB_R b2 (RR_ok hR (by omega)))
    obtain ⟨τ, m1, m2, m3⟩ := kM τ1 k p h2 (by rw [(oM_Q t2).2 56 35 (by omega) (by unfold oQ; omega) |>.1]; exact hb.1)
    exact ⟨B, τ, c1, m1, fr_t (oR_cR b2) c2, fr_t (oM_d t2) m3, Or.inr ⟨k, p, c3, m2⟩⟩
  have hR1 := RR_c hR b2 t2 (Int.le_of_lt hq1)
  obtain ⟨B2, τ2, r1, r2, c1, c2, m1, m2, hres2⟩ := jt_num (lo := 0) (hi := w) (z32_litn 0) (rfl : z32 w = z32 w) (by omega) h1
  rw [c1, bnc_q, m1, bnc_q]
  have e35 : hI τ2 56 35 = b := by rw [(oM_Q m2).2 56 35 (by omega) (by unfold oQ; omega) |>.1]; exact hR1.2.1.1.1
  have oAB := oR_t b2 c2
  rcases hres2 with ⟨u, u1, u2, u3, q2, a2, t2', v2, h2, hq2⟩ | ⟨k, p, h1, h2⟩
  · have hR2 := RR_c hR1 c2 m2 (Int.le_of_lt hq2)
    subst u1 u2
    have f1 : fr (fun p k => p = rp d + 0 ∧ k = i) B2 (jS B2 (rp d + 0) i u) := fr_j (by omega) ⟨rfl, rfl⟩
    obtain ⟨P, hP, hw, f2⟩ : ∃ P : Nat, ((P = 72 ∧ i = 3) ∨ (P = 73 ∧ i = 4)) ∧ (if (iG τ2 56 8) ≤ 0 then if z32 kd = 0 then wI τ2 73 2 (iG τ2 56 35) (z32 u) fun σ7 => some σ7 else wI τ2 72 2 (iG τ2 56 35) (z32 u) fun σ8 => some σ8 else some τ2) = some (jS τ2 P b u) ∧ fr (fun p k => p = P ∧ k = b) τ2 (jS τ2 P b u) := by
      rcases hk with ⟨h1, h2', h3⟩ | ⟨h1, h2', h3⟩
      · refine ⟨72, Or.inl ⟨rfl, h2'⟩, ?_, fr_j (by omega) ⟨rfl, rfl⟩⟩
        rw [if_pos (c8z h2.2.1.2.2.2.1), if_neg (by rw [h1]; decide), show iG τ2 56 35 = z32 (hI τ2 56 35) from iG_h τ2 56 35, e35, wI_h (by omega) (by omega) (by omega)]
      · refine ⟨73, Or.inr ⟨rfl, h2'⟩, ?_, fr_j (by omega) ⟨rfl, rfl⟩⟩
        rw [if_pos (c8z h2.2.1.2.2.2.1), if_pos (by rw [h1]; decide), show iG τ2 56 35 = z32 (hI τ2 56 35) from iG_h τ2 56 35, e35, wI_h (by omega) (by omega) (by omega)]
    refine ⟨jS B2 (rp d + 0) i u, jS τ2 P b u, rfl, hw, fr_t (oR_cR oAB) (fr_j (by omega) (by unfold cR; omega)), fr_t (oM_d (oM_t t2 m2)) (fr_j (by omega) (by unfold mRd; omega)), Or.inl ⟨q2, a2, t2', v2, AL_f h2 (fun p k g w => hI_jS_ne (by omega)) f2 (fun p k w => by omega), by omega, ?_⟩⟩
    obtain ⟨r1, r2, r3, r4, r5, r6, r7⟩ := hR2
    refine ⟨r1, NR_f r2 f1 f2 (fun p k w => by omega) (fun p k w => by omega), RL_f hb.2.1 r2.2.1.2.1 r3 f1 f2 (fun p k w => by omega) (fun p k w => by omega), RH_f hb.2.1 r2.2.2.1.2.1 r4 f1 f2 (fun p k w => by omega) (fun p k w => by omega), ?_, RSm_f hb.2.1 r6 f1 f2 (fun p k w => by omega) (fun p k w => by omega), RZ_f r7 (Int.le_refl _) f1 f2 (fun p k w => by omega) (fun p k w => by omega)⟩
    rcases hP with ⟨g1, g2⟩ | ⟨g1, g2⟩
    · subst g1 g2
      refine ⟨?_, ?_⟩
      · rw [hI_jS (by omega) (by omega) (by omega) (by omega), hI_jS (by omega) (by omega) (by omega) (by omega), if_pos rfl, if_pos rfl]
        exact ⟨rfl, by omega, by omega⟩
      · rw [hI_jS_ne (by omega), hI_jS (by omega) (by omega) (by omega) (by omega), if_neg (by omega)]; exact r5.2
    · subst g1 g2
      refine ⟨?_, ?_⟩
      · rw [hI_jS_ne (by omega), hI_jS (by omega) (by omega) (by omega) (by omega), if_neg (by omega)]; exact r5.1
      · rw [hI_jS (by omega) (by omega) (by omega) (by omega), hI_jS (by omega) (by omega) (by omega) (by omega), if_pos rfl, if_pos rfl]
        exact ⟨rfl, by omega, by omega⟩
  · obtain ⟨B, c3, c4, c5⟩ := BE_i (d := d) (i := i) (x := fun _ => r1) (by omega) B2 k p h1 (okB_R oAB (RR_ok hR (by omega)))
    have kE : MS b (fun σ4 => if (iG σ4 56 8) ≤ 0 then if z32 kd = 0 then wI σ4 73 2 (iG σ4 56 35) r2 fun σ7 => some σ7 else wI σ4 72 2 (iG σ4 56 35) r2 fun σ8 => some σ8 else some σ4) := fun τ k p g1 g2 => by
      show ∃ υ, (if (iG τ 56 8) ≤ 0 then if z32 kd = 0 then wI τ 73 2 (iG τ 56 35) r2 fun σ7 => some σ7 else wI τ 72 2 (iG τ 56 35) r2 fun σ8 => some σ8 else some τ) = some υ ∧ _
      rw [show iG τ 56 35 = z32 (hI τ 56 35) from iG_h τ 56 35, g2]
      split
      · split
        · exact MS_w (x := r2) (by omega) (by unfold mRd; omega) hb.2.1 (by omega) (by omega) MS_s τ k p g1 g2
        · exact MS_w (x := r2) (by omega) (by unfold mRd; omega) hb.2.1 (by omega) (by omega) MS_s τ k p g1 g2
      · exact ⟨τ, rfl, g1, fr_r⟩
    obtain ⟨τ, m3, m4, m5⟩ := kE τ2 k p h2 e35
    exact ⟨B, τ, c3, m3, fr_t (oR_cR oAB) c4, fr_t (oM_d (oM_t t2 m2)) m5, Or.inr ⟨k, p, c5, m4⟩⟩
end ST1

/-! MY OWN: statements: names that are asked; both sides behind a fault -/
def cR (rb : Nat) (p : Nat) (k : Int) : Prop := p = 54 ∨ (rb ≤ p ∧ p ≤ rb + 15 ∧ ¬ (p = rb ∧ k = 0))
def okB (d : Bool) (A : zS) : Prop := A.2.2.2.2 = d ∧ (0 ≤ hI A (rp d + 11) 3 ∧ hI A (rp d + 11) 3 ≤ 1600) ∧ (0 ≤ hI A (rp d + 0) 1 ∧ hI A (rp d + 0) 1 ≤ 6) ∧ (0 ≤ hI A (rp d + 0) 2 ∧ hI A (rp d + 0) 2 ≤ 6) ∧ (∀ i, 0 ≤ i → i < 6 → 0 ≤ hI A (rp d + 3) i ∧ hI A (rp d + 3) i ≤ 4)
def BS (d : Bool) (f : zS → Option zS) : Prop := ∀ A k p, cBk A k p → okB d A → ∃ B, f A = some B ∧ fr (cR (rp d)) A B ∧ cBk B k p ∧ okB d B
def BE (d : Bool) (f : zS → Option zS) : Prop := ∀ A k p, cBk A k p → okB d A → ∃ B, f A = some B ∧ fr (cR (rp d)) A B ∧ cBk B k p
section BB
variable {d : Bool} {f g : zS → Option zS} {A B : zS} {k p : Int}
theorem BS_E (h : BS d f) : BE d f := fun A k p h1 h2 => by
  obtain ⟨B, b1, b2, b3, -⟩ := h A k p h1 h2
  exact ⟨B, b1, b2, b3⟩
theorem BS_s : BS d (fun A => some A) := fun A k p h1 h2 => ⟨A, rfl, fr_r, h1, h2⟩
theorem BS_b (hf : BS d f) (hg : BS d g) : BS d (fun A => bnr (f A) g) := fun A k p h1 h2 => by
  obtain ⟨B, b1, b2, b3, b4⟩ := hf A k p h1 h2
  obtain ⟨C, c1, c2, c3, c4⟩ := hg B k p b3 b4
  exact ⟨C, by show bnr (f A) g = some C; rw [b1, bnr_q, c1], fr_t b2 c2, c3, c4⟩
theorem BE_b (hf : BS d f) (hg : BE d g) : BE d (fun A => bnr (f A) g) := fun A k p h1 h2 => by
  obtain ⟨B, b1, b2, b3, b4⟩ := hf A k p h1 h2
  obtain ⟨C, c1, c2, c3⟩ := hg B k p b3 b4
  exact ⟨C, by show bnr (f A) g = some C; rw [b1, bnr_q, c1], fr_t b2 c2, c3⟩
theorem okB_R (h : oR A B) (hb : okB d A) : okB d B := by
  have hrp := rp_or d
  obtain ⟨h1, h2, h3, h4, h5⟩ := hb
  refine ⟨by rw [h.1]; exact h1, ?_, ?_, ?_, fun i g0 g1 => ?_⟩
  · rw [h.2.2 _ _ (by omega)]; exact h2
  · rw [h.2.2 _ _ (by omega)]; exact h3
  · rw [h.2.2 _ _ (by omega)]; exact h4
  · rw [h.2.2 _ _ (by omega)]; exact h5 i g0 g1
theorem oR_cR (h : oR A B) : fr (cR (rp d)) A B := fr_R h (fun k _ => by unfold cR; omega)
theorem fail_k (h : cBk A k p) (x y : Int32) : ∃ B, fX5_fail x y A = some B ∧ oR A B ∧ cBk B k p := by
  obtain ⟨e1, e2, e3, e4, e5, e6⟩ := h
  have b1 := hI_lo A 54 9
  have b2 := hI_hi A 54 9
  refine ⟨jS (jS A 54 5 4) 54 6 (-1), ?_, oR_t oR_j oR_j, ?_⟩
  · simp (disch := omega) only [fX5_fail, fX5_fail_17, z32_add, z32_sub, z32_mul, z32_neg, z32_litn, z32_lt, z32_le, z32_eq, iG_h, lG_h, iS_q, lS_q, aI_h, wI_h, aL_h, wL_h, ↓bnd_q, bnr_q, bnc_q, ↓reduceIte, ieqT, ieqF, iltT, iltF, ileT, ileF, not_true, not_false_iff, e3]
  · simp (disch := omega) only [cBk, hI_jS, ↓reduceIte, ieqT, ieqF, iltT, iltF, ileT, ileF, not_true, not_false_iff, e3, e4]
    simp [e5, e6]
theorem BS_r (h : ∀ A k p, cBk A k p → ∃ B, f A = some B ∧ oR A B ∧ cBk B k p) : BS d f := fun A k p h1 h2 => by
  obtain ⟨B, b1, b2, b3⟩ := h A k p h1
  exact ⟨B, b1, oR_cR b2, b3, okB_R b2 h2⟩
theorem BS_word {i : Int} {x : Int32} (hx : x = z32 i) (h0 : 0 ≤ i) (h1 : i < 25) : BS d (fX5_takeWord x) := BS_r (fun A k p h => by
  obtain ⟨B, b1, b2, b3⟩ := fail_k h 1 (iG A 54 4)
  refine ⟨B, ?_, b2, b3⟩
  unfold fX5_takeWord
  rw [if_neg (b6 (s := i) h hx (by omega) (by omega)), b1, bnr_q])
theorem num_k (h : cBk A k p) (x y : Int32) : ∃ B r, fX5_takeNumber x y A = some (r, B) ∧ oR A B ∧ cBk B k p := by
  obtain ⟨B, b1, b2, b3⟩ := fail_k h 1 (iG A 54 4)
  refine ⟨B, iG A 54 8, ?_, b2, b3⟩
  unfold fX5_takeNumber fX5_takeNumber_50
  rw [if_neg (b5 (s := 3) h (z32_litn 3) (by omega) (by omega) (by omega)), b1, bnr_q, adv_k b3, bnr_q]
theorem isn_k (h : cBk A k p) : fX5_isName A = 0 := by
  unfold fX5_isName
  rw [if_neg (b5 (s := 2) h (z32_litn 2) (by omega) (by omega) (by omega))]
theorem new_k (h : cBk A k p) : ∃ B r, fX5_takeNewName A = some (r, B) ∧ oR A B ∧ cBk B k p := by
  obtain ⟨B, b1, b2, b3⟩ := fail_k h 1 (iG A 54 4)
  refine ⟨B, iG A 54 7, ?_, b2, b3⟩
  unfold fX5_takeNewName fX5_takeNewName_63
  rw [if_pos (isn_k h), b1, bnr_q, adv_k b3, bnr_q]
theorem known_k (h : cBk A k p) (x : Int32) : ∃ B, fX5_takeKnownName x A = some B ∧ oR A B ∧ cBk B k p := by
  obtain ⟨B, b1, b2, b3⟩ := fail_k h 1 (iG A 54 4)
  refine ⟨B, ?_, b2, b3⟩
  unfold fX5_takeKnownName fX5_takeKnownName_33
  rw [if_pos (isn_k h), b1, bnr_q, adv_k b3, bnr_q]
theorem hold_k (h : cBk A k p) : ∃ B, fX5_takeHolder A = some ((-1), B) ∧ oR A B ∧ cBk B k p := by
  obtain ⟨B, b1, b2, b3⟩ := known_k h (-1)
  refine ⟨B, ?_, b2, b3⟩
  unfold fX5_takeHolder fX5_takeHolder_22
  rw [if_pos (isn_k h), b1, bnr_q]
theorem tun_k (h : cBk A k p) : ∃ B, fX5_takeTunnel A = some ((-1), B) ∧ oR A B ∧ cBk B k p := by
  obtain ⟨B, b1, b2, b3⟩ := known_k h (-1)
  refine ⟨B, ?_, b2, b3⟩
  unfold fX5_takeTunnel fX5_takeTunnel_22
  rw [if_pos (isn_k h), b1, bnr_q]
theorem BS_p {α : Type} {F : zS → Option (α × zS)} {G : α → zS → Option zS} (hf : ∀ A k p, cBk A k p → ∃ B r, F A = some (r, B) ∧ oR A B ∧ cBk B k p) (hG : ∀ r, BS d (G r)) : BS d (fun A => bnc (F A) G) := fun A k p h1 h2 => by
  obtain ⟨B, r, b1, b2, b3⟩ := hf A k p h1
  obtain ⟨C, c1, c2, c3, c4⟩ := hG r B k p b3 (okB_R b2 h2)
  exact ⟨C, by show bnc (F A) G = some C; rw [b1, bnc_q]; exact c1, fr_t (oR_cR b2) c2, c3, c4⟩
theorem BE_p {α : Type} {F : zS → Option (α × zS)} {G : α → zS → Option zS} (hf : ∀ A k p, cBk A k p → ∃ B r, F A = some (r, B) ∧ oR A B ∧ cBk B k p) (hG : ∀ r, BE d (G r)) : BE d (fun A => bnc (F A) G) := fun A k p h1 h2 => by
  obtain ⟨B, r, b1, b2, b3⟩ := hf A k p h1
  obtain ⟨C, c1, c2, c3⟩ := hG r B k p b3 (okB_R b2 h2)
  exact ⟨C, by show bnc (F A) G = some C; rw [b1, bnc_q]; exact c1, fr_t (oR_cR b2) c2, c3⟩
theorem cBk_j {P : Nat} {i v : Int} (hP : P ≠ 54) (h : cBk A k p) : cBk (jS A P i v) k p := by
  unfold cBk
  rw [hI_jS_ne (fun w => hP w.symm), hI_jS_ne (fun w => hP w.symm), hI_jS_ne (fun w => hP w.symm), hI_jS_ne (fun w => hP w.symm), hI_jS_ne (fun w => hP w.symm)]
  exact h
theorem okB_j {P : Nat} {i v : Int} (h1 : P ≠ rp d + 0) (h2 : P ≠ rp d + 3) (h3 : P ≠ rp d + 11) (h : okB d A) : okB d (jS A P i v) := by
  obtain ⟨g1, g2, g3, g4, g5⟩ := h
  refine ⟨g1, ?_, ?_, ?_, fun i w0 w1 => ?_⟩
  · rw [hI_jS_ne (fun w => h3 w.symm)]; exact g2
  · rw [hI_jS_ne (fun w => h1 w.symm)]; exact g3
  · rw [hI_jS_ne (fun w => h1 w.symm)]; exact g4
  · rw [hI_jS_ne (fun w => h2 w.symm)]; exact g5 i w0 w1
theorem wI_x {β : Type} {P n : Nat} {i : Int} {x : Int32} {F : zS → Option β} (h0 : 0 ≤ i) (h1 : i < n) (h2 : i < 2147483648) : ∃ v, wI A P n (z32 i) x F = F (jS A P i v) ∧ x = z32 v := by
  refine ⟨x.toInt, ?_, (z32_of x).symm⟩
  have := wI_h (σ := A) (p := P) (v := x.toInt) (F := F) h0 h1 h2
  rw [z32_of] at this
  exact this
theorem BS_w {j n : Nat} {i : Int} {x : Int32} {g : zS → Option zS} (hj : j ≠ 0 ∧ j ≠ 3 ∧ j ≠ 11 ∧ j ≤ 15) (h0 : 0 ≤ i) (h1 : i < n) (h2 : i < 2147483648) (hg : BS d g) : BS d (fun A => wI A (rp d + j) n (z32 i) x g) := fun A k p c1 c2 => by
  have hrp := rp_or d
  obtain ⟨v, e, -⟩ := wI_x (A := A) (P := rp d + j) (x := x) (F := g) h0 h1 h2
  obtain ⟨C, d1, d2, d3, d4⟩ := hg (jS A (rp d + j) i v) k p (cBk_j (by omega) c1) (okB_j (by omega) (by omega) (by omega) c2)
  exact ⟨C, by show wI A (rp d + j) n (z32 i) x g = some C; rw [e]; exact d1, fr_t (fr_j h0 (by unfold cR; omega)) d2, d3, d4⟩
theorem BE_w {j n : Nat} {i : Int} {x : Int32} {g : zS → Option zS} (hj : j ≠ 0 ∧ j ≠ 3 ∧ j ≠ 11 ∧ j ≤ 15) (h0 : 0 ≤ i) (h1 : i < n) (h2 : i < 2147483648) (hg : BE d g) : BE d (fun A => wI A (rp d + j) n (z32 i) x g) := fun A k p c1 c2 => by
  have hrp := rp_or d
  obtain ⟨v, e, -⟩ := wI_x (A := A) (P := rp d + j) (x := x) (F := g) h0 h1 h2
  obtain ⟨C, d1, d2, d3⟩ := hg (jS A (rp d + j) i v) k p (cBk_j (by omega) c1) (okB_j (by omega) (by omega) (by omega) c2)
  exact ⟨C, by show wI A (rp d + j) n (z32 i) x g = some C; rw [e]; exact d1, fr_t (fr_j h0 (by unfold cR; omega)) d2, d3⟩
/-- the end of a statement: a count goes up, or seen, fine is told -/
theorem BE_i {i : Int} {x : zS → Int32} (h0 : 0 < i) : BE d (fun A => some (iS A (rp d + 0) i.toNat (x A))) := fun A k p c1 c2 => by
  have hrp := rp_or d
  have e : iS A (rp d + 0) i.toNat (x A) = jS A (rp d + 0) i (x A).toInt := by unfold jS; rw [z32_of]
  exact ⟨_, rfl, by rw [e]; exact fr_j (by omega) (by unfold cR; omega), by rw [e]; exact cBk_j (by omega) c1⟩
end BB
-- the other side
def mRd (b : Int) (p : Nat) (k : Int) : Prop := (p = 56 ∧ ((3 ≤ k ∧ k ≤ 9) ∨ k = 12 ∨ k = 34 ∨ k = 41 ∨ k = 42 ∨ k = 44 ∨ k = 45)) ∨ ((p = 58 ∨ p = 63 ∨ (68 ≤ p ∧ p ≤ 73)) ∧ k = b) ∨ ((p = 59 ∨ p = 60 ∨ p = 64 ∨ p = 65 ∨ p = 66 ∨ p = 76 ∨ p = 77) ∧ 6 * b ≤ k ∧ k < 6 * b + 6) ∨ ((p = 61 ∨ p = 62) ∧ 24 * b ≤ k ∧ k < 24 * b + 24) ∨ (p = 67 ∧ 36 * b ≤ k ∧ k < 36 * b + 36) ∨ ((p = 74 ∨ p = 75) ∧ 1600 * b ≤ k ∧ k < 1600 * b + 1600) ∨ (78 ≤ p ∧ p ≤ 83)
def MS (b : Int) (f : zS → Option zS) : Prop := ∀ τ k p, mFb τ k p → hI τ 56 35 = b → ∃ υ, f τ = some υ ∧ mFb υ k p ∧ fr (mRd b) τ υ
section MM
variable {b : Int} {f g : zS → Option zS} {τ υ : zS} {k p : Int}
theorem oM_d (h : oM τ υ) : fr (mRd b) τ υ := fr_M h (fun k w => by unfold mRd; omega)
theorem MS_s : MS b (fun τ => some τ) := fun τ k p h1 h2 => ⟨τ, rfl, h1, fr_r⟩
theorem MS_b (hf : MS b f) (hg : MS b g) : MS b (fun τ => bnr (f τ) g) := fun τ k p h1 h2 => by
  obtain ⟨υ, u1, u2, u3⟩ := hf τ k p h1 h2
  obtain ⟨φ, v1, v2, v3⟩ := hg υ k p u2 (by rw [(u3.2 56 35 (by omega) (by unfold mRd; omega)).1]; exact h2)
  exact ⟨φ, by show bnr (f τ) g = some φ; rw [u1, bnr_q, v1], v2, fr_t u3 v3⟩
theorem MS_r (h : ∀ τ k p, mFb τ k p → ∃ υ, f τ = some υ ∧ oM τ υ ∧ mFt υ k p) : MS b f := fun τ k p h1 h2 => by
  obtain ⟨υ, u1, u2, u3⟩ := h τ k p h1
  exact ⟨υ, u1, mt_b u3, oM_d u2⟩
theorem MS_p {α : Type} {F : zS → Option (α × zS)} {G : α → zS → Option zS} (hf : ∀ τ k p, mFb τ k p → ∃ υ r, F τ = some (r, υ) ∧ oM τ υ ∧ mFt υ k p) (hG : ∀ r, MS b (G r)) : MS b (fun τ => bnc (F τ) G) := fun τ k p h1 h2 => by
  obtain ⟨υ, r, u1, u2, u3⟩ := hf τ k p h1
  obtain ⟨φ, v1, v2, v3⟩ := hG r υ k p (mt_b u3) (by rw [(oM_d (b := b) u2).2 56 35 (by omega) (by unfold mRd; omega) |>.1]; exact h2)
  exact ⟨φ, by show bnc (F τ) G = some φ; rw [u1, bnc_q]; exact v1, v2, fr_t (oM_d u2) v3⟩
theorem mFb_c (h : mFb τ k p) (e : ∀ k, 0 ≤ k → k ≤ 12 → hI υ 56 k = hI τ 56 k) : mFb υ k p := by
  rcases h with ⟨h1, h2, h3⟩ | ⟨h1, h2⟩
  · exact Or.inl ⟨by rw [e 8 (by omega) (by omega)]; exact h1, by rw [e 9 (by omega) (by omega)]; exact h2, h3⟩
  · exact Or.inr ⟨h1, mBd_c h2 e⟩
theorem MS_w {P n : Nat} {i : Int} {x : Int32} {g : zS → Option zS} (hP : P ≠ 56) (hm : mRd b P i) (h0 : 0 ≤ i) (h1 : i < n) (h2 : i < 2147483648) (hg : MS b g) : MS b (fun A => wI A P n (z32 i) x g) := fun τ k p c1 c2 => by
  obtain ⟨v, e, -⟩ := wI_x (A := τ) (P := P) (x := x) (F := g) h0 h1 h2
  obtain ⟨φ, v1, v2, v3⟩ := hg (jS τ P i v) k p (mFb_c c1 (fun k w0 w1 => hI_jS_ne (fun w => hP w.symm))) (by rw [hI_jS_ne (fun w => hP w.symm)]; exact c2)
  exact ⟨φ, by show wI τ P n (z32 i) x g = some φ; rw [e]; exact v1, v2, fr_t (fr_j h0 hm) v3⟩
theorem wL_x {β : Type} {A : zS} {P n : Nat} {i : Int} {x : Int64} {F : zS → Option β} (h0 : 0 ≤ i) (h1 : i < n) (h2 : i < 2147483648) : ∃ v, wL A P n (z32 i) x F = F (kS A P i v) ∧ x = z64 v := by
  refine ⟨x.toInt, ?_, (z64_of x).symm⟩
  have := wL_h (σ := A) (p := P) (v := x.toInt) (F := F) h0 h1 h2
  rw [z64_of] at this
  exact this
theorem MS_wL {P n : Nat} {i : Int} {x : Int64} {g : zS → Option zS} (hm : mRd b P i) (h0 : 0 ≤ i) (h1 : i < n) (h2 : i < 2147483648) (hg : MS b g) : MS b (fun A => wL A P n (z32 i) x g) := fun τ k p c1 c2 => by
  obtain ⟨v, e, -⟩ := wL_x (A := τ) (P := P) (x := x) (F := g) h0 h1 h2
  obtain ⟨φ, v1, v2, v3⟩ := hg (kS τ P i v) k p (mFb_c c1 (fun k w0 w1 => rfl)) c2
  exact ⟨φ, by show wL τ P n (z32 i) x g = some φ; rw [e]; exact v1, v2, fr_t (fr_k h0 hm) v3⟩
theorem MS_word {i : Int} {y : Int64} (hy : y = z64 (ow8 i)) (h0 : 0 ≤ i) (h1 : i < 25) : MS b (fX11_must_ y) := MS_r (fun τ k p h => mm_word hy h0 h1 h)
theorem MS_num {x y : Int32} {G : Int32 → zS → Option zS} (hG : ∀ r, MS b (G r)) : MS b (fun τ => bnc (fX11_number x y τ) G) := MS_p (fun τ k p h => by
  obtain ⟨υ, u1, u2, u3⟩ := mm_num (x := x) (y := y) h
  exact ⟨υ, _, u1, u2, u3⟩) hG
theorem mm_ask {x : Int32} (h : mFb τ k p) : ∃ υ r, fX11_asked x τ = some (r, υ) ∧ oM τ υ ∧ mFt υ k p := by
  have key : ∀ (σ : zS) (y : Int32), mFt σ k p → fX11_asked_41 y σ = some (0, σ) := fun σ y h => by
    unfold fX11_asked_41 fX11_asked_61 fX11_asked_83 fX11_asked_94
    rw [if_neg (c8p h), if_neg (c8e h), if_neg (c8e h), if_neg (c8p h)]
  obtain ⟨υ, u1, u2, u3⟩ := mF_l h
  unfold fX11_asked
  rw [u1, bnr_q]
  rcases u3 with u3 | ⟨hk, he, hr, hp⟩
  · rw [if_neg (c8p u3)]
    exact ⟨υ, _, rfl, u2, u3⟩
  · subst he hk
    obtain ⟨f1, f2⟩ := flt (k := 1) (p := p) hr.1 (by omega) (by omega)
    rw [if_pos (c8z hr.1), if_neg (by rw [mk_1 hr.2.2.2]; omega)]
    unfold fX11_asked_32
    rw [bl4 (z32_litn 1) hr.1 hr.2.2.1, bnr_q, key _ _ f1]
    exact ⟨_, _, rfl, oM_t u2 f2, f1⟩
end MM
section AK
variable {A B σ τ υ : zS} {c : Int → Int} {N b q a t v i k p w kd cnt : Int} {d : Bool}
/-- a name that is asked: kd 0 a tunnel's, 1 a holder's -/
theorem jt_ask (hk : kd = 0 ∨ kd = 1) (hd : A.2.2.2.2 = d) (h : AL A σ c N q a t v) (hn : NR A σ d b) : ∃ B τ r y, (if kd = 0 then fX5_takeTunnel A else fX5_takeHolder A) = some (r, B) ∧ oR A B ∧ fX11_asked (z32 kd) σ = some (y, τ) ∧ oM σ τ ∧ ((∃ u, r = z32 u ∧ y = z32 u ∧ (0 ≤ u ∧ u < hI A (rp d + 0) (if kd = 0 then 1 else 2)) ∧ ∃ q' a' t' v', AL B τ c N q' a' t' v' ∧ q < q') ∨ ∃ k p, cBk B k p ∧ mFb τ k p) := by
  obtain ⟨hr, hA⟩ := AL_x h
  obtain ⟨p1, p2, p3, p4, p5, p6, p7, p8⟩ := h.2.2.1
  obtain ⟨w2, w3⟩ := wd_2 h
  by_cases ht : t = 2
  · have hnm := h.2.2.2 (Or.inl ht)
    obtain ⟨r0, a1, a2, a3⟩ := find_j (kd := kd) hn hnm hk
    have n2 := hn.2.1.2.2
    have n3 := hn.2.2.1.2.2
    have a3' : r0 = -1 ∨ (0 ≤ r0 ∧ r0 < 6) := by
      rcases hk with hk | hk
      · subst hk
        rw [if_pos rfl] at a3
        have : hI A (rp d + 0) 1 ≤ 6 := n2
        rcases a3 with a3 | a3
        · exact Or.inl a3
        · exact Or.inr ⟨a3.1, Int.lt_of_lt_of_le a3.2 this⟩
      · subst hk
        rw [if_neg (by omega)] at a3
        have : hI A (rp d + 0) 2 ≤ 6 := n3
        rcases a3 with a3 | a3
        · exact Or.inl a3
        · exact Or.inr ⟨a3.1, Int.lt_of_lt_of_le a3.2 this⟩
    have eC : (if kd = 0 then fX5_takeTunnel A else fX5_takeHolder A) = bnr (fX5_takeKnownName (z32 r0) A) fun B => some (z32 r0, B) := by
      rcases hk with hk | hk
      · subst hk
        rw [if_pos rfl, if_pos rfl] at a1
        rw [if_pos rfl]
        unfold fX5_takeTunnel fX5_takeTunnel_22 fX6_tunnelNamed
        rw [if_neg (by rw [isn_t hA ht]; decide), hd, show iG A 54 7 = z32 (hI A 54 7) from iG_h A 54 7, a1, bnr_q]
      · subst hk
        rw [if_neg (by omega), if_neg (by omega)] at a1
        rw [if_neg (by omega)]
        unfold fX5_takeHolder fX5_takeHolder_22 fX6_holderNamed
        rw [if_neg (by rw [isn_t hA ht]; decide), hd, show iG A 54 7 = z32 (hI A 54 7) from iG_h A 54 7, a1, bnr_q]
    have eM : fX11_asked (z32 kd) σ = fX11_asked_61 (z32 r0) σ := by
      unfold fX11_asked fX11_asked_41
      rw [lex_n hr.2.1, bnr_q, if_pos (c8z hr.1), if_pos (w2 ht).1, if_pos (w2 ht).2, if_pos (c8z hr.1), show lG σ 56 7 = z64 (hL σ 56 7) from lG_h σ 56 7, a2, bnr_q]
    rw [eC, eM]
    unfold fX5_takeKnownName fX11_asked_61
    rw [if_neg (by rw [isn_t hA ht]; decide), if_pos (c8q hr.1)]
    by_cases g0 : r0 = -1
    · obtain ⟨f1, f2⟩ := flt (k := 3) (p := q) hr.1 (by omega) (by omega)
      obtain ⟨B, b1, b2, b3⟩ := fl_j (k := 3) (z32_litn 3) h (by omega)
      rw [if_pos (by rw [g0, z32_litn, z32_neg]), if_pos (by rw [g0, z32_litn, z32_neg]), b1, bnr_q, bl4 (z32_litn 3) hr.1 hr.2.2.1, bnr_q]
      unfold fX5_takeKnownName_33 fX11_asked_83 fX11_asked_94
      rw [adv_k b3, bnr_q, bnr_q, if_neg (c8e f1), if_neg (c8p f1)]
      exact ⟨B, _, _, _, rfl, b2, rfl, f2, Or.inr ⟨3, q, b3, mt_b f1⟩⟩
    · rw [if_neg (by rw [z32_litn, z32_neg, z32_eq (by omega) (by omega) (by omega) (by omega)]; exact g0), if_neg (by rw [z32_litn, z32_neg, z32_eq (by omega) (by omega) (by omega) (by omega)]; exact g0)]
      obtain ⟨B, τ, b1, b2, t1, t2, hres⟩ := adv_j h (by omega)
      have qa := p6 (by omega)
      have h8 : hI τ 56 8 = 0 := by
        rcases hres with ⟨q', a', t', v', h3, h4⟩ | ⟨p, h3, h4⟩
        · exact h3.2.1.2.2.2.1
        · exact h4.1
      unfold fX5_takeKnownName_33 fX11_asked_83 fX11_asked_94
      rw [b1, bnr_q, bnr_q, if_pos (c8q hr.1), t1, bnr_q, if_pos (c8z h8)]
      refine ⟨B, τ, _, _, rfl, b2, rfl, t2, ?_⟩
      rcases hres with ⟨q', a', t', v', h3, h4⟩ | ⟨p, h3, h4⟩
      · refine Or.inl ⟨r0, rfl, rfl, ?_, q', a', t', v', h3, by omega⟩
        rcases a3 with a3 | a3
        · exact absurd a3 g0
        · exact a3
      · exact Or.inr ⟨1, p, h3, Or.inr ⟨rfl, h4⟩⟩
  · obtain ⟨f1, f2⟩ := flt (k := 1) (p := q) hr.1 (by omega) (by omega)
    obtain ⟨B, b1, b2, b3⟩ := fl_j (k := 1) (z32_litn 1) h (by omega)
    have e32 : fX11_asked_32 (z32 kd) σ = some (0, jS (jS σ 56 8 1) 56 9 q) := by
      unfold fX11_asked_32 fX11_asked_41 fX11_asked_61 fX11_asked_83 fX11_asked_94
      rw [bl4 (z32_litn 1) hr.1 hr.2.2.1, bnr_q, if_neg (c8p f1), if_neg (c8e f1), if_neg (c8e f1), if_neg (c8p f1)]
    have ek : fX5_takeKnownName ((-1)) A = some B := by
      unfold fX5_takeKnownName fX5_takeKnownName_33
      rw [if_pos (isn_f hA ht), b1, bnr_q, adv_k b3, bnr_q]
    refine ⟨B, jS (jS σ 56 8 1) 56 9 q, (-1), 0, ?_, b2, ?_, f2, Or.inr ⟨1, q, b3, mt_b f1⟩⟩
    · rcases hk with hk | hk
      · rw [if_pos hk]
        unfold fX5_takeTunnel fX5_takeTunnel_22
        rw [if_pos (isn_f hA ht), ek, bnr_q]
      · rw [if_neg (by omega)]
        unfold fX5_takeHolder fX5_takeHolder_22
        rw [if_pos (isn_f hA ht), ek, bnr_q]
    · unfold fX11_asked
      rw [lex_n hr.2.1, bnr_q, if_pos (c8z hr.1)]
      rcases w3 ht with w | ⟨w, w'⟩
      · rw [if_neg w]; exact e32
      · rw [if_pos w, if_neg w']; exact e32
end AK

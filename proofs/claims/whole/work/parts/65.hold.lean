/-! MY OWN: statements: gives, thinks, holder -/
section HO
variable {A B σ τ υ : zS} {c : Int → Int} {N b q a t v i k p w kd cnt u : Int} {d : Bool}
theorem hHd_p (h0 : 0 ≤ u) (h1 : u < hI A (rp d + 0) 2) : fX6_hasHolder d A (z32 u) = z32 1 := by
  have := hI_hi A (rp d + 0) 2
  simp (disch := omega) only [fX6_hasHolder, z32_add, z32_sub, z32_mul, z32_neg, z32_litn, z32_lt, z32_le, z32_eq, iG_h, lG_h, iS_q, lS_q, aI_h, wI_h, aL_h, wL_h, ↓bnd_q, bnr_q, bnc_q, ↓reduceIte, ieqT, ieqF, iltT, iltF, ileT, ileF, not_true, not_false_iff]
theorem hHd_n (h1 : -2147483648 ≤ u) (h2 : u < 2147483648) (h : ¬ (0 ≤ u ∧ u < hI A (rp d + 0) 2)) : fX6_hasHolder d A (z32 u) = z32 0 := by
  have := hI_hi A (rp d + 0) 2
  have := hI_lo A (rp d + 0) 2
  by_cases h3 : u < 0
  · simp (disch := omega) only [fX6_hasHolder, z32_add, z32_sub, z32_mul, z32_neg, z32_litn, z32_lt, z32_le, z32_eq, iG_h, lG_h, iS_q, lS_q, aI_h, wI_h, aL_h, wL_h, ↓bnd_q, bnr_q, bnc_q, ↓reduceIte, ieqT, ieqF, iltT, iltF, ileT, ileF, not_true, not_false_iff]
  · simp (disch := omega) only [fX6_hasHolder, z32_add, z32_sub, z32_mul, z32_neg, z32_litn, z32_lt, z32_le, z32_eq, iG_h, lG_h, iS_q, lS_q, aI_h, wI_h, aL_h, wL_h, ↓bnd_q, bnr_q, bnc_q, ↓reduceIte, ieqT, ieqF, iltT, iltF, ileT, ileF, not_true, not_false_iff]
theorem hTd_p (h0 : 0 ≤ u) (h1 : u < hI A (rp d + 0) 1) : fX6_hasTunnel d A (z32 u) = z32 1 := by
  have := hI_hi A (rp d + 0) 1
  simp (disch := omega) only [fX6_hasTunnel, z32_add, z32_sub, z32_mul, z32_neg, z32_litn, z32_lt, z32_le, z32_eq, iG_h, lG_h, iS_q, lS_q, aI_h, wI_h, aL_h, wL_h, ↓bnd_q, bnr_q, bnc_q, ↓reduceIte, ieqT, ieqF, iltT, iltF, ileT, ileF, not_true, not_false_iff]
theorem hTd_n (h1 : -2147483648 ≤ u) (h2 : u < 2147483648) (h : ¬ (0 ≤ u ∧ u < hI A (rp d + 0) 1)) : fX6_hasTunnel d A (z32 u) = z32 0 := by
  have := hI_hi A (rp d + 0) 1
  have := hI_lo A (rp d + 0) 1
  by_cases h3 : u < 0
  · simp (disch := omega) only [fX6_hasTunnel, z32_add, z32_sub, z32_mul, z32_neg, z32_litn, z32_lt, z32_le, z32_eq, iG_h, lG_h, iS_q, lS_q, aI_h, wI_h, aL_h, wL_h, ↓bnd_q, bnr_q, bnc_q, ↓reduceIte, ieqT, ieqF, iltT, iltF, ileT, ileF, not_true, not_false_iff]
  · simp (disch := omega) only [fX6_hasTunnel, z32_add, z32_sub, z32_mul, z32_neg, z32_litn, z32_lt, z32_le, z32_eq, iG_h, lG_h, iS_q, lS_q, aI_h, wI_h, aL_h, wL_h, ↓bnd_q, bnr_q, bnc_q, ↓reduceIte, ieqT, ieqF, iltT, iltF, ileT, ileF, not_true, not_false_iff]
theorem i32_10 : ¬ (z32 1 = (0 : Int32)) := by decide
theorem i32_00 : z32 0 = (0 : Int32) := by decide
theorem BE_g (v5 v8 : Int32) : BE d (fun σ6 => if (fX6_hasHolder σ6.2.2.2.2 σ6 v5) = 0 then some σ6 else wI σ6 (rp σ6.2.2.2.2 + 9) 6 v5 v8 fun σ9 => some σ9) := fun A k p h1 h2 => by
  obtain ⟨u, u1, u2, rfl⟩ := r32x v5
  show ∃ B, (if (fX6_hasHolder A.2.2.2.2 A (z32 u)) = 0 then some A else wI A (rp A.2.2.2.2 + 9) 6 (z32 u) v8 fun σ9 => some σ9) = some B ∧ _
  rw [h2.1]
  by_cases g : 0 ≤ u ∧ u < hI A (rp d + 0) 2
  · have g6 := h2.2.2.2.1
    rw [if_neg (by rw [hHd_p g.1 g.2]; exact i32_10)]
    exact BE_w (x := v8) (by omega) g.1 (by omega) (by omega) (BS_E BS_s) A k p h1 h2
  · rw [if_pos (by rw [hHd_n u1 u2 g]; exact i32_00)]
    exact ⟨A, rfl, fr_r, h1⟩
theorem BE_t (v5 v8 v11 : Int32) : BE d (fun σ9 => if (fX6_hasBoth σ9.2.2.2.2 σ9 v5 v8) = 0 then some σ9 else wI σ9 (rp σ9.2.2.2.2 + 10) 36 ((v5 * 6) + v8) v11 fun σ12 => some σ12) := fun A k p h1 h2 => by
  obtain ⟨u, u1, u2, rfl⟩ := r32x v5
  obtain ⟨w, w1, w2, rfl⟩ := r32x v8
  show ∃ B, (if (fX6_hasBoth A.2.2.2.2 A (z32 u) (z32 w)) = 0 then some A else wI A (rp A.2.2.2.2 + 10) 36 ((z32 u * 6) + z32 w) v11 fun σ12 => some σ12) = some B ∧ _
  rw [h2.1]
  by_cases g : (0 ≤ u ∧ u < hI A (rp d + 0) 2) ∧ (0 ≤ w ∧ w < hI A (rp d + 0) 1)
  · have g6 := h2.2.2.2.1
    have g7 := h2.2.2.1
    have e : fX6_hasBoth d A (z32 u) (z32 w) = 1 := by
      unfold fX6_hasBoth
      rw [if_neg (by rw [hHd_p g.1.1 g.1.2]; exact i32_10), if_neg (by rw [hTd_p g.2.1 g.2.2]; exact i32_10)]
    rw [e, if_neg i10, show (6 : Int32) = z32 6 from z32_litn 6, z32_mul, z32_add]
    exact BE_w (x := v11) (by omega) (by omega) (by omega) (by omega) (BS_E BS_s) A k p h1 h2
  · have e : fX6_hasBoth d A (z32 u) (z32 w) = 0 := by
      unfold fX6_hasBoth
      by_cases g1 : 0 ≤ u ∧ u < hI A (rp d + 0) 2
      · rw [if_neg (by rw [hHd_p g1.1 g1.2]; exact i32_10), if_pos (by rw [hTd_n w1 w2 (fun g2 => g ⟨g1, g2⟩)]; exact i32_00)]
      · rw [if_pos (by rw [hHd_n u1 u2 g1]; exact i32_00)]
    rw [e, if_pos rfl]
    exact ⟨A, rfl, fr_r, h1⟩
theorem hold_x (A : zS) (k p : Int) (h : cBk A k p) : ∃ B r, fX5_takeHolder A = some (r, B) ∧ oR A B ∧ cBk B k p := by
  obtain ⟨B, b1, b2, b3⟩ := hold_k h
  exact ⟨B, _, b1, b2, b3⟩
theorem tun_x (A : zS) (k p : Int) (h : cBk A k p) : ∃ B r, fX5_takeTunnel A = some (r, B) ∧ oR A B ∧ cBk B k p := by
  obtain ⟨B, b1, b2, b3⟩ := tun_k h
  exact ⟨B, _, b1, b2, b3⟩
/-- behind a number that the other side has no more to look at: nothing is told -/
theorem MS_nm {x y : Int32} {G : Int32 → zS → Option zS} (hG : ∀ r τ k p, mFt τ k p → G r τ = some τ) : MS b (fun τ => bnc (fX11_number x y τ) G) := fun τ k p h1 h2 => by
  obtain ⟨υ, u1, u2, u3⟩ := mm_num (x := x) (y := y) h1
  refine ⟨υ, ?_, mt_b u3, oM_d u2⟩
  show bnc (fX11_number x y τ) G = _
  rw [u1, bnc_q, hG _ _ _ _ u3]
theorem e35 (h : oM σ τ) (h2 : hI σ 56 35 = b) : hI τ 56 35 = b := by rw [(oM_Q h).2 56 35 (by omega) (by unfold oQ; omega) |>.1]; exact h2
theorem st_gives (h : AL A σ c N q a t v) (ht : t ≠ 1) (hR : RR A σ d b q) : ∃ B τ, fX5_readGives A = some B ∧ fX11_giving σ = some τ ∧ STA A B σ τ c N d b q := by
  have hrp := rp_or d
  obtain ⟨p1, p2, p3, p4, p5, p6, p7, p8⟩ := h.2.2.1
  have hb := hR.2.1.1
  have kC2 : ∀ v5, BE d (fun σ3 => bnc (fX5_takeNumber 0 60 σ3) fun v8 σ6 => if (fX6_hasHolder σ6.2.2.2.2 σ6 v5) = 0 then some σ6 else wI σ6 (rp σ6.2.2.2.2 + 9) 6 v5 v8 fun σ9 => some σ9) := fun v5 => BE_p (fun A k p h => num_k h _ _) (fun r => BE_g v5 r)
  have kC1 : BE d (fun σ1 => bnc (fX5_takeHolder σ1) fun v5 σ3 => bnc (fX5_takeNumber 0 60 σ3) fun v8 σ6 => if (fX6_hasHolder σ6.2.2.2.2 σ6 v5) = 0 then some σ6 else wI σ6 (rp σ6.2.2.2.2 + 9) 6 v5 v8 fun σ9 => some σ9) := BE_p hold_x kC2
  have kM2 : ∀ v6, MS b (fun σ4 => bnc (fX11_number 0 60 σ4) fun v9 σ7 => if (iG σ7 56 8) = 0 then wI σ7 66 12 ((6 * (iG σ7 56 35)) + v6) v9 fun σ10 => some σ10 else some σ7) := fun v6 => MS_nm (fun r τ k p h => by rw [if_neg (c8e h)])
  have kM1 : MS b (fun σ1 => bnc (fX11_asked 1 σ1) fun v6 σ4 => bnc (fX11_number 0 60 σ4) fun v9 σ7 => if (iG σ7 56 8) = 0 then wI σ7 66 12 ((6 * (iG σ7 56 35)) + v6) v9 fun σ10 => some σ10 else some σ7) := MS_p (fun τ k p h => mm_ask h) kM2
  obtain ⟨B1, τ1, b1, b2, t1, t2, hres⟩ := kw h ht
  unfold fX5_readGives fX11_giving
  rw [b1, bnr_q, t1, bnc_q, if_neg i10]
  rcases hres with ⟨q1, a1, t1', v1, h1, hq1⟩ | ⟨k, p, h1, h2⟩
  case inr =>
    obtain ⟨B, c1, c2, c3⟩ := kC1 B1 k p h1 (okB_R b2 (RR_ok hR (by omega)))
    obtain ⟨τ, m1, m2, m3⟩ := kM1 τ1 k p h2 (e35 t2 hb.1)
    exact ⟨B, τ, c1, m1, fr_t (oR_cR b2) c2, fr_t (oM_d t2) m3, Or.inr ⟨k, p, c3, m2⟩⟩
  have hR1 := RR_c hR b2 t2 (Int.le_of_lt hq1)
  obtain ⟨B2, τ2, r1, r2, c1, c2, m1, m2, hres2⟩ := jt_ask (kd := 1) (Or.inr rfl) hR1.1 h1 hR1.2.1
  rw [if_neg (by omega)] at c1
  rw [c1, bnc_q, show (1 : Int32) = z32 1 from z32_litn 1, m1, bnc_q]
  have oAB := oR_t b2 c2
  have oST := oM_t t2 m2
  rcases hres2 with ⟨u, u1, u2, u3, q2, a2, t2', v2, h2, hq2⟩ | ⟨k, p, h1, h2⟩
  case inr =>
    obtain ⟨B, c3, c4, c5⟩ := kC2 r1 B2 k p h1 (okB_R oAB (RR_ok hR (by omega)))
    obtain ⟨τ, m3, m4, m5⟩ := kM2 r2 τ2 k p h2 (e35 oST hb.1)
    exact ⟨B, τ, c3, m3, fr_t (oR_cR oAB) c4, fr_t (oM_d oST) m5, Or.inr ⟨k, p, c5, m4⟩⟩
  have hR2 := RR_c hR1 c2 m2 (Int.le_of_lt hq2)
  have cn : hI B2 (rp d + 0) 2 = hI B1 (rp d + 0) 2 := c2.2.2 _ _ (by omega)
  rw [if_neg (by omega)] at u3
  have n6 : hI B1 (rp d + 0) 2 ≤ 6 := hR1.2.1.2.2.1.2.2
  have u3a : 0 ≤ u := u3.1
  have u3b : u < hI B1 (rp d + 0) 2 := u3.2
  obtain ⟨B3, τ3, r3, r4, c3, c4, m3, m4, hres3⟩ := jt_num (lo := 0) (hi := 60) (z32_litn 0) (z32_litn 60) (by omega) h2
  rw [c3, bnc_q, m3, bnc_q]
  have oAC := oR_t oAB c4
  have oSU := oM_t oST m4
  rcases hres3 with ⟨g, g1, g2, g3, q3, a3, t3', v3, h3, hq3⟩ | ⟨k, p, h1, h2⟩
  case inr =>
    obtain ⟨B, c5, c6, c7⟩ := BE_g r1 r3 B3 k p h1 (okB_R oAC (RR_ok hR (by omega)))
    have kM3 : MS b (fun σ7 => if (iG σ7 56 8) = 0 then wI σ7 66 12 ((6 * (iG σ7 56 35)) + r2) r4 fun σ10 => some σ10 else some σ7) := fun τ k p w1 w2 => by
      show ∃ υ, (if (iG τ 56 8) = 0 then wI τ 66 12 ((6 * (iG τ 56 35)) + r2) r4 fun σ10 => some σ10 else some τ) = some υ ∧ _
      rw [show iG τ 56 35 = z32 (hI τ 56 35) from iG_h τ 56 35, w2, u2, show (6 : Int32) = z32 6 from z32_litn 6, z32_mul, z32_add]
      split
      · exact MS_w (x := r4) (by omega) (by unfold mRd; omega) (by omega) (by omega) (by omega) MS_s τ k p w1 w2
      · exact ⟨τ, rfl, w1, fr_r⟩
    obtain ⟨τ, m5, m6, m7⟩ := kM3 τ3 k p h2 (e35 oSU hb.1)
    exact ⟨B, τ, c5, m5, fr_t (oR_cR oAC) c6, fr_t (oM_d oSU) m7, Or.inr ⟨k, p, c7, m6⟩⟩
  have hR3 := RR_c hR2 c4 m4 (Int.le_of_lt hq3)
  have cn3 : hI B3 (rp d + 0) 2 = hI B1 (rp d + 0) 2 := by rw [c4.2.2 _ _ (by omega)]; exact cn
  subst u1 u2 g1 g2
  have f1 : fr (fun p k => p = rp d + 9 ∧ k = u) B3 (jS B3 (rp d + 9) u g) := fr_j u3a ⟨rfl, rfl⟩
  have f2 : fr (fun p k => p = 66 ∧ k = 6 * b + u) τ3 (jS τ3 66 (6 * b + u) g) := fr_j (by omega) ⟨rfl, rfl⟩
  refine ⟨jS B3 (rp d + 9) u g, jS τ3 66 (6 * b + u) g, ?_, ?_, fr_t (oR_cR oAC) (fr_j u3a (by unfold cR; omega)), fr_t (oM_d oSU) (fr_j (by omega) (by unfold mRd; omega)), Or.inl ⟨q3, a3, t3', v3, AL_f h3 (fun p k g w => hI_jS_ne (by omega)) f2 (fun p k w => by omega), by omega, ?_⟩⟩
  · rw [hR3.1, if_neg (by rw [hHd_p u3a (by rw [cn3]; exact u3b)]; exact i32_10), wI_h u3a (by omega) (by omega)]
  · rw [if_pos (c8q h3.2.1.2.2.2.1), show iG τ3 56 35 = z32 (hI τ3 56 35) from iG_h τ3 56 35, e35 oSU hb.1, show (6 : Int32) = z32 6 from z32_litn 6, z32_mul, z32_add, wI_h (by omega) (by omega) (by omega)]
  · obtain ⟨r1, r2, r3, r4, r5, r6, r7⟩ := hR3
    refine ⟨r1, NR_f r2 f1 f2 (fun p k w => by omega) (fun p k w => by omega), RL_f hb.2.1 r2.2.1.2.1 r3 f1 f2 (fun p k w => by omega) (fun p k w => by omega), ?_, RF_f hb.2.1 r5 f1 f2 (fun p k w => by omega) (fun p k w => by omega), RSm_f hb.2.1 r6 f1 f2 (fun p k w => by omega) (fun p k w => by omega), RZ_f r7 (Int.le_refl _) f1 f2 (fun p k w => by omega) (fun p k w => by omega)⟩
    unfold RH
    rw [hI_jS_ne (by omega)]
    refine ⟨fun h w0 w1 => ?_, fun h w0 w1 => ?_⟩
    · obtain ⟨x1, x2, x3, x4⟩ := r4.1 h w0 w1
      refine ⟨?_, ?_, ?_, fun t y0 y1 => ?_⟩
      · rw [hI_jS_ne (by omega), hI_jS_ne (by omega)]; exact x1
      · rw [hI_jS_ne (by omega), hI_jS_ne (by omega)]; exact x2
      · rw [hI_jS (by omega) (by omega) (by omega) (by omega), hI_jS u3a w0 (by omega) (by omega)]
        by_cases e : h = u
        · rw [if_pos (by omega), if_pos e]
          exact ⟨rfl, by omega, by omega⟩
        · rw [if_neg (by omega), if_neg e]; exact x3
      · rw [hI_jS_ne (by omega), hI_jS_ne (by omega)]; exact x4 t y0 y1
    · obtain ⟨x1, x2⟩ := r4.2 h w0 w1
      have w0' : hI B3 (rp d + 0) 2 ≤ h := w0
      refine ⟨?_, fun t y0 y1 => ?_⟩
      · rw [hI_jS u3a (by omega) (by omega) (by omega), if_neg (by omega)]; exact x1
      · rw [hI_jS_ne (by omega)]; exact x2 t y0 y1
theorem st_thinks (h : AL A σ c N q a t v) (ht : t ≠ 1) (hR : RR A σ d b q) : ∃ B τ, fX5_readThinks A = some B ∧ fX11_thinking σ = some τ ∧ STA A B σ τ c N d b q := by
  have hrp := rp_or d
  obtain ⟨p1, p2, p3, p4, p5, p6, p7, p8⟩ := h.2.2.1
  have hb := hR.2.1.1
  have kC3 : ∀ v5 v8, BE d (fun σ6 => bnc (fX5_takeNumber 1 60 σ6) fun v11 σ9 => if (fX6_hasBoth σ9.2.2.2.2 σ9 v5 v8) = 0 then some σ9 else wI σ9 (rp σ9.2.2.2.2 + 10) 36 ((v5 * 6) + v8) v11 fun σ12 => some σ12) := fun v5 v8 => BE_p (fun A k p h => num_k h _ _) (fun r => BE_t v5 v8 r)
  have kC2 : ∀ v5, BE d (fun σ3 => bnc (fX5_takeTunnel σ3) fun v8 σ6 => bnc (fX5_takeNumber 1 60 σ6) fun v11 σ9 => if (fX6_hasBoth σ9.2.2.2.2 σ9 v5 v8) = 0 then some σ9 else wI σ9 (rp σ9.2.2.2.2 + 10) 36 ((v5 * 6) + v8) v11 fun σ12 => some σ12) := fun v5 => BE_p tun_x (kC3 v5)
  have kC1 : BE d (fun σ1 => bnc (fX5_takeHolder σ1) fun v5 σ3 => bnc (fX5_takeTunnel σ3) fun v8 σ6 => bnc (fX5_takeNumber 1 60 σ6) fun v11 σ9 => if (fX6_hasBoth σ9.2.2.2.2 σ9 v5 v8) = 0 then some σ9 else wI σ9 (rp σ9.2.2.2.2 + 10) 36 ((v5 * 6) + v8) v11 fun σ12 => some σ12) := BE_p hold_x kC2
  have kM3 : ∀ v6 v9, MS b (fun σ7 => bnc (fX11_number 1 60 σ7) fun v12 σ10 => if (iG σ10 56 8) = 0 then wI σ10 67 72 ((6 * ((6 * (iG σ10 56 35)) + v6)) + v9) v12 fun σ13 => some σ13 else some σ10) := fun v6 v9 => MS_nm (fun r τ k p h => by rw [if_neg (c8e h)])
  have kM2 : ∀ v6, MS b (fun σ4 => bnc (fX11_asked 0 σ4) fun v9 σ7 => bnc (fX11_number 1 60 σ7) fun v12 σ10 => if (iG σ10 56 8) = 0 then wI σ10 67 72 ((6 * ((6 * (iG σ10 56 35)) + v6)) + v9) v12 fun σ13 => some σ13 else some σ10) := fun v6 => MS_p (fun τ k p h => mm_ask h) (kM3 v6)
  have kM1 : MS b (fun σ1 => bnc (fX11_asked 1 σ1) fun v6 σ4 => bnc (fX11_asked 0 σ4) fun v9 σ7 => bnc (fX11_number 1 60 σ7) fun v12 σ10 => if (iG σ10 56 8) = 0 then wI σ10 67 72 ((6 * ((6 * (iG σ10 56 35)) + v6)) + v9) v12 fun σ13 => some σ13 else some σ10) := MS_p (fun τ k p h => mm_ask h) kM2
  obtain ⟨B1, τ1, b1, b2, t1, t2, hres⟩ := kw h ht
  unfold fX5_readThinks fX11_thinking
  rw [b1, bnr_q, t1, bnc_q, if_neg i10]
  rcases hres with ⟨q1, a1, t1', v1, h1, hq1⟩ | ⟨k, p, h1, h2⟩
  case inr =>
    obtain ⟨B, c1, c2, c3⟩ := kC1 B1 k p h1 (okB_R b2 (RR_ok hR (by omega)))
    obtain ⟨τ, m1, m2, m3⟩ := kM1 τ1 k p h2 (e35 t2 hb.1)
    exact ⟨B, τ, c1, m1, fr_t (oR_cR b2) c2, fr_t (oM_d t2) m3, Or.inr ⟨k, p, c3, m2⟩⟩
  have hR1 := RR_c hR b2 t2 (Int.le_of_lt hq1)
  -- the holder
  obtain ⟨B2, τ2, r1, r2, c1, c2, m1, m2, hres2⟩ := jt_ask (kd := 1) (Or.inr rfl) hR1.1 h1 hR1.2.1
  rw [if_neg (by omega)] at c1
  rw [c1, bnc_q]
  have m1' := m1
  rw [← z32_litn 1] at m1'
  rw [m1', bnc_q]
  have oAB := oR_t b2 c2
  have oST := oM_t t2 m2
  rcases hres2 with ⟨u, u1, u2, u3, q2, a2, t2', v2, h2, hq2⟩ | ⟨k, p, h1, h2⟩
  case inr =>
    obtain ⟨B, c3, c4, c5⟩ := kC2 r1 B2 k p h1 (okB_R oAB (RR_ok hR (by omega)))
    obtain ⟨τ, m3, m4, m5⟩ := kM2 r2 τ2 k p h2 (e35 oST hb.1)
    exact ⟨B, τ, c3, m3, fr_t (oR_cR oAB) c4, fr_t (oM_d oST) m5, Or.inr ⟨k, p, c5, m4⟩⟩
  have hR2 := RR_c hR1 c2 m2 (Int.le_of_lt hq2)
  rw [if_neg (by omega)] at u3
  have n6 : hI B1 (rp d + 0) 2 ≤ 6 := hR1.2.1.2.2.1.2.2
  have u3a : 0 ≤ u := u3.1
  have u3b : u < hI B1 (rp d + 0) 2 := u3.2
  -- the tunnel
  obtain ⟨B2', τ2', r1', r2', d1, d2, e1, e2, hres2'⟩ := jt_ask (kd := 0) (Or.inl rfl) hR2.1 h2 hR2.2.1
  rw [if_pos rfl] at d1
  have e1' := e1
  rw [← z32_litn 0] at e1'
  rw [d1, bnc_q, e1', bnc_q]
  have oAB' := oR_t oAB d2
  have oST' := oM_t oST e2
  rcases hres2' with ⟨x, x1, x2, x3, q2', a2', t2'', v2', h2', hq2'⟩ | ⟨k, p, h1, h2⟩
  case inr =>
    obtain ⟨B, c3, c4, c5⟩ := kC3 r1 r1' B2' k p h1 (okB_R oAB' (RR_ok hR (by omega)))
    obtain ⟨τ, m3, m4, m5⟩ := kM3 r2 r2' τ2' k p h2 (e35 oST' hb.1)
    exact ⟨B, τ, c3, m3, fr_t (oR_cR oAB') c4, fr_t (oM_d oST') m5, Or.inr ⟨k, p, c5, m4⟩⟩
  have hR2' := RR_c hR2 d2 e2 (Int.le_of_lt hq2')
  rw [if_pos rfl] at x3
  have n7 : hI B2 (rp d + 0) 1 ≤ 6 := hR2.2.1.2.1.2.2
  have x3a : 0 ≤ x := x3.1
  have x3b : x < hI B2 (rp d + 0) 1 := x3.2
  -- the number
  obtain ⟨B3, τ3, r3, r4, c3, c4, m3, m4, hres3⟩ := jt_num (lo := 1) (hi := 60) (z32_litn 1) (z32_litn 60) (by omega) h2'
  rw [c3, bnc_q, m3, bnc_q]
  have oAC := oR_t oAB' c4
  have oSU := oM_t oST' m4
  rcases hres3 with ⟨g, g1, g2, g3, q3, a3, t3', v3, h3, hq3⟩ | ⟨k, p, h1, h2⟩
  case inr =>
    obtain ⟨B, c5, c6, c7⟩ := BE_t r1 r1' r3 B3 k p h1 (okB_R oAC (RR_ok hR (by omega)))
    have kM4 : MS b (fun σ10 => if (iG σ10 56 8) = 0 then wI σ10 67 72 ((6 * ((6 * (iG σ10 56 35)) + r2)) + r2') r4 fun σ13 => some σ13 else some σ10) := fun τ k p w1 w2 => by
      show ∃ υ, (if (iG τ 56 8) = 0 then wI τ 67 72 ((6 * ((6 * (iG τ 56 35)) + r2)) + r2') r4 fun σ13 => some σ13 else some τ) = some υ ∧ _
      rw [show iG τ 56 35 = z32 (hI τ 56 35) from iG_h τ 56 35, w2, u2, x2, show (6 : Int32) = z32 6 from z32_litn 6, z32_mul, z32_add, z32_mul, z32_add]
      split
      · exact MS_w (x := r4) (by omega) (by unfold mRd; omega) (by omega) (by omega) (by omega) MS_s τ k p w1 w2
      · exact ⟨τ, rfl, w1, fr_r⟩
    obtain ⟨τ, m5, m6, m7⟩ := kM4 τ3 k p h2 (e35 oSU hb.1)
    exact ⟨B, τ, c5, m5, fr_t (oR_cR oAC) c6, fr_t (oM_d oSU) m7, Or.inr ⟨k, p, c7, m6⟩⟩
  have hR3 := RR_c hR2' c4 m4 (Int.le_of_lt hq3)
  have cn3 : hI B3 (rp d + 0) 2 = hI B1 (rp d + 0) 2 := by rw [c4.2.2 _ _ (by omega), d2.2.2 _ _ (by omega), c2.2.2 _ _ (by omega)]
  have cn4 : hI B3 (rp d + 0) 1 = hI B2 (rp d + 0) 1 := by rw [c4.2.2 _ _ (by omega), d2.2.2 _ _ (by omega)]
  subst u1 u2 x1 x2 g1 g2
  have f1 : fr (fun p k => p = rp d + 10 ∧ k = u * 6 + x) B3 (jS B3 (rp d + 10) (u * 6 + x) g) := fr_j (by omega) ⟨rfl, rfl⟩
  have f2 : fr (fun p k => p = 67 ∧ k = 6 * (6 * b + u) + x) τ3 (jS τ3 67 (6 * (6 * b + u) + x) g) := fr_j (by omega) ⟨rfl, rfl⟩
  refine ⟨jS B3 (rp d + 10) (u * 6 + x) g, jS τ3 67 (6 * (6 * b + u) + x) g, ?_, ?_, fr_t (oR_cR oAC) (fr_j (by omega) (by unfold cR; omega)), fr_t (oM_d oSU) (fr_j (by omega) (by unfold mRd; omega)), Or.inl ⟨q3, a3, t3', v3, AL_f h3 (fun p k g w => hI_jS_ne (by omega)) f2 (fun p k w => by omega), by omega, ?_⟩⟩
  · have hbo : fX6_hasBoth d B3 (z32 u) (z32 x) = 1 := by
      unfold fX6_hasBoth
      rw [if_neg (by rw [hHd_p u3a (by rw [cn3]; exact u3b)]; exact i32_10), if_neg (by rw [hTd_p x3a (by rw [cn4]; exact x3b)]; exact i32_10)]
    rw [hR3.1, hbo, if_neg i10, show (6 : Int32) = z32 6 from z32_litn 6, z32_mul, z32_add, wI_h (by omega) (by omega) (by omega)]
  · rw [if_pos (c8q h3.2.1.2.2.2.1), show iG τ3 56 35 = z32 (hI τ3 56 35) from iG_h τ3 56 35, e35 oSU hb.1, show (6 : Int32) = z32 6 from z32_litn 6, z32_mul, z32_add, z32_mul, z32_add, wI_h (by omega) (by omega) (by omega)]
  · obtain ⟨r1, r2, r3, r4, r5, r6, r7⟩ := hR3
    refine ⟨r1, NR_f r2 f1 f2 (fun p k w => by omega) (fun p k w => by omega), RL_f hb.2.1 r2.2.1.2.1 r3 f1 f2 (fun p k w => by omega) (fun p k w => by omega), ?_, RF_f hb.2.1 r5 f1 f2 (fun p k w => by omega) (fun p k w => by omega), RSm_f hb.2.1 r6 f1 f2 (fun p k w => by omega) (fun p k w => by omega), RZ_f r7 (Int.le_refl _) f1 f2 (fun p k w => by omega) (fun p k w => by omega)⟩
    unfold RH
    rw [hI_jS_ne (by omega)]
    refine ⟨fun h w0 w1 => ?_, fun h w0 w1 => ?_⟩
    · obtain ⟨x1, x2, x3, x4⟩ := r4.1 h w0 w1
      refine ⟨?_, ?_, ?_, fun t y0 y1 => ?_⟩
      · rw [hI_jS_ne (by omega), hI_jS_ne (by omega)]; exact x1
      · rw [hI_jS_ne (by omega), hI_jS_ne (by omega)]; exact x2
      · rw [hI_jS_ne (by omega), hI_jS_ne (by omega)]; exact x3
      · rw [hI_jS (by omega) (by omega) (by omega) (by omega), hI_jS (by omega) (by omega) (by omega) (by omega)]
        by_cases e : h * 6 + t = u * 6 + x
        · rw [if_pos (by omega), if_pos e]
          exact ⟨rfl, by omega, by omega⟩
        · rw [if_neg (by omega), if_neg e]; exact x4 t y0 y1
    · obtain ⟨x1, x2⟩ := r4.2 h w0 w1
      have w0' : hI B3 (rp d + 0) 2 ≤ h := w0
      refine ⟨?_, fun t y0 y1 => ?_⟩
      · rw [hI_jS_ne (by omega)]; exact x1
      · rw [hI_jS (by omega) (by omega) (by omega) (by omega), if_neg (by omega)]; exact x2 t y0 y1
end HO

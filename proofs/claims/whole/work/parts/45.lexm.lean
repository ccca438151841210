/-! MY OWN: both sides go ahead by a word, a number or a sign -/
def advT (σ6 : zS) : Option zS := if (iG σ6 54 3) < (iG σ6 2 1) then bnr (fX9_byteAt σ6 (iG σ6 54 3)) fun v7 => if (fX5_isLetter v7) = 0 then bnr (fX9_byteAt σ6 (iG σ6 54 3)) fun v9 => if (fX5_isDigit v9) = 0 then bnr (fX5_scanSign σ6) fun σ11 => some σ11 else bnr (fX5_scanNumber σ6) fun σ13 => some σ13 else bnr (fX5_scanWord σ6) fun σ15 => some σ15 else bnd (iS σ6 54 5 1) fun σ17 => some σ17
def sdP (c : Int → Int) (a : Int) : Prop := 0 < a ∧ (isL (c (a - 1)) ∨ isD (c (a - 1)))
def sdT (c : Int → Int) (N a : Int) : Prop := sdP c a ∧ a < N ∧ (isL (c a) ∨ isD (c a))
section LZ
variable {A σ : zS} {c : Int → Int} {N k a fr tk ow nm nu fa pl x q se fp : Int} {m : Nat}
theorem adv_b (h : lv A a fr 4 ow nm nu fa pl) : fX5_advance A = some A := by
  have e := h.2.2.1
  simp (disch := omega) only [fX5_advance, z32_add, z32_sub, z32_mul, z32_neg, z32_litn, z32_lt, z32_le, z32_eq, iG_h, lG_h, iS_j, lS_k, aI_h, wI_h, aL_h, wL_h, bnd, bnr_s, bnc_s, ↓reduceIte, ieqT, ieqF, iltT, iltF, ileT, ileF, not_true, not_false_iff, e]
theorem adv_pre (hT : TX A c N) (h : lv A a fr tk ow nm nu 0 pl) (h4 : tk ≠ 4) (htk : 0 ≤ tk ∧ tk < 256) (h0 : 0 ≤ a) (h1 : a ≤ N) (hs : (tk = 2 ∨ tk = 3) ↔ sdP c a) (hn : ¬ sdT c N a) (hq : skT c N a q) : ∃ B, fX5_advance A = advT B ∧ oR A B ∧ lv B q q tk (-1) nm nu 0 pl := by
  have hN := hT.2.1
  have hq1 := hq.1
  have hq2 := hq.2.1
  obtain ⟨B, b1, b2, b3⟩ := cSkip_z hT h h0 hq
  obtain ⟨e1, e2, e3, e4, e5, e6, e7, e8⟩ := h
  obtain ⟨d1, d2, d3, d4, d5, d6, d7, d8⟩ := b3
  have hside : fX5_isSideBySide A = some (z32 0) := by
    by_cases ha : a < N
    · have bb := TX_b hT h0 ha
      by_cases g2 : tk = 2
      · have g3 : ¬ isL (c a) := fun g => hn ⟨hs.1 (Or.inl g2), ha, Or.inl g⟩
        have g4 : ¬ isD (c a) := fun g => hn ⟨hs.1 (Or.inl g2), ha, Or.inr g⟩
        simp (disch := omega) only [fX5_isSideBySide, fX5_isSideBySide_28, z32_add, z32_sub, z32_mul, z32_neg, z32_litn, z32_lt, z32_le, z32_eq, iG_h, lG_h, iS_j, lS_k, aI_h, wI_h, aL_h, wL_h, bnd, bnr_s, bnc_s, ↓reduceIte, ieqT, ieqF, iltT, iltF, ileT, ileF, not_true, not_false_iff, e1, e3, byte_z hT, isL_f g3 bb.1 bb.2, isD_f g4 bb.1 bb.2]
      · by_cases g5 : tk = 3
        · have g3 : ¬ isL (c a) := fun g => hn ⟨hs.1 (Or.inr g5), ha, Or.inl g⟩
          have g4 : ¬ isD (c a) := fun g => hn ⟨hs.1 (Or.inr g5), ha, Or.inr g⟩
          simp (disch := omega) only [fX5_isSideBySide, fX5_isSideBySide_28, z32_add, z32_sub, z32_mul, z32_neg, z32_litn, z32_lt, z32_le, z32_eq, iG_h, lG_h, iS_j, lS_k, aI_h, wI_h, aL_h, wL_h, bnd, bnr_s, bnc_s, ↓reduceIte, ieqT, ieqF, iltT, iltF, ileT, ileF, not_true, not_false_iff, e1, e3, byte_z hT, isL_f g3 bb.1 bb.2, isD_f g4 bb.1 bb.2]
        · simp (disch := omega) only [fX5_isSideBySide, z32_add, z32_sub, z32_mul, z32_neg, z32_litn, z32_lt, z32_le, z32_eq, iG_h, lG_h, iS_j, lS_k, aI_h, wI_h, aL_h, wL_h, bnd, bnr_s, bnc_s, ↓reduceIte, ieqT, ieqF, iltT, iltF, ileT, ileF, not_true, not_false_iff, e1, e3, byte_z hT]
    · have g3 : ¬ isL 0 := by unfold isL; omega
      have g4 : ¬ isD 0 := by unfold isD; omega
      by_cases g2 : tk = 2
      · simp (disch := omega) only [fX5_isSideBySide, fX5_isSideBySide_28, z32_add, z32_sub, z32_mul, z32_neg, z32_litn, z32_lt, z32_le, z32_eq, iG_h, lG_h, iS_j, lS_k, aI_h, wI_h, aL_h, wL_h, bnd, bnr_s, bnc_s, ↓reduceIte, ieqT, ieqF, iltT, iltF, ileT, ileF, not_true, not_false_iff, e1, e3, byte_n hT, isL_f g3, isD_f g4]
      · by_cases g5 : tk = 3
        · simp (disch := omega) only [fX5_isSideBySide, fX5_isSideBySide_28, z32_add, z32_sub, z32_mul, z32_neg, z32_litn, z32_lt, z32_le, z32_eq, iG_h, lG_h, iS_j, lS_k, aI_h, wI_h, aL_h, wL_h, bnd, bnr_s, bnc_s, ↓reduceIte, ieqT, ieqF, iltT, iltF, ileT, ileF, not_true, not_false_iff, e1, e3, byte_n hT, isL_f g3, isD_f g4]
        · simp (disch := omega) only [fX5_isSideBySide, z32_add, z32_sub, z32_mul, z32_neg, z32_litn, z32_lt, z32_le, z32_eq, iG_h, lG_h, iS_j, lS_k, aI_h, wI_h, aL_h, wL_h, bnd, bnr_s, bnc_s, ↓reduceIte, ieqT, ieqF, iltT, iltF, ileT, ileF, not_true, not_false_iff, e1, e3, byte_n hT]
  refine ⟨jS (jS B 54 4 q) 54 6 (-1), ?_, oR_t b2 (oR_t oR_j oR_j), ?_⟩
  · simp (disch := omega) only [fX5_advance, z32_add, z32_sub, z32_mul, z32_neg, z32_litn, z32_lt, z32_le, z32_eq, iG_h, lG_h, iS_j, lS_k, aI_h, wI_h, aL_h, wL_h, bnd, bnr_s, bnc_s, ↓reduceIte, ieqT, ieqF, iltT, iltF, ileT, ileF, not_true, not_false_iff, e3, hside, b1, d1]
    simp (disch := omega) only [advT, z32_add, z32_sub, z32_mul, z32_neg, z32_litn, z32_lt, z32_le, z32_eq, iG_h, lG_h, iS_j, lS_k, aI_h, wI_h, aL_h, wL_h, bnd, bnr_s, bnc_s, ↓reduceIte, ieqT, ieqF, iltT, iltF, ileT, ileF, not_true, not_false_iff]
  · simp (disch := omega) only [lv, hI_jS, ↓reduceIte, ieqT, ieqF, iltT, iltF, ileT, ileF, not_true, not_false_iff, d1, d3, d5, d6, d7, d8]
    simp
theorem adv_side (hT : TX A c N) (h : lv A a fr tk ow nm nu 0 pl) (h4 : tk ≠ 4) (htk : 0 ≤ tk ∧ tk < 256) (h0 : 0 ≤ a) (hs : (tk = 2 ∨ tk = 3) ↔ sdP c a) (hn : sdT c N a) : ∃ B, fX5_advance A = some B ∧ oR A B ∧ lv B a fr 4 (-1) nm nu 1 a := by
  have hN := hT.2.1
  obtain ⟨n1, n2, n3⟩ := hn
  have bb := TX_b hT h0 n2
  obtain ⟨B, b1, b2, b3⟩ := fail_0 (k := 1) (x := a) h (by omega) (by omega)
  obtain ⟨e1, e2, e3, e4, e5, e6, e7, e8⟩ := h
  refine ⟨B, ?_, b2, b3⟩
  have hside : fX5_isSideBySide A = some (z32 1) := by
    have h28 : fX5_isSideBySide_28 A (z32 (c a)) = some (z32 1) := by
      by_cases g : isL (c a)
      · simp (disch := omega) only [fX5_isSideBySide_28, fX5_isSideBySide_42, z32_add, z32_sub, z32_mul, z32_neg, z32_litn, z32_lt, z32_le, z32_eq, iG_h, lG_h, iS_j, lS_k, aI_h, wI_h, aL_h, wL_h, bnd, bnr_s, bnc_s, ↓reduceIte, ieqT, ieqF, iltT, iltF, ileT, ileF, not_true, not_false_iff, isL_t g]
      · have g2 : isD (c a) := by rcases n3 with n | n; exact absurd n g; exact n
        simp (disch := omega) only [fX5_isSideBySide_28, fX5_isSideBySide_42, z32_add, z32_sub, z32_mul, z32_neg, z32_litn, z32_lt, z32_le, z32_eq, iG_h, lG_h, iS_j, lS_k, aI_h, wI_h, aL_h, wL_h, bnd, bnr_s, bnc_s, ↓reduceIte, ieqT, ieqF, iltT, iltF, ileT, ileF, not_true, not_false_iff, isL_f g bb.1 bb.2, isD_t g2]
    by_cases g2 : tk = 2
    · simp (disch := omega) only [fX5_isSideBySide, z32_add, z32_sub, z32_mul, z32_neg, z32_litn, z32_lt, z32_le, z32_eq, iG_h, lG_h, iS_j, lS_k, aI_h, wI_h, aL_h, wL_h, bnd, bnr_s, bnc_s, ↓reduceIte, ieqT, ieqF, iltT, iltF, ileT, ileF, not_true, not_false_iff, e1, e3, byte_z hT, h28]
    · have g3 : tk = 3 := by rcases hs.2 n1 with n | n; exact absurd n g2; exact n
      simp (disch := omega) only [fX5_isSideBySide, z32_add, z32_sub, z32_mul, z32_neg, z32_litn, z32_lt, z32_le, z32_eq, iG_h, lG_h, iS_j, lS_k, aI_h, wI_h, aL_h, wL_h, bnd, bnr_s, bnc_s, ↓reduceIte, ieqT, ieqF, iltT, iltF, ileT, ileF, not_true, not_false_iff, e1, e3, byte_z hT, h28]
  simp (disch := omega) only [fX5_advance, z32_add, z32_sub, z32_mul, z32_neg, z32_litn, z32_lt, z32_le, z32_eq, iG_h, lG_h, iS_j, lS_k, aI_h, wI_h, aL_h, wL_h, bnd, bnr_s, bnc_s, ↓reduceIte, ieqT, ieqF, iltT, iltF, ileT, ileF, not_true, not_false_iff, e1, e3, hside, b1]
theorem adT_end (hT : TX A c N) (h : lv A q q tk (-1) nm nu 0 pl) (hq : q = N) : ∃ B, advT A = some B ∧ oR A B ∧ lv B q q 1 (-1) nm nu 0 pl := by
  have hN := hT.2.1
  have hs := hT.1
  obtain ⟨e1, e2, e3, e4, e5, e6, e7, e8⟩ := h
  refine ⟨jS A 54 5 1, ?_, oR_j, ?_⟩
  · simp (disch := omega) only [advT, z32_add, z32_sub, z32_mul, z32_neg, z32_litn, z32_lt, z32_le, z32_eq, iG_h, lG_h, iS_j, lS_k, aI_h, wI_h, aL_h, wL_h, bnd, bnr_s, bnc_s, ↓reduceIte, ieqT, ieqF, iltT, iltF, ileT, ileF, not_true, not_false_iff, e1, hs]
  · simp (disch := omega) only [lv, hI_jS, ↓reduceIte, ieqT, ieqF, iltT, iltF, ileT, ileF, not_true, not_false_iff, e1, e2, e4, e5, e6, e7, e8]
    simp
theorem adT_word (hT : TX A c N) (hO : OWN A) (h : lv A q q tk (-1) nm nu 0 pl) (h0 : 0 ≤ q) (hq : q < N) (hm : rnT isL c N q m) (h1 : 1 ≤ m) (h6 : m ≤ 6) : ∃ B own, advT A = some B ∧ oR A B ∧ lv B (q + m) q 2 own (pk5 (ltr c q) m) nu 0 pl ∧ owOf (pk5 (ltr c q) m) own := by
  have hN := hT.2.1
  have hs := hT.1
  have hl : isL (c q) := by simpa using hm.2.1 0 (by omega)
  obtain ⟨e1, e2, e3, e4, e5, e6, e7, e8⟩ := h
  obtain ⟨B, own, b1, b2, b3, b4⟩ := cWord_z (A := jS (jS A 54 5 2) 54 7 0) (nu := nu) (pl := pl) (TX_o hT (oR_t oR_j oR_j)) (fun i g0 g1 => by rw [hI_jS_ne (by omega), hI_jS_ne (by omega)]; exact hO i g0 g1) (by
    simp (disch := omega) only [lv, hI_jS, ↓reduceIte, ieqT, ieqF, iltT, iltF, ileT, ileF, not_true, not_false_iff, e1, e2, e4, e6, e7, e8]
    simp) h0 hm h6
  refine ⟨B, own, ?_, oR_t (oR_t oR_j oR_j) b2, b3, b4⟩
  simp (disch := omega) only [advT, z32_add, z32_sub, z32_mul, z32_neg, z32_litn, z32_lt, z32_le, z32_eq, iG_h, lG_h, iS_j, lS_k, aI_h, wI_h, aL_h, wL_h, bnd, bnr_s, bnc_s, ↓reduceIte, ieqT, ieqF, iltT, iltF, ileT, ileF, not_true, not_false_iff, e1, hs, byte_z hT, isL_t hl, fX5_scanWord, b1]
theorem adT_wordL (hT : TX A c N) (h : lv A q q tk (-1) nm nu 0 pl) (h0 : 0 ≤ q) (hq : q < N) (hm : rnT isL c N q m) (h6 : 7 ≤ m) : ∃ B nm', advT A = some B ∧ oR A B ∧ lv B (q + 6) q 4 (-1) nm' nu 1 (q + 6) := by
  have hN := hT.2.1
  have hs := hT.1
  have hl : isL (c q) := by simpa using hm.2.1 0 (by omega)
  obtain ⟨e1, e2, e3, e4, e5, e6, e7, e8⟩ := h
  obtain ⟨B, nm', b1, b2, b3⟩ := cWordL_z (A := jS (jS A 54 5 2) 54 7 0) (nu := nu) (pl := pl) (TX_o hT (oR_t oR_j oR_j)) (by
    simp (disch := omega) only [lv, hI_jS, ↓reduceIte, ieqT, ieqF, iltT, iltF, ileT, ileF, not_true, not_false_iff, e1, e2, e4, e6, e7, e8]
    simp) h0 hm h6
  refine ⟨B, nm', ?_, oR_t (oR_t oR_j oR_j) b2, b3⟩
  simp (disch := omega) only [advT, z32_add, z32_sub, z32_mul, z32_neg, z32_litn, z32_lt, z32_le, z32_eq, iG_h, lG_h, iS_j, lS_k, aI_h, wI_h, aL_h, wL_h, bnd, bnr_s, bnc_s, ↓reduceIte, ieqT, ieqF, iltT, iltF, ileT, ileF, not_true, not_false_iff, e1, hs, byte_z hT, isL_t hl, fX5_scanWord, b1]
theorem LD_x (h : isD x) : ¬ isL x := by unfold isD at h; unfold isL; omega
theorem adT_num (hT : TX A c N) (h : lv A q q tk (-1) nm nu 0 pl) (h0 : 0 ≤ q) (hq : q < N) (hm : rnT isD c N q m) (h1 : 1 ≤ m) (h6 : m ≤ 4) : ∃ B, advT A = some B ∧ oR A B ∧ lv B (q + m) q 3 (-1) nm (nvl c q m) 0 pl := by
  have hN := hT.2.1
  have hs := hT.1
  have hl : isD (c q) := by simpa using hm.2.1 0 (by omega)
  have bb := TX_b hT h0 hq
  obtain ⟨e1, e2, e3, e4, e5, e6, e7, e8⟩ := h
  obtain ⟨B, b1, b2, b3⟩ := cNum_z (A := jS (jS A 54 5 3) 54 8 0) (nm := nm) (pl := pl) (TX_o hT (oR_t oR_j oR_j)) (by
    simp (disch := omega) only [lv, hI_jS, ↓reduceIte, ieqT, ieqF, iltT, iltF, ileT, ileF, not_true, not_false_iff, e1, e2, e4, e5, e7, e8]
    simp) h0 hm h6
  refine ⟨B, ?_, oR_t (oR_t oR_j oR_j) b2, b3⟩
  simp (disch := omega) only [advT, z32_add, z32_sub, z32_mul, z32_neg, z32_litn, z32_lt, z32_le, z32_eq, iG_h, lG_h, iS_j, lS_k, aI_h, wI_h, aL_h, wL_h, bnd, bnr_s, bnc_s, ↓reduceIte, ieqT, ieqF, iltT, iltF, ileT, ileF, not_true, not_false_iff, e1, hs, byte_z hT, isL_f (LD_x hl) bb.1 bb.2, isD_t hl, fX5_scanNumber, b1]
theorem adT_numL (hT : TX A c N) (h : lv A q q tk (-1) nm nu 0 pl) (h0 : 0 ≤ q) (hq : q < N) (hm : rnT isD c N q m) (h6 : 5 ≤ m) : ∃ B nu', advT A = some B ∧ oR A B ∧ lv B (q + 4) q 4 (-1) nm nu' 1 (q + 4) := by
  have hN := hT.2.1
  have hs := hT.1
  have hl : isD (c q) := by simpa using hm.2.1 0 (by omega)
  have bb := TX_b hT h0 hq
  obtain ⟨e1, e2, e3, e4, e5, e6, e7, e8⟩ := h
  obtain ⟨B, nu', b1, b2, b3⟩ := cNumL_z (A := jS (jS A 54 5 3) 54 8 0) (nm := nm) (pl := pl) (TX_o hT (oR_t oR_j oR_j)) (by
    simp (disch := omega) only [lv, hI_jS, ↓reduceIte, ieqT, ieqF, iltT, iltF, ileT, ileF, not_true, not_false_iff, e1, e2, e4, e5, e7, e8]
    simp) h0 hm h6
  refine ⟨B, nu', ?_, oR_t (oR_t oR_j oR_j) b2, b3⟩
  simp (disch := omega) only [advT, z32_add, z32_sub, z32_mul, z32_neg, z32_litn, z32_lt, z32_le, z32_eq, iG_h, lG_h, iS_j, lS_k, aI_h, wI_h, aL_h, wL_h, bnd, bnr_s, bnc_s, ↓reduceIte, ieqT, ieqF, iltT, iltF, ileT, ileF, not_true, not_false_iff, e1, hs, byte_z hT, isL_f (LD_x hl) bb.1 bb.2, isD_t hl, fX5_scanNumber, b1]
theorem adT_sign (hT : TX A c N) (h : lv A q q tk (-1) nm nu 0 pl) (h0 : 0 ≤ q) (hq : q < N) (hl : ¬ isL (c q)) (hd : ¬ isD (c q)) (hS : isS (c q)) : ∃ B, advT A = some B ∧ oR A B ∧ lv B (q + 1) q (c q) (-1) nm nu 0 pl := by
  have hN := hT.2.1
  have hs := hT.1
  have bb := TX_b hT h0 hq
  obtain ⟨e1, e2, e3, e4, e5, e6, e7, e8⟩ := h
  obtain ⟨r, r1, r2, r3⟩ := sgn_z bb.1 bb.2
  have r4 := r3.2 hS
  refine ⟨jS (jS A 54 5 (c q)) 54 3 (q + 1), ?_, oR_t oR_j oR_j, ?_⟩
  · simp (disch := omega) only [advT, z32_add, z32_sub, z32_mul, z32_neg, z32_litn, z32_lt, z32_le, z32_eq, iG_h, lG_h, iS_j, lS_k, aI_h, wI_h, aL_h, wL_h, bnd, bnr_s, bnc_s, ↓reduceIte, ieqT, ieqF, iltT, iltF, ileT, ileF, not_true, not_false_iff, e1, hs, byte_z hT, isL_f hl bb.1 bb.2, isD_f hd bb.1 bb.2, fX5_scanSign, r1, hI_jS]
  · simp (disch := omega) only [lv, hI_jS, ↓reduceIte, ieqT, ieqF, iltT, iltF, ileT, ileF, not_true, not_false_iff, e2, e4, e5, e6, e7, e8]
    simp
theorem adT_signB (hT : TX A c N) (h : lv A q q tk (-1) nm nu 0 pl) (h0 : 0 ≤ q) (hq : q < N) (hl : ¬ isL (c q)) (hd : ¬ isD (c q)) (hS : ¬ isS (c q)) : ∃ B, advT A = some B ∧ oR A B ∧ lv B q q 4 (-1) nm nu 1 q := by
  have hN := hT.2.1
  have hs := hT.1
  have bb := TX_b hT h0 hq
  obtain ⟨B, b1, b2, b3⟩ := fail_0 (k := 1) (x := q) h (by omega) (by omega)
  obtain ⟨e1, e2, e3, e4, e5, e6, e7, e8⟩ := h
  obtain ⟨r, r1, r2, r3⟩ := sgn_z bb.1 bb.2
  have r4 : ¬ 0 ≤ r := fun g => hS (r3.1 g)
  refine ⟨B, ?_, b2, b3⟩
  simp (disch := omega) only [advT, z32_add, z32_sub, z32_mul, z32_neg, z32_litn, z32_lt, z32_le, z32_eq, iG_h, lG_h, iS_j, lS_k, aI_h, wI_h, aL_h, wL_h, bnd, bnr_s, bnc_s, ↓reduceIte, ieqT, ieqF, iltT, iltF, ileT, ileF, not_true, not_false_iff, e1, hs, byte_z hT, isL_f hl bb.1 bb.2, isD_f hd bb.1 bb.2, fX5_scanSign, r1, b1]
-- the other side
def mv (σ : zS) (N sg sa se va wd fk fp la : Int) : Prop := hI σ 56 2 = N ∧ hI σ 56 3 = sg ∧ hI σ 56 4 = sa ∧ hI σ 56 5 = se ∧ hI σ 56 6 = va ∧ hL σ 56 7 = wd ∧ hI σ 56 8 = fk ∧ hI σ 56 9 = fp ∧ hI σ 56 12 = la
def oM (σ τ : zS) : Prop := τ.2.2 = σ.2.2 ∧ (∀ p k, p ≠ 56 → hI τ p k = hI σ p k ∧ hL τ p k = hL σ p k) ∧ (∀ k, 0 ≤ k → (k < 3 ∨ 6 < k) → k ≠ 8 → k ≠ 9 → k ≠ 12 → hI τ 56 k = hI σ 56 k) ∧ (∀ k, 0 ≤ k → k ≠ 7 → hL τ 56 k = hL σ 56 k)
theorem oM_r (σ : zS) : oM σ σ := ⟨rfl, fun _ _ _ => ⟨rfl, rfl⟩, fun _ _ _ _ _ _ => rfl, fun _ _ _ => rfl⟩
theorem oM_t {A B C : zS} (h1 : oM A B) (h2 : oM B C) : oM A C := ⟨h2.1.trans h1.1, fun p k a => ⟨(h2.2.1 p k a).1.trans (h1.2.1 p k a).1, (h2.2.1 p k a).2.trans (h1.2.1 p k a).2⟩, fun k a b d e f => (h2.2.2.1 k a b d e f).trans (h1.2.2.1 k a b d e f), fun k a b => (h2.2.2.2 k a b).trans (h1.2.2.2 k a b)⟩
theorem oM_j {i v : Int} (hi : (3 ≤ i ∧ i ≤ 6) ∨ i = 8 ∨ i = 9 ∨ i = 12) (h1 : -2147483648 ≤ v) (h2 : v < 2147483648) : oM σ (jS σ 56 i v) := ⟨rfl, fun p k a => ⟨hI_jS_ne a, rfl⟩, fun k a b d e f => by rw [hI_jS (by omega) a h1 h2, if_neg (by omega)], fun _ _ _ => rfl⟩
theorem oM_k {v : Int} (h1 : -9223372036854775808 ≤ v) (h2 : v < 9223372036854775808) : oM σ (kS σ 56 7 v) := ⟨rfl, fun p k a => ⟨rfl, hL_kS_ne a⟩, fun _ _ _ _ _ _ => rfl, fun k a b => by rw [hL_kS (by omega) a h1 h2, if_neg b]⟩
def MX (σ : zS) (c : Int → Int) (N : Int) : Prop := hI σ 56 2 = N ∧ (0 ≤ N ∧ N ≤ 1600) ∧ ∀ k, 0 ≤ k → k < N → hI σ 57 k = c k ∧ 0 ≤ c k ∧ c k ≤ 255
theorem MX_o {τ : zS} (h : MX σ c N) (o : oM σ τ) : MX τ c N := ⟨(o.2.2.1 2 (by omega) (by omega) (by omega) (by omega) (by omega)).trans h.1, h.2.1, fun k g0 g1 => ⟨(o.2.1 57 k (by omega)).1.trans (h.2.2 k g0 g1).1, (h.2.2 k g0 g1).2⟩⟩
theorem misL_t (h : isL x) : fX11_isLetter (z32 x) = z32 1 := isL_t h
theorem misL_f (h : ¬ isL x) (h1 : 0 ≤ x) (h2 : x ≤ 255) : fX11_isLetter (z32 x) = z32 0 := isL_f h h1 h2
theorem misD_t (h : isD x) : fX11_isDigit (z32 x) = z32 1 := isD_t h
theorem misD_f (h : ¬ isD x) (h1 : 0 ≤ x) (h2 : x ≤ 255) : fX11_isDigit (z32 x) = z32 0 := isD_f h h1 h2
theorem mSkip_z (hT : MX σ c N) (h0 : 0 ≤ a) (hq : skT c N a q) (hse : hI σ 56 5 = a) : fX11_ahead σ = fX11_ahead_41 (z32 q) σ := by
  have hN := hT.2.1
  have hs := hT.1
  have hq1 := hq.1
  have hq2 := hq.2.1
  have key : ∀ (d : Nat) (f : Nat) (p : Int), a ≤ p → q - p = d → d < f → fX11_ahead_5 f (z32 p) σ = fX11_ahead_41 (z32 q) σ := by
    intro d
    induction d with
    | zero =>
      intro f p hp hd hf
      obtain ⟨g, rfl⟩ : ∃ g, f = g + 1 := ⟨f - 1, by omega⟩
      have : p = q := by omega
      subst this
      by_cases g2 : p = N
      · simp (disch := omega) only [fX11_ahead_5, z32_add, z32_sub, z32_mul, z32_neg, z32_litn, z32_lt, z32_le, z32_eq, iG_h, lG_h, iS_j, lS_k, aI_h, wI_h, aL_h, wL_h, bnd, bnr_s, bnc_s, ↓reduceIte, ieqT, ieqF, iltT, iltF, ileT, ileF, not_true, not_false_iff, hs]
      · obtain ⟨b1, b2, b3⟩ := hT.2.2 p (by omega) (by omega)
        have g3 : ¬ isB (c p) := by rcases hq.2.2.2 with g | g; exact absurd g g2; exact g
        unfold isB at g3
        simp (disch := omega) only [fX11_ahead_5, z32_add, z32_sub, z32_mul, z32_neg, z32_litn, z32_lt, z32_le, z32_eq, iG_h, lG_h, iS_j, lS_k, aI_h, wI_h, aL_h, wL_h, bnd, bnr_s, bnc_s, ↓reduceIte, ieqT, ieqF, iltT, iltF, ileT, ileF, not_true, not_false_iff, hs, b1]
    | succ d ih =>
      intro f p hp hd hf
      obtain ⟨g, rfl⟩ : ∃ g, f = g + 1 := ⟨f - 1, by omega⟩
      have h1 := ih g (p + 1) (by omega) (by omega) (by omega)
      obtain ⟨b1, b2, b3⟩ := hT.2.2 p (by omega) (by omega)
      have g3 := hq.2.2.1 p hp (by omega)
      rcases g3 with g3 | g3
      · simp (disch := omega) only [fX11_ahead_5, fX11_ahead_35, z32_add, z32_sub, z32_mul, z32_neg, z32_litn, z32_lt, z32_le, z32_eq, iG_h, lG_h, iS_j, lS_k, aI_h, wI_h, aL_h, wL_h, bnd, bnr_s, bnc_s, ↓reduceIte, ieqT, ieqF, iltT, iltF, ileT, ileF, not_true, not_false_iff, hs, b1, g3]
        exact h1
      · simp (disch := omega) only [fX11_ahead_5, fX11_ahead_35, z32_add, z32_sub, z32_mul, z32_neg, z32_litn, z32_lt, z32_le, z32_eq, iG_h, lG_h, iS_j, lS_k, aI_h, wI_h, aL_h, wL_h, bnd, bnr_s, bnc_s, ↓reduceIte, ieqT, ieqF, iltT, iltF, ileT, ileF, not_true, not_false_iff, hs, b1, g3]
        exact h1
  have := key (q - a).toNat zF a (by omega) (by omega) (by unfold zF; omega)
  simp only [fX11_ahead, iG_h, hse]
  exact this
theorem sh8 {w y : Int} (h0 : 0 ≤ w) (h1 : w < 1099511627776) (h2 : 0 ≤ y) (h3 : y ≤ 255) : (z64 w <<< (((8 : Int32)).toInt64 &&& 63)) ||| (z32 y).toInt64 = z64 (w * 256 + y) := by
  rw [z32_64 (by omega) (by omega)]
  obtain ⟨n, rfl⟩ := Int.eq_ofNat_of_zero_le h0
  obtain ⟨i, rfl⟩ := Int.eq_ofNat_of_zero_le h2
  rw [show z64 (n : Int) = Int64.ofNat n from Int64.ofInt_eq_ofNat, show z64 (i : Int) = Int64.ofNat i from Int64.ofInt_eq_ofNat, show (n : Int) * 256 + (i : Int) = ((n * 256 + i : Nat) : Int) by simp, show z64 ((n * 256 + i : Nat) : Int) = Int64.ofNat (n * 256 + i) from Int64.ofInt_eq_ofNat]
  apply Int64.toBitVec_inj.1
  have e : (((8 : Int32)).toInt64 &&& 63).toBitVec.smod 64 = 8#64 := by decide
  show (BitVec.ofNat 64 n <<< ((((8 : Int32)).toInt64 &&& 63).toBitVec.smod 64)) ||| BitVec.ofNat 64 i = BitVec.ofNat 64 (n * 256 + i)
  rw [e]
  apply BitVec.eq_of_toNat_eq
  simp only [BitVec.toNat_or, BitVec.toNat_ofNat, BitVec.shiftLeft_eq', BitVec.toNat_shiftLeft]
  have e1 : n % 2 ^ 64 = n := Nat.mod_eq_of_lt (by omega)
  have e2 : i % 2 ^ 64 = i := Nat.mod_eq_of_lt (by omega)
  have e3 : (8 % 2 ^ 64 : Nat) = 8 := by decide
  rw [e1, e2, e3, show n <<< 8 = n * 256 by rw [Nat.shiftLeft_eq], Nat.mod_eq_of_lt (by omega : n * 256 < 2 ^ 64), Nat.mod_eq_of_lt (by omega : n * 256 + i < 2 ^ 64)]
  have := Nat.two_pow_add_eq_or_of_lt (i := 8) (b := i) (by omega) n
  rw [show 2 ^ 8 * n = n * 256 by omega] at this
  exact this.symm
def mn6 (n : Nat) : Nat := if n ≤ 6 then n else 6
theorem pk8_b {l : Nat → Int} (n : Nat) (hn : n ≤ 6) (hl : ∀ i, i < n → 1 ≤ l i ∧ l i ≤ 26) : 0 ≤ pk8 l n ∧ pk8 l n < 256 ^ n := by
  induction n with
  | zero => simp [pk8]
  | succ n ih =>
    have h1 := ih (by omega) (fun i hi => hl i (by omega))
    have h2 := hl n (by omega)
    simp only [pk8]
    rw [Int.pow_succ]
    omega
theorem pk8_c {l : Nat → Int} (n : Nat) (hn : n ≤ 6) (hl : ∀ i, i < n → 1 ≤ l i ∧ l i ≤ 26) : 0 ≤ pk8 l n ∧ pk8 l n < 281474976710656 := by
  have h := pk8_b n hn hl
  refine ⟨h.1, Int.lt_of_lt_of_le h.2 ?_⟩
  rcases (by omega : n = 0 ∨ n = 1 ∨ n = 2 ∨ n = 3 ∨ n = 4 ∨ n = 5 ∨ n = 6) with g | g | g | g | g | g | g <;> subst g <;> decide
theorem pk8_d {l : Nat → Int} (n : Nat) (hn : n ≤ 5) (hl : ∀ i, i < n → 1 ≤ l i ∧ l i ≤ 26) : 0 ≤ pk8 l n ∧ pk8 l n < 1099511627776 := by
  have h := pk8_b n (by omega) hl
  refine ⟨h.1, Int.lt_of_lt_of_le h.2 ?_⟩
  rcases (by omega : n = 0 ∨ n = 1 ∨ n = 2 ∨ n = 3 ∨ n = 4 ∨ n = 5) with g | g | g | g | g | g <;> subst g <;> decide
/-- the loop over a word: la is what stood at lexAt -/
theorem mWord_z {la : Int} (hT : MX σ c N) (h : mv σ N 1 q se 0 0 0 fp la) (hla : la = -1 ∨ la = q) (h0 : 0 ≤ q) (hm : rnT isL c N q m) : ∃ τ, fX11_ahead_204 zF (z32 q) (z32 1) (z32 0) (z32 6) (z32 0) σ = some τ ∧ oM σ τ ∧ mv τ N 1 q (q + m) 0 (pk8 (ltr c q) (mn6 m)) 0 fp (if la = -1 then (if 7 ≤ m then q + 6 else -1) else la) := by
  obtain ⟨hm1, hm2, hm3⟩ := hm
  have hN := hT.2.1
  have lb : ∀ i, i < m → 1 ≤ ltr c q i ∧ ltr c q i ≤ 26 := fun i hi => by have := hm2 i hi; unfold isL at this; unfold ltr; omega
  have key : ∀ (d n : Nat) (f : Nat) (σ : zS), MX σ c N → mv σ N 1 q se 0 (pk8 (ltr c q) (mn6 n)) 0 fp (if la = -1 then (if 7 ≤ n then q + 6 else -1) else la) → n + d = m → d < f → ∃ τ, fX11_ahead_204 f (z32 (q + n)) (z32 1) (z32 0) (z32 6) (z32 n) σ = some τ ∧ oM σ τ ∧ mv τ N 1 q (q + m) 0 (pk8 (ltr c q) (mn6 m)) 0 fp (if la = -1 then (if 7 ≤ m then q + 6 else -1) else la) := by
    intro d
    induction d with
    | zero =>
      intro n f σ hT h hd hf
      obtain ⟨g, rfl⟩ : ∃ g, f = g + 1 := ⟨f - 1, by omega⟩
      have : n = m := by omega
      subst this
      obtain ⟨e1, e2, e3, e4, e5, e6, e7, e8, e9⟩ := h
      refine ⟨jS σ 56 5 (q + n), ?_, oM_j (by omega) (by omega) (by omega), ?_⟩
      · rcases hm3 with h3 | h3
        · simp (disch := omega) only [fX11_ahead_204, fX11_ahead_334, z32_add, z32_sub, z32_mul, z32_neg, z32_litn, z32_lt, z32_le, z32_eq, iG_h, lG_h, iS_j, lS_k, aI_h, wI_h, aL_h, wL_h, bnd, bnr_s, bnc_s, ↓reduceIte, ieqT, ieqF, iltT, iltF, ileT, ileF, not_true, not_false_iff, e1]
        · by_cases g2 : q + n = N
          · simp (disch := omega) only [fX11_ahead_204, fX11_ahead_334, z32_add, z32_sub, z32_mul, z32_neg, z32_litn, z32_lt, z32_le, z32_eq, iG_h, lG_h, iS_j, lS_k, aI_h, wI_h, aL_h, wL_h, bnd, bnr_s, bnc_s, ↓reduceIte, ieqT, ieqF, iltT, iltF, ileT, ileF, not_true, not_false_iff, e1]
          · obtain ⟨b1, b2, b3⟩ := hT.2.2 (q + n) (by omega) (by omega)
            simp (disch := omega) only [fX11_ahead_204, fX11_ahead_334, z32_add, z32_sub, z32_mul, z32_neg, z32_litn, z32_lt, z32_le, z32_eq, iG_h, lG_h, iS_j, lS_k, aI_h, wI_h, aL_h, wL_h, bnd, bnr_s, bnc_s, ↓reduceIte, ieqT, ieqF, iltT, iltF, ileT, ileF, not_true, not_false_iff, e1, b1, misL_f h3 b2 b3]
      · simp (disch := omega) only [mv, hI_jS, hL_jS, ↓reduceIte, ieqT, ieqF, iltT, iltF, ileT, ileF, not_true, not_false_iff, e1, e2, e3, e5, e6, e7, e8, e9]
        simp
    | succ d ih =>
      intro n f σ hT h hd hf
      obtain ⟨g, rfl⟩ : ∃ g, f = g + 1 := ⟨f - 1, by omega⟩
      obtain ⟨e1, e2, e3, e4, e5, e6, e7, e8, e9⟩ := h
      obtain ⟨b1, b2, b3⟩ := hT.2.2 (q + n) (by omega) (by omega)
      have hl := hm2 n (by omega)
      have hl' : 97 ≤ c (q + n) ∧ c (q + n) ≤ 122 := hl
      by_cases g6 : n < 6
      · have pb := pk8_d (l := ltr c q) n (by omega) (fun i hi => lb i (by omega))
        have m6 : mn6 n = n := by unfold mn6; rw [if_pos (by omega)]
        have m7 : mn6 (n + 1) = n + 1 := by unfold mn6; rw [if_pos (by omega)]
        have x7 : (if la = -1 then (if 7 ≤ n then q + 6 else -1) else la) = la := by
          by_cases hz : la = -1
          · rw [if_pos hz, if_neg (by omega), hz]
          · rw [if_neg hz]
        have x8 : (if la = -1 then (if 7 ≤ n + 1 then q + 6 else -1) else la) = la := by
          by_cases hz : la = -1
          · rw [if_pos hz, if_neg (by omega), hz]
          · rw [if_neg hz]
        rw [m6] at e6
        rw [x7] at e9
        have s8 := sh8 (w := pk8 (ltr c q) n) (y := c (q + n)) pb.1 pb.2 b2 b3
        have pk : pk8 (ltr c q) n * 256 + c (q + n) = pk8 (ltr c q) (n + 1) := by
          simp only [pk8, ltr]; omega
        rw [pk] at s8
        have pb2 := pk8_c (l := ltr c q) (n + 1) (by omega) (fun i hi => lb i (by omega))
        obtain ⟨τ, t1, t2, t3⟩ := ih (n + 1) g (kS σ 56 7 (pk8 (ltr c q) (n + 1))) (MX_o hT (oM_k (by omega) (by omega))) (by
          rw [m7, x8]
          simp (disch := omega) only [mv, hI_kS, hL_kS, ↓reduceIte, ieqT, ieqF, iltT, iltF, ileT, ileF, not_true, not_false_iff, e1, e2, e3, e4, e5, e7, e8, e9]
          simp) (by omega) (by omega)
        refine ⟨τ, ?_, oM_t (oM_k (by omega) (by omega)) t2, t3⟩
        rw [show (q + ((n + 1 : Nat) : Int)) = q + n + 1 by omega, show ((n + 1 : Nat) : Int) = (n : Int) + 1 by omega] at t1
        rw [z32_litn] at s8
        simp (disch := omega) only [fX11_ahead_204, fX11_ahead_243, fX11_ahead_263, fX11_ahead_293, fX11_ahead_325, z32_add, z32_sub, z32_mul, z32_neg, z32_litn, z32_lt, z32_le, z32_eq, iG_h, lG_h, iS_j, lS_k, aI_h, wI_h, aL_h, wL_h, bnd, bnr_s, bnc_s, ↓reduceIte, ieqT, ieqF, iltT, iltF, ileT, ileF, not_true, not_false_iff, e1, b1, misL_t hl, e6, s8]
        exact t1
      · have m6 : mn6 n = 6 := by unfold mn6; split <;> omega
        have m7 : mn6 (n + 1) = 6 := by unfold mn6; split <;> omega
        by_cases g7 : n = 6
        · by_cases hz : la = -1
          · subst hz
            rw [if_pos rfl, if_neg (by omega)] at e9
            obtain ⟨τ, t1, t2, t3⟩ := ih (n + 1) g (jS σ 56 12 (q + n)) (MX_o hT (oM_j (by omega) (by omega) (by omega))) (by
              rw [m7, if_pos rfl, if_pos (by omega)]
              rw [m6] at e6
              simp (disch := omega) only [mv, hI_jS, hL_jS, ↓reduceIte, ieqT, ieqF, iltT, iltF, ileT, ileF, not_true, not_false_iff, e1, e2, e3, e4, e5, e6, e7, e8]
              simp) (by omega) (by omega)
            refine ⟨τ, ?_, oM_t (oM_j (by omega) (by omega) (by omega)) t2, t3⟩
            rw [show (q + ((n + 1 : Nat) : Int)) = q + n + 1 by omega, show ((n + 1 : Nat) : Int) = (n : Int) + 1 by omega] at t1
            simp (disch := omega) only [fX11_ahead_204, fX11_ahead_243, fX11_ahead_263, fX11_ahead_293, fX11_ahead_325, z32_add, z32_sub, z32_mul, z32_neg, z32_litn, z32_lt, z32_le, z32_eq, iG_h, lG_h, iS_j, lS_k, aI_h, wI_h, aL_h, wL_h, bnd, bnr_s, bnc_s, ↓reduceIte, ieqT, ieqF, iltT, iltF, ileT, ileF, not_true, not_false_iff, e1, b1, misL_t hl, e9]
            exact t1
          · rw [if_neg hz] at e9
            obtain ⟨τ, t1, t2, t3⟩ := ih (n + 1) g σ hT (by
              rw [m7, if_neg hz]
              rw [m6] at e6
              exact ⟨e1, e2, e3, e4, e5, e6, e7, e8, e9⟩) (by omega) (by omega)
            refine ⟨τ, ?_, t2, t3⟩
            rw [show (q + ((n + 1 : Nat) : Int)) = q + n + 1 by omega, show ((n + 1 : Nat) : Int) = (n : Int) + 1 by omega] at t1
            have := hI_hi σ 56 12
            have := hI_lo σ 56 12
            simp (disch := omega) only [fX11_ahead_204, fX11_ahead_243, fX11_ahead_263, fX11_ahead_293, fX11_ahead_325, z32_add, z32_sub, z32_mul, z32_neg, z32_litn, z32_lt, z32_le, z32_eq, iG_h, lG_h, iS_j, lS_k, aI_h, wI_h, aL_h, wL_h, bnd, bnr_s, bnc_s, ↓reduceIte, ieqT, ieqF, iltT, iltF, ileT, ileF, not_true, not_false_iff, e1, b1, misL_t hl, e9]
            exact t1
        · obtain ⟨τ, t1, t2, t3⟩ := ih (n + 1) g σ hT (by
            rw [m7]
            rw [m6] at e6
            refine ⟨e1, e2, e3, e4, e5, e6, e7, e8, ?_⟩
            rw [e9]
            by_cases hz : la = -1
            · rw [if_pos hz, if_pos hz, if_pos (by omega), if_pos (by omega)]
            · rw [if_neg hz, if_neg hz]) (by omega) (by omega)
          refine ⟨τ, ?_, t2, t3⟩
          rw [show (q + ((n + 1 : Nat) : Int)) = q + n + 1 by omega, show ((n + 1 : Nat) : Int) = (n : Int) + 1 by omega] at t1
          simp (disch := omega) only [fX11_ahead_204, fX11_ahead_243, fX11_ahead_263, fX11_ahead_293, fX11_ahead_325, z32_add, z32_sub, z32_mul, z32_neg, z32_litn, z32_lt, z32_le, z32_eq, iG_h, lG_h, iS_j, lS_k, aI_h, wI_h, aL_h, wL_h, bnd, bnr_s, bnc_s, ↓reduceIte, ieqT, ieqF, iltT, iltF, ileT, ileF, not_true, not_false_iff, e1, b1, misL_t hl]
          exact t1
  have := key m 0 zF σ hT (by
    have x8 : (if la = -1 then (if 7 ≤ 0 then q + 6 else -1) else la) = la := by
      by_cases hz : la = -1
      · rw [if_pos hz, if_neg (by omega), hz]
      · rw [if_neg hz]
    rw [x8]
    exact h) (by omega) (by unfold zF; omega)
  simpa using this
end LZ

/-! MY OWN: statements: holder -/
section HD
variable {A B σ τ υ : zS} {c : Int → Int} {N b q a t v i k p w kd cnt u n K : Int} {d : Bool} {f g : zS → Option zS}
theorem BE_d (h : ∀ A, A.2.2.2.2 = d → f A = g A) (hg : BE d g) : BE d f := fun A k p h1 h2 => by
  rw [h A h2.1]
  exact hg A k p h1 h2
theorem hd_lp (hK : 0 ≤ K ∧ K < 12) : ∃ τ, fX11_holdering_105 zF (z32 K) (z32 0) σ = (if (iG τ 56 8) = 0 then aI τ 63 2 (iG τ 56 35) fun v23 => wI τ 63 2 (iG τ 56 35) (v23 + 1) fun σ24 => some σ24 else some τ) ∧ fr (fun p k => p = 67 ∧ 6 * K ≤ k ∧ k < 6 * K + 6) σ τ ∧ ∀ t, 0 ≤ t → t < 6 → hI τ 67 (6 * K + t) = 0 := by
  refine zupP0 (β := zS) (L := fun f k a => fX11_holdering_105 f (z32 K) (z32 k) a) (n := 6) (Q := fun r => ∃ τ, r = (if (iG τ 56 8) = 0 then aI τ 63 2 (iG τ 56 35) fun v23 => wI τ 63 2 (iG τ 56 35) (v23 + 1) fun σ24 => some σ24 else some τ) ∧ fr (fun p k => p = 67 ∧ 6 * K ≤ k ∧ k < 6 * K + 6) σ τ ∧ ∀ t, 0 ≤ t → t < 6 → hI τ 67 (6 * K + t) = 0)
    (fun k τ => fr (fun p k => p = 67 ∧ 6 * K ≤ k ∧ k < 6 * K + 6) σ τ ∧ ∀ t, 0 ≤ t → t < k → hI τ 67 (6 * K + t) = 0) (a := σ) (by omega) (by omega) ⟨fr_r, fun t g0 g1 => by omega⟩ ?_ ?_
  · intro f k τ hk hk' ⟨b1, b2⟩
    refine ⟨jS τ 67 (6 * K + k) 0, ?_, fr_t b1 (fr_j (by omega) (by omega)), fun t g0 g1 => ?_⟩
    · simp (disch := omega) only [fX11_holdering_105, z32_add, z32_sub, z32_mul, z32_neg, z32_litn, z32_lt, z32_le, z32_eq, iG_h, lG_h, iS_q, lS_q, aI_h, wI_h, aL_h, wL_h, ↓bnd_q, bnr_q, bnc_q, ↓reduceIte, ieqT, ieqF, iltT, iltF, ileT, ileF, not_true, not_false_iff]
    · rw [hI_jS (by omega) (by omega) (by omega) (by omega)]
      by_cases g : t = k
      · rw [if_pos (by omega)]
      · rw [if_neg (by omega)]; exact b2 t g0 (by omega)
  · intro f τ ⟨b1, b2⟩
    refine ⟨τ, ?_, b1, b2⟩
    rw [fX11_holdering_105, if_pos (by rw [z32_litn, z32_le (by omega) (by omega) (by omega) (by omega)]; omega)]
theorem MS_inc {P : Nat} (hb : 0 ≤ b ∧ b ≤ 1) (hP : P = 58 ∨ P = 63) : MS b (fun τ => if (iG τ 56 8) = 0 then aI τ P 2 (iG τ 56 35) fun v23 => wI τ P 2 (iG τ 56 35) (v23 + 1) fun σ24 => some σ24 else some τ) := fun τ k p h1 h2 => by
  show ∃ υ, (if (iG τ 56 8) = 0 then aI τ P 2 (iG τ 56 35) fun v23 => wI τ P 2 (iG τ 56 35) (v23 + 1) fun σ24 => some σ24 else some τ) = some υ ∧ _
  split
  · rw [show iG τ 56 35 = z32 (hI τ 56 35) from iG_h τ 56 35, h2, aI_h (by omega) (by omega) (by omega)]
    exact MS_w (by omega) (by unfold mRd; omega) (by omega) (by omega) (by omega) MS_s τ k p h1 h2
  · exact ⟨τ, rfl, h1, fr_r⟩
theorem MS_105 (hb : 0 ≤ b ∧ b ≤ 1) (hn : 0 ≤ n ∧ n < 6) : MS b (fun σ22 => fX11_holdering_105 zF (z32 (6 * b + n)) 0 σ22) := fun τ k p h1 h2 => by
  obtain ⟨υ, u1, u2, u3⟩ := hd_lp (K := 6 * b + n) (σ := τ) (by omega)
  obtain ⟨φ, v1, v2, v3⟩ := MS_inc (P := 63) hb (Or.inr rfl) υ k p (mFb_c h1 (fun k w0 w1 => (u2.2 56 k w0 (by omega)).1)) (by rw [(u2.2 56 35 (by omega) (by omega)).1]; exact h2)
  refine ⟨φ, ?_, v2, fr_t (fr_m u2 (fun p k _ w => by unfold mRd; omega)) v3⟩
  show fX11_holdering_105 zF (z32 (6 * b + n)) 0 τ = some φ
  rw [show (0 : Int32) = z32 0 from z32_litn 0, u1]
  exact v1
theorem mRd_K (hb : 0 ≤ b ∧ b ≤ 1) (hn : 0 ≤ n ∧ n < 6) (P : Nat) (w : P = 59 ∨ P = 60 ∨ P = 64 ∨ P = 65 ∨ P = 66 ∨ P = 76 ∨ P = 77) : mRd b P (6 * b + n) := by unfold mRd; omega
theorem st_holder (h : AL A σ c N q a t v) (ht : t ≠ 1) (hR : RR A σ d b q) : ∃ B τ, fX5_readHolder A = some B ∧ fX11_holdering σ = some τ ∧ STA A B σ τ c N d b q := by
  have hrp := rp_or d
  obtain ⟨hr, hA⟩ := AL_x h
  obtain ⟨p1, p2, p3, p4, p5, p6, p7, p8⟩ := h.2.2.1
  have hb := hR.2.1.1
  obtain ⟨n, hn⟩ : ∃ n, hI A (rp d + 0) 2 = n := ⟨_, rfl⟩
  have hn6 := hR.2.1.2.2.1
  rw [hn] at hn6
  have eC0 : iG A (rp A.2.2.2.2 + 0) 2 = z32 n := by rw [hR.1, show iG A (rp d + 0) 2 = z32 (hI A (rp d + 0) 2) from iG_h A _ 2, hn]
  have eM0 : fX11_holdering σ = if n = 6 then fX11_holdering_20 1 σ else fX11_holdering_20 0 σ := by
    unfold fX11_holdering
    rw [show iG σ 56 35 = z32 (hI σ 56 35) from iG_h σ 56 35, hb.1, aI_h (by omega) (by omega) (by omega), hn6.1]
    by_cases g : n = 6
    · rw [if_pos g, if_pos (by rw [g, z32_litn])]
    · rw [if_neg g, if_neg (by rw [z32_litn, z32_eq (by omega) (by omega) (by omega) (by omega)]; exact g)]
  rw [eM0]
  unfold fX5_readHolder
  rw [eC0]
  by_cases g6 : n = 6
  · obtain ⟨B, b1, b2, b3⟩ := fl_j (k := 6) (z32_litn 6) h (by omega)
    obtain ⟨f1, f2⟩ := flt (k := 6) (p := q) hr.1 (by omega) (by omega)
    refine ⟨B, jS (jS σ 56 8 6) 56 9 q, ?_, ?_, oR_cR b2, oM_d f2, Or.inr ⟨6, q, b3, mt_b f1⟩⟩
    · rw [if_neg (by rw [z32_litn, z32_lt (by omega) (by omega) (by omega) (by omega)]; omega), b1, bnr_q]
    · rw [if_pos g6]
      unfold fX11_holdering_20
      rw [cnt_1 hr (by omega), bnc_q, if_pos rfl]
  rw [if_neg g6, if_pos (by rw [z32_litn, z32_lt (by omega) (by omega) (by omega) (by omega)]; omega)]
  have hn05 : 0 ≤ n ∧ n < 6 := by omega
  -- what is left to do behind a fault
  have kE : BE d (fun σ18 => bnd (iS σ18 (rp σ18.2.2.2.2 + 0) 2 ((iG σ18 (rp σ18.2.2.2.2 + 0) 2) + 1)) fun σ19 => some σ19) := BE_d (fun A w => by rw [w, bnd_q]; rfl) (BE_i (i := 2) (x := fun A => (iG A (rp d + 0) 2) + 1) (by omega))
  have kC4 : BE d (fun σ13 => bnc (fX5_takeNumber 0 50 σ13) fun v17 σ15 => wI σ15 (rp σ13.2.2.2.2 + 8) 6 (z32 n) v17 fun σ18 => bnd (iS σ18 (rp σ18.2.2.2.2 + 0) 2 ((iG σ18 (rp σ18.2.2.2.2 + 0) 2) + 1)) fun σ19 => some σ19) := BE_d (fun A w => by rw [w]) (BE_p (fun A k p h => num_k h _ _) (fun r => BE_w (x := r) (by omega) (by omega) (by omega) (by omega) kE))
  have kC3 : BE d (fun σ12 => bnr (fX5_takeWord 6 σ12) fun σ13 => bnc (fX5_takeNumber 0 50 σ13) fun v17 σ15 => wI σ15 (rp σ13.2.2.2.2 + 8) 6 (z32 n) v17 fun σ18 => bnd (iS σ18 (rp σ18.2.2.2.2 + 0) 2 ((iG σ18 (rp σ18.2.2.2.2 + 0) 2) + 1)) fun σ19 => some σ19) := BE_b (BS_word (i := 6) (z32_litn 6) (by omega) (by omega)) kC4
  have kC2 : BE d (fun σ7 => bnc (fX5_takeNumber 1 60 σ7) fun v11 σ9 => wI σ9 (rp σ7.2.2.2.2 + 7) 6 (z32 n) v11 fun σ12 => bnr (fX5_takeWord 6 σ12) fun σ13 => bnc (fX5_takeNumber 0 50 σ13) fun v17 σ15 => wI σ15 (rp σ13.2.2.2.2 + 8) 6 (z32 n) v17 fun σ18 => bnd (iS σ18 (rp σ18.2.2.2.2 + 0) 2 ((iG σ18 (rp σ18.2.2.2.2 + 0) 2) + 1)) fun σ19 => some σ19) := BE_d (fun A w => by rw [w]) (BE_p (fun A k p h => num_k h _ _) (fun r => BE_w (x := r) (by omega) (by omega) (by omega) (by omega) kC3))
  have kC1 : BE d (fun σ6 => bnr (fX5_takeWord 5 σ6) fun σ7 => bnc (fX5_takeNumber 1 60 σ7) fun v11 σ9 => wI σ9 (rp σ7.2.2.2.2 + 7) 6 (z32 n) v11 fun σ12 => bnr (fX5_takeWord 6 σ12) fun σ13 => bnc (fX5_takeNumber 0 50 σ13) fun v17 σ15 => wI σ15 (rp σ13.2.2.2.2 + 8) 6 (z32 n) v17 fun σ18 => bnd (iS σ18 (rp σ18.2.2.2.2 + 0) 2 ((iG σ18 (rp σ18.2.2.2.2 + 0) 2) + 1)) fun σ19 => some σ19) := BE_b (BS_word (i := 5) (z32_litn 5) (by omega) (by omega)) kC2
  have kC0 : BE d (fun σ1 => bnc (fX5_takeNewName σ1) fun v5 σ3 => wI σ3 (rp σ1.2.2.2.2 + 6) 6 (z32 n) v5 fun σ6 => bnr (fX5_takeWord 5 σ6) fun σ7 => bnc (fX5_takeNumber 1 60 σ7) fun v11 σ9 => wI σ9 (rp σ7.2.2.2.2 + 7) 6 (z32 n) v11 fun σ12 => bnr (fX5_takeWord 6 σ12) fun σ13 => bnc (fX5_takeNumber 0 50 σ13) fun v17 σ15 => wI σ15 (rp σ13.2.2.2.2 + 8) 6 (z32 n) v17 fun σ18 => bnd (iS σ18 (rp σ18.2.2.2.2 + 0) 2 ((iG σ18 (rp σ18.2.2.2.2 + 0) 2) + 1)) fun σ19 => some σ19) := BE_d (fun A w => by rw [w]) (BE_p (fun A k p h => new_k h) (fun r => BE_w (x := r) (by omega) (by omega) (by omega) (by omega) kC1))
  have m5 : MS b (fun σ22 => fX11_holdering_105 zF (z32 (6 * b + n)) 0 σ22) := MS_105 hb.2 (by omega)
  have m4 : ∀ v20 : Int32, MS b (fun σ18 => wI σ18 65 12 (z32 (6 * b + n)) v20 fun σ21 => wI σ21 66 12 (z32 (6 * b + n)) 60 fun σ22 => fX11_holdering_105 zF (z32 (6 * b + n)) 0 σ22) := fun v20 => MS_w (by omega) (by unfold mRd; omega) (by omega) (by omega) (by omega) (MS_w (by omega) (by unfold mRd; omega) (by omega) (by omega) (by omega) m5)
  have m3 : MS b (fun σ16 => bnc (fX11_number 0 50 σ16) fun v20 σ18 => wI σ18 65 12 (z32 (6 * b + n)) v20 fun σ21 => wI σ21 66 12 (z32 (6 * b + n)) 60 fun σ22 => fX11_holdering_105 zF (z32 (6 * b + n)) 0 σ22) := MS_num m4
  have m2 : MS b (fun σ15 => bnr (fX11_must_ 119165837338739 σ15) fun σ16 => bnc (fX11_number 0 50 σ16) fun v20 σ18 => wI σ18 65 12 (z32 (6 * b + n)) v20 fun σ21 => wI σ21 66 12 (z32 (6 * b + n)) 60 fun σ22 => fX11_holdering_105 zF (z32 (6 * b + n)) 0 σ22) := MS_b (MS_word (i := 6) ((z64_litn 119165837338739).trans (congrArg z64 (by decide))) (by omega) (by omega)) m3
  have m1 : MS b (fun σ10 => bnc (fX11_number 1 60 σ10) fun v14 σ12 => wI σ12 64 12 (z32 (6 * b + n)) v14 fun σ15 => bnr (fX11_must_ 119165837338739 σ15) fun σ16 => bnc (fX11_number 0 50 σ16) fun v20 σ18 => wI σ18 65 12 (z32 (6 * b + n)) v20 fun σ21 => wI σ21 66 12 (z32 (6 * b + n)) 60 fun σ22 => fX11_holdering_105 zF (z32 (6 * b + n)) 0 σ22) := MS_num (fun r => MS_w (by omega) (by unfold mRd; omega) (by omega) (by omega) (by omega) m2)
  have m0 : MS b (fun σ9 => bnr (fX11_must_ 108243466679400 σ9) fun σ10 => bnc (fX11_number 1 60 σ10) fun v14 σ12 => wI σ12 64 12 (z32 (6 * b + n)) v14 fun σ15 => bnr (fX11_must_ 119165837338739 σ15) fun σ16 => bnc (fX11_number 0 50 σ16) fun v20 σ18 => wI σ18 65 12 (z32 (6 * b + n)) v20 fun σ21 => wI σ21 66 12 (z32 (6 * b + n)) 60 fun σ22 => fX11_holdering_105 zF (z32 (6 * b + n)) 0 σ22) := MS_b (MS_word (i := 5) ((z64_litn 108243466679400).trans (congrArg z64 (by decide))) (by omega) (by omega)) m1
  obtain ⟨B1, τ1, b1, b2, t1, t2, hres⟩ := kw h ht
  have e63 : hI τ1 63 b = n := by rw [((oM_Q t2).2 63 b (by omega) (by unfold oQ; omega)).1]; exact hn6.1
  have eM1 : fX11_holdering_20 0 σ = bnc (fX11_fresh τ1) fun v8 σ6 => wL σ6 77 12 (z32 (6 * b + n)) v8 fun σ9 => bnr (fX11_must_ 108243466679400 σ9) fun σ10 => bnc (fX11_number 1 60 σ10) fun v14 σ12 => wI σ12 64 12 (z32 (6 * b + n)) v14 fun σ15 => bnr (fX11_must_ 119165837338739 σ15) fun σ16 => bnc (fX11_number 0 50 σ16) fun v20 σ18 => wI σ18 65 12 (z32 (6 * b + n)) v20 fun σ21 => wI σ21 66 12 (z32 (6 * b + n)) 60 fun σ22 => fX11_holdering_105 zF (z32 (6 * b + n)) 0 σ22 := by
    unfold fX11_holdering_20
    rw [t1, bnc_q, if_neg i10, show iG τ1 56 35 = z32 (hI τ1 56 35) from iG_h τ1 56 35, e35 t2 hb.1, aI_h (by omega) (by omega) (by omega), e63, show (6 : Int32) * z32 b + z32 n = z32 (6 * b + n) by rw [z32_litn, z32_mul, z32_add]]
  rw [eM1, b1, bnr_q]
  rcases hres with ⟨q1, a1, t1', v1, h1, hq1⟩ | ⟨k, p, h1, h2⟩
  case inr =>
    obtain ⟨B, c1, c2, c3⟩ := kC0 B1 k p h1 (okB_R b2 (RR_ok hR (by omega)))
    obtain ⟨τ, x1, x2, x3⟩ := MS_p (b := b) (F := fX11_fresh) (G := fun v8 σ6 => wL σ6 77 12 (z32 (6 * b + n)) v8 fun σ9 => bnr (fX11_must_ 108243466679400 σ9) fun σ10 => bnc (fX11_number 1 60 σ10) fun v14 σ12 => wI σ12 64 12 (z32 (6 * b + n)) v14 fun σ15 => bnr (fX11_must_ 119165837338739 σ15) fun σ16 => bnc (fX11_number 0 50 σ16) fun v20 σ18 => wI σ18 65 12 (z32 (6 * b + n)) v20 fun σ21 => wI σ21 66 12 (z32 (6 * b + n)) 60 fun σ22 => fX11_holdering_105 zF (z32 (6 * b + n)) 0 σ22) (fun τ k p h => mm_fresh h) (fun r => MS_wL (x := r) (by unfold mRd; omega) (by omega) (by omega) (by omega) m0) τ1 k p h2 (e35 t2 hb.1)
    exact ⟨B, τ, c1, x1, fr_t (oR_cR b2) c2, fr_t (oM_d t2) x3, Or.inr ⟨k, p, c3, x2⟩⟩
  have hR1 := RR_c hR b2 t2 (Int.le_of_lt hq1)
  have ok1 := okB_R b2 (RR_ok hR (by omega))
  -- the name
  obtain ⟨B2, τ2, r1, y1, c1, c2, s1, s2, hres2⟩ := jt_new hR1.1 h1 hR1.2.1
  rw [c1, bnc_q, s1, bnc_q, hR1.1]
  have oAB := oR_t b2 c2
  have oST := oM_t t2 s2
  have ok2 := okB_R c2 ok1
  have K0 : 0 ≤ 6 * b + n := by omega
  have K1 : 6 * b + n < 12 := by omega
  have mK : ∀ P : Nat, (P = 64 ∨ P = 65 ∨ P = 66 ∨ P = 77) → mRd b P (6 * b + n) := fun P w => mRd_K hb.2 hn05 P (by rcases w with w | w | w | w <;> simp [w])
  have f35 : ∀ τ', fr (mRd b) σ τ' → hI τ' 56 35 = b := fun τ' w => by rw [(w.2 56 35 (by omega) (by unfold mRd; omega)).1]; exact hb.1
  rcases hres2 with ⟨pn, wn, u1, u2, u3, q2, a2, t2', v2, h2, hq2⟩ | ⟨k, p, h1, h2⟩
  case inr =>
    obtain ⟨B, c3, c4, c5⟩ := BE_w (j := 6) (n := 6) (i := n) (x := r1) (by omega) (by omega) (by omega) (by omega) kC1 B2 k p h1 ok2
    obtain ⟨τ, x3, x4, x5⟩ := MS_wL (n := 12) (x := y1) (mK 77 (by omega)) K0 K1 (by omega) m0 τ2 k p h2 (e35 oST hb.1)
    exact ⟨B, τ, c3, x3, fr_t (oR_cR oAB) c4, fr_t (oM_d oST) x5, Or.inr ⟨k, p, c5, x4⟩⟩
  subst u1 u2
  obtain ⟨wb, pb⟩ := nm_wb u3
  rw [wI_h (by omega) (by omega) (by omega), wL_h K0 K1 (by omega)]
  have al3 : AL (jS B2 (rp d + 6) n pn) (kS τ2 77 (6 * b + n) wn) c N q2 a2 t2' v2 := AL_f h2 (fun p k g w => hI_jS_ne (by omega)) (fr_k (P := fun p k => p = 77 ∧ k = 6 * b + n) K0 ⟨rfl, rfl⟩) (fun p k w => by omega)
  have fC3 : fr (fun p k => p = 54 ∨ (p = rp d + 6 ∧ k = n)) A (jS B2 (rp d + 6) n pn) := fr_t (fr_R oAB (fun k _ => Or.inl rfl)) (fr_j (by omega) (Or.inr ⟨rfl, rfl⟩))
  have fM3 : fr (fun p k => oQ p k ∨ (p = 77 ∧ k = 6 * b + n)) σ (kS τ2 77 (6 * b + n) wn) := fr_t (fr_m (oM_Q oST) (fun p k _ w => Or.inl w)) (fr_k K0 (Or.inr ⟨rfl, rfl⟩))
  have cR3 : fr (cR (rp d)) A (jS B2 (rp d + 6) n pn) := fr_t (oR_cR oAB) (fr_j (by omega) (by unfold cR; omega))
  have mR3 : fr (mRd b) σ (kS τ2 77 (6 * b + n) wn) := fr_t (oM_d oST) (fr_k K0 (mK 77 (by omega)))
  have ok3 := okB_j (d := d) (P := rp d + 6) (i := n) (v := pn) (by omega) (by omega) (by omega) ok2
  have v6 : hI (jS B2 (rp d + 6) n pn) (rp d + 6) n = pn := by rw [hI_jS (by omega) (by omega) (by omega) (by omega), if_pos rfl]
  have v77 : hL (kS τ2 77 (6 * b + n) wn) 77 (6 * b + n) = wn := by rw [hL_kS K0 K0 (by omega) (by omega), if_pos rfl]
  generalize jS B2 (rp d + 6) n pn = B3 at *
  generalize kS τ2 77 (6 * b + n) wn = τ3 at *
  -- breath
  obtain ⟨B4, τ4, c3, c4, s3, s4, hres3⟩ := jt_word (i := 5) (x := 5) (y := 108243466679400) (z32_litn 5) ((z64_litn 108243466679400).trans (congrArg z64 (by decide))) (by omega) (by omega) al3
  rw [c3, bnr_q, s3, bnr_q]
  have ok4 := okB_R c4 ok3
  have cR4 := fr_t cR3 (oR_cR (d := d) c4)
  have mR4 := fr_t mR3 (oM_d (b := b) s4)
  rcases hres3 with ⟨q3, a3, t3', v3, h3, hq3⟩ | ⟨k, p, h1, h2⟩
  case inr =>
    obtain ⟨B, c5, c6, c7⟩ := kC2 B4 k p h1 ok4
    obtain ⟨τ, x3, x4, x5⟩ := m1 τ4 k p h2 (f35 _ mR4)
    exact ⟨B, τ, c5, x3, fr_t cR4 c6, fr_t mR4 x5, Or.inr ⟨k, p, c7, x4⟩⟩
  have fC4 := fr_t fC3 (fr_R c4 (fun k _ => Or.inl rfl))
  have fM4 := fr_t fM3 (fr_m (oM_Q s4) (fun p k _ w => Or.inl w))
  -- how much
  obtain ⟨B5, τ5, r3, r4, c5, c6, s5, s6, hres4⟩ := jt_num (lo := 1) (hi := 60) (z32_litn 1) (z32_litn 60) (by omega) h3
  rw [c5, bnc_q, s5, bnc_q, ok4.1]
  have ok5 := okB_R c6 ok4
  have cR5 := fr_t cR4 (oR_cR (d := d) c6)
  have mR5 := fr_t mR4 (oM_d (b := b) s6)
  rcases hres4 with ⟨br, g1, g2, g3, q4, a4, t4', v4, h4, hq4⟩ | ⟨k, p, h1, h2⟩
  case inr =>
    obtain ⟨B, c7, c8, c9⟩ := BE_w (j := 7) (n := 6) (i := n) (x := r3) (by omega) (by omega) (by omega) (by omega) kC3 B5 k p h1 ok5
    obtain ⟨τ, x3, x4, x5⟩ := MS_w (n := 12) (x := r4) (by omega) (mK 64 (by omega)) K0 K1 (by omega) m2 τ5 k p h2 (f35 _ mR5)
    exact ⟨B, τ, c7, x3, fr_t cR5 c8, fr_t mR5 x5, Or.inr ⟨k, p, c9, x4⟩⟩
  subst g1 g2
  rw [wI_h (by omega) (by omega) (by omega), wI_h K0 K1 (by omega)]
  have al6 : AL (jS B5 (rp d + 7) n br) (jS τ5 64 (6 * b + n) br) c N q4 a4 t4' v4 := AL_f h4 (fun p k g w => hI_jS_ne (by omega)) (fr_j (P := fun p k => p = 64 ∧ k = 6 * b + n) K0 ⟨rfl, rfl⟩) (fun p k w => by omega)
  have fC5 := fr_t fC4 (fr_R c6 (fun k _ => Or.inl rfl))
  have fM5 := fr_t fM4 (fr_m (oM_Q s6) (fun p k _ w => Or.inl w))
  have ok6 := okB_j (d := d) (P := rp d + 7) (i := n) (v := br) (by omega) (by omega) (by omega) ok5
  have cR6 : fr (cR (rp d)) A (jS B5 (rp d + 7) n br) := fr_t cR5 (fr_j (by omega) (by unfold cR; omega))
  have mR6 : fr (mRd b) σ (jS τ5 64 (6 * b + n) br) := fr_t mR5 (fr_j K0 (mK 64 (by omega)))
  have fC6 : fr (fun p k => p = 54 ∨ ((p = rp d + 6 ∨ p = rp d + 7) ∧ k = n)) A (jS B5 (rp d + 7) n br) := fr_t (fr_m fC5 (fun p k _ w => by omega)) (fr_j (by omega) (by omega))
  have fM6 : fr (fun p k => oQ p k ∨ ((p = 77 ∨ p = 64) ∧ k = 6 * b + n)) σ (jS τ5 64 (6 * b + n) br) := fr_t (fr_m fM5 (fun p k _ w => by rcases w with w | w; exact Or.inl w; exact Or.inr ⟨Or.inl w.1, w.2⟩)) (fr_j K0 (Or.inr ⟨Or.inr rfl, rfl⟩))
  have v6' : hI (jS B5 (rp d + 7) n br) (rp d + 6) n = pn := by rw [hI_jS_ne (by omega), c6.2.2 _ _ (by omega), c4.2.2 _ _ (by omega)]; exact v6
  have v77' : hL (jS τ5 64 (6 * b + n) br) 77 (6 * b + n) = wn := by rw [hL_jS, (s6.2.1 77 _ (by omega)).2, (s4.2.1 77 _ (by omega)).2]; exact v77
  have v7 : hI (jS B5 (rp d + 7) n br) (rp d + 7) n = br := by rw [hI_jS (by omega) (by omega) (by omega) (by omega), if_pos rfl]
  have v64 : hI (jS τ5 64 (6 * b + n) br) 64 (6 * b + n) = br := by rw [hI_jS K0 K0 (by omega) (by omega), if_pos rfl]
  generalize jS B5 (rp d + 7) n br = B6 at *
  generalize jS τ5 64 (6 * b + n) br = τ6 at *
  -- laughs
  obtain ⟨B7, τ7, c7, c8, s7, s8, hres5⟩ := jt_word (i := 6) (x := 6) (y := 119165837338739) (z32_litn 6) ((z64_litn 119165837338739).trans (congrArg z64 (by decide))) (by omega) (by omega) al6
  rw [c7, bnr_q, s7, bnr_q]
  have ok7 := okB_R c8 ok6
  have cR7 := fr_t cR6 (oR_cR (d := d) c8)
  have mR7 := fr_t mR6 (oM_d (b := b) s8)
  rcases hres5 with ⟨q5, a5, t5', v5, h5, hq5⟩ | ⟨k, p, h1, h2⟩
  case inr =>
    obtain ⟨B, c9, d1, d2⟩ := kC4 B7 k p h1 ok7
    obtain ⟨τ, x3, x4, x5⟩ := m3 τ7 k p h2 (f35 _ mR7)
    exact ⟨B, τ, c9, x3, fr_t cR7 d1, fr_t mR7 x5, Or.inr ⟨k, p, d2, x4⟩⟩
  -- how often
  obtain ⟨B8, τ8, r5, r6, c9, d1, s9, e1, hres6⟩ := jt_num (lo := 0) (hi := 50) (z32_litn 0) (z32_litn 50) (by omega) h5
  rw [c9, bnc_q, s9, bnc_q, ok7.1]
  have ok8 := okB_R d1 ok7
  have cR8 := fr_t cR7 (oR_cR (d := d) d1)
  have mR8 := fr_t mR7 (oM_d (b := b) e1)
  rcases hres6 with ⟨la, g4, g5, g6', q6, a6, t6', v6'', h6, hq6⟩ | ⟨k, p, h1, h2⟩
  case inr =>
    obtain ⟨B, d2, d3, d4⟩ := BE_w (j := 8) (n := 6) (i := n) (x := r5) (by omega) (by omega) (by omega) (by omega) kE B8 k p h1 ok8
    obtain ⟨τ, x3, x4, x5⟩ := m4 r6 τ8 k p h2 (f35 _ mR8)
    exact ⟨B, τ, d2, x3, fr_t cR8 d3, fr_t mR8 x5, Or.inr ⟨k, p, d4, x4⟩⟩
  subst g4 g5
  have fC8 := fr_t (fr_t fC6 (fr_R c8 (fun k _ => Or.inl rfl))) (fr_R d1 (fun k _ => Or.inl rfl))
  have fM8 := fr_t (fr_t fM6 (fr_m (oM_Q s8) (fun p k _ w => Or.inl w))) (fr_m (oM_Q e1) (fun p k _ w => Or.inl w))
  have y6 : hI B8 (rp d + 6) n = pn := by rw [d1.2.2 _ _ (by omega), c8.2.2 _ _ (by omega)]; exact v6'
  have y7 : hI B8 (rp d + 7) n = br := by rw [d1.2.2 _ _ (by omega), c8.2.2 _ _ (by omega)]; exact v7
  have y77 : hL τ8 77 (6 * b + n) = wn := by rw [(e1.2.1 77 _ (by omega)).2, (s8.2.1 77 _ (by omega)).2]; exact v77'
  have y64 : hI τ8 64 (6 * b + n) = br := by rw [(e1.2.1 64 _ (by omega)).1, (s8.2.1 64 _ (by omega)).1]; exact v64
  have yn : hI B8 (rp d + 0) 2 = n := by rw [(fC8.2 _ _ (by omega) (by omega)).1]; exact hn
  have h68 : hI τ8 56 8 = 0 := h6.2.1.2.2.2.1
  rw [wI_h (by omega) (by omega) (by omega), wI_h K0 K1 (by omega), show (60 : Int32) = z32 60 from z32_litn 60, wI_h K0 K1 (by omega), bnd_q]
  obtain ⟨τ11, z1, z2, z3⟩ := hd_lp (K := 6 * b + n) (σ := jS (jS τ8 65 (6 * b + n) la) 66 (6 * b + n) 60) (by omega)
  have z56 : ∀ k, 0 ≤ k → hI τ11 56 k = hI τ8 56 k ∧ hL τ11 56 k = hL τ8 56 k := fun k w => by
    obtain ⟨w1, w2⟩ := z2.2 56 k w (by omega)
    rw [w1, w2, hI_jS_ne (by omega), hI_jS_ne (by omega)]
    exact ⟨rfl, rfl⟩
  have z63 : hI τ11 63 b = n := by
    rw [(z2.2 63 b (by omega) (by omega)).1, hI_jS_ne (by omega), hI_jS_ne (by omega), (fM8.2 63 b (by omega) (by unfold oQ; omega)).1]; exact hn6.1
  have z35 : hI τ11 56 35 = b := by rw [(z56 35 (by omega)).1]; exact f35 _ mR8
  rw [show (0 : Int32) = z32 0 from z32_litn 0, z1, if_pos (c8q (by rw [(z56 8 (by omega)).1]; exact h68)), show iG τ11 56 35 = z32 (hI τ11 56 35) from iG_h τ11 56 35, z35, aI_h (by omega) (by omega) (by omega), z63, z1p, wI_h (by omega) (by omega) (by omega)]
  dsimp only
  have eE : iS (jS B8 (rp d + 8) n la) (rp (jS B8 (rp d + 8) n la).2.2.2.2 + 0) 2 (iG (jS B8 (rp d + 8) n la) (rp (jS B8 (rp d + 8) n la).2.2.2.2 + 0) 2 + 1) = jS (jS B8 (rp d + 8) n la) (rp d + 0) 2 (n + 1) := by
    rw [show (jS B8 (rp d + 8) n la).2.2.2.2 = d from ok8.1, show iG (jS B8 (rp d + 8) n la) (rp d + 0) 2 = z32 (hI (jS B8 (rp d + 8) n la) (rp d + 0) 2) from iG_h _ _ 2, hI_jS_ne (by omega), yn, z1p]
    rfl
  rw [eE]
  have fC : fr (fun p k => p = 54 ∨ ((p = rp d + 6 ∨ p = rp d + 7 ∨ p = rp d + 8) ∧ k = n) ∨ (p = rp d + 0 ∧ k = 2)) A (jS (jS B8 (rp d + 8) n la) (rp d + 0) 2 (n + 1)) := fr_t (fr_t (fr_m fC8 (fun p k _ w => by omega)) (fr_j (by omega) (by omega))) (fr_j (by omega) (by omega))
  have fM : fr (fun p k => oQ p k ∨ ((p = 77 ∨ p = 64 ∨ p = 65 ∨ p = 66) ∧ k = 6 * b + n) ∨ (p = 67 ∧ 6 * (6 * b + n) ≤ k ∧ k < 6 * (6 * b + n) + 6) ∨ (p = 63 ∧ k = b)) σ (jS τ11 63 b (n + 1)) := fr_t (fr_t (fr_t (fr_t (fr_m fM8 (fun p k _ w => by rcases w with w | w; exact Or.inl w; right; left; omega)) (fr_j K0 (by right; left; omega))) (fr_j K0 (by right; left; omega))) (fr_m z2 (fun p k _ w => by right; right; left; omega))) (fr_j (by omega) (by right; right; right; omega))
  have al : AL (jS (jS B8 (rp d + 8) n la) (rp d + 0) 2 (n + 1)) (jS τ11 63 b (n + 1)) c N q6 a6 t6' v6'' := by
    refine AL_f h6 (fun p k g w => by rw [hI_jS_ne (by omega), hI_jS_ne (by omega)]) (Q := fun p k => p = 65 ∨ p = 66 ∨ p = 67 ∨ p = 63) ?_ (fun p k w => by omega)
    exact fr_t (fr_t (fr_t (fr_j K0 (by omega)) (fr_j K0 (by omega))) (fr_m z2 (fun p k _ w => by omega))) (fr_j (by omega) (by omega))
  refine ⟨_, _, rfl, rfl, fr_m fC (fun p k _ w => by unfold cR; omega), ?_, Or.inl ⟨q6, a6, t6', v6'', al, by omega, ?_⟩⟩
  · exact fr_m fM (fun p k _ w => by
      rcases w with w | w | w | w
      · unfold oQ at w; unfold mRd; omega
      · unfold mRd; omega
      · unfold mRd; omega
      · unfold mRd; omega)
  have cv : ∀ p k, 0 ≤ k → p ≠ 54 → ¬ ((p = rp d + 6 ∨ p = rp d + 7 ∨ p = rp d + 8) ∧ k = n) → ¬ (p = rp d + 0 ∧ k = 2) → hI (jS (jS B8 (rp d + 8) n la) (rp d + 0) 2 (n + 1)) p k = hI A p k := fun p k w0 w1 w2 w3 => (fC.2 p k w0 (by omega)).1
  have mv' : ∀ p k, 0 ≤ k → p ≠ 56 → ¬ ((p = 77 ∨ p = 64 ∨ p = 65 ∨ p = 66) ∧ k = 6 * b + n) → ¬ (p = 67 ∧ 6 * (6 * b + n) ≤ k ∧ k < 6 * (6 * b + n) + 6) → ¬ (p = 63 ∧ k = b) → hI (jS τ11 63 b (n + 1)) p k = hI σ p k ∧ hL (jS τ11 63 b (n + 1)) p k = hL σ p k := fun p k w0 w1 w2 w3 w4 => fM.2 p k w0 (fun w => by
      rcases w with w | w | w | w
      · unfold oQ at w; omega
      · exact w2 w
      · exact w3 w
      · exact w4 w)
  have nC : hI (jS (jS B8 (rp d + 8) n la) (rp d + 0) 2 (n + 1)) (rp d + 0) 2 = n + 1 := by rw [hI_jS (by omega) (by omega) (by omega) (by omega), if_pos rfl]
  have tC : hI (jS (jS B8 (rp d + 8) n la) (rp d + 0) 2 (n + 1)) (rp d + 0) 1 = hI A (rp d + 0) 1 := cv _ _ (by omega) (by omega) (by omega) (by omega)
  have x6 : hI (jS (jS B8 (rp d + 8) n la) (rp d + 0) 2 (n + 1)) (rp d + 6) n = pn := by rw [hI_jS_ne (by omega), hI_jS_ne (by omega)]; exact y6
  have x7 : hI (jS (jS B8 (rp d + 8) n la) (rp d + 0) 2 (n + 1)) (rp d + 7) n = br := by rw [hI_jS_ne (by omega), hI_jS_ne (by omega)]; exact y7
  have x8 : hI (jS (jS B8 (rp d + 8) n la) (rp d + 0) 2 (n + 1)) (rp d + 8) n = la := by rw [hI_jS_ne (by omega), hI_jS (by omega) (by omega) (by omega) (by omega), if_pos rfl]
  have w77 : hL (jS τ11 63 b (n + 1)) 77 (6 * b + n) = wn := by rw [hL_jS, (z2.2 77 _ K0 (by omega)).2, hL_jS, hL_jS]; exact y77
  have w64 : hI (jS τ11 63 b (n + 1)) 64 (6 * b + n) = br := by rw [hI_jS_ne (by omega), (z2.2 64 _ K0 (by omega)).1, hI_jS_ne (by omega), hI_jS_ne (by omega)]; exact y64
  have w65 : hI (jS τ11 63 b (n + 1)) 65 (6 * b + n) = la := by rw [hI_jS_ne (by omega), (z2.2 65 _ K0 (by omega)).1, hI_jS_ne (by omega), hI_jS K0 K0 (by omega) (by omega), if_pos rfl]
  have w66 : hI (jS τ11 63 b (n + 1)) 66 (6 * b + n) = 60 := by rw [hI_jS_ne (by omega), (z2.2 66 _ K0 (by omega)).1, hI_jS K0 K0 (by omega) (by omega), if_pos rfl]
  have w67 : ∀ t, 0 ≤ t → t < 6 → hI (jS τ11 63 b (n + 1)) 67 (6 * (6 * b + n) + t) = 0 := fun t w0 w1 => by rw [hI_jS_ne (by omega)]; exact z3 t w0 w1
  have w63 : hI (jS τ11 63 b (n + 1)) 63 b = n + 1 := by rw [hI_jS (by omega) (by omega) (by omega) (by omega), if_pos rfl]
  have w35 : hI (jS τ11 63 b (n + 1)) 56 35 = b := by rw [hI_jS_ne (by omega)]; exact z35
  have w34 : hI (jS τ11 63 b (n + 1)) 56 34 = hI σ 56 34 := (fM.2 56 34 (by omega) (fun w => by rcases w with w | w | w | w; unfold oQ at w; omega; omega; omega; omega)).1
  have dF : (jS (jS B8 (rp d + 8) n la) (rp d + 0) 2 (n + 1)).2.2.2.2 = d := ok8.1
  obtain ⟨R1, R2, R3, R4, R5, R6, R7⟩ := hR
  generalize jS (jS B8 (rp d + 8) n la) (rp d + 0) 2 (n + 1) = BF at *
  generalize jS τ11 63 b (n + 1) = τF at *
  have eh : hI A (rp d + 0) 2 = n := hn
  refine ⟨dF, ⟨⟨w35, hb.2⟩, ⟨?_, ?_⟩, ⟨?_, ?_⟩, fun t g0 g1 => ?_, fun h' g0 g1 => ?_⟩, ?_, ⟨fun h' g0 g1 => ?_, fun h' g0 g1 => ?_⟩, ?_, ?_, ?_⟩
  · rw [tC, (mv' 58 b (by omega) (by omega) (by omega) (by omega) (by omega)).1]; exact R2.2.1.1
  · rw [tC]; exact R2.2.1.2
  · rw [nC]; exact w63
  · rw [nC]; omega
  · rw [tC] at g1
    rw [cv _ _ g0 (by omega) (by omega) (by omega), (mv' 76 _ (by omega) (by omega) (by omega) (by omega) (by omega)).2]
    exact R2.2.2.2.1 t g0 g1
  · rw [nC] at g1
    by_cases e : h' = n
    · rw [e, x6, w77]; exact u3
    · rw [cv _ _ g0 (by omega) (by omega) (by omega), (mv' 77 _ (by omega) (by omega) (by omega) (by omega) (by omega)).2]
      exact R2.2.2.2.2 h' g0 (by rw [hn]; omega)
  · exact RL_f (P := fun p k => p = 54 ∨ ((p = rp d + 6 ∨ p = rp d + 7 ∨ p = rp d + 8) ∧ k = n) ∨ (p = rp d + 0 ∧ k = 2)) (Q := fun p k => p = 56 ∨ p = 77 ∨ p = 64 ∨ p = 65 ∨ p = 66 ∨ p = 67 ∨ p = 63) hb.2.1 R2.2.1.2.1 R3 fC (fr_m fM (fun p k _ w => by rcases w with w | w | w | w; unfold oQ at w; omega; omega; omega; omega)) (fun p k w => by omega) (fun p k w => by omega)
  · rw [nC] at g1
    by_cases e : h' = n
    · subst e
      have := R4.2 h' (by rw [hn]; omega) (by omega)
      refine ⟨?_, ?_, ?_, fun t y0 y1 => ?_⟩
      · rw [x7, w64]; exact ⟨rfl, by omega, by omega⟩
      · rw [x8, w65]; exact ⟨rfl, by omega, by omega⟩
      · rw [w66, cv _ _ g0 (by omega) (by omega) (by omega), this.1]; exact ⟨rfl, by omega, by omega⟩
      · rw [w67 t y0 y1, cv _ _ (by omega) (by omega) (by omega) (by omega), this.2 t y0 y1]; exact ⟨rfl, by omega, by omega⟩
    · obtain ⟨y1, y2, y3, y4⟩ := R4.1 h' g0 (by rw [hn]; omega)
      refine ⟨?_, ?_, ?_, fun t z0 z1 => ?_⟩
      · rw [cv _ _ g0 (by omega) (by omega) (by omega), (mv' 64 _ (by omega) (by omega) (by omega) (by omega) (by omega)).1]; exact y1
      · rw [cv _ _ g0 (by omega) (by omega) (by omega), (mv' 65 _ (by omega) (by omega) (by omega) (by omega) (by omega)).1]; exact y2
      · rw [cv _ _ g0 (by omega) (by omega) (by omega), (mv' 66 _ (by omega) (by omega) (by omega) (by omega) (by omega)).1]; exact y3
      · rw [cv _ _ (by omega) (by omega) (by omega) (by omega), (mv' 67 _ (by omega) (by omega) (by omega) (by omega) (by omega)).1]; exact y4 t z0 z1
  · rw [nC] at g0
    obtain ⟨y1, y2⟩ := R4.2 h' (by rw [hn]; omega) g1
    refine ⟨?_, fun t z0 z1 => ?_⟩
    · rw [cv _ _ (by omega) (by omega) (by omega) (by omega)]; exact y1
    · rw [cv _ _ (by omega) (by omega) (by omega) (by omega)]; exact y2 t z0 z1
  · exact RF_f (P := fun p k => p = 54 ∨ ((p = rp d + 6 ∨ p = rp d + 7 ∨ p = rp d + 8) ∧ k = n) ∨ (p = rp d + 0 ∧ k = 2)) (Q := fun p k => p = 56 ∨ p = 77 ∨ p = 64 ∨ p = 65 ∨ p = 66 ∨ p = 67 ∨ p = 63) hb.2.1 R5 fC (fr_m fM (fun p k _ w => by rcases w with w | w | w | w; unfold oQ at w; omega; omega; omega; omega)) (fun p k w => by omega) (fun p k w => by omega)
  · exact RSm_f hb.2.1 R6 fC fM (fun p k w => by omega) (fun p k w => by rcases w with w | w | w | w; unfold oQ at w; omega; omega; omega; omega)
  · exact RZ_f R7 (by omega) fC fM (fun p k w => by omega) (fun p k w => by rcases w with w | w | w | w; unfold oQ at w; omega; omega; omega; omega)
end HD

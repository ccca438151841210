/-! MY OWN: one statement and what closes it; the loop over statements -/
section SX
variable {A B C σ τ υ φ : zS} {c : Int → Int} {N b q q' a t v i k p w n : Int} {d : Bool}
theorem mm_stmt (h : mFb τ k p) : ∃ υ, fX11_statement τ = some υ ∧ oM τ υ ∧ mFt υ k p := by
  obtain ⟨υ, u1, u2, u3⟩ := mF_l h
  unfold fX11_statement
  rw [u1, bnr_q]
  rcases u3 with u3 | ⟨hk, he, hr, hp⟩
  · rw [if_neg (c8p u3)]
    exact ⟨υ, rfl, u2, u3⟩
  · subst he hk
    have hx := hr.2.2.2
    obtain ⟨f1, f2⟩ := flt (k := 1) (p := p) hr.1 (by omega) (by omega)
    rw [if_pos (c8z hr.1), if_pos (by rw [iw0 hx]; omega), if_pos (by rw [iw4 hx]; omega), if_pos (by rw [iw7 hx]; omega), if_pos (by rw [iw8 hx]; omega), if_pos (by rw [iw9 hx]; omega), if_pos (by rw [iw10 hx]; omega), if_pos (by rw [iw11 hx]; omega), if_pos (by rw [iw12 hx]; omega), bl4 (z32_litn 1) hr.1 hr.2.2.1, bnr_q]
    exact ⟨_, rfl, oM_t u2 f2, f1⟩
theorem rsd_k (h : cBk A k p) : ∃ B, rsD A = fX5_readStatement_200 B ∧ oR A B ∧ cBk B k p := by
  obtain ⟨B, b1, b2, b3⟩ := fail_k h 1 (iG A 54 4)
  refine ⟨B, ?_, b2, b3⟩
  unfold rsD
  rw [if_neg (b6 (s := 0) h (z32_litn 0) (by omega) (by omega)), if_neg (b6 (s := 4) h (z32_litn 4) (by omega) (by omega)), if_neg (b6 (s := 7) h (z32_litn 7) (by omega) (by omega)), if_neg (b6 (s := 8) h (z32_litn 8) (by omega) (by omega)), if_neg (b6 (s := 9) h (z32_litn 9) (by omega) (by omega)), if_neg (b6 (s := 10) h (z32_litn 10) (by omega) (by omega)), if_neg (b6 (s := 11) h (z32_litn 11) (by omega) (by omega)), if_neg (b6 (s := 12) h (z32_litn 12) (by omega) (by omega)), b1, bnr_q]
theorem st_fin (hs : STA A B σ τ c N d b q) (hT : TX A c N) (hO : OWN A) (hM : MX σ c N) (hd : A.2.2.2.2 = d) (hn : hI A (rp d + 0) 0 = n) (h0 : 0 ≤ n) (h1 : n < 80) : ∃ C φ, fX5_readStatement_200 B = some C ∧ fX11_finishes (z32 (n + 1)) τ = some φ ∧ fr (cRa (rp d)) B C ∧ fr (mRd b) τ φ ∧ AFT C φ c N d b (n + 1) := by
  have hrp := rp_or d
  obtain ⟨f1, f2, hres⟩ := hs
  have f1a := fr_m f1 cR_a
  have dB : B.2.2.2.2 = d := by rw [f1.1]; exact hd
  have nB : hI B (rp d + 0) 0 = n := by rw [(f1.2 _ _ (by omega) (by unfold cR; omega)).1]; exact hn
  have TB := TX_cRa hT f1a
  have OB := OWN_cRa hO f1a
  have MT := MX_fr hM f2
  have hN := MT.2.1
  rcases hres with ⟨q', a', t', v', h3, hq, hR⟩ | ⟨k, p, h3, h4⟩
  · obtain ⟨hr, hA⟩ := AL_x h3
    obtain ⟨p1, p2, p3, p4, p5, p6, p7, p8⟩ := h3.2.2.1
    obtain ⟨m1, m2, m3, m4, m5, m6, m7⟩ := h3.2.1
    obtain ⟨c1, c2, c3, c4, c5, c6, c7, c8, c9⟩ := h3.1
    by_cases ht : t' = 59
    · subst ht
      obtain ⟨φ, qs, u1, u2, u3, u4⟩ := hd_m (a := a') MT (⟨m1.1, rfl, m2, m3, rfl, rfl, m4, m5, m6⟩ : mv τ N (hI τ 56 3) q' a' (hI τ 56 6) (hL τ 56 7) 0 (-1) (-1)) (by omega) p4
      have s1 := u3.1
      have s2 := u3.2.1
      have eC : fX5_readStatement_200 B = some (jS B (rp d + 0) 0 (n + 1)) := by
        unfold fX5_readStatement_200
        rw [if_pos (by rw [ca59 hA]), rs218 dB nB]
      have fC : fr (cRa (rp d)) B (jS B (rp d + 0) 0 (n + 1)) := fr_j (by omega) (by unfold cRa; omega)
      have eF : fX11_finishes (z32 (n + 1)) τ = fX11_finishes_53 (z32 (n + 1)) (z32 qs) τ := by
        unfold fX11_finishes
        rw [lex_n hr.2.1, bnr_q, if_pos (c8z hr.1), show iG τ 56 5 = z32 (hI τ 56 5) from iG_h τ 56 5, m3]
        exact fin_sk MT (by omega) u3
      have y3 : hI (jS B (rp d + 0) 0 (n + 1)) 54 3 = a' := by rw [hI_jS_ne (by omega)]; exact c3
      have y9 : hI (jS B (rp d + 0) 0 (n + 1)) 54 9 = 0 := by rw [hI_jS_ne (by omega)]; exact c7
      have y10 : hI (jS B (rp d + 0) 0 (n + 1)) 54 10 = -1 := by rw [hI_jS_ne (by omega)]; exact c8
      have y0 : hI (jS B (rp d + 0) 0 (n + 1)) (rp d + 0) 0 = n + 1 := by rw [hI_jS (by omega) (by omega) (by omega) (by omega), if_pos rfl]
      by_cases g8 : n + 1 = 80 ∧ qs < N
      · obtain ⟨x1, x2⟩ := flt (k := 6) (p := qs) hr.1 (by omega) (by omega)
        refine ⟨_, jS (jS τ 56 8 6) 56 9 qs, eC, ?_, fC, oM_d x2, Or.inr (Or.inl ⟨g8.1, TX_cRa TB fC, a', qs, y3, by omega, u3, g8.2, y9, y10, by omega, dB, x1⟩)⟩
        rw [eF, g8.1]
        exact fin_6 hr MT (by omega) g8.2
      · refine ⟨_, φ, eC, ?_, fC, oM_d u2, Or.inl ⟨a', qs, ⟨TX_cRa TB fC, OWN_cRa OB fC, MX_o MT u2⟩, ⟨y3, y9, y10, y0⟩, ⟨by omega, fun g => ?_, u3, by omega, by omega, by omega⟩, RR_c (RR_0 hR) (oR_r _) u2 p3, u4⟩⟩
        · rw [eF, fin_8 hr MT h0 h1 (by omega) s2 g8, u1, bnr_q]
        · have := (p8 (by omega)).2 g
          omega
    · obtain ⟨B', b1, b2, b3⟩ := fl_j (k := 1) (z32_litn 1) h3 (by omega)
      obtain ⟨x1, x2⟩ := flt (k := 1) (p := q') hr.1 (by omega) (by omega)
      obtain ⟨y, hy⟩ := fin_e (x := z32 (n + 1)) MT hr (by omega)
      have nB' : hI B' (rp d + 0) 0 = n := by rw [b2.2.2 _ _ (by omega)]; exact nB
      have fC : fr (cRa (rp d)) B (jS B' (rp d + 0) 0 (n + 1)) := fr_t (fr_R b2 (fun k _ => by unfold cRa; omega)) (fr_j (by omega) (by unfold cRa; omega))
      refine ⟨jS B' (rp d + 0) 0 (n + 1), _, ?_, by rw [hy]; exact fin_n hr ht (by omega), fC, oM_d x2, Or.inr (Or.inr ⟨TX_cRa TB fC, 1, q', cBk_j (by omega) b3, x1⟩)⟩
      unfold fX5_readStatement_200
      rw [if_neg (by rw [ca59 hA]; exact ht), b1, bnr_q]
      exact rs218 (by rw [b2.1]; exact dB) nB'
  · obtain ⟨B', b1, b2, b3⟩ := fail_k h3 1 (iG B 54 4)
    have nB' : hI B' (rp d + 0) 0 = n := by rw [b2.2.2 _ _ (by omega)]; exact nB
    have fC : fr (cRa (rp d)) B (jS B' (rp d + 0) 0 (n + 1)) := fr_t (fr_R b2 (fun k _ => by unfold cRa; omega)) (fr_j (by omega) (by unfold cRa; omega))
    have eC : fX5_readStatement_200 B = some (jS B' (rp d + 0) 0 (n + 1)) := by
      unfold fX5_readStatement_200
      rw [if_neg (b5 (s := 59) h3 (z32_litn 59) (by omega) (by omega) (by omega)), b1, bnr_q]
      exact rs218 (by rw [b2.1]; exact dB) nB'
    have hF : ∃ φ, fX11_finishes (z32 (n + 1)) τ = some φ ∧ oM τ φ ∧ mFt φ k p := by
      obtain ⟨υ, u1, u2, u3⟩ := mF_l h4
      rcases u3 with u3 | ⟨hk, he, hr, hp⟩
      · refine ⟨υ, ?_, u2, u3⟩
        unfold fX11_finishes
        rw [u1, bnr_q, if_neg (c8p u3)]
      · subst he hk
        have h5 : 0 ≤ hI υ 56 5 := by
          rcases h4 with ⟨g1, g2, g3⟩ | ⟨_, g1, g2, g3, g4⟩
          · have := hr.1
            omega
          · omega
        obtain ⟨y, hy⟩ := fin_e (x := z32 (n + 1)) MT hr h5
        obtain ⟨x1, x2⟩ := flt (k := 1) (p := p) hr.1 (by omega) (by omega)
        exact ⟨_, by rw [hy]; exact fin_n hr (by omega) hp, x2, x1⟩
    obtain ⟨φ, w1, w2, w3⟩ := hF
    exact ⟨_, φ, eC, w1, fC, oM_d w2, Or.inr (Or.inr ⟨TX_cRa TB fC, k, p, cBk_j (by omega) b3, w3⟩)⟩
theorem tk_3 (hk : TKo c N q a t v p w) (hm : mvT τ N q a (-1) t v w) (hq : q < N) : t ≠ 1 ∧ hI τ 56 3 ≠ 0 := by
  obtain ⟨-, -, -, -, -, -, ⟨k1, k2, k3, k4, k5⟩, -⟩ := hm
  rcases hk with ⟨g1, g2, g3⟩ | ⟨-, -, -, ⟨g, -⟩ | ⟨g, -⟩⟩ | ⟨g, -⟩ | ⟨g1, g2, g3, g4, g5, g6⟩
  · omega
  · have := k4 g; omega
  · have := k5 g; omega
  · have := k2 g; omega
  · rw [← g2] at g6
    have := k3 g6
    unfold isS at g6
    omega
theorem one_st (h : LH A τ c N d b a q n) (hq : q < N) : ∃ A1 B υ φ, fX5_comesToStatement A = some (z32 1, A1) ∧ fX5_readStatement A1 = some B ∧ fX11_statement τ = some υ ∧ fX11_finishes (z32 (n + 1)) υ = some φ ∧ hI τ 56 8 = 0 ∧ hI τ 56 3 ≠ 0 ∧ fr (cRa (rp d)) A B ∧ fr (mRd b) τ φ ∧ AFT B φ c N d b (n + 1) := by
  have hrp := rp_or d
  obtain ⟨⟨hT, hO, hM⟩, ⟨e3, e9, e10, en⟩, ⟨h0, hsd, hsk, hn8, hn0, hn1⟩, hR, hres⟩ := h
  have hN := hM.2.1
  have s1 := hsk.1
  obtain ⟨A1, b1, b2, b3⟩ := comes_y hT e3 e9 h0 hsk
  rw [if_pos hq] at b1
  rw [e10] at b3
  have dA : A.2.2.2.2 = d := hR.1
  have dA1 : A1.2.2.2.2 = d := by rw [b2.1]; exact dA
  have nA1 : hI A1 (rp d + 0) 0 = n := by rw [b2.2.2 _ _ (by omega)]; exact en
  have eR : fX5_readStatement A1 = bnr (fX5_advance (jS A1 54 5 0)) rsD := by
    rw [rs_e (by rw [dA1, show iG A1 (rp d + 0) 0 = z32 (hI A1 (rp d + 0) 0) from iG_h A1 (rp d + 0) 0, nA1, z32_litn, z32_lt (by omega) (by omega) (by omega) (by omega)]; omega)]
    rw [show (iS A1 54 5 0) = jS A1 54 5 0 by rw [z32_litn 0]; rfl]
  have oA2 : oR A (jS A1 54 5 0) := oR_t b2 oR_j
  have T2 := TX_o hT oA2
  have O2 : OWN (jS A1 54 5 0) := fun i g0 g1 => by rw [oA2.2.2 55 i (by omega)]; exact hO i g0 g1
  obtain ⟨d1, d2, d3, d4, d5, d6, d7, d8⟩ := b3
  have L2 : lv (jS A1 54 5 0) q (hI A 54 4) 0 (hI A 54 6) (hI A 54 7) (hI A 54 8) 0 (-1) := by
    simp (disch := omega) only [lv, hI_jS, ↓reduceIte, ieqT, ieqF, iltT, iltF, ileT, ileF, not_true, not_false_iff, d1, d2, d4, d5, d6, d7, d8]
    simp
  have sq : ¬ sdP c q := by
    by_cases g : a = q
    · rw [← g]; exact hsd
    · exact sd_q hsk (by omega)
  have kq : skT c N q q := ⟨by omega, by omega, fun j _ _ => by omega, hsk.2.2.2⟩
  have hs0 : ((0 : Int) = 2 ∨ (0 : Int) = 3) ↔ sdP c q := ⟨fun g => by omega, fun g => absurd g sq⟩
  rcases hres with ⟨a', t, v, p, w, hk, hm⟩ | ⟨p, hk, hm⟩
  · obtain ⟨ht, h3⟩ := tk_3 hk hm hq
    obtain ⟨B2, nm', nu', c1, c2, c3, c4, c5⟩ := tok_c T2 O2 L2 (by omega) (by omega) (by omega) (by omega) hs0 kq hk
    have oAB := oR_t oA2 c2
    obtain ⟨e1, e2, e4, e5, e6, e7, e8⟩ := hm
    obtain ⟨g1, g2, g3, g4, g5, g6, g7, g8⟩ := c3
    have hp := tk_p hN.2 (by omega) hk
    have al : AL B2 τ c N q a' t v := by
      refine ⟨⟨TX_o T2 c2, fun i w0 w1 => by rw [c2.2.2 55 i (by omega)]; exact O2 i w0 w1, g1, g2, g3, g4, g7, g8, fun g => by rw [g6]; exact c4 g⟩, ⟨hM, e2, e4, e5, e6, e7, e8.1⟩, hp, fun g => ?_⟩
      rw [g5, e8.2 g, c5 g]
      exact tk_nm hk g
    obtain ⟨B3, υ, r1, r2, r3⟩ := st_one al ht (RR_c hR oAB (oM_r τ) s1)
    obtain ⟨C, φ, x1, x2, x3, x4, x5⟩ := st_fin r3 (TX_o T2 c2) (fun i w0 w1 => by rw [c2.2.2 55 i (by omega)]; exact O2 i w0 w1) hM (by rw [oAB.1]; exact dA) (by rw [oAB.2.2 _ _ (by omega)]; exact en) hn0 (by omega)
    refine ⟨A1, C, υ, φ, b1, ?_, r2, x2, e5, h3, fr_t (fr_t (fr_R oAB (fun k _ => by unfold cRa; omega)) (fr_m r3.1 cR_a)) x3, fr_t r3.2.1 x4, x5⟩
    rw [eR, c1, bnr_q, r1, x1]
  · obtain ⟨B2, c1, c2, c3⟩ := tok_cb T2 O2 L2 (by omega) (by omega) (by omega) (by omega) hs0 kq hk
    have oAB := oR_t oA2 c2
    obtain ⟨B3, r1, r2, r3⟩ := rsd_k c3
    obtain ⟨υ, u1, u2, u3⟩ := mm_stmt (Or.inr ⟨rfl, hm⟩ : mFb τ 1 p)
    have sta : STA B2 B3 τ υ c N d b q := ⟨oR_cR r2, oM_d u2, Or.inr ⟨1, p, r3, mt_b u3⟩⟩
    obtain ⟨C, φ, x1, x2, x3, x4, x5⟩ := st_fin sta (TX_o T2 c2) (fun i w0 w1 => by rw [c2.2.2 55 i (by omega)]; exact O2 i w0 w1) hM (by rw [oAB.1]; exact dA) (by rw [oAB.2.2 _ _ (by omega)]; exact en) hn0 (by omega)
    refine ⟨A1, C, υ, φ, b1, ?_, u1, x2, hm.1, hm.2.2.1.2.2.1, fr_t (fr_t (fr_R oAB (fun k _ => by unfold cRa; omega)) (fr_m sta.1 cR_a)) x3, fr_t sta.2.1 x4, x5⟩
    rw [eR, c1, bnr_q, r1, x1]
def ENDR (C υ : zS) (d : Bool) (b m : Int) : Prop := (hI C 54 9 = 0 ∧ hI C 54 10 = -1 ∧ hI υ 56 8 = 0 ∧ hI υ 56 9 = -1 ∧ hI C (rp d + 0) 0 = m ∧ (0 ≤ m ∧ m ≤ 80) ∧ RR C υ d b 1600) ∨ ∃ k p, hI C 54 9 = k ∧ hI C 54 10 = p ∧ k ≠ 0 ∧ mFt υ k p
theorem lt80 (h0 : 0 ≤ n) (h1 : n ≤ 80) : ¬ ((80 : Int32) < z32 n) := by
  rw [z32_litn, z32_lt (by omega) (by omega) (by omega) (by omega)]; omega
theorem z10 : ¬ (z32 1 = 0) := by decide
theorem z00 : z32 0 = 0 := by decide
theorem c3n (h : hI σ 56 3 ≠ 0) : ¬ (iG σ 56 3 = 0) := by
  have l1 := hI_lo σ 56 3
  have l2 := hI_hi σ 56 3
  rw [show iG σ 56 3 = z32 (hI σ 56 3) from iG_h σ 56 3, z32_litn, z32_eq (by omega) (by omega) (by omega) (by omega)]
  exact h
theorem c3z (h : hI σ 56 3 = 0) : iG σ 56 3 = 0 := by
  rw [show iG σ 56 3 = z32 (hI σ 56 3) from iG_h σ 56 3, h, z32_litn]
theorem end_lp {f g : Nat} (h : LH A τ c N d b a q n) (hq : ¬ q < N) : ∃ C υ m, fX10_road_13 (f + 1) (z32 n) A = fX10_road_42 C ∧ fX11_road_109 (g + 1) (z32 n) τ = fX11_road_138 (z32 m) υ ∧ fr (cRa (rp d)) A C ∧ fr (mRd b) τ υ ∧ ENDR C υ d b m := by
  have hrp := rp_or d
  obtain ⟨⟨hT, hO, hM⟩, ⟨e3, e9, e10, en⟩, ⟨h0, hsd, hsk, hn8, hn0, hn1⟩, hR, hres⟩ := h
  have hN := hM.2.1
  have s1 := hsk.1
  have s2 := hsk.2.1
  obtain ⟨A1, b1, b2, b3⟩ := comes_y hT e3 e9 h0 hsk
  rw [if_neg hq] at b1
  obtain ⟨d1, d2, d3, d4, d5, d6, d7, d8⟩ := b3
  rcases hres with ⟨a', t, v, p, w, hk, hm⟩ | ⟨p, hk, hm⟩
  · have ht : t = 1 := by
      rcases hk with ⟨g1, g2, g3⟩ | ⟨⟨_, _, g, _⟩, _⟩ | ⟨_, _, _, _, g, _⟩ | ⟨g, _⟩
      · exact g1
      · exact absurd g hq
      · exact absurd g hq
      · exact absurd g hq
    obtain ⟨m1, m2, m3, m4, m5, m6, m7, m8⟩ := hm
    refine ⟨A1, τ, n, ?_, ?_, fr_R b2 (fun k _ => by unfold cRa; omega), fr_r, Or.inl ⟨d7, by rw [d8]; exact e10, m4, m5, by rw [b2.2.2 _ _ (by omega)]; exact en, ⟨hn0, hn1⟩, RR_c hR b2 (oM_r τ) (by omega)⟩⟩
    · rw [fX10_road_13, if_neg (lt80 hn0 hn1), b1, bnc_q, if_pos z00]
    · rw [fX11_road_109, if_pos (c8q m4), if_pos (c3z (m7.1 ht))]
  · exfalso
    rcases hk with ⟨_, g, _⟩ | ⟨_, g, _⟩ | ⟨_, g, _⟩ | ⟨g, _⟩ <;> exact hq g
theorem rd_lp : ∀ (e : Nat) (n a q : Int) (A τ : zS) (f g : Nat), n + e = 80 → e + 3 ≤ f → e + 3 ≤ g → LH A τ c N d b a q n → ∃ C υ m, fX10_road_13 f (z32 n) A = fX10_road_42 C ∧ fX11_road_109 g (z32 n) τ = fX11_road_138 (z32 m) υ ∧ fr (cRa (rp d)) A C ∧ fr (mRd b) τ υ ∧ ENDR C υ d b m := by
  have hrp := rp_or d
  intro e
  induction e with
  | zero =>
    intro n a q A τ f g he hf hg h
    obtain ⟨f', rfl⟩ : ∃ f', f = f' + 1 := ⟨f - 1, by omega⟩
    obtain ⟨g', rfl⟩ : ∃ g', g = g' + 1 := ⟨g - 1, by omega⟩
    exact end_lp h (by have := h.2.2.1.2.2.2.1; omega)
  | succ e ih =>
    intro n a q A τ f g he hf hg h
    obtain ⟨f', rfl⟩ : ∃ f', f = f' + 3 := ⟨f - 3, by omega⟩
    obtain ⟨g', rfl⟩ : ∃ g', g = g' + 3 := ⟨g - 3, by omega⟩
    by_cases hq : q < N
    · obtain ⟨A1, B, υ, φ, x1, x2, x3, x4, x5, x6, x7, x8, x9⟩ := one_st h hq
      have hn0 := h.2.2.1.2.2.2.2.1
      have hn1 := h.2.2.1.2.2.2.2.2
      have E1 : fX10_road_13 (f' + 3) (z32 n) A = fX10_road_13 (f' + 2) (z32 (n + 1)) B := by
        rw [fX10_road_13, if_neg (lt80 hn0 hn1), x1, bnc_q, if_neg z10, x2, bnr_q, z1p]
      have E2 : fX11_road_109 (g' + 3) (z32 n) τ = fX11_road_109 (g' + 2) (z32 (n + 1)) φ := by
        rw [fX11_road_109, if_pos (c8q x5), if_neg (c3n x6), x3, bnr_q, z1p, x4, bnr_q]
      rw [E1, E2]
      rcases x9 with ⟨a', q', h'⟩ | ⟨hn, hT, a', q', y1, y2, y3, y4, y5, y6, y7, y8, y9⟩ | ⟨hT, k, p, y1, y2⟩
      · obtain ⟨C, ψ, m, z1, z2, z3, z4, z5⟩ := ih (n + 1) a' q' B φ (f' + 2) (g' + 2) (by omega) (by omega) (by omega) h'
        exact ⟨C, ψ, m, z1, z2, fr_t x7 z3, fr_t x8 z4, z5⟩
      · obtain ⟨B1, b1, b2, b3⟩ := comes_y hT y1 y5 y2 y3
        rw [if_pos y4] at b1
        have q1 := y3.1
        have hN := hT.2.1
        obtain ⟨B2, c1, c2, c3⟩ := fail_0 (k := 6) (x := q') b3 (by omega) (by omega)
        have n1 : hI B1 (rp d + 0) 0 = 80 := by rw [b2.2.2 _ _ (by omega)]; exact y7
        have dB1 : B1.2.2.2.2 = d := by rw [b2.1]; exact y8
        have eR : fX5_readStatement B1 = some B2 := by
          unfold fX5_readStatement
          rw [dB1, if_neg (by rw [show iG B1 (rp d + 0) 0 = z32 (hI B1 (rp d + 0) 0) from iG_h B1 (rp d + 0) 0, n1, z32_litn, z32_lt (by omega) (by omega) (by omega) (by omega)]; omega), show iG B1 54 3 = z32 (hI B1 54 3) from iG_h B1 54 3, b3.1, z32_litn 6, c1, bnr_q]
        refine ⟨B2, φ, 80, ?_, ?_, fr_t x7 (fr_R (oR_t b2 c2) (fun k _ => by unfold cRa; omega)), x8, Or.inr ⟨6, q', c3.2.2.2.2.2.2.1, c3.2.2.2.2.2.2.2, by omega, y9⟩⟩
        · rw [hn, fX10_road_13, if_neg (lt80 (by omega) (by omega)), b1, bnc_q, if_neg z10, eR, bnr_q, z1p, fX10_road_13, if_pos (by rw [z32_litn, z32_lt (by omega) (by omega) (by omega) (by omega)]; omega)]
        · rw [hn, fX11_road_109, if_neg (c8e y9)]
      · obtain ⟨C, b1, b2, b3⟩ := comes_k hT y1
        refine ⟨C, φ, n + 1, ?_, ?_, fr_t x7 (fr_R b2 (fun k _ => by unfold cRa; omega)), x8, Or.inr ⟨k, p, b3.2.2.1, b3.2.2.2.1, b3.2.2.2.2.1, y2⟩⟩
        · rw [fX10_road_13, if_neg (lt80 (by omega) (by omega)), b1, bnc_q, if_pos z00]
        · rw [fX11_road_109, if_neg (c8e y2)]
    · exact end_lp h hq
end SX

/-! MY OWN: reading sums: pairs, if; a part as a whole -/
section PI
variable {A A1 B C σ σ1 τ υ : zS} {c : Int → Int} {N b q a t v sz e om dp ba o kd ph bg od om' o0 D r s E ls kd' : Int} {n : Nat}
theorem JC_add {cd : Int} (hj : JC B τ c N b q a t v sz e om dp ba o kd ph bg od) (h1 : sz + 1 ≤ q) : JC (jS (jS B (rp B.2.2.2.2 + 12) sz cd) (rp B.2.2.2.2 + 11) 3 (sz + 1)) τ c N b q a t v (sz + 1) e om dp ba o kd ph bg od ∧ fr (cS (rp B.2.2.2.2) sz) B (jS (jS B (rp B.2.2.2.2 + 12) sz cd) (rp B.2.2.2.2 + 11) 3 (sz + 1)) := by
  obtain ⟨hal, ⟨s1, s2, s3⟩, hn, j4, j5, j6⟩ := hj
  obtain ⟨p1, p2, p3, p4, p5, p6, p7, p8⟩ := hal.2.2.1
  have hrp := rp_or B.2.2.2.2
  refine ⟨⟨AL_f hal (fun p k g w => by rw [hI_jS_ne (by omega), hI_jS_ne (by omega)]) (fr_r (P := fun _ _ => False)) (fun p k w => w.elim), ⟨?_, by omega, h1⟩, hn, j4, j5, j6⟩, fr_t (fr_j s2 (by unfold cS; omega)) (fr_j (by omega) (by unfold cS; omega))⟩
  show hI (jS (jS B (rp B.2.2.2.2 + 12) sz cd) (rp B.2.2.2.2 + 11) 3 (sz + 1)) (rp B.2.2.2.2 + 11) 3 = sz + 1
  rw [hI_jS (by omega) (by omega) (by omega) (by omega), if_pos rfl]
theorem JC_set {i w : Int} (hj : JC B τ c N b q a t v sz e om dp ba o kd ph bg od) (hi : 0 ≤ i) : JC (jS B (rp B.2.2.2.2 + 12) i w) τ c N b q a t v sz e om dp ba o kd ph bg od ∧ fr (cS (rp B.2.2.2.2) i) B (jS B (rp B.2.2.2.2 + 12) i w) := by
  obtain ⟨hal, ⟨s1, s2, s3⟩, hn, j4, j5, j6⟩ := hj
  have hrp := rp_or B.2.2.2.2
  refine ⟨⟨AL_f hal (fun p k g w => by rw [hI_jS_ne (by omega)]) (fr_r (P := fun _ _ => False)) (fun p k w => w.elim), ⟨?_, s2, s3⟩, hn, j4, j5, j6⟩, fr_j hi (by unfold cS; omega)⟩
  show hI (jS B (rp B.2.2.2.2 + 12) i w) (rp B.2.2.2.2 + 11) 3 = sz
  rw [hI_jS_ne (by omega)]
  exact s1
theorem cland_z {d : Bool} {i x : Int} (hs : hI A (rp d + 11) 3 = sz) (hx : hI A (rp d + 12) i = x) (h0 : 0 ≤ i) (h1 : i < sz) (h2 : sz ≤ 1600) (hx0 : 0 ≤ x) : fX8_landHere d (z32 i) A = some (jS A (rp d + 12) i (sz * 64 + x % 64)) := by
  have l := hI_hi A (rp d + 12) i
  have e : z32 x - z32 x / z32 64 * z32 64 = z32 (x % 64) := z32_rem hx0 (by omega) (by omega) (by omega)
  unfold fX8_landHere
  rw [if_neg (by rw [z32_litn, z32_lt (by omega) (by omega) (by omega) (by omega)]; omega), if_neg (by rw [show iG A (rp d + 11) 3 = z32 (hI A (rp d + 11) 3) from iG_h A _ 3, hs, z32_le (by omega) (by omega) (by omega) (by omega)]; omega), aI_h (by omega) (by omega) (by omega), hx, show iG A (rp d + 11) 3 = z32 (hI A (rp d + 11) 3) from iG_h A _ 3, hs, show (64 : Int32) = z32 64 from z32_litn 64, e, z32_mul, z32_add, wI_h (by omega) (by omega) (by omega)]
theorem P_pair {wh opc : Int} {x : Int32} (hx : x = z32 opc) (hn : 3 ≤ n) (hS : o < 7 → SpSum n (o + 1)) (hj : JC A σ c N b q a t v sz e om dp ba o kd ph bg 0) (hl : om ≤ 6 * o + 5) (hp : preS t kd ph bg) (ht : (t = 123 ∧ wh = 15 ∧ opc = 8) ∨ (t = 124 ∧ wh = 16 ∧ opc = 9)) : ∃ B, (bnr (fX5_advance A) fun σ1 => bnc (fX5_isOpened 40 (z32 o) σ1) fun v5 σ3 => if v5 = 0 then some σ3 else (bnr (fX5_readSum n (z32 o + 1) σ3) fun σ6 => bnr (fX5_takeSign 44 σ6) fun σ8 => bnr (fX5_readSum n (z32 o + 1) σ8) fun σ10 => bnr (fX5_takeSign 41 σ10) fun σ12 => bnc (fX8_add σ12.2.2.2.2 x 0 σ12) fun v16 σ14 => some σ14)) = some B ∧ (OKP A B σ c N b q sz e om dp ba o kd 7 (DP o) (poS (fun _ => True) ph) ∨ BADP A B σ b q e om dp) := by
  have hwb : (wh = 15 ∨ wh = 16) ∧ zcd wh = opc ∧ 0 ≤ opc ∧ opc ≤ 9 := by
    rcases ht with ⟨_, h2, h3⟩ | ⟨_, h2, h3⟩ <;> subst h2 h3 <;> decide
  have k4 : BK (fun σ12 => bnc (fX8_add σ12.2.2.2.2 x 0 σ12) fun v16 σ14 => some σ14) := BK_add (fun _ => x) (fun _ => 0) (fun i => BK_s)
  have k3 : BK (fun σ10 => bnr (fX5_takeSign 41 σ10) fun σ12 => bnc (fX8_add σ12.2.2.2.2 x 0 σ12) fun v16 σ14 => some σ14) := BK_b BK_take41 k4
  have k2 : BK (fun σ8 => bnr (fX5_readSum n (z32 o + 1) σ8) fun σ10 => bnr (fX5_takeSign 41 σ10) fun σ12 => bnc (fX8_add σ12.2.2.2.2 x 0 σ12) fun v16 σ14 => some σ14) := BK_b (BK_sum' hn) k3
  have k1 : BK (fun σ6 => bnr (fX5_takeSign 44 σ6) fun σ8 => bnr (fX5_readSum n (z32 o + 1) σ8) fun σ10 => bnr (fX5_takeSign 41 σ10) fun σ12 => bnc (fX8_add σ12.2.2.2.2 x 0 σ12) fun v16 σ14 => some σ14) := BK_b BK_take44 k2
  have hb := fn_open (wh := wh) (kd2 := 3) hj hp (by omega) (BK_b (f := fX5_readSum n (z32 o + 1)) (BK_sum' hn) k1)
  rcases hb with ⟨B, b1, b2⟩ | ⟨ho, B1, σ2, q1, a1, t1, v1, b1, hj2, st, hq1, oA, f1, ⟨o78, o79, o80, o82⟩, o81⟩
  · exact ⟨B, b1, Or.inr b2⟩
  rw [b1]
  obtain ⟨n1, n2, n3, n4, n5, n6, n7, n8, n9, n10⟩ := hj.2.2.1
  have sA := hj.2.1
  have j4 := hj.2.2.2.1
  have j5 := hj.2.2.2.2.1
  have fBk : ∀ k : Int, 0 ≤ k → cSB (rp A.2.2.2.2) 54 k := fun k _ => by unfold cSB; omega
  have hrp := rp_or A.2.2.2.2
  obtain ⟨p1, p2, p3, p4, p5, p6, p7, p8⟩ := hj.1.2.2.1
  have eB1 : B1.2.2.2.2 = A.2.2.2.2 := by rw [oA.1]
  -- the first sum
  obtain ⟨B2, c1, c2⟩ := hS ho B1 σ2 c N b q1 a1 t1 v1 sz e om (dp + 1) om 3 0 1 hj2 (by omega) (Or.inl rfl) ⟨by omega, Or.inl (by unfold fsZ isTst; omega)⟩
  rw [z1p, c1, bnr_q]
  rcases c2 with ⟨τ3, q2, a2, t2, v2, sz2, e2, om2, o2, ph2, s2, L, F, G, kk, hj3, ⟨d1, d2, d3⟩, d4, d5, ⟨d6, d7, d7'⟩, d8, d9, d10, d11, d12, ⟨d13, d14⟩⟩ | c2
  case inr =>
    obtain ⟨B3, x1, x2⟩ := BAD_post (BAD_pre (q := q) (fr_R oA fBk) st f1 (by omega) (Int.le_refl e) (Int.le_refl om) (by omega) c2) k1
    rw [z1p] at x1
    exact ⟨B3, x1, Or.inr x2⟩
  have hcb := CH_b _ _ _ _ d10
  have ms := d11.1
  rw [eB1] at d4 d8
  have cs1 := d8.1
  have fA2 : fr (cS (rp A.2.2.2.2) sz) A B2 := fr_t (oR_S oA) d4
  have eB2 : B2.2.2.2.2 = A.2.2.2.2 := by rw [fA2.1]
  have fσ3 : fr (sP b e om dp) σ τ3 := fr_t f1 (fr_m d5 (sP_m (by omega) (by omega) (by omega)))
  have st1 := stp_t st d3
  -- the comma
  obtain ⟨B3, y1, y2⟩ := cls_c (z32_litn 44) hj3 d10 d11 (by omega) (by omega) rfl (by omega) d12 (by omega) (by omega) (Or.inr d14) (Or.inl (by unfold isTst; omega)) (Or.inl ⟨rfl, rfl⟩)
  rw [y1, bnr_q]
  rcases y2 with ⟨τ4, q3, a3, t3, v3, hj4, y3, y4, y5, y6, y7⟩ | y2
  case inr =>
    rw [show dp + 1 - 1 = dp by omega] at y2
    obtain ⟨B4, x1, x2⟩ := BAD_post (BAD_pre (q := q) (cS_B fA2) st1 fσ3 (by omega) (by omega) (Int.le_refl om) (by omega) y2) k2
    rw [z1p] at x1
    exact ⟨B4, x1, Or.inr x2⟩
  have fA3 : fr (cS (rp A.2.2.2.2) sz) A B3 := fr_t fA2 (oR_S y5)
  have eB3 : B3.2.2.2.2 = A.2.2.2.2 := by rw [fA3.1]
  have fσ4 : fr (sP b e om dp) σ τ4 := fr_t fσ3 (fr_m (fr_m y6 (cm_s (om := om))) (sP_m (by omega) (by omega) (by omega)))
  have st2 := stp_t st1 y3
  -- the second sum
  obtain ⟨B4, z1, z2⟩ := hS ho B3 τ4 c N b q3 a3 t3 v3 sz2 (e2 + (om2 - om)) om (dp + 1) om 4 0 0 hj4 (by omega) (Or.inl rfl) ⟨by omega, Or.inl (by unfold fsZ isTst; omega)⟩
  rw [z1, bnr_q]
  rcases z2 with ⟨τ5, q4, a4, t4, v4, sz4, e4, om4, o4, ph4, s4, L4, F4, G4, kk4, hj5, ⟨w1, w2, w3⟩, w4, w5, ⟨w6, w7, w7'⟩, w8, w9, w10, w11, w12, ⟨w13, w14⟩⟩ | z2
  case inr =>
    obtain ⟨B5, x1, x2⟩ := BAD_post (BAD_pre (q := q) (cS_B fA3) st2 fσ4 (by omega) (by omega) (Int.le_refl om) (by omega) z2) k3
    exact ⟨B5, x1, Or.inr x2⟩
  have hcb4 := CH_b _ _ _ _ w10
  have ms4 := w11.1
  rw [eB3] at w4 w8
  have cs4 := w8.1
  have fA4 : fr (cS (rp A.2.2.2.2) sz) A B4 := fr_t fA3 (cS_m w4 (by omega))
  have fσ5 : fr (sP b e om dp) σ τ5 := fr_t fσ4 (fr_m w5 (sP_m (by omega) (by omega) (by omega)))
  have st3 := stp_t st2 w3
  have fo : ∀ p k, 0 ≤ k → k < dp → (p = 78 ∨ p = 79 ∨ p = 80 ∨ p = 82) → hI τ5 p k = hI σ2 p k := fun p k g g1 g2 => by
    rw [(w5.2 p k g (by unfold sP; omega)).1, (y6.2 p k g (by unfold cmQ; omega)).1, (d5.2 p k g (by unfold sP; omega)).1]
  have fo81 : hI τ5 81 dp = wh := by
    rw [(w5.2 81 dp (by omega) (by unfold sP; omega)).1, (y6.2 81 dp (by omega) (by unfold cmQ; omega)).1, (d5.2 81 dp (by omega) (by unfold sP; omega)).1]; exact o81
  -- the closing bracket
  have hxx := cls_x (pr := wh) (z32_litn 41) hj5 w10 w11 (by omega) (by omega) rfl (by omega) w12 (by omega) (by omega) (by omega) (Or.inr w14) (Or.inl (by unfold isTst; omega)) (Or.inr (Or.inl ⟨rfl, rfl⟩))
        (ba0 := ba) (kd0 := kd) (ph0 := ph) (by rw [fo _ _ (by omega) (by omega) (by omega), show dp + 1 - 2 = dp - 1 by omega]; exact ⟨o82, n6.2⟩) (by rw [fo _ _ (by omega) (by omega) (by omega), show dp + 1 - 2 = dp - 1 by omega]; exact ⟨o78, n8.2⟩) (by rw [fo _ _ (by omega) (by omega) (by omega), show dp + 1 - 2 = dp - 1 by omega]; exact ⟨o79, n9.2⟩) (by rw [fo _ _ (by omega) (by omega) (by omega), show dp + 1 - 2 = dp - 1 by omega]; exact o80) (fun _ => ⟨by rw [show dp + 1 - 1 = dp by omega]; exact fo81, by omega, by omega⟩)
  obtain ⟨B5, x1, x2⟩ := hxx
  rw [x1, bnr_q]
  rcases x2 with ⟨τ6, q5, a5, t5, v5, e6, u1, u2, u3, u4, u5, u6, u7⟩ | x2
  case inr =>
    rw [show dp + 1 - 1 = dp by omega] at x2
    obtain ⟨B6, x3, x4⟩ := BAD_post (BAD_pre (q := q) (cS_B fA4) st3 fσ5 (by omega) (by omega) (Int.le_refl om) (by omega) x2) k4
    exact ⟨B6, x3, Or.inr x4⟩
  rw [show dp + 1 - 1 = dp by omega, show o + 1 - 1 = o by omega, if_neg (by omega)] at u1
  rw [show dp + 1 - 1 = dp by omega] at u5
  rw [if_pos rfl] at u7
  have fA5 : fr (cS (rp A.2.2.2.2) sz) A B5 := fr_t fA4 (oR_S u4)
  have eB5 : B5.2.2.2.2 = A.2.2.2.2 := by rw [fA5.1]
  obtain ⟨v1', v2'⟩ := JC_add (cd := 0 * 64 + opc) u1 (by omega)
  rw [eB5] at v1' v2'
  have sB5 := u1.2.1.1
  rw [eB5] at sB5
  have uq := u1.2.2.2.1
  obtain ⟨-, up2, up3, up4, up5, -⟩ := u1.1.2.2.1
  rw [eB5, hx, show (0 : Int32) = z32 0 from z32_litn 0, cadd_z sB5 (by omega) (by have := u1.1.2.2.1; unfold ALp at this; omega) (by omega) (by omega), bnc_q]
  refine ⟨_, rfl, Or.inl ?_⟩
  refine ⟨τ6, q5, a5, t5, v5, sz4 + 1, e6, om, o, ph, 1600 * b + e, [], fun f => zop wh (G f) (G4 f), fun f => zop wh (G f) (G4 f), 1 + (kk4 + (1 + (kk + 1))), v1', ⟨by omega, by omega, stp_t st3 u2⟩, fr_t fA5 (cS_m v2' (by omega)), fr_t fσ5 (fr_m u5 (sP_m (by omega) (by omega) (by omega))), ⟨by omega, by omega, by simp only [nbL]; unfold DP; omega⟩, ?_, ?_, ⟨rfl, rfl, rfl⟩, ?_, by simp [nnL], ⟨rfl, trivial⟩⟩
  · have q0 : ∀ i, 0 ≤ i → i < sz4 → hI (jS (jS B5 (rp A.2.2.2.2 + 12) sz4 (0 * 64 + opc)) (rp A.2.2.2.2 + 11) 3 (sz4 + 1)) (rp A.2.2.2.2 + 12) i = hI B4 (rp A.2.2.2.2 + 12) i := fun i g0 g1 => by
      rw [(v2'.2 _ i g0 (by unfold cS; omega)).1, u4.2.2 _ _ (by omega)]
    refine cSeg_bin (m := sz2) (d1 := DP (o + 1) + 2) (d2 := DP (o + 1) + 2) d9 w9 (by omega) (by omega) (fun w => by omega) (cSeg_cong d8 (fun i g0 g1 => ?_)) (cSeg_cong w8 (fun i g0 g1 => ?_)) (by unfold DP; omega) (by unfold DP; omega) (by unfold DP; omega) ?_
    · rw [q0 i (by omega) (by omega), (w4.2 _ i (by omega) (by unfold cS; omega)).1, y5.2.2 _ _ (by omega)]
    · exact q0 i (by omega) (by omega)
    · rw [hI_jS_ne (by omega), hI_jS (by omega) (by omega) (by omega) (by omega), if_pos rfl, hwb.2.1]; omega
  · exact fun f hf => zop_b (d9 f hf).1 (d9 f hf).2 (w9 f hf).1 (w9 f hf).2
  · simp only [nbL, Int.sub_zero]
    obtain ⟨u7a, u7b⟩ := u7
    rw [show 1600 * b + e6 = 1600 * b + (e4 + (om4 - om)) + 1 by omega]
    refine mSeg_bin (m := 1600 * b + (e2 + (om2 - om))) (d1 := DP (o + 1) + 2) (d2 := DP (o + 1) + 2) d9 w9 (by omega) (by omega) (fun w => by omega) (mSeg_cong y7 (fun i g0 g1 => ?_)) u6 (by unfold DP; omega) (by unfold DP; omega) (by unfold DP; omega) (by omega) u7b
    rw [(u5.2 74 i (by omega) (by unfold sP; omega)).1, (u5.2 75 i (by omega) (by unfold sP; omega)).1, (w5.2 74 i (by omega) (by unfold sP; omega)).1, (w5.2 75 i (by omega) (by unfold sP; omega)).1]
    exact ⟨rfl, rfl⟩
theorem P_if (hn : 7 ≤ n) (hS : o < 7 → SpSum n (o + 1)) (hTt : o < 7 → SpTest n (o + 1)) (hj : JC A σ c N b q a t v sz e om dp ba o kd ph bg 0) (hl : om ≤ 6 * o + 5) (hp : preS t kd ph bg) (ht : t = 118) : ∃ B, fX5_readIf (n + 1) (z32 o) A = some B ∧ (OKP A B σ c N b q sz e om dp ba o kd 7 (DP o) (poS (fun _ => True) ph) ∨ BADP A B σ b q e om dp) := by
  rw [rdIf]
  have kT3 : ∀ i : Int32, BK (fun σ22 => bnr (fX5_takeSign 41 σ22) fun σ24 => bnr (fX8_landHere σ24.2.2.2.2 i σ24) fun σ26 => some σ26) := fun i => BK_b BK_take41 (BK_b (BK_land i) BK_s)
  have kS3 : ∀ i : Int32, BK (fun σ20 => bnr (fX5_readSum n (z32 o + 1) σ20) fun σ22 => bnr (fX5_takeSign 41 σ22) fun σ24 => bnr (fX8_landHere σ24.2.2.2.2 i σ24) fun σ26 => some σ26) := fun i => BK_b (BK_sum' (by omega)) (kT3 i)
  have kA2 : ∀ j : Int32, BK (fun σ15 => bnc (fX8_add σ15.2.2.2.2 4 0 σ15) fun v19 σ17 => bnr (fX8_landHere σ17.2.2.2.2 j σ17) fun σ20 => bnr (fX5_readSum n (z32 o + 1) σ20) fun σ22 => bnr (fX5_takeSign 41 σ22) fun σ24 => bnr (fX8_landHere σ24.2.2.2.2 v19 σ24) fun σ26 => some σ26) := fun j => BK_add (fun _ => 4) (fun _ => 0) (fun i => BK_b (BK_land j) (kS3 i))
  have kT2 : ∀ j : Int32, BK (fun σ13 => bnr (fX5_takeSign 44 σ13) fun σ15 => bnc (fX8_add σ15.2.2.2.2 4 0 σ15) fun v19 σ17 => bnr (fX8_landHere σ17.2.2.2.2 j σ17) fun σ20 => bnr (fX5_readSum n (z32 o + 1) σ20) fun σ22 => bnr (fX5_takeSign 41 σ22) fun σ24 => bnr (fX8_landHere σ24.2.2.2.2 v19 σ24) fun σ26 => some σ26) := fun j => BK_b BK_take44 (kA2 j)
  have kS2 : ∀ j : Int32, BK (fun σ10 => bnr (fX5_readSum n (z32 o + 1) σ10) fun σ13 => bnr (fX5_takeSign 44 σ13) fun σ15 => bnc (fX8_add σ15.2.2.2.2 4 0 σ15) fun v19 σ17 => bnr (fX8_landHere σ17.2.2.2.2 j σ17) fun σ20 => bnr (fX5_readSum n (z32 o + 1) σ20) fun σ22 => bnr (fX5_takeSign 41 σ22) fun σ24 => bnr (fX8_landHere σ24.2.2.2.2 v19 σ24) fun σ26 => some σ26) := fun j => BK_b (BK_sum' (by omega)) (kT2 j)
  have kA1 : BK (fun σ8 => bnc (fX8_add σ8.2.2.2.2 3 0 σ8) fun v12 σ10 => bnr (fX5_readSum n (z32 o + 1) σ10) fun σ13 => bnr (fX5_takeSign 44 σ13) fun σ15 => bnc (fX8_add σ15.2.2.2.2 4 0 σ15) fun v19 σ17 => bnr (fX8_landHere σ17.2.2.2.2 v12 σ17) fun σ20 => bnr (fX5_readSum n (z32 o + 1) σ20) fun σ22 => bnr (fX5_takeSign 41 σ22) fun σ24 => bnr (fX8_landHere σ24.2.2.2.2 v19 σ24) fun σ26 => some σ26) := BK_add (fun _ => 3) (fun _ => 0) kS2
  have kT1 : BK (fun σ6 => bnr (fX5_takeSign 44 σ6) fun σ8 => bnc (fX8_add σ8.2.2.2.2 3 0 σ8) fun v12 σ10 => bnr (fX5_readSum n (z32 o + 1) σ10) fun σ13 => bnr (fX5_takeSign 44 σ13) fun σ15 => bnc (fX8_add σ15.2.2.2.2 4 0 σ15) fun v19 σ17 => bnr (fX8_landHere σ17.2.2.2.2 v12 σ17) fun σ20 => bnr (fX5_readSum n (z32 o + 1) σ20) fun σ22 => bnr (fX5_takeSign 41 σ22) fun σ24 => bnr (fX8_landHere σ24.2.2.2.2 v19 σ24) fun σ26 => some σ26) := BK_b BK_take44 kA1
  have hb := fn_open (wh := 23) (kd2 := 6) hj hp (by omega) (BK_b (f := fX5_readTest n (z32 o + 1)) (BK_test' hn) kT1)
  rcases hb with ⟨B, b1, b2⟩ | ⟨ho, B1, σ2, q1, a1, t1, v1, b1, hj2, st, hq1, oA, f1, ⟨o78, o79, o80, o82⟩, o81⟩
  · exact ⟨B, b1, Or.inr b2⟩
  rw [b1]
  obtain ⟨n1, n2, n3, n4, n5, n6, n7, n8, n9, n10⟩ := hj.2.2.1
  have sA := hj.2.1
  have j4 := hj.2.2.2.1
  have j5 := hj.2.2.2.2.1
  have fBk : ∀ k : Int, 0 ≤ k → cSB (rp A.2.2.2.2) 54 k := fun k _ => by unfold cSB; omega
  have hrp := rp_or A.2.2.2.2
  obtain ⟨p1, p2, p3, p4, p5, p6, p7, p8⟩ := hj.1.2.2.1
  have eB1 : B1.2.2.2.2 = A.2.2.2.2 := by rw [oA.1]
  -- the test
  obtain ⟨B2, c1, c2⟩ := hTt ho B1 σ2 c N b q1 a1 t1 v1 sz e om (dp + 1) om 6 0 1 hj2 (by omega) (Or.inl rfl) ⟨by unfold isTst; omega, rfl, rfl⟩
  rw [z1p, c1, bnr_q]
  rcases c2 with ⟨τ3, q2, a2, t2, v2, sz2, e2, om2, o2, ph2, s2, L, F, G, kk, hj3, ⟨d1, d2, d3⟩, d4, d5, ⟨d6, d7, d7'⟩, d8, d9, d10, d11, d12, ⟨d13, d14, d15, d16⟩⟩ | c2
  case inr =>
    obtain ⟨B3, x1, x2⟩ := BAD_post (BAD_pre (q := q) (fr_R oA fBk) st f1 (by omega) (Int.le_refl e) (Int.le_refl om) (by omega) c2) kT1
    rw [z1p] at x1
    exact ⟨B3, x1, Or.inr x2⟩
  have hcb := CH_b _ _ _ _ d10
  have ms := d11.1
  rw [eB1] at d4 d8
  have cs1 := d8.1
  have fA2 : fr (cS (rp A.2.2.2.2) sz) A B2 := fr_t (oR_S oA) d4
  have eB2 : B2.2.2.2.2 = A.2.2.2.2 := by rw [fA2.1]
  have fσ3 : fr (sP b e om dp) σ τ3 := fr_t f1 (fr_m d5 (sP_m (by omega) (by omega) (by omega)))
  have st1 := stp_t st d3
  -- the first comma
  obtain ⟨B3, y1, y2⟩ := cls_c (z32_litn 44) hj3 d10 d11 (by omega) (by omega) rfl (by omega) d12 (by omega) (by omega) (by rcases d14 with w | w; exact Or.inr (d15 w); exact Or.inl w) (Or.inr ⟨by omega, d16.2, d16.1⟩) (Or.inr ⟨rfl, rfl⟩)
  rw [y1, bnr_q]
  rcases y2 with ⟨τ4, q3, a3, t3, v3, hj4, y3, y4, y5, y6, y7⟩ | y2
  case inr =>
    rw [show dp + 1 - 1 = dp by omega] at y2
    obtain ⟨B4, x1, x2⟩ := BAD_post (BAD_pre (q := q) (cS_B fA2) st1 fσ3 (by omega) (by omega) (Int.le_refl om) (by omega) y2) kA1
    rw [z1p] at x1
    exact ⟨B4, x1, Or.inr x2⟩
  have fA3 : fr (cS (rp A.2.2.2.2) sz) A B3 := fr_t fA2 (oR_S y5)
  have eB3 : B3.2.2.2.2 = A.2.2.2.2 := by rw [fA3.1]
  have fσ4 : fr (sP b e om dp) σ τ4 := fr_t fσ3 (fr_m (fr_m y6 (cm_s (om := om))) (sP_m (by omega) (by omega) (by omega)))
  have st2 := stp_t st1 y3
  obtain ⟨-, vp2, vp3, vp4, vp5, -⟩ := hj4.1.2.2.1
  -- the first jump
  obtain ⟨g1, g2⟩ := JC_add (cd := 0 * 64 + 3) hj4 (by omega)
  have sB3 := hj4.2.1.1
  rw [eB3] at g1 g2 sB3
  rw [eB3, show (3 : Int32) = z32 3 from z32_litn 3, show (0 : Int32) = z32 0 from z32_litn 0, cadd_z sB3 (by omega) (by omega) (by omega) (by omega), bnc_q]
  have fA3' : fr (cS (rp A.2.2.2.2) sz) A (jS (jS B3 (rp A.2.2.2.2 + 12) sz2 (0 * 64 + 3)) (rp A.2.2.2.2 + 11) 3 (sz2 + 1)) := fr_t fA3 (cS_m g2 (by omega))
  have x3m : hI (jS (jS B3 (rp A.2.2.2.2 + 12) sz2 (0 * 64 + 3)) (rp A.2.2.2.2 + 11) 3 (sz2 + 1)) (rp A.2.2.2.2 + 12) sz2 = 3 := by
    rw [hI_jS_ne (by omega), hI_jS (by omega) (by omega) (by omega) (by omega), if_pos rfl]; rfl
  simp only []
  generalize hB3 : jS (jS B3 (rp A.2.2.2.2 + 12) sz2 (0 * 64 + 3)) (rp A.2.2.2.2 + 11) 3 (sz2 + 1) = B3' at *
  have eB3' : B3'.2.2.2.2 = A.2.2.2.2 := by rw [fA3'.1]
  -- the second sum
  obtain ⟨B4, z1, z2⟩ := hS ho B3' τ4 c N b q3 a3 t3 v3 (sz2 + 1) (e2 + (om2 - om)) om (dp + 1) om 3 0 0 g1 (by omega) (Or.inl rfl) ⟨by omega, Or.inl (by unfold fsZ isTst; omega)⟩
  rw [z1, bnr_q]
  rcases z2 with ⟨τ5, q4, a4, t4, v4, sz4, e4, om4, o4, ph4, s4, L4, F4, G4, kk4, hj5, ⟨w1, w2, w3⟩, w4, w5, ⟨w6, w7, w7'⟩, w8, w9, w10, w11, w12, ⟨w13, w14⟩⟩ | z2
  case inr =>
    obtain ⟨B5, x1, x2⟩ := BAD_post (BAD_pre (q := q) (cS_B fA3') st2 fσ4 (by omega) (by omega) (Int.le_refl om) (by omega) z2) (kT2 (z32 sz2))
    rw [z1p, show (0 : Int32) = z32 0 from z32_litn 0] at x1
    exact ⟨B5, x1, Or.inr x2⟩
  have hcb4 := CH_b _ _ _ _ w10
  have ms4 := w11.1
  rw [eB3'] at w4 w8
  have cs4 := w8.1
  have fA4 : fr (cS (rp A.2.2.2.2) sz) A B4 := fr_t fA3' (cS_m w4 (by omega))
  have fσ5 : fr (sP b e om dp) σ τ5 := fr_t fσ4 (fr_m w5 (sP_m (by omega) (by omega) (by omega)))
  have st3 := stp_t st2 w3
  -- the second comma
  obtain ⟨B5, x1, x2⟩ := cls_c (z32_litn 44) hj5 w10 w11 (by omega) (by omega) rfl (by omega) w12 (by omega) (by omega) (Or.inr w14) (Or.inl (by unfold isTst; omega)) (Or.inl ⟨rfl, rfl⟩)
  rw [x1, bnr_q]
  rcases x2 with ⟨τ6, q5, a5, t5, v5, hj6, x3, x4, x5, x6, x7⟩ | x2
  case inr =>
    rw [show dp + 1 - 1 = dp by omega] at x2
    obtain ⟨B6, y8, y9⟩ := BAD_post (BAD_pre (q := q) (cS_B fA4) st3 fσ5 (by omega) (by omega) (Int.le_refl om) (by omega) x2) (kA2 (z32 sz2))
    rw [z1p, show (0 : Int32) = z32 0 from z32_litn 0] at y8
    exact ⟨B6, y8, Or.inr y9⟩
  have fA5 : fr (cS (rp A.2.2.2.2) sz) A B5 := fr_t fA4 (oR_S x5)
  have eB5 : B5.2.2.2.2 = A.2.2.2.2 := by rw [fA5.1]
  have fσ6 : fr (sP b e om dp) σ τ6 := fr_t fσ5 (fr_m (fr_m x6 (cm_s (om := om))) (sP_m (by omega) (by omega) (by omega)))
  have st4 := stp_t st3 x3
  obtain ⟨-, xp2, xp3, xp4, xp5, -⟩ := hj6.1.2.2.1
  -- the second jump
  obtain ⟨i1, i2⟩ := JC_add (cd := 0 * 64 + 4) hj6 (by omega)
  have sB5 := hj6.2.1.1
  rw [eB5] at i1 i2 sB5
  rw [eB5, show (4 : Int32) = z32 4 from z32_litn 4, cadd_z sB5 (by omega) (by omega) (by omega) (by omega), bnc_q]
  have fA5' : fr (cS (rp A.2.2.2.2) sz) A (jS (jS B5 (rp A.2.2.2.2 + 12) sz4 (0 * 64 + 4)) (rp A.2.2.2.2 + 11) 3 (sz4 + 1)) := fr_t fA5 (cS_m i2 (by omega))
  have y3m : hI (jS (jS B5 (rp A.2.2.2.2 + 12) sz4 (0 * 64 + 4)) (rp A.2.2.2.2 + 11) 3 (sz4 + 1)) (rp A.2.2.2.2 + 12) sz2 = 3 := by
    rw [(i2.2 _ sz2 (by omega) (by unfold cS; omega)).1, x5.2.2 _ _ (by omega), (w4.2 _ sz2 (by omega) (by unfold cS; omega)).1]; exact x3m
  have y4m : hI (jS (jS B5 (rp A.2.2.2.2 + 12) sz4 (0 * 64 + 4)) (rp A.2.2.2.2 + 11) 3 (sz4 + 1)) (rp A.2.2.2.2 + 12) sz4 = 4 := by
    rw [hI_jS_ne (by omega), hI_jS (by omega) (by omega) (by omega) (by omega), if_pos rfl]; rfl
  simp only []
  generalize hB5 : jS (jS B5 (rp A.2.2.2.2 + 12) sz4 (0 * 64 + 4)) (rp A.2.2.2.2 + 11) 3 (sz4 + 1) = B5' at *
  have eB5' : B5'.2.2.2.2 = A.2.2.2.2 := by rw [fA5'.1]
  have sB5' := i1.2.1.1
  rw [eB5'] at sB5'
  rw [eB5', cland_z sB5' y3m (by omega) (by omega) (by omega) (by omega), bnr_q]
  obtain ⟨l1, l2⟩ := JC_set (i := sz2) (w := (sz4 + 1) * 64 + 3 % 64) i1 (by omega)
  rw [eB5'] at l1 l2
  have fA6 : fr (cS (rp A.2.2.2.2) sz) A (jS B5' (rp A.2.2.2.2 + 12) sz2 ((sz4 + 1) * 64 + 3 % 64)) := fr_t fA5' (cS_m l2 (by omega))
  have z3m : hI (jS B5' (rp A.2.2.2.2 + 12) sz2 ((sz4 + 1) * 64 + 3 % 64)) (rp A.2.2.2.2 + 12) sz2 = (sz4 + 1) * 64 + 3 := by
    rw [hI_jS (by omega) (by omega) (by omega) (by omega), if_pos rfl]; omega
  have z4m : ∀ i, 0 ≤ i → i ≠ sz2 → hI (jS B5' (rp A.2.2.2.2 + 12) sz2 ((sz4 + 1) * 64 + 3 % 64)) (rp A.2.2.2.2 + 12) i = hI B5' (rp A.2.2.2.2 + 12) i := fun i g0 g1 => hI_j0 (by omega) g0 (by omega)
  generalize hB6 : jS B5' (rp A.2.2.2.2 + 12) sz2 ((sz4 + 1) * 64 + 3 % 64) = B6 at *
  have eB6 : B6.2.2.2.2 = A.2.2.2.2 := by rw [fA6.1]
  -- the third sum
  obtain ⟨B7, m1, m2⟩ := hS ho B6 τ6 c N b q5 a5 t5 v5 (sz4 + 1) (e4 + (om4 - om)) om (dp + 1) om 4 0 0 l1 (by omega) (Or.inl rfl) ⟨by omega, Or.inl (by unfold fsZ isTst; omega)⟩
  rw [m1, bnr_q]
  rcases m2 with ⟨τ7, q6, a6, t6, v6, sz6, e6, om6, o6, ph6, s6, L6, F6, G6, kk6, hj7, ⟨r1, r2, r3⟩, r4, r5, ⟨r6, r7, r7'⟩, r8, r9, r10, r11, r12, ⟨r13, r14⟩⟩ | m2
  case inr =>
    obtain ⟨B8, y8, y9⟩ := BAD_post (BAD_pre (q := q) (cS_B fA6) st4 fσ6 (by omega) (by omega) (Int.le_refl om) (by omega) m2) (kT3 (z32 sz4))
    exact ⟨B8, y8, Or.inr y9⟩
  have hcb6 := CH_b _ _ _ _ r10
  have ms6 := r11.1
  rw [eB6] at r4 r8
  have cs6 := r8.1
  have fA7 : fr (cS (rp A.2.2.2.2) sz) A B7 := fr_t fA6 (cS_m r4 (by omega))
  have fσ7 : fr (sP b e om dp) σ τ7 := fr_t fσ6 (fr_m r5 (sP_m (by omega) (by omega) (by omega)))
  have st5 := stp_t st4 r3
  have fo : ∀ p k, 0 ≤ k → k < dp → (p = 78 ∨ p = 79 ∨ p = 80 ∨ p = 82) → hI τ7 p k = hI σ2 p k := fun p k g g1 g2 => by
    rw [(r5.2 p k g (by unfold sP; omega)).1, (x6.2 p k g (by unfold cmQ; omega)).1, (w5.2 p k g (by unfold sP; omega)).1, (y6.2 p k g (by unfold cmQ; omega)).1, (d5.2 p k g (by unfold sP; omega)).1]
  have fo81 : hI τ7 81 dp = 23 := by
    rw [(r5.2 81 dp (by omega) (by unfold sP; omega)).1, (x6.2 81 dp (by omega) (by unfold cmQ; omega)).1, (w5.2 81 dp (by omega) (by unfold sP; omega)).1, (y6.2 81 dp (by omega) (by unfold cmQ; omega)).1, (d5.2 81 dp (by omega) (by unfold sP; omega)).1]; exact o81
  -- the closing bracket
  have hxx := cls_x (pr := 23) (z32_litn 41) hj7 r10 r11 (by omega) (by omega) rfl (by omega) r12 (by omega) (by omega) (by omega) (Or.inr r14) (Or.inl (by unfold isTst; omega)) (Or.inr (Or.inl ⟨rfl, rfl⟩))
        (ba0 := ba) (kd0 := kd) (ph0 := ph) (by rw [fo _ _ (by omega) (by omega) (by omega), show dp + 1 - 2 = dp - 1 by omega]; exact ⟨o82, n6.2⟩) (by rw [fo _ _ (by omega) (by omega) (by omega), show dp + 1 - 2 = dp - 1 by omega]; exact ⟨o78, n8.2⟩) (by rw [fo _ _ (by omega) (by omega) (by omega), show dp + 1 - 2 = dp - 1 by omega]; exact ⟨o79, n9.2⟩) (by rw [fo _ _ (by omega) (by omega) (by omega), show dp + 1 - 2 = dp - 1 by omega]; exact o80) (fun _ => ⟨by rw [show dp + 1 - 1 = dp by omega]; exact fo81, by omega, by omega⟩)
  obtain ⟨B8, h1, h2⟩ := hxx
  rw [h1, bnr_q]
  rcases h2 with ⟨τ8, q7, a7, t7, v7, e8, u1, u2, u3, u4, u5, u6, u7⟩ | h2
  case inr =>
    rw [show dp + 1 - 1 = dp by omega] at h2
    obtain ⟨B9, y8, y9⟩ := BAD_post (BAD_pre (q := q) (cS_B fA7) st5 fσ7 (by omega) (by omega) (Int.le_refl om) (by omega) h2) (BK_b (BK_land (z32 sz4)) BK_s)
    exact ⟨B9, y8, Or.inr y9⟩
  rw [show dp + 1 - 1 = dp by omega, show o + 1 - 1 = o by omega, if_neg (by omega)] at u1
  rw [show dp + 1 - 1 = dp by omega] at u5
  rw [if_pos rfl] at u7
  have fA8 : fr (cS (rp A.2.2.2.2) sz) A B8 := fr_t fA7 (oR_S u4)
  have eB8 : B8.2.2.2.2 = A.2.2.2.2 := by rw [fA8.1]
  have sB8 := u1.2.1.1
  have uq := u1.2.2.2.1
  obtain ⟨-, up2, up3, up4, up5, -⟩ := u1.1.2.2.1
  have c6 : ∀ i, 0 ≤ i → i < sz4 + 1 → hI B8 (rp A.2.2.2.2 + 12) i = hI B6 (rp A.2.2.2.2 + 12) i := fun i g0 g1 => by
    rw [u4.2.2 _ _ (by omega), (r4.2 _ i g0 (by unfold cS; omega)).1]
  have x4m : hI B8 (rp A.2.2.2.2 + 12) sz4 = 4 := by
    rw [c6 _ (by omega) (by omega), z4m _ (by omega) (by omega)]; exact y4m
  rw [eB8] at sB8
  obtain ⟨l3, l4⟩ := JC_set (i := sz4) (w := sz6 * 64 + 4 % 64) u1 (by omega)
  rw [eB8] at l3 l4
  rw [eB8, cland_z sB8 x4m (by omega) (by omega) (by omega) (by omega), bnr_q]
  refine ⟨_, rfl, Or.inl ?_⟩
  have bI : bF (fun f => if G f = 0 then G6 f else G4 f) := fun f hf => by
    have := w9 f hf
    have := r9 f hf
    simp only []
    split <;> omega
  refine ⟨τ8, q7, a7, t7, v7, sz6, e8, om, o, ph, 1600 * b + e, [], fun f => if G f = 0 then G6 f else G4 f, fun f => if G f = 0 then G6 f else G4 f, 1 + (kk6 + (1 + (kk4 + (1 + (kk + 1))))), l3, ⟨by omega, by omega, stp_t st5 u2⟩, fr_t fA8 (cS_m l4 (by omega)), fr_t fσ7 (fr_m u5 (sP_m (by omega) (by omega) (by omega))), ⟨by omega, by omega, by simp only [nbL]; unfold DP; omega⟩, ?_, bI, ⟨rfl, rfl, rfl⟩, ?_, by simp [nnL], ⟨rfl, trivial⟩⟩
  · have q0 : ∀ i, 0 ≤ i → i ≠ sz4 → hI (jS B8 (rp A.2.2.2.2 + 12) sz4 (sz6 * 64 + 4 % 64)) (rp A.2.2.2.2 + 12) i = hI B8 (rp A.2.2.2.2 + 12) i := fun i g0 g1 => hI_j0 (by omega) g0 (by omega)
    have q1 : ∀ i, 0 ≤ i → i < sz4 → i ≠ sz2 → hI (jS B8 (rp A.2.2.2.2 + 12) sz4 (sz6 * 64 + 4 % 64)) (rp A.2.2.2.2 + 12) i = hI B4 (rp A.2.2.2.2 + 12) i := fun i g0 g1 g3 => by
      rw [q0 i g0 (by omega), c6 i g0 (by omega), z4m i g0 g3, (i2.2 _ i g0 (by unfold cS; omega)).1, x5.2.2 _ _ (by omega)]
    refine cSeg_if (m := sz2) (s := sz4) d13 (cSeg_mono (cSeg_cong d8 (fun i g0 g1 => ?_)) (by unfold DP; omega)) (cSeg_mono (cSeg_cong w8 (fun i g0 g1 => ?_)) (by unfold DP; omega)) (cSeg_mono (cSeg_cong r8 (fun i g0 g1 => ?_)) (by unfold DP; omega)) (by unfold DP; omega) (by omega) ?_ ?_
    · rw [q1 i (by omega) (by omega) (by omega), (w4.2 _ i (by omega) (by unfold cS; omega)).1, (g2.2 _ i (by omega) (by unfold cS; omega)).1, y5.2.2 _ _ (by omega)]
    · exact q1 i (by omega) (by omega) (by omega)
    · rw [q0 i (by omega) (by omega), u4.2.2 _ _ (by omega)]
    · rw [q0 _ (by omega) (by omega), c6 _ (by omega) (by omega)]; exact z3m
    · rw [hI_jS (by omega) (by omega) (by omega) (by omega), if_pos rfl]; omega
  · simp only [nbL, Int.sub_zero]
    obtain ⟨u7a, u7b⟩ := u7
    rw [show 1600 * b + e8 = 1600 * b + (e6 + (om6 - om)) + 1 by omega]
    refine mSeg_if (m := 1600 * b + (e2 + (om2 - om))) (s := 1600 * b + (e4 + (om4 - om))) d13 w9 r9 (mSeg_mono (mSeg_cong y7 (fun i g0 g1 => ?_)) (by unfold DP; omega)) (mSeg_mono (mSeg_cong x7 (fun i g0 g1 => ?_)) (by unfold DP; omega)) (mSeg_mono u6 (by unfold DP; omega)) (by unfold DP; omega) (by omega) u7b
    · rw [(u5.2 74 i (by omega) (by unfold sP; omega)).1, (u5.2 75 i (by omega) (by unfold sP; omega)).1, (r5.2 74 i (by omega) (by unfold sP; omega)).1, (r5.2 75 i (by omega) (by unfold sP; omega)).1, (x6.2 74 i (by omega) (by unfold cmQ; omega)).1, (x6.2 75 i (by omega) (by unfold cmQ; omega)).1, (w5.2 74 i (by omega) (by unfold sP; omega)).1, (w5.2 75 i (by omega) (by unfold sP; omega)).1]
      exact ⟨rfl, rfl⟩
    · rw [(u5.2 74 i (by omega) (by unfold sP; omega)).1, (u5.2 75 i (by omega) (by unfold sP; omega)).1, (r5.2 74 i (by omega) (by unfold sP; omega)).1, (r5.2 75 i (by omega) (by unfold sP; omega)).1]
      exact ⟨rfl, rfl⟩
theorem sp_part {n0 : Nat} (h7 : 7 ≤ n0) (ho : 0 ≤ o ∧ o ≤ 7) (hS : o < 7 → ∀ n, n0 ≤ n → SpSum n (o + 1)) (hT : o < 7 → ∀ n, n0 ≤ n → SpTest n (o + 1)) : ∀ n, n0 + 2 ≤ n → SpPart n o := by
  intro n hn A σ c N b q a t v sz e om dp ba kd ph bg hj hl htop hp
  obtain ⟨m, rfl⟩ : ∃ m, n = m + 2 := ⟨n - 2, by omega⟩
  obtain ⟨hr, hA⟩ := AL_x hj.1
  by_cases h1 : 0 ≤ srt t
  · exact P_leaf (n := m + 1) hj hp h1 (by unfold DP; omega)
  have h2 := srt_n h1
  have t3 : t ≠ 3 := by intro h; rw [h] at h2; revert h2; decide
  by_cases h40 : t = 40
  · exact P_par (n := m + 1) (by omega) (fun w => hS w _ (by omega)) hj hl hp h40
  by_cases h123 : t = 123
  · have e : fX5_readPart (m + 1 + 1) (z32 o) A = fX5_readPair (m + 1) 8 (z32 o) A := by
      rw [rdPart, if_neg (by rw [ca3 hA]; exact t3), if_pos (fo_n hA (Or.inl h2)), if_neg (by rw [ca40 hA]; exact h40), if_neg (by rw [cb18 hA]; omega), if_pos (by rw [cb23 hA]; exact h123), bnr_id]
    rw [show m + 2 = m + 1 + 1 by omega, e, rdPair]
    exact P_pair (wh := 15) (opc := 8) (z32_litn 8) (by omega) (fun w => hS w _ (by omega)) hj hl hp (Or.inl ⟨h123, rfl, rfl⟩)
  by_cases h124 : t = 124
  · have e : fX5_readPart (m + 1 + 1) (z32 o) A = fX5_readPair (m + 1) 9 (z32 o) A := by
      rw [rdPart, if_neg (by rw [ca3 hA]; exact t3), if_pos (fo_n hA (Or.inl h2)), if_neg (by rw [ca40 hA]; exact h40), if_neg (by rw [cb18 hA]; omega), if_neg (by rw [cb23 hA]; exact h123), if_pos (by rw [cb24 hA]; exact h124), bnr_id]
    rw [show m + 2 = m + 1 + 1 by omega, e, rdPair]
    exact P_pair (wh := 16) (opc := 9) (z32_litn 9) (by omega) (fun w => hS w _ (by omega)) hj hl hp (Or.inr ⟨h124, rfl, rfl⟩)
  by_cases h118 : t = 118
  · have e : fX5_readPart (m + 1 + 1) (z32 o) A = fX5_readIf (m + 1) (z32 o) A := by
      rw [rdPart, if_neg (by rw [ca3 hA]; exact t3), if_pos (fo_n hA (Or.inl h2)), if_neg (by rw [ca40 hA]; exact h40), if_pos (by rw [cb18 hA]; exact h118), bnr_id]
    rw [show m + 2 = m + 1 + 1 by omega, e]
    exact P_if (by omega) (fun w => hS w _ (by omega)) (fun w => hT w _ (by omega)) hj hl hp h118
  obtain ⟨B, b1, b2⟩ := P_bad (n := m + 1) hj hp h2 ⟨h40, h123, h124, h118⟩
  exact ⟨B, b1, Or.inr b2⟩
end PI

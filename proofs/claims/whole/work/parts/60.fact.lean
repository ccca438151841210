/-! MY OWN: reading sums: facts; the whole of it -/
section FA
variable {A A1 B C σ σ1 τ υ : zS} {c : Int → Int} {N b q a t v sz e om dp ba o kd ph bg od om' o0 D r s E ls kd' q' t' ph' r' : Int} {n : Nat} {G : (Int → Int) → Int}
theorem F_all (hj : JC A σ c N b q a t v sz e om dp ba o kd ph bg 0) (hp : preT t kd ph bg) (ht : t = 122) (hD : 1 ≤ D) : ∃ B, (bnc (fX8_add A.2.2.2.2 1 1 A) fun v5 σ3 => bnr (fX5_advance σ3) fun σ6 => some σ6) = some B ∧ (OKP A B σ c N b q sz e om dp ba o kd 3 D (poT (fun _ => True) ph) ∨ BADP A B σ b q e om dp) := by
  have hjj := hj
  obtain ⟨hal, ⟨j1, j2, j3⟩, hn, j4, j5, j6⟩ := hj
  obtain ⟨hr, hA⟩ := AL_x hal
  obtain ⟨p1, p2, p3, p4, p5, p6, p7, p8⟩ := hal.2.2.1
  have t1 : t ≠ 1 := by omega
  have qa := p6 t1
  have hrp := rp_or A.2.2.2.2
  have hc : ¬ fsZ kd bg := fun w => w ⟨hp.1, by have := hp.2.2; omega⟩
  have n2' := hn.2.1
  have hop := op_all hn hr hc ht (by omega)
  obtain ⟨n1, n2, n3, n4, n5, n6, n7, n8, n9, n10⟩ := hn
  rw [show (1 : Int32) = z32 1 from z32_litn 1, cadd_z j1 j2 (by omega) (by omega) (by omega), bnc_q]
  refine fin_leaf (ph' := 2) (G := fun _ => 1) hjj t1 (fr_t (fr_j (by omega) (by unfold cS; omega)) (fr_j (by omega) (by unfold cS; omega))) (fun p k g w => by rw [hI_jS_ne (by omega), hI_jS_ne (by omega)]) ?_ (fr_t (fr_t (fr_t (fr_t (fr_j (by omega) (by unfold lQ; omega)) (fr_j (by omega) (by unfold lQ; omega))) (fr_j (by omega) (by unfold lQ; omega))) (fr_j (by omega) (by unfold lQ; omega))) (fr_j (by omega) (by unfold lQ; omega))) ?_ ?_ ?_ (by omega) hop ?_ ?_ (fun f _ => by simp only []; omega) hD (fun t' => ⟨fun f _ => Or.inr rfl, Or.inr rfl, fun w => by omega, trivial⟩)
  · rw [hI_jS (by omega) (by omega) (by omega) (by omega), if_pos rfl]
  · rw [hI_jS_ne (by omega), hI_jS (by omega) (by omega) (by omega) (by omega), if_pos rfl]
  · rw [hI_jS_ne (by omega), hI_jS_ne (by omega), hI_jS_ne (by omega), hI_jS_ne (by omega), hI_jS (by omega) (by omega) (by omega) (by omega), if_pos rfl]
  · rw [hI_jS (by omega) (by omega) (by omega) (by omega), if_pos rfl]
  · refine cSeg_num j2 (by omega) (by omega) hD ?_
    rw [hI_jS_ne (by omega), hI_jS (by omega) (by omega) (by omega) (by omega), if_pos rfl]
  · refine mSeg_leaf (s := 9) (by omega) (by omega) hD ?_ (by omega) (by omega) ?_ ?_
    · rw [hI_jS_ne (by omega), hI_jS_ne (by omega), hI_jS_ne (by omega), hI_jS (by omega) (by omega) (by omega) (by omega), if_pos rfl]
    · rw [hI_jS_ne (by omega), hI_jS_ne (by omega), hI_jS (by omega) (by omega) (by omega) (by omega), if_pos rfl]
      omega
    · funext f
      rw [if_neg (by omega), if_neg (by omega)]
theorem F_br (hn7 : 7 ≤ n) (hT : o < 7 → SpTest n (o + 1)) (hj : JC A σ c N b q a t v sz e om dp ba o kd ph bg 0) (hl : om ≤ 6 * o + 2) (hp : preT t kd ph bg) (ht : t = 91) : ∃ B, (bnc (fX5_isOpened 91 (z32 o) A) fun v10 σ8 => if v10 = 0 then some σ8 else bnr (fX5_readTest n (z32 o + 1) σ8) fun σ11 => bnr (fX5_takeSign 93 σ11) fun σ13 => some σ13) = some B ∧ (OKP A B σ c N b q sz e om dp ba o kd 3 (DP o + 3) (poT (fun _ => True) ph) ∨ BADP A B σ b q e om dp) := by
  obtain ⟨hr, hA⟩ := AL_x hj.1
  have hnm := hj.2.2.1
  have hc : ¬ fsZ kd bg := fun w => w ⟨hp.1, by have := hp.2.2; omega⟩
  have hb := brk (kd2 := 5) (sg := 91) (T := fun σ8 => bnr (fX5_readTest n (z32 o + 1) σ8) fun σ11 => bnr (fX5_takeSign 93 σ11) fun σ13 => some σ13) hj (z32_litn 91) (by unfold isS; omega) ht (by omega) (op_br hnm hr hc ht) (BK_b (BK_test' hn7) (BK_b BK_take93 BK_s))
  rcases hb with ⟨B, b1, b2⟩ | ⟨ho, B1, σ2, q1, a1, t1, v1, b1, hj2, st, hq1, oA, f1, o78, o79, o80, o82⟩
  · exact ⟨B, b1, Or.inr b2⟩
  rw [b1]
  obtain ⟨n1, n2, n3, n4, n5, n6, n7, n8, n9, n10⟩ := hnm
  have eB1 : B1.2.2.2.2 = A.2.2.2.2 := by rw [oA.1]
  have sA := hj.2.1
  have j4 := hj.2.2.2.1
  have j5 := hj.2.2.2.2.1
  have fBk : ∀ k : Int, 0 ≤ k → cSB (rp A.2.2.2.2) 54 k := fun k _ => by unfold cSB; omega
  obtain ⟨p1, p2, p3, p4, p5, p6, p7, p8⟩ := hj.1.2.2.1
  obtain ⟨B2, c1, c2⟩ := hT ho B1 σ2 c N b q1 a1 t1 v1 sz e om (dp + 1) om 5 0 1 hj2 (by omega) (Or.inl rfl) ⟨by unfold isTst; omega, rfl, rfl⟩
  rw [z1p, c1, bnr_q, bnr_id]
  rcases c2 with ⟨τ3, q2, a2, t2, v2, sz2, e2, om2, o2, ph2, s2, L, F, G, k2, hj3, ⟨d1, d2, d3⟩, d4, d5, ⟨d6, d7, d7'⟩, d8, d9, d10, d11, d12, ⟨d13, d14, d15, d16⟩⟩ | c2
  case inr =>
    obtain ⟨B3, x1, x2⟩ := BAD_post (BAD_pre (q := q) (fr_R oA fBk) st f1 (by omega) (Int.le_refl e) (Int.le_refl om) (by omega) c2) BK_take93
    exact ⟨B3, x1, Or.inr x2⟩
  have hcb := CH_b _ _ _ _ d10
  have ms := d11.1
  have fo : ∀ p k, 0 ≤ k → k < dp → (p = 78 ∨ p = 79 ∨ p = 80 ∨ p = 82) → hI τ3 p k = hI σ2 p k := fun p k g w1 w2 => (d5.2 p k g (by unfold sP; omega)).1
  have hxx := cls_x (pr := 0) (z32_litn 93) hj3 d10 d11 (by omega) (by omega) rfl (by omega) d12 (by omega) (by omega) (by omega) (by rcases d14 with w | w; exact Or.inr (d15 w); exact Or.inl w) (Or.inr ⟨by omega, d16.2, d16.1⟩) (Or.inr (Or.inr ⟨rfl, rfl⟩))
    (ba0 := ba) (kd0 := kd) (ph0 := ph) (by rw [fo _ _ (by omega) (by omega) (by omega), show dp + 1 - 2 = dp - 1 by omega]; exact ⟨o82, n6.2⟩) (by rw [fo _ _ (by omega) (by omega) (by omega), show dp + 1 - 2 = dp - 1 by omega]; exact ⟨o78, n8.2⟩) (by rw [fo _ _ (by omega) (by omega) (by omega), show dp + 1 - 2 = dp - 1 by omega]; exact ⟨o79, n9.2⟩) (by rw [fo _ _ (by omega) (by omega) (by omega), show dp + 1 - 2 = dp - 1 by omega]; exact o80) (fun w => by omega)
  obtain ⟨B3, x1, x2⟩ := hxx
  refine ⟨B3, x1, ?_⟩
  rw [eB1] at d4 d8
  have fA2 : fr (cS (rp A.2.2.2.2) sz) A B2 := fr_t (oR_S oA) d4
  have fσ3 : fr (sP b e om dp) σ τ3 := fr_t f1 (fr_m d5 (sP_m (by omega) (by omega) (by omega)))
  rcases x2 with ⟨τ4, q3, a3, t3, v3, e3, y1, y2, y3, y4, y5, y6, y7⟩ | x2
  · left
    rw [show dp + 1 - 1 = dp by omega, show o + 1 - 1 = o by omega, if_pos rfl] at y1
    rw [show dp + 1 - 1 = dp by omega] at y5
    rw [if_neg (by omega)] at y7
    refine ⟨τ4, q3, a3, t3, v3, sz2, e3, om, o, 2, 1600 * b + e, [], G, G, 1 + (k2 + 1), y1, ⟨by omega, by omega, stp_t (stp_t st d3) y2⟩, fr_t fA2 (oR_S y4), fr_t fσ3 (fr_m y5 (sP_m (by omega) (by omega) (by omega))), ⟨by omega, by omega, by simp only [nbL]; unfold DP; omega⟩, ?_, d9, ⟨rfl, rfl, rfl⟩, ?_, by simp [nnL], ⟨d13, Or.inr rfl, fun w => by omega, trivial⟩⟩
    · refine cSeg_mono (cSeg_cong d8 (fun i g0 g1 => ?_)) (by unfold DP; omega)
      have hrp := rp_or A.2.2.2.2
      exact y4.2.2 _ _ (by omega)
    · simp only [nbL, Int.sub_zero]
      rw [y7]
      exact mSeg_mono y6 (by unfold DP; omega)
  · right
    exact BAD_pre (cS_B fA2) (stp_t st d3) fσ3 (by omega) (by omega) (Int.le_refl om) (by omega) x2
theorem F_not (hn5 : 5 ≤ n) (hF : o < 7 → SpFact n (o + 1)) (hj : JC A σ c N b q a t v sz e om dp ba o kd ph bg 0) (hl : om ≤ 6 * o + 2) (hp : preT t kd ph bg) (ht : t = 121) : ∃ B, fX5_readNot (n + 1) (z32 o) A = some B ∧ (OKP A B σ c N b q sz e om dp ba o kd 3 (DP o + 3) (poT (fun _ => True) ph) ∨ BADP A B σ b q e om dp) := by
  have hjj := hj
  obtain ⟨hal, hs', hn, j4, j5, j6⟩ := hj
  obtain ⟨hr, hA⟩ := AL_x hal
  obtain ⟨p1, p2, p3, p4, p5, p6, p7, p8⟩ := hal.2.2.1
  have qa := p6 (by omega)
  have hc : ¬ fsZ kd bg := fun w => w ⟨hp.1, by have := hp.2.2; omega⟩
  have hnn := hn
  obtain ⟨n1, n2, n3, n4, n5, n6, n7, n8, n9, n10⟩ := hn
  have hrp := rp_or A.2.2.2.2
  rw [rdNot]
  by_cases ho : o < 7
  · rw [if_pos (by rw [z32_litn, z32_lt (by omega) (by omega) (by omega) (by omega)]; exact ho)]
    have hop := op_not hnn hr hc ht ho
    have f1 : fr (fun p k => (p = 83 ∧ k = om) ∨ (p = 56 ∧ (k = 42 ∨ k = 44))) σ (jS (jS (jS σ 56 42 (o + 1)) 83 om 22) 56 44 (om + 1)) := fr_t (fr_t (fr_j (by omega) (by omega)) (fr_j (by omega) (by omega))) (fr_j (by omega) (by omega))
    have x44 : hI (jS (jS (jS σ 56 42 (o + 1)) 83 om 22) 56 44 (om + 1)) 56 44 = om + 1 := by rw [hI_jS (by omega) (by omega) (by omega) (by omega), if_pos rfl]
    have x42 : hI (jS (jS (jS σ 56 42 (o + 1)) 83 om 22) 56 44 (om + 1)) 56 42 = o + 1 := by rw [hI_j0 (by omega) (by omega) (by omega), hI_jS_ne (by omega), hI_jS (by omega) (by omega) (by omega) (by omega), if_pos rfl]
    have x83 : hI (jS (jS (jS σ 56 42 (o + 1)) 83 om 22) 56 44 (om + 1)) 83 om = 22 := by rw [hI_jS_ne (by omega), hI_jS (by omega) (by omega) (by omega) (by omega), if_pos rfl]
    generalize hY : jS (jS (jS σ 56 42 (o + 1)) 83 om 22) 56 44 (om + 1) = Y at *
    have y56 : ∀ k, 0 ≤ k → k ≠ 44 → k ≠ 42 → hI Y 56 k = hI σ 56 k := fun k g w w2 => (f1.2 56 k g (by omega)).1
    have yne : ∀ p k, 0 ≤ k → p ≠ 56 → p ≠ 83 → hI Y p k = hI σ p k := fun p k g w1 w2 => (f1.2 p k g (by omega)).1
    have halY : AL A Y c N q a t v := AL_f hal (fun _ _ _ _ => rfl) f1 (fun p k w => by omega)
    have hnY : NM Y b e (om + 1) dp ba (o + 1) kd ph bg := by
      refine ⟨?_, ⟨x44, by omega, by omega⟩, by omega, ?_, ?_, ?_, ⟨x42, by omega, by omega⟩, ?_, ?_, ?_⟩
      · rw [y56 _ (by omega) (by omega) (by omega)]; exact n1
      · rw [y56 _ (by omega) (by omega) (by omega)]; exact n4
      · rw [y56 _ (by omega) (by omega) (by omega)]; exact n5
      · rw [yne _ _ (by omega) (by omega) (by omega)]; exact ⟨n6.1, n6.2.1, by omega⟩
      · rw [yne _ _ (by omega) (by omega) (by omega)]; exact n8
      · rw [yne _ _ (by omega) (by omega) (by omega)]; exact n9
      · rw [yne _ _ (by omega) (by omega) (by omega)]; exact n10
    obtain ⟨B1, τ1, b1, b2, t1, t2, hres⟩ := adv_j halY (by omega)
    rw [t1, bnr_q] at hop
    rw [b1, bnr_q]
    have fQ : fr oQ Y (jS τ1 56 45 0) := fr_t (oM_Q t2) (fr_j (by omega) (by unfold oQ; omega))
    have hn3 := NM_Q hnY fQ
    have t45 : hI (jS τ1 56 45 0) 56 45 = 0 := by rw [hI_jS (by omega) (by omega) (by omega) (by omega), if_pos rfl]
    have fT : fr (sP b e om dp) σ (jS τ1 56 45 0) := fr_t (fr_m f1 (fun p k _ w => by unfold sP; omega)) (fr_m fQ oQ_s)
    have kA : BK (fun σ3 => bnc (fX8_add σ3.2.2.2.2 5 0 σ3) fun v7 σ5 => some σ5) := BK_add (fun _ => 5) (fun _ => 0) (fun _ => BK_s)
    have eB1 : B1.2.2.2.2 = A.2.2.2.2 := by rw [b2.1]
    have fA1 : fr (cS (rp A.2.2.2.2) sz) A B1 := oR_S b2
    rcases hres with ⟨q1, a1, t1', v1, hal3, hq⟩ | ⟨p, hcb, hmb⟩
    · have h8 : hI τ1 56 8 = 0 := hal3.2.1.2.2.2.1
      have st := stp_o j6 hop (Or.inl rfl) h8
      have hj2 : JC B1 (jS τ1 56 45 0) c N b q1 a1 t1' v1 sz e (om + 1) dp ba (o + 1) kd ph bg 0 := ⟨AL_45 hal3, ⟨by rw [oR_sz b2]; exact hs'.1, hs'.2.1, by omega⟩, hn3, by omega, by omega, t45⟩
      have h83 : hI (jS τ1 56 45 0) 83 om = 22 := by rw [(fQ.2 83 om (by omega) (by unfold oQ; omega)).1]; exact x83
      obtain ⟨B2, c1, c2⟩ := hF ho B1 (jS τ1 56 45 0) c N b q1 a1 t1' v1 sz e (om + 1) dp ba kd ph bg hj2 (by omega) (Or.inr (by rw [show om + 1 - 1 = om by omega, h83]; decide)) hp
      rw [z1p, c1, bnr_q]
      rcases c2 with ⟨τ3, q3, a3, t3, v3, sz3, e3, om3, o3, ph3, s3, L3, F3, G3, k3, hj3, ⟨d1, d2, d3⟩, d4, d5, ⟨d6, d7, d7'⟩, d8, d9, d10, d11, d12, ⟨d13, d14, d15, d16⟩⟩ | c2
      case inr =>
        obtain ⟨B3, x1, x2⟩ := BAD_post (BAD_pre (q := q) (cS_B fA1) st fT (by omega) (Int.le_refl e) (by omega) (Int.le_refl dp) c2) kA
        exact ⟨B3, x1, Or.inr x2⟩
      have hcb3 := CH_b _ _ _ _ d10
      have ms3 := d11.1
      rw [eB1] at d4 d8
      have cs3 := d8.1
      have fA2 : fr (cS (rp A.2.2.2.2) sz) A B2 := fr_t fA1 d4
      have eB2 : B2.2.2.2.2 = A.2.2.2.2 := by rw [fA2.1]
      have fσ3 : fr (sP b e om dp) σ τ3 := fr_t fT (fr_m d5 (sP_m (by omega) (by omega) (Int.le_refl dp)))
      obtain ⟨-, vp2, vp3, vp4, vp5, -⟩ := hj3.1.2.2.1
      obtain ⟨g1, g2⟩ := JC_add (cd := 0 * 64 + 5) hj3 (by omega)
      have sB2 := hj3.2.1.1
      rw [eB2] at g1 g2 sB2
      rw [eB2, show (5 : Int32) = z32 5 from z32_litn 5, show (0 : Int32) = z32 0 from z32_litn 0, cadd_z sB2 (by omega) (by omega) (by omega) (by omega), bnc_q]
      have nb3 := nb_0 L3
      have nbz : nbL [((22 : Int), (0 : Int), G3)] = 0 := rfl
      have nnz : nnL [((22 : Int), (0 : Int), G3)] = 1 := rfl
      refine ⟨_, rfl, Or.inl ⟨τ3, q3, a3, t3, v3, sz3 + 1, e3, om3, o3, ph3, s3, L3 ++ [(22, 0, G3)], F3, fun f => 1 - G3 f, k3 + 1, g1, ⟨by omega, by omega, stp_t st d3⟩, fr_t fA2 (cS_m g2 (by omega)), fσ3, ⟨by omega, by omega, ?_⟩, ?_, bT_F (bT_n d13), ?_, ?_, ?_, ⟨bT_n d13, d14, d15, trivial⟩⟩⟩
      · rw [nb_a, nbz]; unfold DP at *; omega
      · refine cSeg_not d13 (cSeg_mono (cSeg_cong d8 (fun i w0 w1 => ?_)) (by unfold DP; omega)) (by unfold DP; omega) ?_
        · exact (g2.2 _ i (by omega) (by unfold cS; omega)).1
        · rw [hI_jS_ne (by omega), hI_jS (by omega) (by omega) (by omega) (by omega), if_pos rfl]; rfl
      · have cl : CH (hI τ3 74) (hI τ3 75) (hI τ3 83) (DP o + 3) om (1600 * b + e) 3 [(22, 0, G3)] (om + 1) (1600 * b + e) G3 (fun f => 1 - G3 f) := by
          refine ⟨?_, (show (3 : Int) ≤ rkI 22 by decide), Or.inl ⟨rfl, d13, by omega, rfl, rfl⟩⟩
          rw [show om + 1 - 1 = om by omega, (d5.2 83 om (by omega) (by unfold sP; omega)).1]; exact h83
        exact CH_a cl (D1 := DP o + 3) (by rw [nbz]; omega) _ _ _ _ (CH_m (Int.le_refl 3) (by unfold DP; omega) _ _ _ _ d10)
      · rw [nb_a, nbz]
        exact mSeg_mono d11 (by unfold DP; omega)
      · rw [nn_a, nnz]
        omega
    · have st := stp_o j6 hop (Or.inl rfl) hmb.1
      obtain ⟨υ2, w1, w2, w3⟩ := bad_end (mBd_c hmb (fun k g w => by rw [hI_j0 (by omega) g (by omega)]) : mBd (jS τ1 56 45 0) p) hn3 (Or.inl t45)
      have hb : BADP A B1 σ b q e om dp := ⟨1, p, υ2, 2 + 1, hcb, szK_o b2 hs' (by omega), fr_R b2 (fun k _ => by unfold cSB; omega), stp_e st w1, by omega, w2, fr_t fT (fr_m w3 (sP_m (by omega) (by omega) (Int.le_refl dp)))⟩
      obtain ⟨C, x1, x2⟩ := BAD_post hb (BK_b (f := fX5_readFact n (z32 o + 1)) (BK_fact' hn5) kA)
      exact ⟨C, x1, Or.inr x2⟩
  · have o7 : o = 7 := by omega
    rw [if_neg (by rw [z32_litn, z32_lt (by omega) (by omega) (by omega) (by omega)]; exact ho)]
    obtain ⟨B, b1, b2⟩ := bad_o (k := 5) (x := 1) (X := σ) (f := fun A => bnr (fX5_fail 5 (iG A 54 4) A) fun σ8 => some σ8) hjj (by rw [show (5 : Int32) = z32 5 from z32_litn 5]) (by omega) (Or.inr rfl) (op_not7 hnn hr hc ht o7) fr_r
    exact ⟨B, b1, Or.inr b2⟩
theorem F_cmp (hn3 : 3 ≤ n) (hS : SpSum n o) (hj : JC A σ c N b q a t v sz e om dp ba o kd ph bg 0) (hl : om ≤ 6 * o + 2) (htop : om = ba ∨ rkI (hI σ 83 (om - 1)) < 4) (hp : preT t kd ph bg) (ht : t ≠ 121 ∧ t ≠ 91 ∧ t ≠ 122) : ∃ B, fX5_readCompared (n + 1) (z32 o) A = some B ∧ (OKP A B σ c N b q sz e om dp ba o kd 3 (DP o + 3) (poT (fun _ => True) ph) ∨ BADP A B σ b q e om dp) := by
  have hn0 := hj.2.2.1
  have sA := hj.2.1
  have j5 := hj.2.2.2.2.1
  obtain ⟨-, p2, p3, p4, p5, -⟩ := hj.1.2.2.1
  have n4 := hn0.2.2.2.1
  have n7 := hn0.2.2.2.2.2.2.1
  obtain ⟨hk, hph, hbg⟩ := hp
  rw [rdComp]
  obtain ⟨B, b1, b2⟩ := hS A σ c N b q a t v sz e om dp ba kd ph bg hj (by omega) (by omega) ⟨by omega, Or.inr ht⟩
  rw [b1, bnr_q]
  rcases b2 with b2 | b2
  case inr =>
    obtain ⟨C, c1, c2⟩ := BAD_post b2 (BK_c (g := fun σ1 => if (iG σ1 54 5) = 60 then fX5_readCompared'_38 (ggGX5_readBoth n) (z32 o) (iG σ1 54 5) σ1 else if (iG σ1 54 5) = 62 then fX5_readCompared'_38 (ggGX5_readBoth n) (z32 o) (iG σ1 54 5) σ1 else if (iG σ1 54 5) = 61 then fX5_readCompared'_38 (ggGX5_readBoth n) (z32 o) (iG σ1 54 5) σ1 else bnr (fX5_fail 1 (iG σ1 54 4) σ1) fun σ10 => some σ10) (BK_b (BK_fail 1 (fun A => iG A 54 4)) BK_s) (fun A k p h => by
      rw [if_neg (b5 (s := 60) h (z32_litn 60) (by omega) (by omega) (by omega)), if_neg (b5 (s := 62) h (z32_litn 62) (by omega) (by omega) (by omega)), if_neg (b5 (s := 61) h (z32_litn 61) (by omega) (by omega) (by omega))]))
    exact ⟨C, c1, Or.inr c2⟩
  obtain ⟨q', t', ph', G, hL, hpo⟩ := L_OK b2
  obtain ⟨hA, hq1, hq2⟩ := OKL_x hL
  have hph' : ph' = 0 := by rw [hpo.1]; exact hph
  by_cases hc : t' = 60 ∨ t' = 62 ∨ t' = 61
  · have e5 : iG B 54 5 = z32 t' := by
      rw [show iG B 54 5 = z32 (hI B 54 5) from iG_h B 54 5, hA.2.1]
      unfold tkc
      rw [if_neg (by omega)]
    obtain ⟨m, hm⟩ : ∃ m : Int, (t' = 60 ∧ m = 17) ∨ (t' = 62 ∧ m = 18) ∨ (t' = 61 ∧ m = 19) := by
      rcases hc with h | h | h
      · exact ⟨17, by omega⟩
      · exact ⟨18, by omega⟩
      · exact ⟨19, by omega⟩
    have hz : zcd m = t' ∧ rkI m = 4 := by rcases hm with ⟨h1, h2⟩ | ⟨h1, h2⟩ | ⟨h1, h2⟩ <;> subst h1 h2 <;> decide
    have hcl : (if (iG B 54 5) = 60 then fX5_readCompared'_38 (ggGX5_readBoth n) (z32 o) (iG B 54 5) B else if (iG B 54 5) = 62 then fX5_readCompared'_38 (ggGX5_readBoth n) (z32 o) (iG B 54 5) B else if (iG B 54 5) = 61 then fX5_readCompared'_38 (ggGX5_readBoth n) (z32 o) (iG B 54 5) B else bnr (fX5_fail 1 (iG B 54 4) B) fun σ10 => some σ10) = fX5_readCompared'_38 (ggGX5_readBoth n) (z32 o) (iG B 54 5) B := by
      rcases hc with h | h | h
      · rw [if_pos (by rw [ca60 hA]; exact h)]
      · rw [if_neg (by rw [ca60 hA]; omega), if_pos (by rw [ca62 hA]; exact h)]
      · rw [if_neg (by rw [ca60 hA]; omega), if_neg (by rw [ca62 hA]; omega), if_pos (by rw [ca61 hA]; exact h)]
    rw [hcl, rdComp38]
    have hls := lp_step (T := fun σ7 => some σ7) (X := fun τ1 => jS τ1 79 (dp - 1) 1) (m := m) (ph2 := 1) (bg2 := 0) (lim := 2) (D1 := DP o + 3) (r1 := 4) (by rw [e5, hz.1] : iG B 54 5 = z32 (zcd m)) hS (BK_sum' hn3) BK_s hn0 j5 sA.2.1 p2 hl (by omega) (by omega) (by omega) hz.2 (by omega) (by omega) (by omega) (by omega) (by omega) (by unfold DP; omega) hL (by omega) (fun τ1 => ⟨fr_j (by omega) (by unfold xQ; omega), fun w => by rw [hI_jS (by omega) (by omega) (by omega) (by omega), if_pos rfl], fun w => by rw [hI_jS_ne (by omega)]; exact w⟩) (by omega) (by omega)
      (fun τ υ v' e' om' o' h1 h2 h3 h4 h5 => go_cmp h1 h2 hk hph' hm h3 h4 h5) (fun t => ⟨by omega, Or.inl (by unfold fsZ; omega)⟩) (fun w => by omega)
    rcases hls with ⟨C, c1, c2⟩ | ⟨B3, q2, t2, ph2, G2, c1, c2, c3, c4⟩
    · exact ⟨C, c1, Or.inr c2⟩
    · rw [c1]
      exact ⟨B3, rfl, Or.inl (OK_L (OKL_m c2 (by omega) (by omega)) ⟨bT_c (by omega), Or.inl c3.1, fun _ => c3.2, trivial⟩)⟩
  · rw [if_neg (by rw [ca60 hA]; omega), if_neg (by rw [ca62 hA]; omega), if_neg (by rw [ca61 hA]; omega)]
    obtain ⟨τ, a', v', sz', e', om2, o', s, L, F, k, h1, ⟨h2a, h2b, h2c⟩, h3, h4, ⟨h5a, h5b, h5c⟩, h6, h7, h8, h9, h10⟩ := hL
    obtain ⟨hr, -⟩ := AL_x h1.1
    have hg : fX11_goesOn τ = some (z32 0, jS (jS τ 56 8 1) 56 9 q') := by
      by_cases hao : t' = 120 ∨ t' = 119
      · exact go_ao0 h1.2.2.1 hr hk hph' hao
      · exact go_t0 h1.2.2.1 hr hk hph' ⟨hpo.2, by omega, by omega, by omega, by omega, by omega⟩
    obtain ⟨B', b1, b2, b3⟩ := fl_j (k := 1) (z32_litn 1) h1.1 (by omega)
    obtain ⟨-, x2, x3, x4, x5, -⟩ := h1.1.2.2.1
    have cs := h6.1
    have ms := h9.1
    have hcb := CH_b _ _ _ _ h8
    refine ⟨B', by rw [b1, bnr_q], Or.inr (BAD_pre (cS_B h3) h2c h4 (by omega) (Int.le_refl e) (Int.le_refl om) (Int.le_refl dp) ⟨1, q', _, 2, b3, szK_o b2 h1.2.1 (by omega), fr_R b2 (fun k _ => by unfold cSB; omega), end_g h1.2.2.2.2.2 hg, by omega, Or.inl ⟨fk8 (by omega) (by omega), fk9 (by omega) (by omega), by omega⟩, fr_t (fr_j (by omega) (by unfold sP; omega)) (fr_j (by omega) (by unfold sP; omega))⟩)⟩
theorem sp_fact {n0 : Nat} (h7 : 7 ≤ n0) (hF : o < 7 → ∀ n, n0 ≤ n → SpFact n (o + 1)) (hT : o < 7 → ∀ n, n0 ≤ n → SpTest n (o + 1)) (hS : ∀ n, n0 + 4 ≤ n → SpSum n o) : ∀ n, n0 + 6 ≤ n → SpFact n o := by
  intro n hn A σ c N b q a t v sz e om dp ba kd ph bg hj hl htop hp
  obtain ⟨m, rfl⟩ : ∃ m, n = m + 1 + 1 := ⟨n - 2, by omega⟩
  obtain ⟨hr, hA⟩ := AL_x hj.1
  rw [rdFact]
  by_cases h1 : t = 121
  · rw [if_pos (by rw [cb21 hA]; exact h1), bnr_id]
    exact F_not (by omega) (fun w => hF w _ (by omega)) hj hl hp h1
  rw [if_neg (by rw [cb21 hA]; exact h1)]
  by_cases h2 : t = 91
  · rw [if_pos (by rw [ca91 hA]; exact h2)]
    exact F_br (by omega) (fun w => hT w _ (by omega)) hj hl hp h2
  rw [if_neg (by rw [ca91 hA]; exact h2)]
  by_cases h3 : t = 122
  · rw [if_pos (by rw [cb22 hA]; exact h3)]
    have n7 := hj.2.2.1.2.2.2.2.2.2.1
    exact F_all hj hp h3 (by unfold DP; omega)
  rw [if_neg (by rw [cb22 hA]; exact h3), bnr_id]
  exact F_cmp (by omega) (hS _ (by omega)) hj hl htop hp ⟨h1, h2, h3⟩
/-- by how many may be open still -/
theorem sp_all : ∀ (j : Nat), j ≤ 7 → (∀ n, 11 + 8 * j ≤ n → SpSum n (7 - (j : Int))) ∧ (∀ n, 13 + 8 * j ≤ n → SpFact n (7 - (j : Int))) ∧ (∀ n, 15 + 8 * j ≤ n → SpTest n (7 - (j : Int))) := by
  intro j
  induction j with
  | zero =>
    intro _
    have hP := sp_part (o := 7 - ((0 : Nat) : Int)) (n0 := 7) (by omega) (by omega) (fun w => by omega) (fun w => by omega)
    have hS : ∀ n, 11 ≤ n → SpSum n (7 - ((0 : Nat) : Int)) := fun n hn => by
      obtain ⟨m, rfl⟩ : ∃ m, n = m + 1 + 1 := ⟨n - 2, by omega⟩
      exact sp_sum (by omega) (sp_prod (by omega) (hP m (by omega)))
    have hF := sp_fact (o := 7 - ((0 : Nat) : Int)) (n0 := 7) (by omega) (fun w => by omega) (fun w => by omega) (fun n hn => hS n (by omega))
    refine ⟨fun n hn => hS n (by omega), fun n hn => hF n (by omega), fun n hn => ?_⟩
    obtain ⟨m, rfl⟩ : ∃ m, n = m + 1 + 1 := ⟨n - 2, by omega⟩
    exact sp_test (by omega) (sp_both (by omega) (hF m (by omega)))
  | succ j ih =>
    intro hj
    obtain ⟨i1, i2, i3⟩ := ih (by omega)
    have eo : 7 - ((j + 1 : Nat) : Int) + 1 = 7 - (j : Int) := by omega
    have hP := sp_part (o := 7 - ((j + 1 : Nat) : Int)) (n0 := 15 + 8 * j) (by omega) (by omega) (fun w n hn => by rw [eo]; exact i1 n (by omega)) (fun w n hn => by rw [eo]; exact i3 n (by omega))
    have hS : ∀ n, 19 + 8 * j ≤ n → SpSum n (7 - ((j + 1 : Nat) : Int)) := fun n hn => by
      obtain ⟨m, rfl⟩ : ∃ m, n = m + 1 + 1 := ⟨n - 2, by omega⟩
      exact sp_sum (by omega) (sp_prod (by omega) (hP m (by omega)))
    have hF := sp_fact (o := 7 - ((j + 1 : Nat) : Int)) (n0 := 15 + 8 * j) (by omega) (fun w n hn => by rw [eo]; exact i2 n (by omega)) (fun w n hn => by rw [eo]; exact i3 n (by omega)) (fun n hn => hS n (by omega))
    refine ⟨fun n hn => hS n (by omega), fun n hn => hF n (by omega), fun n hn => ?_⟩
    obtain ⟨m, rfl⟩ : ∃ m, n = m + 1 + 1 := ⟨n - 2, by omega⟩
    exact sp_test (by omega) (sp_both (by omega) (hF m (by omega)))
theorem sp_top : SpSum zD 0 := by
  have := (sp_all 7 (by omega)).1 zD (by unfold zD; omega)
  exact this
end FA

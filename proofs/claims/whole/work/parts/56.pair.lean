/-! MY OWN: reading sums: a sum in brackets, pairs -/
section PQ
variable {A A1 B C σ σ1 τ υ : zS} {c : Int → Int} {N b q a t v sz e om dp ba o kd ph bg od om' o0 D r s E ls kd' : Int} {n : Nat}
theorem fr_sy {P : Nat → Int → Prop} (h : fr P σ τ) : fr P τ σ := ⟨h.1.symm, fun p k a b => ⟨(h.2 p k a b).1.symm, (h.2 p k a b).2.symm⟩⟩
theorem bnr_id {α : Type} (x : Option α) : bnr x (fun y => some y) = x := by cases x <;> rfl
theorem z1p (o : Int) : z32 o + 1 = z32 (o + 1) := by rw [z32_litn, z32_add]
theorem BK_take41 : BK (fX5_takeSign 41) := by rw [z32_litn]; exact BK_take (by omega) (by omega) (by omega)
theorem BK_take44 : BK (fX5_takeSign 44) := by rw [z32_litn]; exact BK_take (by omega) (by omega) (by omega)
theorem BK_take93 : BK (fX5_takeSign 93) := by rw [z32_litn]; exact BK_take (by omega) (by omega) (by omega)
theorem BK_sum' (hn : 3 ≤ n) {x : Int32} : BK (fX5_readSum n x) := by
  obtain ⟨m, rfl⟩ : ∃ m, n = m + 3 := ⟨n - 3, by omega⟩
  exact BK_sum
theorem BK_test' (hn : 7 ≤ n) {x : Int32} : BK (fX5_readTest n x) := by
  obtain ⟨m, rfl⟩ : ∃ m, n = m + 7 := ⟨n - 7, by omega⟩
  exact BK_test
theorem P_par (hn : 3 ≤ n) (hS : o < 7 → SpSum n (o + 1)) (hj : JC A σ c N b q a t v sz e om dp ba o kd ph bg 0) (hl : om ≤ 6 * o + 5) (hp : preS t kd ph bg) (ht : t = 40) : ∃ B, fX5_readPart (n + 1) (z32 o) A = some B ∧ (OKP A B σ c N b q sz e om dp ba o kd 7 (DP o) (poS (fun _ => True) ph) ∨ BADP A B σ b q e om dp) := by
  obtain ⟨hr, hA⟩ := AL_x hj.1
  have hnm := hj.2.2.1
  have hs0 : srt t = -1 := by rw [ht]; decide
  obtain ⟨h1, h2⟩ := op_171 hnm hr hp.2
  have hcl : fX5_readPart (n + 1) (z32 o) A = bnc (fX5_isOpened 40 (z32 o) A) fun v11 σ9 => if v11 = 0 then some σ9 else bnr (fX5_readSum n (z32 o + 1) σ9) fun σ12 => bnr (fX5_takeSign 41 σ12) fun σ14 => some σ14 := by
    rw [rdPart, if_neg (by rw [ca3 hA]; omega), if_pos (fo_n hA (Or.inl hs0)), if_pos (by rw [ca40 hA]; exact ht)]
  have hb := brk (kd2 := 2) (sg := 40) (T := fun σ9 => bnr (fX5_readSum n (z32 o + 1) σ9) fun σ12 => bnr (fX5_takeSign 41 σ12) fun σ14 => some σ14) hj (z32_litn 40) (by unfold isS; omega) ht (by omega) (h1.trans (o171_p h2 ht)) (BK_b (BK_sum' hn) (BK_b BK_take41 BK_s))
  rw [← hcl] at hb
  rcases hb with ⟨B, b1, b2⟩ | ⟨ho, B1, σ2, q1, a1, t1, v1, b1, hj2, st, hq1, oA, f1, o78, o79, o80, o82⟩
  · exact ⟨B, b1, Or.inr b2⟩
  · rw [b1]
    obtain ⟨n1, n2, n3, n4, n5, n6, n7, n8, n9, n10⟩ := hnm
    have eB1 : B1.2.2.2.2 = A.2.2.2.2 := by rw [oA.1]
    have sA := hj.2.1
    have j4 := hj.2.2.2.1
    have j5 := hj.2.2.2.2.1
    have fBk : ∀ k : Int, 0 ≤ k → cSB (rp A.2.2.2.2) 54 k := fun k _ => by unfold cSB; omega
    obtain ⟨p1, p2, p3, p4, p5, p6, p7, p8⟩ := hj.1.2.2.1
    obtain ⟨B2, c1, c2⟩ := hS ho B1 σ2 c N b q1 a1 t1 v1 sz e om (dp + 1) om 2 0 1 hj2 (by omega) (Or.inl rfl) ⟨by omega, Or.inl (by unfold fsZ isTst; omega)⟩
    have hcl2 : (bnr (fX5_readSum n (z32 o + 1) B1) fun σ12 => bnr (fX5_takeSign 41 σ12) fun σ14 => some σ14) = bnr (fX5_takeSign 41 B2) fun σ14 => some σ14 := by
      rw [z1p, c1, bnr_q]
    rw [hcl2, bnr_id]
    rcases c2 with ⟨τ3, q2, a2, t2, v2, sz2, e2, om2, o2, ph2, s2, L, F, G, k2, hj3, ⟨d1, d2, d3⟩, d4, d5, ⟨d6, d7, d7'⟩, d8, d9, d10, d11, d12, ⟨d13, d14⟩⟩ | c2
    · have hcb := CH_b _ _ _ _ d10
      have ms := d11.1
      have fo : ∀ p k, 0 ≤ k → k < dp → (p = 78 ∨ p = 79 ∨ p = 80 ∨ p = 82) → hI τ3 p k = hI σ2 p k := fun p k g w1 w2 => (d5.2 p k g (by unfold sP; omega)).1
      have hxx := cls_x (pr := 0) (z32_litn 41) hj3 d10 d11 (by omega) (by omega) rfl (by omega) d12 (by omega) (by omega) (by omega) (Or.inr d14) (Or.inl (by unfold isTst; omega)) (Or.inl ⟨rfl, rfl⟩)
        (ba0 := ba) (kd0 := kd) (ph0 := ph) (by rw [fo _ _ (by omega) (by omega) (by omega), show dp + 1 - 2 = dp - 1 by omega]; exact ⟨o82, n6.2⟩) (by rw [fo _ _ (by omega) (by omega) (by omega), show dp + 1 - 2 = dp - 1 by omega]; exact ⟨o78, n8.2⟩) (by rw [fo _ _ (by omega) (by omega) (by omega), show dp + 1 - 2 = dp - 1 by omega]; exact ⟨o79, n9.2⟩) (by rw [fo _ _ (by omega) (by omega) (by omega), show dp + 1 - 2 = dp - 1 by omega]; exact o80) (fun w => by omega)
      obtain ⟨B3, x1, x2⟩ := hxx
      refine ⟨B3, x1, ?_⟩
      rw [eB1] at d4 d8
      have fA2 : fr (cS (rp A.2.2.2.2) sz) A B2 := fr_t (oR_S oA) d4
      have eB2 : B2.2.2.2.2 = A.2.2.2.2 := by rw [fA2.1]
      have fσ3 : fr (sP b e om dp) σ τ3 := fr_t f1 (fr_m d5 (sP_m (by omega) (by omega) (by omega)))
      rcases x2 with ⟨τ4, q3, a3, t3, v3, e3, y1, y2, y3, y4, y5, y6, y7⟩ | x2
      · left
        rw [show dp + 1 - 1 = dp by omega, show o + 1 - 1 = o by omega, if_neg (by omega)] at y1
        rw [show dp + 1 - 1 = dp by omega] at y5
        rw [if_neg (by omega)] at y7
        refine ⟨τ4, q3, a3, t3, v3, sz2, e3, om, o, ph, 1600 * b + e, [], G, G, 1 + (k2 + 1), y1, ⟨by omega, by omega, stp_t (stp_t st d3) y2⟩, fr_t fA2 (oR_S y4), fr_t fσ3 (fr_m y5 (sP_m (by omega) (by omega) (by omega))), ⟨by omega, by omega, by simp only [nbL]; unfold DP; omega⟩, ?_, d9, ⟨rfl, rfl, rfl⟩, ?_, by simp [nnL], ⟨rfl, trivial⟩⟩
        · refine cSeg_mono (cSeg_cong d8 (fun i g0 g1 => ?_)) (by unfold DP; omega)
          have hrp := rp_or A.2.2.2.2
          exact y4.2.2 _ _ (by omega)
        · simp only [nbL, Int.sub_zero]
          rw [y7]
          exact mSeg_mono y6 (by unfold DP; omega)
      · right
        refine BAD_pre (cS_B fA2) (stp_t st d3) fσ3 (by omega) (by omega) (Int.le_refl om) (by omega) x2
    · obtain ⟨B3, x1, x2⟩ := BAD_post (BAD_pre (q := q) (fr_R oA fBk) st f1 (by omega) (Int.le_refl e) (Int.le_refl om) (by omega) c2) BK_take41
      exact ⟨B3, x1, Or.inr x2⟩
theorem opn_f {s0 : Int32} (h : 0 < hI υ 56 8) : fX11_opens s0 υ = some υ := by
  have l1 := hI_hi υ 56 8
  have l2 := hI_lo υ 56 42
  have l3 := hI_hi υ 56 42
  have h18 : fX11_opens_18 s0 υ = some υ := by
    simp (disch := omega) only [fX11_opens_18, iG_h, z32_litn, z32_le, ↓reduceIte, ieqT, ieqF, iltT, iltF, ileT, ileF, not_true, not_false_iff]
  have hb : fX11_blame 5 (iG υ 56 4) υ = some υ := by
    rw [show iG υ 56 4 = z32 (hI υ 56 4) from iG_h υ 56 4, z32_litn]
    exact blm_1 h
  unfold fX11_opens
  split
  · rw [hb, bnr_q, h18]
  · exact h18
theorem o276_f {s0 : Int32} (h : 0 < hI υ 56 8) : fX11_operand_276 s0 υ = some (z32 0, υ) := by
  have l1 := hI_hi υ 56 8
  have key : ∀ s1, fX11_operand_289 s0 s1 υ = some (z32 0, υ) := fun s1 => by
    unfold fX11_operand_289
    rw [opn_f h, bnr_q, if_neg (by rw [show iG υ 56 8 = z32 (hI υ 56 8) from iG_h υ 56 8, z32_litn, z32_eq (by omega) (by omega) (by omega) (by omega)]; omega), z32_litn]
  unfold fX11_operand_276
  split
  · exact key _
  · exact key _
theorem bad_fo {k p : Int} (j6 : hI σ 56 45 = 0) (hc : cBk B k p) (hs : szK B) (f1 : fr (cSB (rp A.2.2.2.2)) A B) (hop : fX11_operand σ = some (z32 0, υ)) (h8 : hI υ 56 8 = k) (h9 : hI υ 56 9 = p) (hk : 0 < k) (f2 : fr (sP b e om dp) σ υ) (hq : q ≤ 1600) : BADP A B σ b q e om dp := by
  refine ⟨k, p, _, 2, hc, hs, f1, end_o j6 hop (Or.inl rfl) (by omega), by omega, Or.inl ⟨?_, ?_, hk⟩, fr_t f2 (fr_j (by omega) (by unfold sP; omega))⟩
  · rw [hI_j0 (by omega) (by omega) (by omega)]; exact h8
  · rw [hI_j0 (by omega) (by omega) (by omega)]; exact h9
theorem fn_open {wh kd2 : Int} {T : zS → Option zS} (hj : JC A σ c N b q a t v sz e om dp ba o kd ph bg 0) (hp : preS t kd ph bg) (ht : (t = 123 ∧ wh = 15 ∧ kd2 = 3) ∨ (t = 124 ∧ wh = 16 ∧ kd2 = 3) ∨ (t = 118 ∧ wh = 23 ∧ kd2 = 6)) (hT : BK T) : (∃ B, (bnr (fX5_advance A) fun σ1 => bnc (fX5_isOpened 40 (z32 o) σ1) fun v5 σ3 => if v5 = 0 then some σ3 else T σ3) = some B ∧ BADP A B σ b q e om dp) ∨ (o < 7 ∧ ∃ B1 σ2 q1 a1 t1 v1, (bnr (fX5_advance A) fun σ1 => bnc (fX5_isOpened 40 (z32 o) σ1) fun v5 σ3 => if v5 = 0 then some σ3 else T σ3) = T B1 ∧ JC B1 σ2 c N b q1 a1 t1 v1 sz e om (dp + 1) om (o + 1) kd2 0 1 0 ∧ stp σ 1 σ2 ∧ q + 2 ≤ q1 ∧ oR A B1 ∧ fr (sP b e om dp) σ σ2 ∧ (hI σ2 78 (dp - 1) = kd ∧ hI σ2 79 (dp - 1) = ph ∧ hI σ2 80 (dp - 1) = 0 ∧ hI σ2 82 (dp - 1) = ba) ∧ hI σ2 81 dp = wh) := by
  obtain ⟨hal, hs', hn, j4, j5, j6⟩ := hj
  obtain ⟨hr, hA⟩ := AL_x hal
  obtain ⟨p1, p2, p3, p4, p5, p6, p7, p8⟩ := hal.2.2.1
  have t1' : t ≠ 1 := by omega
  have qa := p6 t1'
  obtain ⟨h1, h2⟩ := op_171 hn hr hp.2
  have hop := h1.trans (o171_f (wh := wh) h2 (by omega))
  have hwb : 15 ≤ wh ∧ wh ≤ 23 ∧ 3 ≤ kd2 ∧ kd2 ≤ 6 ∧ (wh = 23 ↔ kd2 = 6) ∧ (kd2 = 3 ∨ kd2 = 6) := by omega
  obtain ⟨n1, n2, n3, n4, n5, n6, n7, n8, n9, n10⟩ := hn
  have f0 : fr (fun p k => p = 80 ∧ k = dp - 1) σ (jS σ 80 (dp - 1) 0) := fr_j (by omega) (by omega)
  have hal0 : AL A (jS σ 80 (dp - 1) 0) c N q a t v := AL_f hal (fun _ _ _ _ => rfl) f0 (fun p k w => by omega)
  have hn0 : NM (jS σ 80 (dp - 1) 0) b e om dp ba o kd ph 0 := by
    refine ⟨?_, ?_, n3, ?_, ?_, ?_, ?_, ?_, ?_, ⟨?_, by omega⟩⟩
    · rw [hI_jS_ne (by omega)]; exact n1
    · rw [hI_jS_ne (by omega)]; exact n2
    · rw [hI_jS_ne (by omega)]; exact n4
    · rw [hI_jS_ne (by omega)]; exact n5
    · rw [hI_jS_ne (by omega)]; exact n6
    · rw [hI_jS_ne (by omega)]; exact n7
    · rw [hI_jS_ne (by omega)]; exact n8
    · rw [hI_jS_ne (by omega)]; exact n9
    · rw [hI_jS (by omega) (by omega) (by omega) (by omega), if_pos rfl]
  obtain ⟨B0, τ1, b1, b2, t1, t2, hres⟩ := adv_j hal0 t1'
  have hop1 : fX11_operand_249 (z32 wh) (jS σ 80 (dp - 1) 0) = bnr (fX11_lex τ1) fun σ7 => if (fX11_isSign σ7 40) = 0 then bnr (fX11_blame 1 (iG σ7 56 4) σ7) fun σ12 => fX11_operand_276 (z32 wh) σ12 else fX11_operand_276 (z32 wh) σ7 := by
    unfold fX11_operand_249
    rw [t1, bnr_q]
  rw [hop1] at hop
  have f1 : fr (sP b e om dp) σ τ1 := fr_t (fr_m f0 (fun p k _ w => by unfold sP; omega)) (oM_s t2)
  have fBk : ∀ k : Int, 0 ≤ k → cSB (rp A.2.2.2.2) 54 k := fun k _ => by unfold cSB; omega
  rcases hres with ⟨q1, a1, t1, v1, hal1, hq⟩ | ⟨p, hc, hm⟩
  · obtain ⟨hr1, hA1⟩ := AL_x hal1
    obtain ⟨x1, x2, x3, x4, x5, x6, x7, x8⟩ := hal1.2.2.1
    rw [lex_n hr1.2.1, bnr_q] at hop
    have hn1 := NM_Q hn0 (oM_Q t2)
    by_cases g1 : t1 = 40
    · rw [if_neg (by rw [sg40 hr1.2.2.2]; omega)] at hop
      have e276 : fX11_operand_276 (z32 wh) τ1 = fX11_operand_289 (z32 wh) (z32 kd2) τ1 := by
        unfold fX11_operand_276
        by_cases g : wh = 23
        · rw [if_pos (by rw [z32_litn, z32_eq (by omega) (by omega) (by omega) (by omega)]; exact g), z32_litn, show kd2 = 6 by omega]
        · rw [if_neg (by rw [z32_litn, z32_eq (by omega) (by omega) (by omega) (by omega)]; exact g), z32_litn, show kd2 = 3 by omega]
      rw [e276] at hop
      by_cases ho : o < 7
      · have q1a := x6 (by omega)
        obtain ⟨B1, τ2, y1, y2, y3, y4, y5, y6, y7⟩ := open_j (kd2 := kd2) hal1 (by omega) hn1 (by omega) ho j5 ⟨by rw [oR_sz b2]; exact hs'.1, hs'.2.1, by omega⟩ (by omega)
        have hnt : NM τ2 b e om (dp + 1) om (o + 1) kd2 0 1 := NM_f y6 (fr_sy j45) (fun p k w => by unfold q45 at w; omega)
        have hop2 : fX11_operand σ = some (z32 0, jS τ2 81 dp wh) := by
          rw [hop]
          unfold fX11_operand_289
          have e41 := hnt.2.2.2.1.1
          have x1 : dp + 1 - 1 = dp := by omega
          simp (disch := omega) only [z32_add, z32_sub, z32_mul, z32_neg, z32_litn, z32_lt, z32_le, z32_eq, iG_h, lG_h, iS_q, lS_q, aI_h, wI_h, aL_h, wL_h, ↓bnd_q, bnr_q, bnc_q, ↓reduceIte, ieqT, ieqF, iltT, iltF, ileT, ileF, not_true, not_false_iff, y3, y4, e41, x1]
        have f81 : fr (fun p k => p = 81 ∧ k = dp) τ2 (jS τ2 81 dp wh) := fr_j (by omega) (by omega)
        have hn3 : NM (jS (jS τ2 81 dp wh) 56 45 0) b e om (dp + 1) om (o + 1) kd2 0 1 := NM_f (NM_f hnt f81 (fun p k w => by omega)) j45 (fun p k w => by unfold q45 at w; omega)
        have st := stp_o j6 hop2 (Or.inl rfl) (by rw [hI_jS_ne (by omega)]; exact y4)
        have f2 : fr (sP b e om dp) σ (jS (jS τ2 81 dp wh) 56 45 0) := fr_t (fr_t (fr_t f1 (fr_m y5 pQ_s)) (fr_m f81 (fun p k _ w => by unfold sP; omega))) (fr_j (by omega) (by unfold sP; omega))
        have oAB := oR_t b2 y2
        have hcl : (bnr (fX5_advance A) fun σ1 => bnc (fX5_isOpened 40 (z32 o) σ1) fun v5 σ3 => if v5 = 0 then some σ3 else T σ3) = T B1 := by
          rw [b1, bnr_q, io_t (s := 40) hA1 (z32_litn 40) (by unfold isS; omega) g1 n7.2.1 ho, y1, bnr_q, bnc_q, if_neg i10]
        have t45 : hI (jS (jS τ2 81 dp wh) 56 45 0) 56 45 = 0 := by rw [hI_jS (by omega) (by omega) (by omega) (by omega), if_pos rfl]
        rcases y7 with ⟨q2, a2, t2', v2, hj2, hq2, halu⟩ | ⟨p, hc, hm⟩
        · right
          have e79 : ∀ p k, 0 ≤ k → k < dp → (p = 78 ∨ p = 79 ∨ p = 80 ∨ p = 82) → hI (jS (jS τ2 81 dp wh) 56 45 0) p k = hI τ1 p k := fun p k g w1 w2 => by
            rw [hI_jS_ne (by omega), hI_jS_ne (by omega), (y5.2 p k g (by unfold pQ; omega)).1]
          refine ⟨ho, B1, _, q2, a2, t2', v2, hcl, ⟨AL_45 (AL_f halu (fun _ _ _ _ => rfl) f81 (fun p k w => by omega)), hj2.2.1, hn3, hj2.2.2.2.1, hj2.2.2.2.2.1, t45⟩, st, by omega, oAB, f2, ⟨?_, ?_, ?_, ?_⟩, ?_⟩
          · rw [e79 _ _ (by omega) (by omega) (by omega)]; exact hn1.2.2.2.2.2.2.2.1.1
          · rw [e79 _ _ (by omega) (by omega) (by omega)]; exact hn1.2.2.2.2.2.2.2.2.1.1
          · rw [e79 _ _ (by omega) (by omega) (by omega)]; exact hn1.2.2.2.2.2.2.2.2.2.1
          · rw [e79 _ _ (by omega) (by omega) (by omega)]; exact hn1.2.2.2.2.2.1.1
          · rw [hI_jS_ne (by omega), hI_jS (by omega) (by omega) (by omega) (by omega), if_pos rfl]
        · left
          obtain ⟨υ2, w1, w2, w3⟩ := bad_end (mBd_c hm (fun k g w => by rw [hI_j0 (by omega) g (by omega), hI_jS_ne (by omega)]) : mBd (jS (jS τ2 81 dp wh) 56 45 0) p) hn3 (Or.inl t45)
          have hb : BADP A B1 σ b q e om dp := ⟨1, p, υ2, 2 + 1, hc, szK_o oAB hs' (by omega), fr_R oAB fBk, stp_e st w1, by omega, w2, fr_t f2 (fr_m w3 (sP_m (by omega) (by omega) (by omega)))⟩
          rw [hcl]
          exact BAD_post hb hT
      · left
        have o7 : o = 7 := by omega
        obtain ⟨B1, y1, y2, y3⟩ := fl_j (k := 5) (z32_litn 5) hal1 (by omega)
        have f8 : hI (jS (jS τ1 56 8 5) 56 9 q1) 56 8 = 5 := fk8 (by omega) (by omega)
        have hop2 : fX11_operand σ = some (z32 0, jS (jS τ1 56 8 5) 56 9 q1) := by
          rw [hop]
          unfold fX11_operand_289
          have h42 := hn1.2.2.2.2.2.2.1.1
          rw [opn_7 (q := q1) (by omega) hr1.1 hr1.2.2.1, bnr_q, if_neg (by rw [show iG (jS (jS τ1 56 8 5) 56 9 q1) 56 8 = z32 (hI (jS (jS τ1 56 8 5) 56 9 q1) 56 8) from iG_h _ 56 8, f8, z32_litn, z32_eq (by omega) (by omega) (by omega) (by omega)]; omega), z32_litn]
        refine ⟨B1, ?_, bad_fo j6 y3 (szK_o (oR_t b2 y2) hs' (by omega)) (fr_R (oR_t b2 y2) fBk) hop2 f8 (fk9 (by omega) (by omega)) (by omega) (fr_t (fr_t f1 (fr_j (by omega) (by unfold sP; omega))) (fr_j (by omega) (by unfold sP; omega))) (by omega)⟩
        rw [b1, bnr_q, io_7 (s := 40) hA1 (z32_litn 40) (by unfold isS; omega) g1 o7, y1, bnr_q, bnc_q, if_pos rfl]
    · left
      obtain ⟨B1, y1, y2, y3⟩ := fl_j (k := 1) (z32_litn 1) hal1 (by omega)
      have f8 : hI (jS (jS τ1 56 8 1) 56 9 q1) 56 8 = 1 := fk8 (by omega) (by omega)
      have hbl : fX11_blame 1 (iG τ1 56 4) τ1 = some (jS (jS τ1 56 8 1) 56 9 q1) := by
        rw [show iG τ1 56 4 = z32 (hI τ1 56 4) from iG_h τ1 56 4, hr1.2.2.1, z32_litn]
        exact blm_0 hr1.1
      rw [if_pos (by rw [sg40 hr1.2.2.2]; exact g1), hbl, bnr_q, o276_f (by omega)] at hop
      refine ⟨B1, ?_, bad_fo j6 y3 (szK_o (oR_t b2 y2) hs' (by omega)) (fr_R (oR_t b2 y2) fBk) hop f8 (fk9 (by omega) (by omega)) (by omega) (fr_t (fr_t f1 (fr_j (by omega) (by unfold sP; omega))) (fr_j (by omega) (by unfold sP; omega))) (by omega)⟩
      rw [b1, bnr_q, io_f (s := 40) hA1 (z32_litn 40) (by unfold isS; omega) g1, y1, bnr_q, bnc_q, if_pos rfl]
  · left
    obtain ⟨m1, m2, m3, m4⟩ := hm
    have key : ∃ υ, fX11_operand σ = some (z32 0, υ) ∧ hI υ 56 8 = 1 ∧ hI υ 56 9 = p ∧ fr (sP b e om dp) τ1 υ := by
      have f8 : hI (jS (jS τ1 56 8 1) 56 9 p) 56 8 = 1 := fk8 (by omega) (by omega)
      have f9 : hI (jS (jS τ1 56 8 1) 56 9 p) 56 9 = p := fk9 (by omega) (by omega)
      have ff : fr (sP b e om dp) τ1 (jS (jS τ1 56 8 1) 56 9 p) := fr_t (fr_j (by omega) (by unfold sP; omega)) (fr_j (by omega) (by unfold sP; omega))
      rcases m4 with m4 | ⟨m4, m5, m6, m7⟩
      · refine ⟨_, ?_, f8, f9, ff⟩
        rw [hop, lex_b m4 m3.1 m1, bnr_q]
        have hbl : fX11_blame 1 (iG (jS (jS τ1 56 8 1) 56 9 p) 56 4) (jS (jS τ1 56 8 1) 56 9 p) = some (jS (jS τ1 56 8 1) 56 9 p) := by
          rw [show iG (jS (jS τ1 56 8 1) 56 9 p) 56 4 = z32 (hI (jS (jS τ1 56 8 1) 56 9 p) 56 4) from iG_h _ 56 4, z32_litn]
          exact blm_1 (by omega)
        split
        · rw [hbl, bnr_q, o276_f (by omega)]
        · exact o276_f (by omega)
      · have nS : ¬ isS 0 := by unfold isS; omega
        have hx0 : tkX τ1 0 0 := ⟨Or.inr rfl, ⟨fun g => by omega, fun g => by omega, fun g => absurd g nS, fun g => by omega, fun g => by omega⟩, fun _ => ⟨m5, m6⟩⟩
        have hbl : fX11_blame 1 (iG τ1 56 4) τ1 = some (jS (jS τ1 56 8 1) 56 9 p) := by
          rw [show iG τ1 56 4 = z32 (hI τ1 56 4) from iG_h τ1 56 4, m7, z32_litn]
          exact blm_0 m1
        refine ⟨_, ?_, f8, f9, ff⟩
        rw [hop, lex_n m4, bnr_q, if_pos (by rw [sg40 hx0]; omega), hbl, bnr_q, o276_f (by omega)]
    obtain ⟨υ, k1, k2, k3, k4⟩ := key
    obtain ⟨B1, y1, y2, y3, y4⟩ := (BK_open (s := 40) (o := z32 o) (G := T) (by omega) (by omega) (by omega)) B0 1 p hc (szK_o b2 hs' (by omega))
    have eB : B0.2.2.2.2 = A.2.2.2.2 := by rw [b2.1]
    rw [eB] at y2
    refine ⟨B1, ?_, bad_fo j6 y3 y4 (fr_t (fr_R b2 fBk) y2) k1 k2 k3 (by omega) (fr_t f1 k4) (by omega)⟩
    rw [b1, bnr_q]
    rw [show (40 : Int32) = z32 40 from z32_litn 40]
    exact y1
end PQ

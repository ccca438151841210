/-! MY OWN: statements: tunnel: all its lengths -/
section LE
variable {A B σ τ υ : zS} {c : Int → Int} {N b q a t v i k p w kd cnt u n K j : Int} {d : Bool} {f : Nat}
theorem BE_d4 (hn : 0 ≤ n ∧ n < 6) (hj : 0 ≤ j ∧ j < 4) : BE d (fun σ13 => wI σ13 (rp σ13.2.2.2.2 + 3) 6 (z32 n) (z32 j + 1) fun σ14 => some σ14) := fun A k p h1 h2 => by
  have hrp := rp_or d
  refine ⟨jS A (rp d + 3) n (j + 1), ?_, fr_j (by omega) (by unfold cR; omega), cBk_j (by omega) h1⟩
  show (wI A (rp A.2.2.2.2 + 3) 6 (z32 n) (z32 j + 1) fun σ14 => some σ14) = _
  rw [h2.1, z1p, wI_h (by omega) (by omega) (by omega)]
theorem BE_d3 (hn : 0 ≤ n ∧ n < 6) (hj : 0 ≤ j ∧ j < 4) : BE d (fun σ8 => bnc (fX5_takeNumber 1 9 σ8) fun v12 σ10 => wI σ10 (rp σ8.2.2.2.2 + 5) 24 ((z32 n * 4) + z32 j) v12 fun σ13 => wI σ13 (rp σ13.2.2.2.2 + 3) 6 (z32 n) (z32 j + 1) fun σ14 => some σ14) := BE_d (fun A w => by rw [w, ix4 hn hj]) (BE_p (fun A k p h => num_k h _ _) (fun r => BE_w (x := r) (by omega) (by omega) (by omega) (by omega) (BE_d4 hn hj)))
theorem BE_d2 (hn : 0 ≤ n ∧ n < 6) (hj : 0 ≤ j ∧ j < 4) : BE d (fun σ7 => bnr (fX5_takeWord 3 σ7) fun σ8 => bnc (fX5_takeNumber 1 9 σ8) fun v12 σ10 => wI σ10 (rp σ8.2.2.2.2 + 5) 24 ((z32 n * 4) + z32 j) v12 fun σ13 => wI σ13 (rp σ13.2.2.2.2 + 3) 6 (z32 n) (z32 j + 1) fun σ14 => some σ14) := BE_b (BS_word (i := 3) (z32_litn 3) (by omega) (by omega)) (BE_d3 hn hj)
theorem l102_z {x : Int32} (h8 : hI τ 56 8 = 0) (h35 : hI τ 56 35 = b) (hb : 0 ≤ b ∧ b ≤ 1) : fX11_tunnelling_102 (f + 1) x 0 τ = some (jS τ 58 b (hI τ 58 b + 1)) := by
  rw [fX11_tunnelling_102, if_pos rfl, if_pos (c8q h8), show iG τ 56 35 = z32 (hI τ 56 35) from iG_h τ 56 35, h35, aI_h (by omega) (by omega) (by omega), z1p, wI_h (by omega) (by omega) (by omega)]
theorem MS_237 (hb : 0 ≤ b ∧ b ≤ 1) {x : Int32} : MS b (fX11_tunnelling_237 (fX11_tunnelling_102 (f + 1)) x) := fun τ k p h1 h2 => by
  obtain ⟨υ, u1, u2, u3⟩ := mF_l h1
  rcases u3 with u3 | ⟨hk, he, hr, hp⟩
  · refine ⟨υ, ?_, mt_b u3, oM_d u2⟩
    unfold fX11_tunnelling_237
    rw [u1, bnr_q, if_neg (c8e u3)]
    unfold fX11_tunnelling_262 fX11_tunnelling_263
    rw [if_pos rfl]
    exact l102_0 u3 x
  · subst he
    refine ⟨jS υ 58 b (hI υ 58 b + 1), ?_, mFb_c h1 (fun k w0 w1 => hI_jS_ne (by omega)), fr_j (by omega) (by unfold mRd; omega)⟩
    unfold fX11_tunnelling_237
    rw [u1, bnr_q, if_pos (c8q hr.1), if_pos (by rw [iw2 hr.2.2.2]; omega)]
    unfold fX11_tunnelling_262 fX11_tunnelling_263
    rw [if_pos rfl]
    exact l102_z hr.1 h2 hb
theorem TJ_ok {pn wn gp : Int} (h : TJ A B σ τ d b n pn wn gp j) (hA : okB d A) (hj : 0 ≤ j ∧ j ≤ 4) : okB d B := by
  have hrp := rp_or d
  obtain ⟨g1, g2, g3, g4, g5⟩ := hA
  obtain ⟨h1, h2, h3, h4, h5, h6, h7, h8, h9⟩ := h
  refine ⟨by rw [h1.1]; exact g1, ?_, ?_, ?_, fun i w0 w1 => ?_⟩
  · rw [(h1.2 _ _ (by omega) (by unfold tC; omega)).1]; exact g2
  · rw [(h1.2 _ _ (by omega) (by unfold tC; omega)).1]; exact g3
  · rw [(h1.2 _ _ (by omega) (by unfold tC; omega)).1]; exact g4
  · by_cases e : i = n
    · rw [e, h7]; exact hj
    · rw [(h1.2 _ _ w0 (by unfold tC; omega)).1]; exact g5 i w0 w1
theorem len_lp {pn wn gp : Int} (hb : 0 ≤ b ∧ b ≤ 1) (hn : 0 ≤ n ∧ n < 6) (hnT : hI A (rp d + 0) 1 = n) (h58 : hI σ 58 b = n) (h35 : hI σ 56 35 = b) (okA : okB d A) : ∀ (m : Nat) (j : Int) (B τ : zS) (q a t v : Int) (f1 f2 : Nat), j + m = 4 → 0 ≤ j → j < 4 → AL B τ c N q a t v → TJ A B σ τ d b n pn wn gp j → m < f1 → m + 2 < f2 → ∃ B' τ', (bnr (rdLn d n j B) fun s => fX5_readTunnel_76 f1 (z32 n) (z32 (j + 1)) s) = some B' ∧ fX11_tunnelling_102 f2 (z32 (6 * b + n)) (z32 1) τ = some τ' ∧ fr (cR (rp d)) A B' ∧ fr (mRd b) σ τ' ∧ ((∃ j' B1 τ1 q' a' t' v', (1 ≤ j' ∧ j' ≤ 4) ∧ AL B1 τ1 c N q' a' t' v' ∧ q < q' ∧ TJ A B1 σ τ1 d b n pn wn gp j' ∧ B' = jS B1 (rp d + 0) 1 (n + 1) ∧ τ' = jS τ1 58 b (n + 1)) ∨ ∃ k p, cBk B' k p ∧ mFb τ' k p) := by
  have hrp := rp_or d
  have hK : 0 ≤ 6 * b + n ∧ 6 * b + n < 12 := by omega
  intro m
  induction m with
  | zero => intro j B τ q a t v f1 f2 h1 h2 h3; omega
  | succ m ih =>
    intro j B τ q a t v f1 f2 hjm hj0 hj4 hal hTJ hf1 hf2
    obtain ⟨g1, rfl⟩ : ∃ g, f1 = g + 1 := ⟨f1 - 1, by omega⟩
    obtain ⟨g2, rfl⟩ : ∃ g, f2 = g + 1 + 1 := ⟨f2 - 2, by omega⟩
    have okB' := TJ_ok hTJ okA (by omega)
    obtain ⟨hr, hA⟩ := AL_x hal
    obtain ⟨p1, p2, p3, p4, p5, p6, p7, p8⟩ := hal.2.2.1
    have hT := hTJ
    obtain ⟨T1, T2, T3, T4, T5, T6, T7, T8, T9⟩ := hTJ
    have cRB : fr (cR (rp d)) A B := fr_m T1 tC_R
    have mRT : fr (mRd b) σ τ := fr_m T2 (tM_R hb hn)
    have h35' : ∀ τ', fr (mRd b) σ τ' → hI τ' 56 35 = b := fun τ' w => by rw [(w.2 56 35 (by omega) (by unfold mRd; omega)).1]; exact h35
    have e102 : fX11_tunnelling_102 (g2 + 1 + 1) (z32 (6 * b + n)) (z32 1) τ = bnc (fX11_lookedAt 1 60 τ) fun v24 σ22 => fX11_tunnelling_125 (fX11_tunnelling_102 (g2 + 1)) zF (z32 (6 * b + n)) (z32 j) v24 0 σ22 := by
      rw [fX11_tunnelling_102, if_neg i32_10, aI_h (by omega) (by omega) (by omega), T8]
    -- the one side behind a fault, from where it stands in a length
    have fin : ∀ (B2 : zS) (k p : Int) (F : zS → Option zS), BE d F → cBk B2 k p → okB d B2 → fr (cR (rp d)) A B2 → ∃ B', (bnr (F B2) fun s => fX5_readTunnel_76 (g1 + 1) (z32 n) (z32 (j + 1)) s) = some B' ∧ fr (cR (rp d)) A B' ∧ cBk B' k p := fun B2 k p F hF w1 w2 w3 => by
      obtain ⟨C, c1, c2, c3⟩ := hF B2 k p w1 w2
      obtain ⟨E, e1, e2, e3⟩ := t76_k (f := g1) c3 (by rw [c2.1]; exact w2.1 : C.2.2.2.2 = d) (z32 n) (z32 (j + 1))
      exact ⟨E, by rw [c1, bnr_q]; exact e1, fr_t (fr_t w3 c2) e2, e3⟩
    rw [e102]
    by_cases hv : t = 3 ∧ 1 ≤ v ∧ v ≤ 60
    · rw [lk_ok (lo := 1) (hi := 60) (z32_litn 1) (z32_litn 60) (by omega) hal hv.1 hv.2, bnc_q]
      have e8 := hal.1.2.2.2.2.2.2.2.2 hv.1
      have eR : rdLn d n j B = bnr (fX6_hasLength d B (z32 n) (z32 v)) fun v15 => if v15 = 0 then fX5_readLength_63 (z32 n) (z32 j) B else bnr (fX5_fail 4 (iG B 54 4) B) fun σ17 => fX5_readLength_63 (z32 n) (z32 j) σ17 := by
        unfold rdLn
        rw [if_pos (by rw [ca3 hA]; exact hv.1), show iG B 54 8 = z32 (hI B 54 8) from iG_h B 54 8, e8]
      obtain ⟨dz1, dz2⟩ := dupl_z (τ := τ) (q := q) (K := 6 * b + n) (j := j) (v := v) (r := fX11_tunnelling_102 (g2 + 1)) hK (by omega) (by omega) hr.1 hr.2.2.1
      rcases hasl_z (B := B) (d := d) (n := n) (j := j) (v := v) (by omega) hn T7 (by omega) with ⟨i, i0, i1, i2, i3⟩ | ⟨i2, i3⟩
      · obtain ⟨g, x, ex⟩ := dz2 ⟨i, i0, i1, by rw [(T9 i i0 i1).1.1]; exact i2⟩
        obtain ⟨f1', f2'⟩ := flt (k := 4) (p := q) hr.1 (by omega) (by omega)
        obtain ⟨B2, b1, b2, b3⟩ := fl_j (k := 4) (z32_litn 4) hal (by omega)
        obtain ⟨υ, u1, u2, u3⟩ := l125_k (f := g2) (g := g) f1' (e35 f2' (h35' _ mRT)) (z32 (6 * b + n)) (z32 j) (z32 v) x
        obtain ⟨B', c1, c2, c3⟩ := fin B2 4 q (fX5_readLength_63 (z32 n) (z32 j)) (BE_63 hn ⟨hj0, hj4⟩) b3 (okB_R b2 okB') (fr_t cRB (oR_cR b2))
        refine ⟨B', υ, ?_, by rw [ex]; exact u1, c2, fr_t (fr_t mRT (oM_d f2')) u3, Or.inr ⟨4, q, c3, u2⟩⟩
        rw [eR, i3, bnr_q, if_neg i10, b1, bnr_q]
        exact c1
      · rw [dz1 (fun i w0 w1 => by rw [(T9 i w0 w1).1.1]; exact i2 i w0 w1)]
        have eR2 : rdLn d n j B = fX5_readLength_63 (z32 n) (z32 j) B := by rw [eR, i3, bnr_q, if_pos rfl]
        obtain ⟨B2, τ2, b1, b2, t1, t2, hres⟩ := adv_j hal (by omega)
        have qa := p6 (by omega)
        have ok2 := okB_R b2 okB'
        have e169 : fX11_tunnelling_169 (fX11_tunnelling_102 (g2 + 1)) (z32 (6 * b + n)) (z32 j) (z32 v) τ = fX11_tunnelling_180 (fX11_tunnelling_102 (g2 + 1)) (z32 (6 * b + n)) (z32 j) (z32 v) τ2 := by
          unfold fX11_tunnelling_169
          rw [if_pos (c8q hr.1), t1, bnr_q]
        have e63 : fX5_readLength_63 (z32 n) (z32 j) B = bnr (fX5_takeWord 3 (jS B2 (rp d + 4) (n * 4 + j) v)) fun σ8 => bnc (fX5_takeNumber 1 9 σ8) fun v12 σ10 => wI σ10 (rp σ8.2.2.2.2 + 5) 24 ((z32 n * 4) + z32 j) v12 fun σ13 => wI σ13 (rp σ13.2.2.2.2 + 3) 6 (z32 n) (z32 j + 1) fun σ14 => some σ14 := by
          unfold fX5_readLength_63
          rw [tn_ok (lo := 1) (hi := 60) (z32_litn 1) (z32_litn 60) (by omega) hal hv.1 hv.2, b1, bnr_q, bnc_q, okB'.1, ix4 hn ⟨hj0, hj4⟩, wI_h (by omega) (by omega) (by omega)]
        rw [eR2, e63, e169]
        have ok3 := okB_j (d := d) (P := rp d + 4) (i := n * 4 + j) (v := v) (by omega) (by omega) (by omega) ok2
        have cR3 : fr (cR (rp d)) A (jS B2 (rp d + 4) (n * 4 + j) v) := fr_t (fr_t cRB (oR_cR b2)) (fr_j (by omega) (by unfold cR; omega))
        have mR2 : fr (mRd b) σ τ2 := fr_t mRT (oM_d t2)
        rcases hres with ⟨q1, a1, t1', v1, h1, hq1⟩ | ⟨p, h1, h2⟩
        case inr =>
          obtain ⟨B', c1, c2, c3⟩ := fin _ 1 p _ (BE_d2 hn ⟨hj0, hj4⟩) (cBk_j (P := rp d + 4) (i := n * 4 + j) (v := v) (by omega) h1) ok3 cR3
          obtain ⟨υ, u1, u2, u3⟩ := MS_180 (b := b) (f := g2) (z32 (6 * b + n)) (z32 j) (z32 v) τ2 1 p (Or.inr ⟨rfl, h2⟩) (h35' _ mR2)
          exact ⟨B', υ, c1, u1, c2, fr_t mR2 u3, Or.inr ⟨1, p, c3, u2⟩⟩
        have al3 : AL (jS B2 (rp d + 4) (n * 4 + j) v) τ2 c N q1 a1 t1' v1 := AL_f h1 (fun p k g w => hI_jS_ne (by omega)) (fr_r (P := fun _ _ => False)) (fun p k w => w.elim)
        have vL : hI (jS B2 (rp d + 4) (n * 4 + j) v) (rp d + 4) (n * 4 + j) = v := by rw [hI_jS (by omega) (by omega) (by omega) (by omega), if_pos rfl]
        have vO : ∀ p k, 0 ≤ k → p ≠ 54 → ¬ (p = rp d + 4 ∧ k = n * 4 + j) → hI (jS B2 (rp d + 4) (n * 4 + j) v) p k = hI B p k := fun p k w0 w1 w2 => by rw [hI_j0 (by omega) w0 w2, b2.2.2 _ _ w1]
        have fB3 : fr (tC d n) A (jS B2 (rp d + 4) (n * 4 + j) v) := fr_t (fr_t T1 (fr_R b2 (fun k _ => by unfold tC; omega))) (fr_j (by omega) (by unfold tC; omega))
        have fT2 : fr (tM b n) σ τ2 := fr_t T2 (fr_m (oM_Q t2) (fun p k _ w => Or.inl w))
        generalize jS B2 (rp d + 4) (n * 4 + j) v = B3 at *
        -- weighs
        obtain ⟨B4, τ3, c1, c2, s1, s2, hres2⟩ := jt_word (i := 3) (x := 3) (y := 131277443786867) (z32_litn 3) ((z64_litn 131277443786867).trans (congrArg z64 (by decide))) (by omega) (by omega) al3
        have ok4 := okB_R c2 ok3
        have cR4 := fr_t cR3 (oR_cR (d := d) c2)
        have mR3 := fr_t mR2 (oM_d (b := b) s2)
        unfold fX11_tunnelling_180
        rw [c1, bnr_q, s1, bnr_q]
        rcases hres2 with ⟨q2, a2, t2', v2, h2, hq2⟩ | ⟨k, p, h1, h2⟩
        case inr =>
          obtain ⟨B', c3, c4, c5⟩ := fin B4 k p _ (BE_d3 hn ⟨hj0, hj4⟩) h1 ok4 cR4
          obtain ⟨υ, u1, u2, u3⟩ := mm_num (x := 1) (y := 9) h2
          rw [u1, bnc_q, if_neg (c8e u3), l237_k u3]
          exact ⟨B', υ, c3, rfl, c4, fr_t mR3 (oM_d u2), Or.inr ⟨k, p, c5, mt_b u3⟩⟩
        -- how much
        obtain ⟨B5, τ4, r3, r4, c3, c4, s3, s4, hres3⟩ := jt_num (lo := 1) (hi := 9) (z32_litn 1) (z32_litn 9) (by omega) h2
        have ok5 := okB_R c4 ok4
        have cR5 := fr_t cR4 (oR_cR (d := d) c4)
        have mR4 := fr_t mR3 (oM_d (b := b) s4)
        rw [c3, bnc_q, s3, bnc_q]
        have i61 : (4 : Int32) * z32 (6 * b + n) + z32 j = z32 (4 * (6 * b + n) + j) := by rw [z32_litn, z32_mul, z32_add]
        have e60 : ∀ τ' : zS, hI τ' 60 (6 * b + n) = hI τ 60 (6 * b + n) → hI τ' 60 (6 * b + n) = j := fun τ' w => w.trans T8
        rcases hres3 with ⟨wt, x1, x2, x3, q3, a3, t3', v3, h3, hq3⟩ | ⟨k, p, h1, h2⟩
        case inr =>
          obtain ⟨B', c5, c6, c7⟩ := fin B5 k p (fun σ10 => wI σ10 (rp B4.2.2.2.2 + 5) 24 ((z32 n * 4) + z32 j) r3 fun σ13 => wI σ13 (rp σ13.2.2.2.2 + 3) 6 (z32 n) (z32 j + 1) fun σ14 => some σ14) (BE_d (fun A w => by rw [ok4.1, ix4 hn ⟨hj0, hj4⟩]) (BE_w (j := 5) (n := 24) (i := n * 4 + j) (x := r3) (by omega) (by omega) (by omega) (by omega) (BE_d4 hn ⟨hj0, hj4⟩))) h1 ok5 cR5
          have kM : MS b (fun σ27 => if (iG σ27 56 8) = 0 then wI σ27 61 48 ((4 * z32 (6 * b + n)) + z32 j) (z32 v) fun σ36 => wI σ36 62 48 ((4 * z32 (6 * b + n)) + z32 j) r4 fun σ37 => aI σ37 60 12 (z32 (6 * b + n)) fun v38 => wI σ37 60 12 (z32 (6 * b + n)) (v38 + 1) fun σ39 => fX11_tunnelling_237 (fX11_tunnelling_102 (g2 + 1)) (z32 (6 * b + n)) σ39 else fX11_tunnelling_237 (fX11_tunnelling_102 (g2 + 1)) (z32 (6 * b + n)) σ27) := fun τ k p w1 w2 => by
            show ∃ υ, (if (iG τ 56 8) = 0 then wI τ 61 48 ((4 * z32 (6 * b + n)) + z32 j) (z32 v) fun σ36 => wI σ36 62 48 ((4 * z32 (6 * b + n)) + z32 j) r4 fun σ37 => aI σ37 60 12 (z32 (6 * b + n)) fun v38 => wI σ37 60 12 (z32 (6 * b + n)) (v38 + 1) fun σ39 => fX11_tunnelling_237 (fX11_tunnelling_102 (g2 + 1)) (z32 (6 * b + n)) σ39 else fX11_tunnelling_237 (fX11_tunnelling_102 (g2 + 1)) (z32 (6 * b + n)) τ) = some υ ∧ _
            rw [i61]
            split
            · refine MS_w (by omega) (by unfold mRd; omega) (by omega) (by omega) (by omega) (MS_w (by omega) (by unfold mRd; omega) (by omega) (by omega) (by omega) (fun τ k p w1 w2 => ?_)) τ k p w1 w2
              show ∃ υ, (aI τ 60 12 (z32 (6 * b + n)) fun v38 => wI τ 60 12 (z32 (6 * b + n)) (v38 + 1) fun σ39 => fX11_tunnelling_237 (fX11_tunnelling_102 (g2 + 1)) (z32 (6 * b + n)) σ39) = some υ ∧ _
              rw [aI_h (by omega) (by omega) (by omega)]
              exact MS_w (by omega) (by unfold mRd; omega) (by omega) (by omega) (by omega) (MS_237 hb) τ k p w1 w2
            · exact MS_237 hb τ k p w1 w2
          obtain ⟨υ, u1, u2, u3⟩ := kM τ4 k p h2 (h35' _ mR4)
          exact ⟨B', υ, c5, u1, c6, fr_t mR4 u3, Or.inr ⟨k, p, c7, u2⟩⟩
        subst x1 x2
        have h38 : hI τ4 56 8 = 0 := h3.2.1.2.2.2.1
        have e60' : hI (jS (jS τ4 61 (4 * (6 * b + n) + j) v) 62 (4 * (6 * b + n) + j) wt) 60 (6 * b + n) = j := by
          rw [hI_jS_ne (by omega), hI_jS_ne (by omega), (s4.2.1 60 _ (by omega)).1, (s2.2.1 60 _ (by omega)).1, (t2.2.1 60 _ (by omega)).1]; exact T8
        rw [if_pos (c8q h38), i61, wI_h (by omega) (by omega) (by omega), wI_h (by omega) (by omega) (by omega), aI_h (by omega) (by omega) (by omega), e60', z1p, wI_h (by omega) (by omega) (by omega), ok4.1, ix4 hn ⟨hj0, hj4⟩, wI_h (by omega) (by omega) (by omega)]
        dsimp only
        rw [show (jS B5 (rp d + 5) (n * 4 + j) wt).2.2.2.2 = d from ok5.1, wI_h (by omega) (by omega) (by omega), bnr_q]
        have al7 : AL (jS (jS B5 (rp d + 5) (n * 4 + j) wt) (rp d + 3) n (j + 1)) (jS (jS (jS τ4 61 (4 * (6 * b + n) + j) v) 62 (4 * (6 * b + n) + j) wt) 60 (6 * b + n) (j + 1)) c N q3 a3 t3' v3 := by
          refine AL_f h3 (fun p k g w => by rw [hI_jS_ne (by omega), hI_jS_ne (by omega)]) (Q := fun p k => p = 61 ∨ p = 62 ∨ p = 60) ?_ (fun p k w => by omega)
          exact fr_t (fr_t (fr_j (by omega) (by omega)) (fr_j (by omega) (by omega))) (fr_j (by omega) (by omega))
        have T7' : TJ A (jS (jS B5 (rp d + 5) (n * 4 + j) wt) (rp d + 3) n (j + 1)) σ (jS (jS (jS τ4 61 (4 * (6 * b + n) + j) v) 62 (4 * (6 * b + n) + j) wt) 60 (6 * b + n) (j + 1)) d b n pn wn gp (j + 1) := by
          have oB : ∀ p k, 0 ≤ k → p ≠ 54 → hI B5 p k = hI B3 p k := fun p k w0 w1 => by rw [c4.2.2 _ _ w1, c2.2.2 _ _ w1]
          have oT : ∀ p k, p ≠ 56 → hI τ4 p k = hI τ p k ∧ hL τ4 p k = hL τ p k := fun p k w1 => by
            rw [(s4.2.1 p k w1).1, (s2.2.1 p k w1).1, (t2.2.1 p k w1).1, (s4.2.1 p k w1).2, (s2.2.1 p k w1).2, (t2.2.1 p k w1).2]; exact ⟨rfl, rfl⟩
          refine ⟨fr_t (fr_t (fr_t (fr_t fB3 (fr_R c2 (fun k _ => by unfold tC; omega))) (fr_R c4 (fun k _ => by unfold tC; omega))) (fr_j (by omega) (by unfold tC; omega))) (fr_j (by omega) (by unfold tC; omega)), fr_t (fr_t (fr_t (fr_t (fr_t fT2 (fr_m (oM_Q s2) (fun p k _ w => Or.inl w))) (fr_m (oM_Q s4) (fun p k _ w => Or.inl w))) (fr_j (by omega) (by unfold tM; omega))) (fr_j (by omega) (by unfold tM; omega))) (fr_j (by omega) (by unfold tM; omega)), ?_, ?_, ?_, ?_, ?_, ?_, fun k g0 g1 => ⟨?_, ?_⟩⟩
          · rw [hI_jS_ne (by omega), hI_jS_ne (by omega), oB _ _ (by omega) (by omega), vO _ _ (by omega) (by omega) (by omega)]; exact T3
          · rw [hL_jS, hL_jS, hL_jS, (oT 76 _ (by omega)).2]; exact T4
          · rw [hI_jS_ne (by omega), hI_jS_ne (by omega), oB _ _ (by omega) (by omega), vO _ _ (by omega) (by omega) (by omega)]; exact T5
          · rw [hI_jS_ne (by omega), hI_jS_ne (by omega), hI_jS_ne (by omega), (oT 59 _ (by omega)).1]; exact T6
          · rw [hI_jS (by omega) (by omega) (by omega) (by omega), if_pos rfl]
          · rw [hI_jS (by omega) (by omega) (by omega) (by omega), if_pos rfl]
          · have eC : hI (jS (jS B5 (rp d + 5) (n * 4 + j) wt) (rp d + 3) n (j + 1)) (rp d + 4) (n * 4 + k) = hI B3 (rp d + 4) (n * 4 + k) := by rw [hI_jS_ne (by omega), hI_jS_ne (by omega), oB _ _ (by omega) (by omega)]
            have eT : hI (jS (jS (jS τ4 61 (4 * (6 * b + n) + j) v) 62 (4 * (6 * b + n) + j) wt) 60 (6 * b + n) (j + 1)) 61 (4 * (6 * b + n) + k) = if 4 * (6 * b + n) + k = 4 * (6 * b + n) + j then v else hI τ4 61 (4 * (6 * b + n) + k) := by rw [hI_jS_ne (by omega), hI_jS_ne (by omega), hI_jS (by omega) (by omega) (by omega) (by omega)]
            rw [eC, eT]
            by_cases e : k = j
            · rw [e, if_pos rfl, vL]; exact ⟨rfl, hv.2.1, hv.2.2⟩
            · rw [if_neg (by omega), vO _ _ (by omega) (by omega) (by omega), (oT 61 _ (by omega)).1]; exact (T9 k g0 (by omega)).1
          · have eC : hI (jS (jS B5 (rp d + 5) (n * 4 + j) wt) (rp d + 3) n (j + 1)) (rp d + 5) (n * 4 + k) = if n * 4 + k = n * 4 + j then wt else hI B5 (rp d + 5) (n * 4 + k) := by rw [hI_jS_ne (by omega), hI_jS (by omega) (by omega) (by omega) (by omega)]
            have eT : hI (jS (jS (jS τ4 61 (4 * (6 * b + n) + j) v) 62 (4 * (6 * b + n) + j) wt) 60 (6 * b + n) (j + 1)) 62 (4 * (6 * b + n) + k) = if 4 * (6 * b + n) + k = 4 * (6 * b + n) + j then wt else hI τ4 62 (4 * (6 * b + n) + k) := by rw [hI_jS_ne (by omega), hI_jS (by omega) (by omega) (by omega) (by omega), hI_jS_ne (by omega)]
            rw [eC, eT]
            by_cases e : k = j
            · rw [if_pos (by omega), if_pos (by omega)]; exact ⟨rfl, x3.1, x3.2⟩
            · rw [if_neg (by omega), if_neg (by omega), oB _ _ (by omega) (by omega), vO _ _ (by omega) (by omega) (by omega), (oT 62 _ (by omega)).1]; exact (T9 k g0 (by omega)).2
        have ok7 : okB d (jS (jS B5 (rp d + 5) (n * 4 + j) wt) (rp d + 3) n (j + 1)) := TJ_ok T7' okA (by omega)
        generalize jS (jS B5 (rp d + 5) (n * 4 + j) wt) (rp d + 3) n (j + 1) = B7 at *
        generalize jS (jS (jS τ4 61 (4 * (6 * b + n) + j) v) 62 (4 * (6 * b + n) + j) wt) 60 (6 * b + n) (j + 1) = τ7 at *
        obtain ⟨hr7, hA7⟩ := AL_x al7
        obtain ⟨y1, y2, y3, y4, y5, y6, y7, y8⟩ := al7.2.2.1
        have cR7 : fr (cR (rp d)) A B7 := fr_m T7'.1 tC_R
        have mR7 : fr (mRd b) σ τ7 := fr_m T7'.2.1 (tM_R hb hn)
        have n7 : hI B7 (rp d + 0) 1 = n := by rw [(T7'.1.2 _ _ (by omega) (by unfold tC; omega)).1]; exact hnT
        have n58 : hI τ7 58 b = n := by rw [(T7'.2.1.2 58 b (by omega) (by unfold tM oQ; omega)).1]; exact h58
        rw [fX5_readTunnel_76, if_neg (by rw [z32_litn, z32_lt (by omega) (by omega) (by omega) (by omega)]; omega)]
        unfold fX11_tunnelling_237
        rw [lex_n hr7.2.1, bnr_q, if_pos (c8q hr7.1)]
        by_cases ht : t3' = 102
        · rw [if_pos (by rw [cb2 hA7]; exact ht), if_neg (by rw [iw2 hr7.2.2.2]; omega)]
          unfold fX11_tunnelling_263
          rw [if_neg i10, aI_h (by omega) (by omega) (by omega), T7'.2.2.2.2.2.2.2.1]
          by_cases hj3 : j + 1 < 4
          · rw [if_neg (by rw [z32_litn, z32_eq (by omega) (by omega) (by omega) (by omega)]; omega), rl_e ok7.1 T7'.2.2.2.2.2.2.1 hn ⟨by omega, hj3⟩]
            obtain ⟨B8, τ8, d1, d2, e1, e2, hres4⟩ := kw al7 (by omega)
            unfold fX11_tunnelling_284
            rw [e1, bnc_q]
            have eW : fX5_takeWord 2 B7 = some B8 := by
              unfold fX5_takeWord
              rw [if_pos (by rw [cb2 hA7]; exact ht), d1, bnr_q]
            have dB8 : B8.2.2.2.2 = d := by rw [d2.1]; exact ok7.1
            rw [eW, bnr_q, if_pos dB8]
            unfold fX11_tunnelling_288
            rw [z1p]
            rcases hres4 with ⟨q4, a4, t4', v4, h4, hq4⟩ | ⟨k, p, h1, h2⟩
            · obtain ⟨B', τ', k1, k2, k3, k4, k5⟩ := ih (j + 1) B8 τ8 q4 a4 t4' v4 g1 (g2 + 1) (by omega) (by omega) hj3 h4 (TJ_o T7' d2 e2) (by omega) (by omega)
              refine ⟨B', τ', k1, by rw [← z32_litn 1] at k2; exact k2, k3, k4, ?_⟩
              rcases k5 with ⟨j', B1, τ1, q', a', t', v', l1, l2, l3, l4, l5, l6⟩ | k5
              · exact Or.inl ⟨j', B1, τ1, q', a', t', v', l1, l2, by omega, l4, l5, l6⟩
              · exact Or.inr k5
            · obtain ⟨C, k1, k2, k3⟩ := BE_rdLn hn ⟨by omega, hj3⟩ B8 k p h1 (okB_R d2 ok7)
              obtain ⟨g1', rfl⟩ : ∃ g, g1 = g + 1 := ⟨g1 - 1, by omega⟩
              obtain ⟨g2', rfl⟩ : ∃ g, g2 = g + 1 := ⟨g2 - 1, by omega⟩
              obtain ⟨E, l1, l2, l3⟩ := t76_k (f := g1') k3 (by rw [k2.1]; exact dB8 : C.2.2.2.2 = d) (z32 n) (z32 (j + 1 + 1))
              obtain ⟨υ, u1, u2, u3⟩ := MS_102 (b := b) (f := g2') hK τ8 k p h2 (e35 e2 (h35' _ mR7))
              refine ⟨E, υ, by rw [k1, bnr_q]; exact l1, by rw [← z32_litn 1] at u1; exact u1, fr_t (fr_t (fr_t cR7 (oR_cR d2)) k2) l2, fr_t (fr_t mR7 (oM_d e2)) u3, Or.inr ⟨k, p, l3, u2⟩⟩
          · have j4 : j + 1 = 4 := by omega
            obtain ⟨f1', f2'⟩ := flt (k := 6) (p := q3) hr7.1 (by omega) (by omega)
            obtain ⟨B8, d1, d2, d3⟩ := fl_j (k := 6) (z32_litn 6) al7 (by omega)
            obtain ⟨g1', rfl⟩ : ∃ g, g1 = g + 1 := ⟨g1 - 1, by omega⟩
            obtain ⟨E, l1, l2, l3⟩ := t76_k (f := g1') d3 (by rw [d2.1]; exact ok7.1 : B8.2.2.2.2 = d) (z32 n) (z32 (j + 1) + 1)
            have eL : fX5_readLength (z32 n) B7 = some B8 := by
              unfold fX5_readLength
              rw [ok7.1, aI_h (by omega) (by omega) (by omega), T7'.2.2.2.2.2.2.1, if_neg (by rw [z32_litn, z32_lt (by omega) (by omega) (by omega) (by omega)]; omega), d1, bnr_q]
            rw [eL, bnr_q, if_pos (by rw [j4, z32_litn])]
            unfold fX11_tunnelling_284 fX11_tunnelling_288
            rw [cnt_1 hr7 (by omega), bnc_q]
            exact ⟨E, _, l1, l102_0 f1' _, fr_t (fr_t cR7 (oR_cR d2)) l2, fr_t mR7 (oM_d f2'), Or.inr ⟨6, q3, l3, mt_b f1'⟩⟩
        · rw [if_neg (by rw [cb2 hA7]; exact ht), if_pos (by rw [iw2 hr7.2.2.2]; exact ht), t100 ok7.1, n7]
          unfold fX11_tunnelling_262 fX11_tunnelling_263
          rw [if_pos rfl]
          unfold fX11_tunnelling_288
          rw [l102_z hr7.1 (h35' _ mR7) hb, n58]
          exact ⟨_, _, rfl, rfl, fr_t cR7 (fr_j (by omega) (by unfold cR; omega)), fr_t mR7 (fr_j (by omega) (by unfold mRd; omega)), Or.inl ⟨j + 1, B7, τ7, q3, a3, t3', v3, by omega, al7, by omega, T7', rfl, rfl⟩⟩
    · obtain ⟨k, k1, k2⟩ := lk_no (lo := 1) (hi := 60) (z32_litn 1) (z32_litn 60) (by omega) hal hv
      have hk : 0 < k ∧ k < 10 := by split at k1 <;> omega
      obtain ⟨f1', f2'⟩ := flt (k := k) (p := q) hr.1 hk (by omega)
      obtain ⟨B2, r, b1, b2, b3⟩ := tn_no (lo := 1) (hi := 60) (z32_litn 1) (z32_litn 60) (by omega) hal hv k1
      obtain ⟨g, hg⟩ := zF_ex
      obtain ⟨υ, u1, u2, u3⟩ := l125_k (f := g2) (g := g) f1' (e35 f2' (h35' _ mRT)) (z32 (6 * b + n)) (z32 j) (z32 0) 0
      have e63 : fX5_readLength_63 (z32 n) (z32 j) B = wI B2 (rp d + 4) 24 (z32 (n * 4 + j)) r fun σ7 => bnr (fX5_takeWord 3 σ7) fun σ8 => bnc (fX5_takeNumber 1 9 σ8) fun v12 σ10 => wI σ10 (rp σ8.2.2.2.2 + 5) 24 ((z32 n * 4) + z32 j) v12 fun σ13 => wI σ13 (rp σ13.2.2.2.2 + 3) 6 (z32 n) (z32 j + 1) fun σ14 => some σ14 := by
        unfold fX5_readLength_63
        rw [b1, bnc_q, okB'.1, ix4 hn ⟨hj0, hj4⟩]
      have eR : rdLn d n j B = fX5_readLength_63 (z32 n) (z32 j) B := by
        unfold rdLn
        by_cases ht : t = 3
        · have e8 := hal.1.2.2.2.2.2.2.2.2 ht
          obtain ⟨m1, m2, m3⟩ := hal.2.1.2.2.2.2.2.2.2.1 ht
          rw [if_pos (by rw [ca3 hA]; exact ht), show iG B 54 8 = z32 (hI B 54 8) from iG_h B 54 8, e8]
          rcases hasl_z (B := B) (d := d) (n := n) (j := j) (v := v) (by omega) hn T7 (by omega) with ⟨i, i0, i1, i2, i3⟩ | ⟨i2, i3⟩
          · exfalso
            have := (T9 i i0 i1).1.2
            rw [i2] at this
            exact hv ⟨ht, this⟩
          · rw [i3, bnr_q, if_pos rfl]
        · rw [if_neg (by rw [ca3 hA]; exact ht)]
      obtain ⟨B', c1, c2, c3⟩ := fin B2 k q (fun B2 => wI B2 (rp d + 4) 24 (z32 (n * 4 + j)) r fun σ7 => bnr (fX5_takeWord 3 σ7) fun σ8 => bnc (fX5_takeNumber 1 9 σ8) fun v12 σ10 => wI σ10 (rp σ8.2.2.2.2 + 5) 24 ((z32 n * 4) + z32 j) v12 fun σ13 => wI σ13 (rp σ13.2.2.2.2 + 3) 6 (z32 n) (z32 j + 1) fun σ14 => some σ14) (BE_w (x := r) (by omega) (by omega) (by omega) (by omega) (BE_d2 hn ⟨hj0, hj4⟩)) b3 (okB_R b2 okB') (fr_t cRB (oR_cR b2))
      refine ⟨B', υ, ?_, ?_, c2, fr_t (fr_t mRT (oM_d f2')) u3, Or.inr ⟨k, q, c3, u2⟩⟩
      · rw [eR, e63]; exact c1
      · rw [k2, bnc_q, hg]; exact u1
end LE

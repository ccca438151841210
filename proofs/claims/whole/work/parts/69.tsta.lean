/-! MY OWN: statements: tunnel -/
section TN
variable {A B σ τ υ : zS} {c : Int → Int} {N b q a t v i k p w kd cnt u n K j : Int} {d : Bool} {f : Nat}
theorem BE_rl (hn : 0 ≤ n ∧ n < 6) : BE d (fX5_readLength (z32 n)) := fun A k p h1 h2 => by
  have hrp := rp_or d
  obtain ⟨j, hj⟩ : ∃ j, hI A (rp d + 3) n = j := ⟨_, rfl⟩
  have hj4 := h2.2.2.2.2 n hn.1 hn.2
  rw [hj] at hj4
  by_cases g : j < 4
  · obtain ⟨C, c1, c2, c3, c4⟩ := BS_word (d := d) (i := 2) (z32_litn 2) (by omega) (by omega) A k p h1 h2
    obtain ⟨E, e1, e2, e3⟩ := BE_rdLn hn ⟨hj4.1, g⟩ C k p c3 c4
    refine ⟨E, ?_, fr_t c2 e2, e3⟩
    rw [rl_e h2.1 hj hn ⟨hj4.1, g⟩, c1, bnr_q, if_pos c4.1]; exact e1
  · obtain ⟨C, c1, c2, c3⟩ := fail_k h1 6 (iG A 54 4)
    refine ⟨C, ?_, oR_cR c2, c3⟩
    unfold fX5_readLength
    rw [h2.1, aI_h (by omega) (by omega) (by omega), hj, if_neg (by rw [z32_litn, z32_lt (by omega) (by omega) (by omega) (by omega)]; omega), c1, bnr_q]
theorem BE_76 {F : zS → Option zS} (hF : BE d F) (x1 x2 : Int32) : BE d (fun A => bnr (F A) fun s => fX5_readTunnel_76 zF x1 x2 s) := fun A k p h1 h2 => by
  obtain ⟨C, c1, c2, c3⟩ := hF A k p h1 h2
  obtain ⟨g, hg⟩ := zF_ex
  obtain ⟨E, e1, e2, e3⟩ := t76_k (f := g) c3 (by rw [c2.1]; exact h2.1 : C.2.2.2.2 = d) x1 x2
  refine ⟨E, ?_, fr_t c2 e2, e3⟩
  show (bnr (F A) fun s => fX5_readTunnel_76 zF x1 x2 s) = some E
  rw [c1, bnr_q, hg]; exact e1
theorem zF_2 : ∃ f, zF = f + 1 + 1 := ⟨zF - 2, by unfold zF; omega⟩
theorem MS_t17 (hK : 0 ≤ K ∧ K < 12) : MS b (fun σ17 => if (iG σ17 56 8) = 0 then fX11_tunnelling_101 (z32 K) 1 σ17 else fX11_tunnelling_101 (z32 K) 0 σ17) := fun τ k p h1 h2 => by
  obtain ⟨f, hf⟩ := zF_2
  show ∃ υ, (if (iG τ 56 8) = 0 then fX11_tunnelling_101 (z32 K) 1 τ else fX11_tunnelling_101 (z32 K) 0 τ) = some υ ∧ _
  split
  · unfold fX11_tunnelling_101
    rw [hf, show (1 : Int32) = z32 1 from z32_litn 1]
    exact MS_102 hK τ k p h1 h2
  · rename_i g
    rcases h1 with h1 | ⟨hk, h1⟩
    · refine ⟨τ, ?_, mt_b h1, fr_r⟩
      unfold fX11_tunnelling_101
      rw [hf]
      exact l102_0 h1 _
    · exact absurd (c8q h1.1) g
theorem RR_tun {pn wn gp : Int} (hR : RR A σ d b q) (hn : 0 ≤ n ∧ n < 6) (hnT : hI A (rp d + 0) 1 = n) (hnm : nmR pn wn) (hgp : 0 ≤ gp ∧ gp ≤ 99) (hj : 1 ≤ j ∧ j ≤ 4) (hT : TJ A B σ τ d b n pn wn gp j) (hq : q ≤ k) : RR (jS B (rp d + 0) 1 (n + 1)) (jS τ 58 b (n + 1)) d b k := by
  have hrp := rp_or d
  obtain ⟨T1, T2, T3, T4, T5, T6, T7, T8, T9⟩ := hT
  obtain ⟨R1, R2, R3, R4, R5, R6, R7⟩ := hR
  have hb := R2.1
  have fC : fr (fun p k => tC d n p k ∨ (p = rp d + 0 ∧ k = 1)) A (jS B (rp d + 0) 1 (n + 1)) := fr_t (fr_m T1 (fun p k _ w => Or.inl w)) (fr_j (by omega) (Or.inr ⟨rfl, rfl⟩))
  have fM : fr (fun p k => tM b n p k ∨ (p = 58 ∧ k = b)) σ (jS τ 58 b (n + 1)) := fr_t (fr_m T2 (fun p k _ w => Or.inl w)) (fr_j (by omega) (Or.inr ⟨rfl, rfl⟩))
  have cv : ∀ p k, 0 ≤ k → ¬ tC d n p k → ¬ (p = rp d + 0 ∧ k = 1) → hI (jS B (rp d + 0) 1 (n + 1)) p k = hI A p k := fun p k w0 w1 w2 => (fC.2 p k w0 (fun w => by rcases w with w | w; exact w1 w; exact w2 w)).1
  have mv : ∀ p k, 0 ≤ k → ¬ tM b n p k → ¬ (p = 58 ∧ k = b) → hI (jS τ 58 b (n + 1)) p k = hI σ p k ∧ hL (jS τ 58 b (n + 1)) p k = hL σ p k := fun p k w0 w1 w2 => fM.2 p k w0 (fun w => by rcases w with w | w; exact w1 w; exact w2 w)
  have nC : hI (jS B (rp d + 0) 1 (n + 1)) (rp d + 0) 1 = n + 1 := by rw [hI_jS (by omega) (by omega) (by omega) (by omega), if_pos rfl]
  have hC : hI (jS B (rp d + 0) 1 (n + 1)) (rp d + 0) 2 = hI A (rp d + 0) 2 := cv _ _ (by omega) (by unfold tC; omega) (by omega)
  have w58 : hI (jS τ 58 b (n + 1)) 58 b = n + 1 := by rw [hI_jS (by omega) (by omega) (by omega) (by omega), if_pos rfl]
  have w35 : hI (jS τ 58 b (n + 1)) 56 35 = b := by rw [(mv 56 35 (by omega) (by unfold tM oQ; omega) (by omega)).1]; exact hb.1
  have u1 : hI (jS B (rp d + 0) 1 (n + 1)) (rp d + 1) n = pn := by rw [hI_jS_ne (by omega)]; exact T3
  have u2 : hI (jS B (rp d + 0) 1 (n + 1)) (rp d + 2) n = gp := by rw [hI_jS_ne (by omega)]; exact T5
  have u3 : hI (jS B (rp d + 0) 1 (n + 1)) (rp d + 3) n = j := by rw [hI_jS_ne (by omega)]; exact T7
  have u4 : ∀ k, hI (jS B (rp d + 0) 1 (n + 1)) (rp d + 4) k = hI B (rp d + 4) k := fun k => hI_jS_ne (by omega)
  have u5 : ∀ k, hI (jS B (rp d + 0) 1 (n + 1)) (rp d + 5) k = hI B (rp d + 5) k := fun k => hI_jS_ne (by omega)
  have x76 : hL (jS τ 58 b (n + 1)) 76 (6 * b + n) = wn := by rw [hL_jS]; exact T4
  have x59 : hI (jS τ 58 b (n + 1)) 59 (6 * b + n) = gp := by rw [hI_jS_ne (by omega)]; exact T6
  have x60 : hI (jS τ 58 b (n + 1)) 60 (6 * b + n) = j := by rw [hI_jS_ne (by omega)]; exact T8
  have x61 : ∀ k, hI (jS τ 58 b (n + 1)) 61 k = hI τ 61 k := fun k => hI_jS_ne (by omega)
  have x62 : ∀ k, hI (jS τ 58 b (n + 1)) 62 k = hI τ 62 k := fun k => hI_jS_ne (by omega)
  have dF : (jS B (rp d + 0) 1 (n + 1)).2.2.2.2 = d := by rw [fC.1]; exact R1
  generalize jS B (rp d + 0) 1 (n + 1) = BF at *
  generalize jS τ 58 b (n + 1) = τF at *
  refine ⟨dF, ⟨⟨w35, hb.2⟩, ⟨?_, ?_⟩, ⟨?_, ?_⟩, fun t g0 g1 => ?_, fun h' g0 g1 => ?_⟩, ⟨fun t g0 g1 => ?_, fun t g0 g1 => ?_⟩, ?_, ?_, ?_, ?_⟩
  · rw [nC]; exact w58
  · rw [nC]; omega
  · rw [hC, (mv 63 b (by omega) (by unfold tM oQ; omega) (by omega)).1]; exact R2.2.2.1.1
  · rw [hC]; exact R2.2.2.1.2
  · rw [nC] at g1
    by_cases e : t = n
    · rw [e, u1, x76]; exact hnm
    · rw [cv _ _ g0 (by unfold tC; omega) (by omega), (mv 76 _ (by omega) (by unfold tM oQ; omega) (by omega)).2]
      exact R2.2.2.2.1 t g0 (by rw [hnT]; omega)
  · rw [hC] at g1
    rw [cv _ _ g0 (by unfold tC; omega) (by omega), (mv 77 _ (by omega) (by unfold tM oQ; omega) (by omega)).2]
    exact R2.2.2.2.2 h' g0 g1
  · rw [nC] at g1
    by_cases e : t = n
    · subst e
      refine ⟨?_, ?_, fun k w0 w1 => ?_⟩
      · rw [u2, x59]; exact ⟨rfl, hgp⟩
      · rw [u3, x60]; exact ⟨rfl, hj⟩
      · rw [u3] at w1
        rw [u4, u5, x61, x62]; exact T9 k w0 w1
    · obtain ⟨y1, y2, y3⟩ := R3.1 t g0 (by rw [hnT]; omega)
      have e3 : hI BF (rp d + 3) t = hI A (rp d + 3) t := cv _ _ g0 (by unfold tC; omega) (by omega)
      refine ⟨?_, ?_, fun k w0 w1 => ?_⟩
      · rw [cv _ _ g0 (by unfold tC; omega) (by omega), (mv 59 _ (by omega) (by unfold tM oQ; omega) (by omega)).1]; exact y1
      · rw [e3, (mv 60 _ (by omega) (by unfold tM oQ; omega) (by omega)).1]; exact y2
      · rw [e3] at w1
        have y22 := y2.2
        have l1 : t * 4 + k < n * 4 := by omega
        have l2 : 4 * (6 * b + t) + k < 4 * (6 * b + n) := by omega
        rw [cv (rp d + 4) _ (by omega) (by unfold tC; omega) (by omega), cv (rp d + 5) _ (by omega) (by unfold tC; omega) (by omega), (mv 61 _ (by omega) (by unfold tM oQ; omega) (by omega)).1, (mv 62 _ (by omega) (by unfold tM oQ; omega) (by omega)).1]
        exact y3 k w0 w1
  · rw [nC] at g0
    rw [cv _ _ (by omega) (by unfold tC; omega) (by omega)]
    exact R3.2 t (by rw [hnT]; omega) g1
  · exact RH_f hb.2.1 R2.2.2.1.2.1 R4 fC fM (fun p k w => by unfold tC at w; omega) (fun p k w => by unfold tM oQ at w; omega)
  · exact RF_f hb.2.1 R5 fC fM (fun p k w => by unfold tC at w; omega) (fun p k w => by unfold tM oQ at w; omega)
  · exact RSm_f hb.2.1 R6 fC fM (fun p k w => by unfold tC at w; omega) (fun p k w => by unfold tM oQ at w; omega)
  · exact RZ_f R7 hq fC fM (fun p k w => by unfold tC at w; omega) (fun p k w => by unfold tM oQ at w; omega)
theorem st_tunnel (h : AL A σ c N q a t v) (ht : t ≠ 1) (hR : RR A σ d b q) : ∃ B τ, fX5_readTunnel A = some B ∧ fX11_tunnelling σ = some τ ∧ STA A B σ τ c N d b q := by
  have hrp := rp_or d
  obtain ⟨hr, hA⟩ := AL_x h
  obtain ⟨p1, p2, p3, p4, p5, p6, p7, p8⟩ := h.2.2.1
  have hb := hR.2.1.1
  obtain ⟨n, hn⟩ : ∃ n, hI A (rp d + 0) 1 = n := ⟨_, rfl⟩
  have hn6 := hR.2.1.2.1
  rw [hn] at hn6
  have eC0 : iG A (rp A.2.2.2.2 + 0) 1 = z32 n := by rw [hR.1, show iG A (rp d + 0) 1 = z32 (hI A (rp d + 0) 1) from iG_h A _ 1, hn]
  have eM0 : fX11_tunnelling σ = if n = 6 then fX11_tunnelling_20 1 σ else fX11_tunnelling_20 0 σ := by
    unfold fX11_tunnelling
    rw [show iG σ 56 35 = z32 (hI σ 56 35) from iG_h σ 56 35, hb.1, aI_h (by omega) (by omega) (by omega), hn6.1]
    by_cases g : n = 6
    · rw [if_pos g, if_pos (by rw [g, z32_litn])]
    · rw [if_neg g, if_neg (by rw [z32_litn, z32_eq (by omega) (by omega) (by omega) (by omega)]; exact g)]
  rw [eM0]
  unfold fX5_readTunnel
  rw [eC0]
  by_cases g6 : n = 6
  · obtain ⟨B, b1, b2, b3⟩ := fl_j (k := 6) (z32_litn 6) h (by omega)
    obtain ⟨f1, f2⟩ := flt (k := 6) (p := q) hr.1 (by omega) (by omega)
    refine ⟨B, jS (jS σ 56 8 6) 56 9 q, ?_, ?_, oR_cR b2, oM_d f2, Or.inr ⟨6, q, b3, mt_b f1⟩⟩
    · rw [if_neg (by rw [z32_litn, z32_lt (by omega) (by omega) (by omega) (by omega)]; omega), b1, bnr_q]
    · rw [if_pos g6]
      unfold fX11_tunnelling_20
      rw [cnt_1 hr (by omega), bnc_q, if_pos rfl]
  rw [if_neg g6, if_pos (by rw [z32_litn, z32_lt (by omega) (by omega) (by omega) (by omega)]; omega)]
  have hn05 : 0 ≤ n ∧ n < 6 := by omega
  have K0 : 0 ≤ 6 * b + n := by omega
  have K1 : 6 * b + n < 12 := by omega
  have mK : ∀ P : Nat, (P = 59 ∨ P = 60 ∨ P = 76) → mRd b P (6 * b + n) := fun P w => mRd_K hb.2 hn05 P (by rcases w with w | w | w <;> simp [w])
  -- what is left to do behind a fault
  have kE : BE d (fun σ12 => bnr (fX5_readLength (z32 n) σ12) fun σ13 => fX5_readTunnel_76 zF (z32 n) 1 σ13) := BE_76 (BE_rl hn05) _ _
  have kC2 : BE d (fun σ7 => bnc (fX5_takeNumber 0 99 σ7) fun v11 σ9 => wI σ9 (rp σ7.2.2.2.2 + 2) 6 (z32 n) v11 fun σ12 => bnr (fX5_readLength (z32 n) σ12) fun σ13 => fX5_readTunnel_76 zF (z32 n) 1 σ13) := BE_d (fun A w => by rw [w]) (BE_p (fun A k p h => num_k h _ _) (fun r => BE_w (x := r) (by omega) (by omega) (by omega) (by omega) kE))
  have kC1 : BE d (fun σ6 => bnr (fX5_takeWord 1 σ6) fun σ7 => bnc (fX5_takeNumber 0 99 σ7) fun v11 σ9 => wI σ9 (rp σ7.2.2.2.2 + 2) 6 (z32 n) v11 fun σ12 => bnr (fX5_readLength (z32 n) σ12) fun σ13 => fX5_readTunnel_76 zF (z32 n) 1 σ13) := BE_b (BS_word (i := 1) (z32_litn 1) (by omega) (by omega)) kC2
  have kC0 : BE d (fun σ1 => bnc (fX5_takeNewName σ1) fun v5 σ3 => wI σ3 (rp σ1.2.2.2.2 + 1) 6 (z32 n) v5 fun σ6 => bnr (fX5_takeWord 1 σ6) fun σ7 => bnc (fX5_takeNumber 0 99 σ7) fun v11 σ9 => wI σ9 (rp σ7.2.2.2.2 + 2) 6 (z32 n) v11 fun σ12 => bnr (fX5_readLength (z32 n) σ12) fun σ13 => fX5_readTunnel_76 zF (z32 n) 1 σ13) := BE_d (fun A w => by rw [w]) (BE_p (fun A k p h => new_k h) (fun r => BE_w (x := r) (by omega) (by omega) (by omega) (by omega) kC1))
  have m4 : MS b (fun σ17 => if (iG σ17 56 8) = 0 then fX11_tunnelling_101 (z32 (6 * b + n)) 1 σ17 else fX11_tunnelling_101 (z32 (6 * b + n)) 0 σ17) := MS_t17 ⟨K0, K1⟩
  have m3 : MS b (fun σ16 => bnr (fX11_must_ 24948 σ16) fun σ17 => if (iG σ17 56 8) = 0 then fX11_tunnelling_101 (z32 (6 * b + n)) 1 σ17 else fX11_tunnelling_101 (z32 (6 * b + n)) 0 σ17) := MS_b (MS_word (i := 2) ((z64_litn 24948).trans (congrArg z64 (by decide))) (by omega) (by omega)) m4
  have m2 : ∀ v14 : Int32, MS b (fun σ12 => wI σ12 59 12 (z32 (6 * b + n)) v14 fun σ15 => wI σ15 60 12 (z32 (6 * b + n)) 0 fun σ16 => bnr (fX11_must_ 24948 σ16) fun σ17 => if (iG σ17 56 8) = 0 then fX11_tunnelling_101 (z32 (6 * b + n)) 1 σ17 else fX11_tunnelling_101 (z32 (6 * b + n)) 0 σ17) := fun v14 => MS_w (by omega) (mK 59 (by omega)) (by omega) (by omega) (by omega) (MS_w (by omega) (mK 60 (by omega)) (by omega) (by omega) (by omega) m3)
  have m1 : MS b (fun σ10 => bnc (fX11_number 0 99 σ10) fun v14 σ12 => wI σ12 59 12 (z32 (6 * b + n)) v14 fun σ15 => wI σ15 60 12 (z32 (6 * b + n)) 0 fun σ16 => bnr (fX11_must_ 24948 σ16) fun σ17 => if (iG σ17 56 8) = 0 then fX11_tunnelling_101 (z32 (6 * b + n)) 1 σ17 else fX11_tunnelling_101 (z32 (6 * b + n)) 0 σ17) := MS_num m2
  have m0 : MS b (fun σ9 => bnr (fX11_must_ 6775152 σ9) fun σ10 => bnc (fX11_number 0 99 σ10) fun v14 σ12 => wI σ12 59 12 (z32 (6 * b + n)) v14 fun σ15 => wI σ15 60 12 (z32 (6 * b + n)) 0 fun σ16 => bnr (fX11_must_ 24948 σ16) fun σ17 => if (iG σ17 56 8) = 0 then fX11_tunnelling_101 (z32 (6 * b + n)) 1 σ17 else fX11_tunnelling_101 (z32 (6 * b + n)) 0 σ17) := MS_b (MS_word (i := 1) ((z64_litn 6775152).trans (congrArg z64 (by decide))) (by omega) (by omega)) m1
  obtain ⟨B1, τ1, b1, b2, t1, t2, hres⟩ := kw h ht
  have e58 : hI τ1 58 b = n := by rw [((oM_Q t2).2 58 b (by omega) (by unfold oQ; omega)).1]; exact hn6.1
  have eM1 : fX11_tunnelling_20 0 σ = bnc (fX11_fresh τ1) fun v8 σ6 => wL σ6 76 12 (z32 (6 * b + n)) v8 fun σ9 => bnr (fX11_must_ 6775152 σ9) fun σ10 => bnc (fX11_number 0 99 σ10) fun v14 σ12 => wI σ12 59 12 (z32 (6 * b + n)) v14 fun σ15 => wI σ15 60 12 (z32 (6 * b + n)) 0 fun σ16 => bnr (fX11_must_ 24948 σ16) fun σ17 => if (iG σ17 56 8) = 0 then fX11_tunnelling_101 (z32 (6 * b + n)) 1 σ17 else fX11_tunnelling_101 (z32 (6 * b + n)) 0 σ17 := by
    unfold fX11_tunnelling_20
    rw [t1, bnc_q, if_neg i10, show iG τ1 56 35 = z32 (hI τ1 56 35) from iG_h τ1 56 35, e35 t2 hb.1, aI_h (by omega) (by omega) (by omega), e58, show (6 : Int32) * z32 b + z32 n = z32 (6 * b + n) by rw [z32_litn, z32_mul, z32_add]]
  rw [eM1, b1, bnr_q]
  rcases hres with ⟨q1, a1, t1', v1, h1, hq1⟩ | ⟨k, p, h1, h2⟩
  case inr =>
    obtain ⟨B, c1, c2, c3⟩ := kC0 B1 k p h1 (okB_R b2 (RR_ok hR (by omega)))
    obtain ⟨τ, x1, x2, x3⟩ := MS_p (b := b) (F := fX11_fresh) (G := fun v8 σ6 => wL σ6 76 12 (z32 (6 * b + n)) v8 fun σ9 => bnr (fX11_must_ 6775152 σ9) fun σ10 => bnc (fX11_number 0 99 σ10) fun v14 σ12 => wI σ12 59 12 (z32 (6 * b + n)) v14 fun σ15 => wI σ15 60 12 (z32 (6 * b + n)) 0 fun σ16 => bnr (fX11_must_ 24948 σ16) fun σ17 => if (iG σ17 56 8) = 0 then fX11_tunnelling_101 (z32 (6 * b + n)) 1 σ17 else fX11_tunnelling_101 (z32 (6 * b + n)) 0 σ17) (fun τ k p h => mm_fresh h) (fun r => MS_wL (x := r) (mK 76 (by omega)) (by omega) (by omega) (by omega) m0) τ1 k p h2 (e35 t2 hb.1)
    exact ⟨B, τ, c1, x1, fr_t (oR_cR b2) c2, fr_t (oM_d t2) x3, Or.inr ⟨k, p, c3, x2⟩⟩
  have hR1 := RR_c hR b2 t2 (Int.le_of_lt hq1)
  have ok0 := RR_ok hR (by omega)
  have ok1 := okB_R b2 ok0
  -- the name
  obtain ⟨B2, τ2, r1, y1, c1, c2, s1, s2, hres2⟩ := jt_new hR1.1 h1 hR1.2.1
  rw [c1, bnc_q, s1, bnc_q, hR1.1]
  have oAB := oR_t b2 c2
  have oST := oM_t t2 s2
  have ok2 := okB_R c2 ok1
  have f35 : ∀ τ', fr (mRd b) σ τ' → hI τ' 56 35 = b := fun τ' w => by rw [(w.2 56 35 (by omega) (by unfold mRd; omega)).1]; exact hb.1
  rcases hres2 with ⟨pn, wn, u1, u2, u3, q2, a2, t2', v2, h2, hq2⟩ | ⟨k, p, h1, h2⟩
  case inr =>
    obtain ⟨B, c3, c4, c5⟩ := BE_w (j := 1) (n := 6) (i := n) (x := r1) (by omega) (by omega) (by omega) (by omega) kC1 B2 k p h1 ok2
    obtain ⟨τ, x3, x4, x5⟩ := MS_wL (n := 12) (x := y1) (mK 76 (by omega)) K0 K1 (by omega) m0 τ2 k p h2 (e35 oST hb.1)
    exact ⟨B, τ, c3, x3, fr_t (oR_cR oAB) c4, fr_t (oM_d oST) x5, Or.inr ⟨k, p, c5, x4⟩⟩
  subst u1 u2
  obtain ⟨wb, pb⟩ := nm_wb u3
  rw [wI_h (by omega) (by omega) (by omega), wL_h K0 K1 (by omega)]
  have al3 : AL (jS B2 (rp d + 1) n pn) (kS τ2 76 (6 * b + n) wn) c N q2 a2 t2' v2 := AL_f h2 (fun p k g w => hI_jS_ne (by omega)) (fr_k (P := fun p k => p = 76 ∧ k = 6 * b + n) K0 ⟨rfl, rfl⟩) (fun p k w => by omega)
  have fC3 : fr (tC d n) A (jS B2 (rp d + 1) n pn) := fr_t (fr_R oAB (fun k _ => Or.inl rfl)) (fr_j (by omega) (by unfold tC; omega))
  have fM3 : fr (tM b n) σ (kS τ2 76 (6 * b + n) wn) := fr_t (fr_m (oM_Q oST) (fun p k _ w => Or.inl w)) (fr_k K0 (Or.inr (Or.inl (by omega))))
  have ok3 := okB_j (d := d) (P := rp d + 1) (i := n) (v := pn) (by omega) (by omega) (by omega) ok2
  have v1' : hI (jS B2 (rp d + 1) n pn) (rp d + 1) n = pn := by rw [hI_jS (by omega) (by omega) (by omega) (by omega), if_pos rfl]
  have v3' : hI (jS B2 (rp d + 1) n pn) (rp d + 3) n = 0 := by rw [hI_jS_ne (by omega), oAB.2.2 _ _ (by omega)]; exact hR.2.2.1.2 n (by omega) (by omega)
  have v76 : hL (kS τ2 76 (6 * b + n) wn) 76 (6 * b + n) = wn := by rw [hL_kS K0 K0 (by omega) (by omega), if_pos rfl]
  generalize jS B2 (rp d + 1) n pn = B3 at *
  generalize kS τ2 76 (6 * b + n) wn = τ3 at *
  -- gap
  obtain ⟨B4, τ4, c3, c4, s3, s4, hres3⟩ := jt_word (i := 1) (x := 1) (y := 6775152) (z32_litn 1) ((z64_litn 6775152).trans (congrArg z64 (by decide))) (by omega) (by omega) al3
  rw [c3, bnr_q, s3, bnr_q]
  have ok4 := okB_R c4 ok3
  have fC4 := fr_t fC3 (fr_R c4 (fun k _ => Or.inl rfl))
  have fM4 := fr_t fM3 (fr_m (oM_Q s4) (fun p k _ w => Or.inl w))
  have cR4 := fr_m fC4 tC_R
  have mR4 := fr_m fM4 (tM_R hb.2 hn05)
  rcases hres3 with ⟨q3, a3, t3', v3, h3, hq3⟩ | ⟨k, p, h1, h2⟩
  case inr =>
    obtain ⟨B, c5, c6, c7⟩ := kC2 B4 k p h1 ok4
    obtain ⟨τ, x3, x4, x5⟩ := m1 τ4 k p h2 (f35 _ mR4)
    exact ⟨B, τ, c5, x3, fr_t cR4 c6, fr_t mR4 x5, Or.inr ⟨k, p, c7, x4⟩⟩
  -- how wide
  obtain ⟨B5, τ5, r3, r4, c5, c6, s5, s6, hres4⟩ := jt_num (lo := 0) (hi := 99) (z32_litn 0) (z32_litn 99) (by omega) h3
  rw [c5, bnc_q, s5, bnc_q, ok4.1]
  have ok5 := okB_R c6 ok4
  have fC5 := fr_t fC4 (fr_R c6 (fun k _ => Or.inl rfl))
  have fM5 := fr_t fM4 (fr_m (oM_Q s6) (fun p k _ w => Or.inl w))
  have cR5 := fr_m fC5 tC_R
  have mR5 := fr_m fM5 (tM_R hb.2 hn05)
  rcases hres4 with ⟨gp, g1, g2, g3, q4, a4, t4', v4, h4, hq4⟩ | ⟨k, p, h1, h2⟩
  case inr =>
    obtain ⟨B, c7, c8, c9⟩ := BE_w (j := 2) (n := 6) (i := n) (x := r3) (by omega) (by omega) (by omega) (by omega) kE B5 k p h1 ok5
    obtain ⟨τ, x3, x4, x5⟩ := m2 r4 τ5 k p h2 (f35 _ mR5)
    exact ⟨B, τ, c7, x3, fr_t cR5 c8, fr_t mR5 x5, Or.inr ⟨k, p, c9, x4⟩⟩
  subst g1 g2
  rw [wI_h (by omega) (by omega) (by omega), wI_h K0 K1 (by omega), show (0 : Int32) = z32 0 from z32_litn 0, wI_h K0 K1 (by omega)]
  have al6 : AL (jS B5 (rp d + 2) n gp) (jS (jS τ5 59 (6 * b + n) gp) 60 (6 * b + n) 0) c N q4 a4 t4' v4 := AL_f h4 (fun p k g w => hI_jS_ne (by omega)) (Q := fun p k => p = 59 ∨ p = 60) (fr_t (fr_j K0 (by omega)) (fr_j K0 (by omega))) (fun p k w => by omega)
  have ok6 := okB_j (d := d) (P := rp d + 2) (i := n) (v := gp) (by omega) (by omega) (by omega) ok5
  have fC6 : fr (tC d n) A (jS B5 (rp d + 2) n gp) := fr_t fC5 (fr_j (by omega) (by unfold tC; omega))
  have fM6 : fr (tM b n) σ (jS (jS τ5 59 (6 * b + n) gp) 60 (6 * b + n) 0) := fr_t (fr_t fM5 (fr_j K0 (Or.inr (Or.inl (by omega))))) (fr_j K0 (Or.inr (Or.inl (by omega))))
  have x1' : hI (jS B5 (rp d + 2) n gp) (rp d + 1) n = pn := by rw [hI_jS_ne (by omega), c6.2.2 _ _ (by omega), c4.2.2 _ _ (by omega)]; exact v1'
  have x3' : hI (jS B5 (rp d + 2) n gp) (rp d + 3) n = 0 := by rw [hI_jS_ne (by omega), c6.2.2 _ _ (by omega), c4.2.2 _ _ (by omega)]; exact v3'
  have x2' : hI (jS B5 (rp d + 2) n gp) (rp d + 2) n = gp := by rw [hI_jS (by omega) (by omega) (by omega) (by omega), if_pos rfl]
  have x76 : hL (jS (jS τ5 59 (6 * b + n) gp) 60 (6 * b + n) 0) 76 (6 * b + n) = wn := by rw [hL_jS, hL_jS, (s6.2.1 76 _ (by omega)).2, (s4.2.1 76 _ (by omega)).2]; exact v76
  have x59 : hI (jS (jS τ5 59 (6 * b + n) gp) 60 (6 * b + n) 0) 59 (6 * b + n) = gp := by rw [hI_jS_ne (by omega), hI_jS K0 K0 (by omega) (by omega), if_pos rfl]
  have x60 : hI (jS (jS τ5 59 (6 * b + n) gp) 60 (6 * b + n) 0) 60 (6 * b + n) = 0 := by rw [hI_jS K0 K0 (by omega) (by omega), if_pos rfl]
  have hTJ : TJ A (jS B5 (rp d + 2) n gp) σ (jS (jS τ5 59 (6 * b + n) gp) 60 (6 * b + n) 0) d b n pn wn gp 0 := ⟨fC6, fM6, x1', x76, x2', x59, x3', x60, fun k w0 w1 => by omega⟩
  generalize jS B5 (rp d + 2) n gp = B6 at *
  generalize jS (jS τ5 59 (6 * b + n) gp) 60 (6 * b + n) 0 = τ6 at *
  -- at
  obtain ⟨B7, τ7, c7, c8, s7, s8, hres5⟩ := jt_word (i := 2) (x := 2) (y := 24948) (z32_litn 2) ((z64_litn 24948).trans (congrArg z64 (by decide))) (by omega) (by omega) al6
  have ok7 := okB_R c8 ok6
  have hTJ7 := TJ_o hTJ c8 s8
  have cR7 := fr_m hTJ7.1 tC_R
  have mR7 := fr_m hTJ7.2.1 (tM_R hb.2 hn05)
  rw [← show (0 : Int32) = z32 0 from z32_litn 0, rl_e ok6.1 x3' hn05 (by omega), c7, bnr_q, if_pos ok7.1, s7, bnr_q]
  rcases hres5 with ⟨q5, a5, t5', v5, h5, hq5⟩ | ⟨k, p, h1, h2⟩
  case inr =>
    obtain ⟨B, c9, d1, d2⟩ := BE_76 (BE_rdLn (j := 0) hn05 (by omega)) (z32 n) 1 B7 k p h1 ok7
    obtain ⟨τ, x3, x4, x5⟩ := m4 τ7 k p h2 (f35 _ mR7)
    exact ⟨B, τ, c9, x3, fr_t cR7 d1, fr_t mR7 x5, Or.inr ⟨k, p, d2, x4⟩⟩
  obtain ⟨B', τ', l1, l2, l3, l4, l5⟩ := len_lp (c := c) (N := N) (pn := pn) (wn := wn) (gp := gp) hb.2 hn05 hn hn6.1 hb.1 ok0 4 0 B7 τ7 q5 a5 t5' v5 zF zF (by omega) (by omega) (by omega) h5 hTJ7 (by unfold zF; omega) (by unfold zF; omega)
  refine ⟨B', τ', ?_, ?_, l3, l4, ?_⟩
  · rw [← l1]; rfl
  · rw [if_pos (c8q h5.2.1.2.2.2.1)]
    unfold fX11_tunnelling_101
    rw [← l2]; rfl
  · rcases l5 with ⟨j', B8, τ8, q', a', t', v', n1, n2, n3, n4, n5, n6⟩ | l5
    · subst n5 n6
      refine Or.inl ⟨q', a', t', v', AL_f n2 (fun p k g w => hI_jS_ne (by omega)) (Q := fun p k => p = 58) (fr_j (by omega) rfl) (fun p k w => by omega), by omega, ?_⟩
      exact RR_tun hR hn05 hn u3 g3 n1 n4 (by omega)
    · exact Or.inr l5
end TN

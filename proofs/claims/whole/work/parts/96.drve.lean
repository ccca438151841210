/-! MY OWN: drive, both sides -/
section DJ
variable {A B a b σ τ : zS} {t l h x s y n nx c : Int} {oW oT : Option ((Int → Int) → Int)} {hr : Int → Int}
theorem RM_s (j : jE A a) (e5 : ∀ k, 0 ≤ k → hI a 5 k = hI A 5 k) (hR : okR A) (hm : RM oW oT A τ) : RM oW oT a τ := by
  obtain ⟨m1, m2, m3, m4⟩ := hm
  refine ⟨iv_rlR j sm_r hR m1, ⟨?_, fun h g0 g1 => ?_⟩, m3, m4⟩
  · show hI τ 85 0 = hI a 5 0
    rw [e5 0 (by omega)]; exact m2.1
  · rw [j_H j] at g1
    obtain ⟨q1, q2, q3, q4⟩ := m2.2 h g0 g1
    refine ⟨?_, ?_, ?_, fun t g2 g3 => ?_⟩
    · show hI τ 86 h = hI a 5 (50 + h)
      rw [e5 _ (by omega)]; exact q1
    · show hI τ 87 h = hI a 5 (56 + h)
      rw [e5 _ (by omega)]; exact q2
    · show hI τ 88 h = hI a 5 (62 + h)
      rw [e5 _ (by omega)]; exact q3
    · show hI τ 89 (6 * h + t) = hI a 5 (68 + h * 6 + t)
      rw [j_T j] at g3
      rw [e5 _ (by omega)]; exact q4 t g2 g3
theorem rowS_n (hn : rlN A σ) (hN : okN A) : rowS (vH A) (vT A) (gNow A) σ 0 := rowS_0.2 ⟨hn.1, hN.1, fun h g0 g1 => ⟨⟨(hn.2 h g0 g1).1, (hN.2 h g0 g1).1⟩, ⟨(hn.2 h g0 g1).2.1, (hN.2 h g0 g1).2.1⟩, ⟨(hn.2 h g0 g1).2.2.1, (hN.2 h g0 g1).2.2.1⟩, fun t a b => ⟨(hn.2 h g0 g1).2.2.2 t a b, (hN.2 h g0 g1).2.2.2 t a b⟩⟩⟩
/-- one tunnel is driven through -/
theorem dt_j (D : DR oW oT A b y) (hT : 0 < vT A) : ∃ s' y' a' b', fX10_driveThrough A = some (z32 s', a') ∧ fX11_driven b = some (z32 s', b') ∧ DR oW oT a' b' y' ∧ fi (cU A.2.2.2.1) A a' ∧ fr mU b b' := by
  obtain ⟨HC, HM, HK, HS⟩ := D
  have hR := HC.1
  have hN := HC.2.1
  have hH := hR.2.1
  have hT6 := hR.1
  have hrp := rp_or A.2.2.2.1
  have b13 := HM.1.1
  obtain ⟨t, ht⟩ : ∃ t, t = vNext A := ⟨_, rfl⟩
  have h0 : 0 ≤ t := by rw [ht]; exact hN.1.1
  have h1 : t < vT A := by have := hN.1.2; rw [ht]; omega
  have wb := sW_b hR h0 h1
  have hc := (hR.2.2.2.2.1 t h0 h1).2.1
  have db := dr_b y
  have d1 := draw_c (A := A) (m := sW A t) HS.1 HS.2.2 wb.1 (by omega)
  have d2 := draw_m (b := b) (m := sW A t) HS.2.1 HS.2.2 (sd_x HS) wb.1 (by omega)
  obtain ⟨l0, hl0⟩ : ∃ l0, l0 = dr y / 64 % sW A t := ⟨_, rfl⟩
  have lb : 0 ≤ l0 ∧ l0 < sW A t := by rw [hl0]; exact ⟨Int.emod_nonneg _ (by omega), Int.emod_lt_of_pos _ (by omega)⟩
  rw [← hl0] at d1 d2
  obtain ⟨d, hd⟩ : ∃ d : Nat, (0 : Int) + d = vCnt A t - 1 := ⟨(vCnt A t - 1).toNat, by omega⟩
  have pb := pkN_b (A := A) (t := t) d 0 l0
  obtain ⟨l, hl⟩ : ∃ l, l = vLen A t (pkN A t d 0 l0) := ⟨_, rfl⟩
  have lnb := ((hR.2.2.2.2.1 t h0 h1).2.2 (pkN A t d 0 l0) (by omega) (by omega)).1
  rw [← hl] at lnb
  -- the one side: which length
  have fA1 : fr hcU A (jS A 1 10 (dr y)) := fr_j (by omega) (Or.inl ⟨rfl, rfl⟩)
  have j1 := hc_jE fA1
  have p1 := pick_c hR j1 h0 h1 d 0 l0 zF hd (by omega) lb.1 (by omega) (by unfold zF; omega)
  rw [← hl] at p1
  have e3 : hI (jS A 1 10 (dr y)) (rp A.2.2.2.1 + 3) t = vCnt A t := (fA1.2 _ t h0 (by unfold hcU; omega)).1
  have c0 : fX10_driveThrough A = fX10_driveThrough_28 zF A.2.2.2.1 (z32 t) (z32 l) (z32 0) (z32 0) (jS A 1 10 (dr y)) := by
    have eL : fX10_drawLength (z32 t) A = some (z32 l, jS A 1 10 (dr y)) := by
      unfold fX10_drawLength
      rw [cW_z hR h0 h1, bnr_q, d1, bnc_q]
      try dsimp only
      rw [aI_h h0 (by omega) (by omega), e3, show (1 : Int32) = z32 1 from z32_litn 1, z32_sub, show (0 : Int32) = z32 0 from z32_litn 0, p1]
    have eN : fX7_nextTunnel A = some (z32 t) := by
      unfold fX7_nextTunnel
      rw [show (0 : Int32) = z32 0 from z32_litn 0, aI_h (by omega) (by omega) (by omega), ht]
      rfl
    unfold fX10_driveThrough
    rw [eN, bnr_q, eL, bnc_q]
    try dsimp only
    rw [show (0 : Int32) = z32 0 from z32_litn 0]
  -- the other side
  have fb1 : fr hmU b (kS b 56 59 (dr y)) := fr_k (by omega) (Or.inl ⟨rfl, rfl⟩)
  have uM : ∀ p k, 0 ≤ k → hmU p k → ¬ fpM (hI b 56 13) p k ∧ ¬ fpN p k := fun p k _ u => by unfold hmU at u; unfold fpM fpN; omega
  have hm1 : RM oW oT A (kS b 56 59 (dr y)) := RM_f hR HM fb1 uM
  have es0 : zs (vWt A t) 0 = 0 := zs_0 _
  have p2 := pick_m hR hm1.1 h0 h1 d 0 l0 zF hd (by omega) lb.1 (by omega) (by omega) (by unfold zF; omega)
  rw [← hl] at p2
  obtain ⟨b2, q1, q2, q3, q4, q5⟩ := mAll_z (A := A) (σ := kS b 56 59 (dr y)) (l := l) hR hN hm1.1 hm1.2.1 h0 h1 (by omega)
  have fb2 : fr hmU (kS b 56 59 (dr y)) b2 := ⟨q2.2.1, fun p k _ u => ⟨q4 p k (by unfold hmU at u; omega), q5 p k⟩⟩
  have c0' : fX11_driven b = fX11_driven_65 zF (z32 t) (z32 l) (z32 0) (z32 0) b2 := by
    have e85 : hI b 85 0 = t := by rw [HM.2.1.1, ht]
    unfold fX11_driven
    rw [show (0 : Int32) = z32 0 from z32_litn 0, aI_h (by omega) (by omega) (by omega), e85, mW_z hR HM.1 h0 h1, bnr_q, d2, bnc_q]
    try dsimp only
    rw [p2, q1, bnr_q, show (0 : Int32) = z32 0 from z32_litn 0]
  -- who holds how long
  have hs1 : sdR (jS A 1 10 (dr y)) b2 (dr y) := ⟨by rw [hI_jS (by omega) (by omega) (by omega) (by omega), if_pos rfl], by rw [q5 56 59, hL_kS (by omega) (by omega) (by omega) (by omega), if_pos rfl], db.1⟩
  obtain ⟨dh, hdh⟩ : ∃ dh : Nat, (0 : Int) + dh = vH A := ⟨(vH A).toNat, by omega⟩
  have hm2 : rlR A b2 := (m_RM q2.1 hR hm1).1
  obtain ⟨s', y', a3, b3, r1, r2, r3, r4, r5, r6⟩ := hold_j hR hN h0 h1 (by omega : 0 ≤ l ∧ l ≤ 60) dh 0 0 (dr y) (jS A 1 10 (dr y)) b2 zF zF hdh (by omega) (by unfold zF; omega) (by unfold zF; omega) fA1 hm2 hs1 (fun i g0 g1 => by omega) (fun i g0 g1 => q3 i g0 g1)
  have fA3 : fr hcU A a3 := fr_t fA1 r3
  have fb3 : fr hmU b b3 := fr_t (fr_t fb1 fb2) r4
  have hm3 : RM oW oT A b3 := RM_f hR HM fb3 uM
  have e5 : ∀ k, 0 ≤ k → hI a3 5 k = hI A 5 k := fun k g => (fA3.2 5 k g (by unfold hcU; omega)).1
  obtain ⟨hr, hhr⟩ : ∃ hr : Int → Int, hr = fun i => hI b3 96 i := ⟨_, rfl⟩
  have hh : ∀ i, 0 ≤ i → i < vH A → 0 ≤ hr i ∧ hr i ≤ 60 := fun i g0 g1 => by rw [hhr]; exact (r6 i g0 g1).2
  have I0 : WLI oW oT A a3 b3 hr y' 0 := by
    refine ⟨⟨fi_f (fr_m fA3 (fun p k _ u => by unfold hcU at u; unfold cU; omega)), n_ok (hc_jE fA3) e5 hN, hm3.1, hm3.2.2.1, hm3.2.2.2⟩, fun k g _ => e5 k g, fun i g0 g1 => ⟨⟨?_, ?_, (hm3.2.1.2 i g0 g1).1⟩, ?_, fun g => by omega, fun _ => ?_⟩, ?_, r5⟩
    · rw [hhr]; exact (r6 i g0 g1).1
    · rw [hhr]
    · rw [e5 _ (by omega)]; exact (hm3.2.1.2 i g0 g1).2.2.1
    · rw [e5 _ (by omega)]; rfl
    · exact rowK_d HK (by omega) (fun i g0 g1 => e5 i (by omega)) (fb3.2 90 0 (by omega) (by unfold hmU; omega)).1 (fun p i g0 g1 g2 g3 => (fb3.2 p _ (by omega) (by unfold hmU; omega)).1)
  obtain ⟨nx, hnx⟩ : ∃ nx, nx = if vT A ≤ t + 1 then 0 else t + 1 := ⟨_, rfl⟩
  have nb : 0 ≤ nx ∧ (nx < vT A ∨ nx = 0) := by rw [hnx]; split <;> omega
  obtain ⟨a4, b4, w1, w2, w3, w4⟩ := wl_j (s := s') HC h0 h1 lnb hh hnx dh 0 a3 b3 zF zF hdh (by omega) (by unfold zF; omega) (by unfold zF; omega) I0
  obtain ⟨⟨i1, i2, i3, i4, i5⟩, i6, i7, i8, i9⟩ := w3
  have j4 := c_jE i1
  obtain ⟨b5, k1, k2, k3, k4⟩ := fin_m (s := s') hR i3 h0 h1 hnx (fun i g0 g1 => by
    rw [(i7 i g0 g1).2.2.1 g1]
    exact (i2.2 i g0 (by rw [j_H j4]; exact g1)).1)
  obtain ⟨a5, ha5⟩ : ∃ a5, a5 = jS a4 5 0 nx := ⟨_, rfl⟩
  have f5 : fi (cU A.2.2.2.1) A a5 := fi_t i1 (by rw [ha5]; exact fi_f (fr_j (by omega) (by unfold cU; omega)))
  have j5 := c_jE f5
  have s5 : ∀ k, 0 ≤ k → hI a5 5 k = if k = 0 then nx else hI a4 5 k := fun k g => by
    rw [ha5, hI_jS (by omega) g (by omega) (by omega)]
  have N5 : okN a5 := by
    refine ⟨?_, fun h g0 g1 => ?_⟩
    · show 0 ≤ hI a5 5 0 ∧ (hI a5 5 0 < vT a5 ∨ hI a5 5 0 = 0)
      rw [s5 0 (by omega), if_pos rfl, j_T j5]; exact nb
    · rw [j_H j5] at g1
      obtain ⟨q1, q2, q3, q4⟩ := i2.2 h g0 (by rw [j_H j4]; exact g1)
      refine ⟨?_, ?_, ?_, fun t g2 g3 => ?_⟩
      · show 0 ≤ hI a5 5 (50 + h) ∧ hI a5 5 (50 + h) ≤ 60
        rw [s5 _ (by omega), if_neg (by omega)]; exact q1
      · show 0 ≤ hI a5 5 (56 + h) ∧ hI a5 5 (56 + h) ≤ 60
        rw [s5 _ (by omega), if_neg (by omega)]; exact q2
      · show -99999 ≤ hI a5 5 (62 + h) ∧ hI a5 5 (62 + h) ≤ 99999
        rw [s5 _ (by omega), if_neg (by omega)]; exact q3
      · show 0 ≤ hI a5 5 (68 + h * 6 + t) ∧ hI a5 5 (68 + h * 6 + t) ≤ 60
        rw [s5 _ (by omega), if_neg (by omega)]
        exact q4 t g2 (by rw [j_T j5] at g3; rw [j_T j4]; exact g3)
  have fb5 : fr mU b b5 := fr_t (fr_t (fr_m fb3 (fun p k _ u => by unfold hmU at u; unfold mU; omega)) (fr_m w4 (fun p k _ u => by unfold mwU at u; unfold mU; omega))) (fr_m k2 (fun p k _ u => by unfold mU; omega))
  have mM : sm (fpM (hI b 56 13)) b b5 := sm_f fb5 (fun p k _ w u => by unfold mU at u; unfold fpM at w; omega)
  refine ⟨s', y', a5, b5, ?_, ?_, ⟨⟨j_okR j5 hR, N5, j_sum j5 (by omega) HC.2.2.1, j_sum j5 (by omega) HC.2.2.2⟩, ⟨iv_rlR j5 mM hR HM.1, ⟨?_, fun h g0 g1 => ?_⟩, iv_mSum mM b13.1 (by omega) (by omega) (by omega) (by omega) HM.2.2.1, iv_mSum mM b13.1 (by omega) (by omega) (by omega) (by omega) HM.2.2.2⟩, ?_, ?_, ?_, i9.2.2⟩, f5, fb5⟩
  · rw [c0, r1, w1]
    unfold fX10_driveThrough_190 fX7_setNextTunnel
    rw [show (0 : Int32) = z32 0 from z32_litn 0, wI_h (by omega) (by omega) (by omega), bnr_q, ← ha5]
  · rw [c0', r2, w2, k1]
  · show hI b5 85 0 = hI a5 5 0
    rw [k3, s5 0 (by omega), if_pos rfl]
  · rw [j_H j5] at g1
    obtain ⟨u1, u2, u3, u4⟩ := hm3.2.1.2 h g0 g1
    obtain ⟨z1, z2, z3, z4⟩ := i7 h g0 g1
    refine ⟨?_, ?_, ?_, fun t g2 g3 => ?_⟩
    · show hI b5 86 h = hI a5 5 (50 + h)
      rw [k4 h g0 g1, z3 g1, s5 _ (by omega), if_neg (by omega)]
    · show hI b5 87 h = hI a5 5 (56 + h)
      rw [(k2.2 87 h g0 (by omega)).1, (w4.2 87 h g0 (by unfold mwU; omega)).1, s5 _ (by omega), if_neg (by omega), i6 _ (by omega) (by omega)]
      exact u2
    · show hI b5 88 h = hI a5 5 (62 + h)
      rw [(k2.2 88 h g0 (by omega)).1, z2, s5 _ (by omega), if_neg (by omega)]
    · show hI b5 89 (6 * h + t) = hI a5 5 (68 + h * 6 + t)
      rw [j_T j5] at g3
      rw [(k2.2 89 _ (by omega) (by omega)).1, (w4.2 89 _ (by omega) (by unfold mwU; omega)).1, s5 _ (by omega), if_neg (by omega), i6 _ (by omega) (by omega)]
      exact u4 t g2 g3
  · refine rowK_d i8 (by omega) (fun i g0 g1 => ?_) (k2.2 90 0 (by omega) (by omega)).1 (fun p i g0 g1 g2 g3 => (k2.2 p _ (by omega) (by omega)).1)
    show hI a5 5 i = hI a4 5 i
    rw [s5 i (by omega), if_neg (by omega)]
  · rw [ha5, hI_jS_ne (by omega)]; exact i9.1
  · rw [(k2.2 56 59 (by omega) (by omega)).2]; exact i9.2.1
theorem dv_j (hn : n ≤ 30) : ∀ (d : Nat) (x s y : Int) (A b : zS) (f f' : Nat), x + d = n → 0 ≤ x → d < f → d < f' → DR oW oT A b y → 0 < vT A → ∃ s' y' a' b', fX10_drive_38 f (z32 n) (z32 s) (z32 x) A = some (z32 s', a') ∧ fX11_drive_36 f' (z32 n) (z32 s) (z32 x) b = some (z32 s', b') ∧ DR oW oT a' b' y' ∧ fi (cU A.2.2.2.1) A a' ∧ fr mU b b' := by
  intro d
  induction d with
  | zero =>
    intro x s y A b f f' hx hx0 hf hf' D hT
    obtain ⟨g, rfl⟩ : ∃ g, f = g + 1 := ⟨f - 1, by omega⟩
    obtain ⟨g', rfl⟩ : ∃ g', f' = g' + 1 := ⟨f' - 1, by omega⟩
    refine ⟨s, y, A, b, ?_, ?_, D, fi_r, fr_r⟩
    · rw [fX10_drive_38, if_pos (by rw [z32_le (by omega) (by omega) (by omega) (by omega)]; omega)]
    · rw [fX11_drive_36, if_pos (by rw [z32_le (by omega) (by omega) (by omega) (by omega)]; omega)]
  | succ d ih =>
    intro x s y A b f f' hx hx0 hf hf' D hT
    obtain ⟨g, rfl⟩ : ∃ g, f = g + 1 := ⟨f - 1, by omega⟩
    obtain ⟨g', rfl⟩ : ∃ g', f' = g' + 1 := ⟨f' - 1, by omega⟩
    obtain ⟨s1, y1, a1, b1, c1, c2, c3, c4, c5⟩ := dt_j D hT
    have j := c_jE c4
    obtain ⟨s', y', a', b', d1, d2, d3, d4, d5⟩ := ih (x + 1) (s + s1) y1 a1 b1 g g' (by omega) (by omega) (by omega) (by omega) c3 (by rw [j_T j]; exact hT)
    rw [j_fl j] at d4
    refine ⟨s', y', a', b', ?_, ?_, d3, fi_t c4 d4, fr_t c5 d5⟩
    · rw [fX10_drive_38, if_neg (by rw [z32_le (by omega) (by omega) (by omega) (by omega)]; omega), c1, bnc_q]
      try dsimp only
      rw [z32_add, z1p, d1]
    · rw [fX11_drive_36, if_neg (by rw [z32_le (by omega) (by omega) (by omega) (by omega)]; omega), c2, bnc_q]
      try dsimp only
      rw [z32_add, z1p, d2]
theorem C_drive (h : INV σ) (h1 : -2147483648 ≤ c) (h2 : c < 2147483648) : CA (fX10_drive (z32 c)) (fX11_drive (z32 c)) σ := by
  have h' := h
  obtain ⟨oW, oT, i1, i2, i3, i4, i5, i6, i7, i8, i9, i10, i11⟩ := h'
  have hR := i1.1
  have hm := IR_M i1 i2
  have hC := IR_C i1 i2
  have hmf := rf_M (k := 2) hR hm
  have hrp := rp_or σ.2.2.2.1
  have hT6 := hR.1
  have eT : hI σ (rp σ.2.2.2.1 + 0) 1 = vT σ := rfl
  have f58 := hmf.1.2.1
  have f13 := hmf.1.1
  by_cases hc : 1 ≤ c ∧ c ≤ 30
  · by_cases hT : 0 < vT σ
    · obtain ⟨B1, b1, b2, b3, b4, b5⟩ := beg_z (σ := σ) i9.1 i9.2.1
      have jB : jE σ B1 := jE_f b2 (fun p k g w u => by unfold fpC at w; unfold bgU at u; omega)
      have e5 : ∀ k, 0 ≤ k → hI B1 5 k = hI σ 5 k := fun k g => (b2.2 5 k g (by unfold bgU; omega)).1
      have C1 : RC oW oT B1 := ⟨j_okR jB hR, n_ok jB e5 hC.2.1, j_sum jB (by omega) hC.2.2.1, j_sum jB (by omega) hC.2.2.2⟩
      have mk : ∀ τ : zS, RM oW oT σ τ → (∀ p k, 90 ≤ p → p ≤ 94 → 0 ≤ k → ¬ kpU p k → hI τ p k = hI σ p k) → hL τ 56 59 = hL σ 56 59 → DR oW oT B1 τ (hI σ 1 10) := fun τ w1 w2 w3 =>
        ⟨C1, RM_s jB e5 hR w1, rowK_d i2.2 (by omega) (fun i g0 g1 => e5 i (by omega)) (w2 90 0 (by omega) (by omega) (by omega) (by unfold kpU; omega)) (fun p i g0 g1 g2 g3 => w2 p _ (by omega) (by omega) (by omega) (by unfold kpU; omega)), (b2.2 1 10 (by omega) (by unfold bgU; omega)).1, by rw [w3]; exact i4.1, i4.2⟩
      have hmB : RM oW oT σ B1 := RM_f hR hm b2 (fun p k _ u => by have := hm.1.1; unfold bgU at u; unfold fpM fpN; omega)
      have D1 := mk B1 hmB (fun p k g0 g1 g2 _ => (b2.2 p k g2 (by unfold bgU; omega)).1) (b2.2 56 59 (by omega) (by unfold bgU; omega)).2
      obtain ⟨d, hd⟩ : ∃ d : Nat, (0 : Int) + d = c := ⟨c.toNat, by omega⟩
      have hT1 : 0 < vT B1 := by rw [j_T jB]; exact hT
      obtain ⟨s1, y1, B, _, c1, -, -, c4, -⟩ := dv_j hc.2 d 0 0 _ B1 B1 zF zF hd (by omega) (by unfold zF; omega) (by unfold zF; omega) D1 hT1
      rw [j_fl jB] at c4
      obtain ⟨φ1, k1, k2, k3, k4, k5⟩ := act_k i1 i2 i9 b2 c4
      have fB : ∀ p k, 56 ≤ p → 0 ≤ k → hI B p k = hI σ p k ∧ hL B p k = hL σ p k := fun p k g0 g1 => by
        have w := c4.2 p k g1 (by unfold cU; omega)
        have w' := b2.2 p k g1 (by unfold bgU; omega)
        exact ⟨w.1.trans w'.1, (w.2 g0).trans w'.2⟩
      have D2 := mk φ1 k5 (fun p k g0 g1 g2 g3 => by rw [(k2.2 p k g2 g3).1]; exact (fB p k (by omega) g2).1) (by rw [(k2.2 56 59 (by omega) (by unfold kpU; omega)).2]; exact (fB 56 59 (by omega) (by omega)).2)
      obtain ⟨s2, y2, B', φ, d1, d2, d3, d4, d5⟩ := dv_j hc.2 d 0 0 _ B1 φ1 zF zF hd (by omega) (by unfold zF; omega) (by unfold zF; omega) D2 hT1
      rw [c1] at d1
      simp only [Option.some.injEq, Prod.mk.injEq] at d1
      obtain ⟨ds, rfl⟩ := d1
      rw [← ds] at d2
      obtain ⟨HC, HM, HK, HS⟩ := d3
      have fφ : ∀ p k, p < 56 → 0 ≤ k → hI φ p k = hI B p k := fun p k g0 g1 => by
        rw [(d5.2 p k g1 (by unfold mU; omega)).1, (k2.2 p k g1 (by unfold kpU; omega)).1]
      have fA : fi (aU σ.2.2.2.1) σ φ := fi_t (fi_t (fi_t (fi_f (fr_m b2 (fun p k _ u => by unfold bgU at u; unfold aU; omega))) (fi_m c4 (fun p k _ u => by unfold cU at u; unfold aU; omega))) (fi_f (fr_m k2 (fun p k _ u => by unfold kpU at u; unfold aU; omega)))) (fi_f (fr_m d5 (fun p k _ u => by unfold mU at u; unfold aU; omega)))
      have jφ := a_jE fA
      have jc : jE B1 B := c_jE (by rw [j_fl jB]; exact c4)
      have eH : vH φ = vH B := by rw [j_H jφ, j_H jc, j_H jB]
      have eT' : vT φ = vT B := by rw [j_T jφ, j_T jc, j_T jB]
      refine ⟨z32 s1, B, φ, ?_, ?_, act_h h b2 b3 b4 b5 c4 k2 k3 d5 ⟨?_, ?_⟩ ?_⟩
      · rw [show (0 : Int) = 0 from rfl] at c1
        have c1' : fX10_drive_38 zF (z32 c) 0 0 B1 = some (z32 s1, B) := by rw [show (0 : Int32) = z32 0 from z32_litn 0]; exact c1
        simp (disch := omega) only [fX10_drive, z32_add, z32_sub, z32_mul, z32_neg, z32_litn, z32_lt, z32_le, z32_eq, iG_h, lG_h, iS_q, lS_q, aI_h, wI_h, aL_h, wL_h, ↓bnd_q, bnr_q, bnc_q, ↓reduceIte, ieqT, ieqF, iltT, iltF, ileT, ileF, not_true, not_false_iff, eT, b1]
        exact c1
      · have m58 := k4.1.2.1
        have m13 := k4.1.1
        simp (disch := omega) only [fX11_drive, is_p, z32_add, z32_sub, z32_mul, z32_neg, z32_litn, z32_lt, z32_le, z32_eq, iG_h, lG_h, iS_q, lS_q, aI_h, wI_h, aL_h, wL_h, ↓bnd_q, bnr_q, bnc_q, ↓reduceIte, ieqT, ieqF, iltT, iltF, ileT, ileF, not_true, not_false_iff, m58, k1]
        exact d2
      · rw [eH, eT']
        exact CP_S (rowS_n HM.2.1 HC.2.1) CP_r HC.1.2.1.2 HC.1.1.2 (by omega) (fun i g0 g1 => fφ 5 i (by omega) g0)
      · exact CP_K HK CP_r (by omega) (fun i g0 g1 => fφ 5 i (by omega) g0)
      · refine ⟨?_, ?_⟩
        · rw [fφ 1 10 (by omega) (by omega), HS.1]; exact HS.2.1
        · rw [fφ 1 10 (by omega) (by omega), HS.1]; exact HS.2.2
    · refine CA_ref h ?_ ?_
      · simp (disch := omega) only [fX10_drive, fX10_drive_24, z32_add, z32_sub, z32_mul, z32_neg, z32_litn, z32_lt, z32_le, z32_eq, iG_h, lG_h, iS_q, lS_q, aI_h, wI_h, aL_h, wL_h, ↓bnd_q, bnr_q, bnc_q, ↓reduceIte, ieqT, ieqF, iltT, iltF, ileT, ileF, not_true, not_false_iff, eT]
      · simp (disch := omega) only [fX11_drive, fX11_drive_22, is_p, z32_add, z32_sub, z32_mul, z32_neg, z32_litn, z32_lt, z32_le, z32_eq, iG_h, lG_h, iS_q, lS_q, aI_h, wI_h, aL_h, wL_h, ↓bnd_q, bnr_q, bnc_q, ↓reduceIte, ieqT, ieqF, iltT, iltF, ileT, ileF, not_true, not_false_iff, f58]
  · refine CA_ref h ?_ ?_
    · by_cases g : c < 1
      · simp (disch := omega) only [fX10_drive, fX10_drive_24, z32_add, z32_sub, z32_mul, z32_neg, z32_litn, z32_lt, z32_le, z32_eq, iG_h, lG_h, iS_q, lS_q, aI_h, wI_h, aL_h, wL_h, ↓bnd_q, bnr_q, bnc_q, ↓reduceIte, ieqT, ieqF, iltT, iltF, ileT, ileF, not_true, not_false_iff]
      · simp (disch := omega) only [fX10_drive, fX10_drive_24, z32_add, z32_sub, z32_mul, z32_neg, z32_litn, z32_lt, z32_le, z32_eq, iG_h, lG_h, iS_q, lS_q, aI_h, wI_h, aL_h, wL_h, ↓bnd_q, bnr_q, bnc_q, ↓reduceIte, ieqT, ieqF, iltT, iltF, ileT, ileF, not_true, not_false_iff]
    · simp (disch := omega) only [fX11_drive, fX11_drive_22, is_n, z32_add, z32_sub, z32_mul, z32_neg, z32_litn, z32_lt, z32_le, z32_eq, iG_h, lG_h, iS_q, lS_q, aI_h, wI_h, aL_h, wL_h, ↓bnd_q, bnr_q, bnc_q, ↓reduceIte, ieqT, ieqF, iltT, iltF, ileT, ileF, not_true, not_false_iff]
end DJ

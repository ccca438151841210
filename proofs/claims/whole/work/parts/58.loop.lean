/-! MY OWN: reading sums: an operator and what stands behind it -/
def OKL (A B σ : zS) (c : Int → Int) (N b q sz e om dp ba o kd r D q' t' ph' : Int) (G : (Int → Int) → Int) : Prop :=
  ∃ (τ : zS) (a' v' sz' e' om' o' s : Int) (L : List (Int × Int × ((Int → Int) → Int))) (F : (Int → Int) → Int) (k : Nat), JC B τ c N b q' a' t' v' sz' e' om' dp ba o' kd ph' 0 1 ∧ (q < q' ∧ (k : Int) ≤ q' - q ∧ stp σ k τ) ∧ fr (cS (rp A.2.2.2.2) sz) A B ∧ fr (sP b e om dp) σ τ ∧ (sz' ≤ sz + (q' - q) ∧ e' + om' ≤ e + om + (q' - q) ∧ 1 ≤ D - nbL L) ∧ cSeg A.2.2.2.2 (hI B (rp A.2.2.2.2 + 12)) sz sz' G D ∧ bF G ∧ CH (hI τ 74) (hI τ 75) (hI τ 83) D om (1600 * b + e) r L om' s F G ∧ mSeg (hI τ 74) (hI τ 75) s (1600 * b + e') F (D - nbL L) ∧ o' = o + nnL L
section LP
variable {A A1 B C σ σ1 τ υ : zS} {c : Int → Int} {N b q a t v sz e om dp ba o kd ph bg od om' o0 D r s E ls kd' q' t' ph' r' : Int} {n : Nat} {G : (Int → Int) → Int} {po : Int → Int → ((Int → Int) → Int) → Prop}
theorem OK_L (h : OKL A B σ c N b q sz e om dp ba o kd r D q' t' ph' G) (hp : po t' ph' G) : OKP A B σ c N b q sz e om dp ba o kd r D po := by
  obtain ⟨τ, a', v', sz', e', om', o', s, L, F, k, h1, h2, h3, h4, h5, h6, h7, h8, h9, h10⟩ := h
  exact ⟨τ, q', a', t', v', sz', e', om', o', ph', s, L, F, G, k, h1, h2, h3, h4, h5, h6, h7, h8, h9, h10, hp⟩
theorem L_OK (h : OKP A B σ c N b q sz e om dp ba o kd r D po) : ∃ q' t' ph' G, OKL A B σ c N b q sz e om dp ba o kd r D q' t' ph' G ∧ po t' ph' G := by
  obtain ⟨τ, q', a', t', v', sz', e', om', o', ph', s, L, F, G, k, h1, h2, h3, h4, h5, h6, h7, h8, h9, h10, hp⟩ := h
  exact ⟨q', t', ph', G, ⟨τ, a', v', sz', e', om', o', s, L, F, k, h1, h2, h3, h4, h5, h6, h7, h8, h9, h10⟩, hp⟩
/-- the same with lower ranks and more depth -/
theorem OKL_m {D2 : Int} (h : OKL A B σ c N b q sz e om dp ba o kd r D q' t' ph' G) (hr : r' ≤ r) (hD : D ≤ D2) : OKL A B σ c N b q sz e om dp ba o kd r' D2 q' t' ph' G := by
  obtain ⟨τ, a', v', sz', e', om', o', s, L, F, k, h1, h2, h3, h4, ⟨h5a, h5b, h5c⟩, h6, h7, h8, h9, h10⟩ := h
  exact ⟨τ, a', v', sz', e', om', o', s, L, F, k, h1, h2, h3, h4, ⟨h5a, h5b, by omega⟩, cSeg_mono h6 hD, h7, CH_m hr hD _ _ _ _ h8, mSeg_mono h9 (by omega), h10⟩
def xQ (dp : Int) (p : Nat) (k : Int) : Prop := (p = 79 ∨ p = 80) ∧ k = dp - 1
theorem op_stp {X : zS → zS} {m ph2 bg2 e2 : Int} (hj : JC B τ c N b q a t v sz e om' dp ba o kd ph 0 1) (ht : t ≠ 1) (hom : om ≤ om') (ho5 : om ≤ 59) (hee : e2 = e + (om' - om)) (ual : AL B υ c N q a t v) (un : NM υ b e2 om dp ba o0 kd ph 0) (um : mSeg (hI υ 74) (hI υ 75) E (1600 * b + e2) G D) (uf : fr (jP b e) τ υ) (hE : 0 ≤ E) (hX : ∀ τ1, fr (xQ dp) τ1 (X τ1) ∧ (hI τ1 79 (dp - 1) = ph → hI (X τ1) 79 (dp - 1) = ph2) ∧ (hI τ1 80 (dp - 1) = 0 → hI (X τ1) 80 (dp - 1) = bg2)) (hp2 : 0 ≤ ph2 ∧ ph2 ≤ 2) (hb2 : 0 ≤ bg2 ∧ bg2 ≤ 1) (hm : 0 ≤ m ∧ m ≤ 30) (hdo : dp ≤ o0 + 1) (hg : fX11_goesOn τ = bnr (fX11_holdsBack (z32 m) υ) fun τ1 => bnr (fX11_ahead (X τ1)) fun τ2 => some (z32 1, jS τ2 56 45 0)) : ∃ B', fX5_advance B = some B' ∧ oR B B' ∧ ((∃ τ' q' a' t' v', JC B' τ' c N b q' a' t' v' sz e2 (om + 1) dp ba o0 kd ph2 bg2 0 ∧ stp τ 1 τ' ∧ q < q' ∧ fr (sP b e om dp) τ τ' ∧ hI τ' 83 om = m ∧ mSeg (hI τ' 74) (hI τ' 75) E (1600 * b + e2) G D) ∨ BADP B B' τ b q e om dp) := by
  obtain ⟨hal, hs', hn, j4, j5, j6⟩ := hj
  obtain ⟨p1, p2, p3, p4, p5, p6, p7, p8⟩ := hal.2.2.1
  have qa := p6 ht
  obtain ⟨n1, n2, n3, n4, n5, n6, n7, n8, n9, n10⟩ := un
  have f1 : fr (fun p k => (p = 83 ∧ k = om) ∨ (p = 56 ∧ k = 44)) υ (jS (jS υ 83 om m) 56 44 (om + 1)) := fr_t (fr_j (by omega) (by omega)) (fr_j (by omega) (by omega))
  have x44 : hI (jS (jS υ 83 om m) 56 44 (om + 1)) 56 44 = om + 1 := by rw [hI_jS (by omega) (by omega) (by omega) (by omega), if_pos rfl]
  have x83 : hI (jS (jS υ 83 om m) 56 44 (om + 1)) 83 om = m := by rw [hI_jS_ne (by omega), hI_jS (by omega) (by omega) (by omega) (by omega), if_pos rfl]
  rw [mhb_z (om := om) n2.1 n2.2.1 (by omega), bnr_q] at hg
  generalize hY : jS (jS υ 83 om m) 56 44 (om + 1) = Y at *
  have y56 : ∀ k, 0 ≤ k → k ≠ 44 → hI Y 56 k = hI υ 56 k := fun k g w => (f1.2 56 k g (by omega)).1
  have yne : ∀ p k, 0 ≤ k → p ≠ 56 → p ≠ 83 → hI Y p k = hI υ p k := fun p k g w1 w2 => (f1.2 p k g (by omega)).1
  obtain ⟨z1, z2, z3⟩ := hX Y
  have zne : ∀ p k, 0 ≤ k → p ≠ 79 → p ≠ 80 → hI (X Y) p k = hI Y p k := fun p k g w1 w2 => (z1.2 p k g (by unfold xQ; omega)).1
  have halX : AL B (X Y) c N q a t v := AL_f (AL_f ual (fun _ _ _ _ => rfl) f1 (fun p k w => by omega)) (fun _ _ _ _ => rfl) z1 (fun p k w => by unfold xQ at w; omega)
  have hnX : NM (X Y) b e2 (om + 1) dp ba o0 kd ph2 bg2 := by
    refine ⟨?_, ⟨?_, by omega, by omega⟩, by omega, ?_, ?_, ?_, ?_, ?_, ⟨?_, hp2⟩, ⟨?_, hb2⟩⟩
    · rw [zne _ _ (by omega) (by omega) (by omega), y56 _ (by omega) (by omega)]; exact n1
    · rw [zne _ _ (by omega) (by omega) (by omega)]; exact x44
    · rw [zne _ _ (by omega) (by omega) (by omega), y56 _ (by omega) (by omega)]; exact n4
    · rw [zne _ _ (by omega) (by omega) (by omega), y56 _ (by omega) (by omega)]; exact n5
    · rw [zne _ _ (by omega) (by omega) (by omega), yne _ _ (by omega) (by omega) (by omega)]; exact ⟨n6.1, n6.2.1, by omega⟩
    · rw [zne _ _ (by omega) (by omega) (by omega), y56 _ (by omega) (by omega)]; exact n7
    · rw [zne _ _ (by omega) (by omega) (by omega), yne _ _ (by omega) (by omega) (by omega)]; exact n8
    · exact z2 (by rw [yne _ _ (by omega) (by omega) (by omega)]; exact n9.1)
    · exact z3 (by rw [yne _ _ (by omega) (by omega) (by omega)]; exact n10.1)
  obtain ⟨B', τ1, b1, b2, t1, t2, hres⟩ := adv_j halX ht
  rw [t1, bnr_q] at hg
  have fQ : fr oQ (X Y) (jS τ1 56 45 0) := fr_t (oM_Q t2) (fr_j (by omega) (by unfold oQ; omega))
  have hn3 := NM_Q hnX fQ
  have t45 : hI (jS τ1 56 45 0) 56 45 = 0 := by rw [hI_jS (by omega) (by omega) (by omega) (by omega), if_pos rfl]
  have fT : fr (sP b e om dp) τ (jS τ1 56 45 0) := fr_t (fr_t (fr_t (fr_m uf (jP_s (by omega))) (fr_m f1 (fun p k _ w => by unfold sP; omega))) (fr_m z1 (fun p k _ w => by unfold xQ at w; unfold sP; omega))) (fr_m fQ oQ_s)
  refine ⟨B', b1, b2, ?_⟩
  rcases hres with ⟨q', a', t', v', hal3, hq⟩ | ⟨p, hc, hmb⟩
  · left
    have h8 : hI (jS τ1 56 45 0) 56 8 = 0 := by rw [hI_j0 (by omega) (by omega) (by omega)]; exact hal3.2.1.2.2.2.1
    refine ⟨_, q', a', t', v', ⟨AL_45 hal3, ⟨by rw [oR_sz b2]; exact hs'.1, hs'.2.1, by omega⟩, hn3, by omega, hdo, t45⟩, stp_g j6 hg h8, by omega, fT, ?_, ?_⟩
    · rw [(fQ.2 83 om (by omega) (by unfold oQ; omega)).1, zne _ _ (by omega) (by omega) (by omega)]; exact x83
    · refine mSeg_cong um (fun i w0 w1 => ?_)
      rw [(fQ.2 74 i (by omega) (by unfold oQ; omega)).1, (fQ.2 75 i (by omega) (by unfold oQ; omega)).1, zne _ _ (by omega) (by omega) (by omega), zne _ _ (by omega) (by omega) (by omega), yne _ _ (by omega) (by omega) (by omega), yne _ _ (by omega) (by omega) (by omega)]
      exact ⟨rfl, rfl⟩
  · right
    have h8 : hI (jS τ1 56 45 0) 56 8 = 0 := by rw [hI_j0 (by omega) (by omega) (by omega)]; exact hmb.1
    obtain ⟨υ2, w1, w2, w3⟩ := bad_end (mBd_c hmb (fun k g w => by rw [hI_j0 (by omega) g (by omega)]) : mBd (jS τ1 56 45 0) p) hn3 (Or.inl t45)
    exact ⟨1, p, υ2, 2 + 1, hc, szK_o b2 hs' (by omega), fr_R b2 (fun k _ => by unfold cSB; omega), stp_e (stp_g j6 hg h8) w1, by omega, w2, fr_t fT (fr_m w3 (sP_m (by omega) (by omega) (by omega)))⟩
/-- an operator m, and behind it what fnI reads; T is what the one side does then -/
theorem lp_step {fnI T : zS → Option zS} {X : zS → zS} {m ph2 bg2 lim r0 r1 D0 D' D1 tr' : Int} {pre : Int → Int → Int → Int → Prop} {poI : Int → Int → Int → ((Int → Int) → Int) → Prop} {x : Int32} (hx : x = z32 (zcd m)) (hI' : SPX fnI o (lim + 1) tr' r' D' pre poI) (hkI : BK fnI) (hkT : BK T) (hn0 : NM σ b e om dp ba o kd ph bg) (hdo : dp ≤ o + 1) (hsz : 0 ≤ sz) (hq0 : 0 ≤ q) (hl : om ≤ 6 * o + lim) (hlim : lim ≤ 5) (htop : om = ba ∨ rkI (hI σ 83 (om - 1)) < r0) (hm : 10 ≤ m ∧ m ≤ 21) (hr1 : rkI m = r1) (hrt : r1 < tr') (hrr : r1 ≤ r') (hr0 : 1 ≤ r0 ∧ r0 ≤ 6) (hD1 : D0 ≤ D1) (hD2 : D' + 1 ≤ D1) (hD0 : 1 ≤ D') (hO : OKL A B σ c N b q sz e om dp ba o kd r0 D0 q' t' ph' G) (ht : t' ≠ 1) (hX : ∀ τ1, fr (xQ dp) τ1 (X τ1) ∧ (hI τ1 79 (dp - 1) = ph' → hI (X τ1) 79 (dp - 1) = ph2) ∧ (hI τ1 80 (dp - 1) = 0 → hI (X τ1) 80 (dp - 1) = bg2)) (hp2 : 0 ≤ ph2 ∧ ph2 ≤ 2) (hb2 : 0 ≤ bg2 ∧ bg2 ≤ 1) (hgo : ∀ τ υ v' e' om' o', NM τ b e' om' dp ba o' kd ph' 0 → RD τ q' t' v' → fX11_joins (z32 r0) τ = some υ → RD υ q' t' v' → hI υ 56 41 = dp → fX11_goesOn τ = bnr (fX11_holdsBack (z32 m) υ) fun τ1 => bnr (fX11_ahead (X τ1)) fun τ2 => some (z32 1, jS τ2 56 45 0)) (hpre : ∀ t, pre t kd ph2 bg2) (hbt : 20 ≤ m → bT G ∧ ∀ t'' ph'' G2, poI ph2 t'' ph'' G2 → bT G2) : (∃ C, (bnr (fX5_advance B) fun σ3 => bnr (fnI σ3) fun σ5 => bnc (fX8_add σ5.2.2.2.2 x 0 σ5) fun _ σ7 => T σ7) = some C ∧ BADP A C σ b q e om dp) ∨ (∃ B3 q'' t'' ph'' G2, (bnr (fX5_advance B) fun σ3 => bnr (fnI σ3) fun σ5 => bnc (fX8_add σ5.2.2.2.2 x 0 σ5) fun _ σ7 => T σ7) = T B3 ∧ OKL A B3 σ c N b q sz e om dp ba o kd r1 D1 q'' t'' ph'' (fun f => zop m (G f) (G2 f)) ∧ poI ph2 t'' ph'' G2 ∧ q' < q'') := by
  obtain ⟨τ, a', v', sz', e', om', o', s, L, F, k, h1, ⟨h2a, h2b, h2c⟩, h3, h4, ⟨h5a, h5b, h5c⟩, h6, h7, h8, h9, h10⟩ := hO
  have hjj := h1
  obtain ⟨hal, ⟨j1, j2, j3⟩, hn, j4, j5, j6⟩ := h1
  obtain ⟨m1, m2, m3, m4, m5, m6, m7, m8, m9, m10⟩ := hn0
  have hcb := CH_b _ _ _ _ h8
  have ms := h9.1
  have cs := h6.1
  have nb0 := nb_0 L
  have htop2 : om = ba ∨ rkI (hI τ 83 (om - 1)) < r0 := by
    by_cases w : om = ba
    · exact Or.inl w
    · rcases htop with w2 | w2
      · exact absurd w2 w
      · right
        rw [(h4.2 83 (om - 1) (by omega) (by unfold sP; omega)).1]
        exact w2
  obtain ⟨υ, u1, u2, u3, u4, u5, u6⟩ := jn_j hjj h8 h9 h5c (Int.le_refl r0) hr0 htop2 m6.2.2 (by omega) h10 m7.2.1
  obtain ⟨hr, hA⟩ := AL_x hal
  obtain ⟨hru, -⟩ := AL_x u3
  have hg := hgo τ υ v' e' om' o' hn hr u1 hru u4.2.2.2.1.1
  obtain ⟨B', b1, b2, b3⟩ := op_stp hjj ht (by omega) (by omega) rfl u3 u4 u6 u2 (by omega) hX hp2 hb2 (by omega) hdo hg
  rw [b1, bnr_q]
  have hrp := rp_or A.2.2.2.2
  have fAB : fr (cS (rp A.2.2.2.2) sz) A B' := fr_t h3 (oR_S b2)
  have eB' : B'.2.2.2.2 = A.2.2.2.2 := by rw [fAB.1]
  have kA : BK (fun σ5 => bnc (fX8_add σ5.2.2.2.2 x 0 σ5) fun _ σ7 => T σ7) := BK_add (fun _ => x) (fun _ => 0) (fun _ => hkT)
  rcases b3 with ⟨τ', q2, a2, t2, v2, hj2, y1, y2, y3, y4, y5⟩ | b3
  case inr =>
    left
    exact BAD_post (BAD_pre (q := q) (cS_B h3) h2c h4 (by omega) (by omega) (Int.le_refl om) (Int.le_refl dp) b3) (BK_b hkI kA)
  have fσ' : fr (sP b e om dp) σ τ' := fr_t h4 (fr_m y3 (sP_m (by omega) (Int.le_refl om) (Int.le_refl dp)))
  have st1 := stp_t h2c y1
  obtain ⟨B2, c1, c2⟩ := hI' B' τ' c N b q2 a2 t2 v2 sz' (e' + (om' - om)) (om + 1) dp ba kd ph2 bg2 hj2 (by omega) (Or.inr (by rw [show om + 1 - 1 = om by omega, y4, hr1]; exact hrt)) (hpre t2)
  rw [c1, bnr_q]
  rcases c2 with ⟨τ3, q3, a3, t3, v3, sz3, e3, om3, o3, ph3, s3, L3, F3, G3, k3, hj3, ⟨d1, d2, d3⟩, d4, d5, ⟨d6, d7, d7'⟩, d8, d9, d10, d11, d12, d13⟩ | c2
  case inr =>
    left
    exact BAD_post (BAD_pre (q := q) (cS_B fAB) st1 fσ' (by omega) (by omega) (by omega) (Int.le_refl dp) c2) kA
  right
  have hcb3 := CH_b _ _ _ _ d10
  have ms3 := d11.1
  rw [eB'] at d4 d8
  have cs3 := d8.1
  have fA2 : fr (cS (rp A.2.2.2.2) sz) A B2 := fr_t fAB (cS_m d4 (by omega))
  have eB2 : B2.2.2.2.2 = A.2.2.2.2 := by rw [fA2.1]
  have fσ3 : fr (sP b e om dp) σ τ3 := fr_t fσ' (fr_m d5 (sP_m (by omega) (by omega) (Int.le_refl dp)))
  have zb := zcd_b m
  obtain ⟨-, vp2, vp3, vp4, vp5, -⟩ := hj3.1.2.2.1
  obtain ⟨g1, g2⟩ := JC_add (cd := 0 * 64 + zcd m) hj3 (by omega)
  have sB2 := hj3.2.1.1
  rw [eB2] at g1 g2 sB2
  rw [eB2, hx, show (0 : Int32) = z32 0 from z32_litn 0, cadd_z sB2 (by omega) (by omega) (by omega) (by omega), bnc_q]
  have bT' : 20 ≤ m → bT G ∧ bT G3 := fun w => ⟨(hbt w).1, (hbt w).2 _ _ _ d13⟩
  have nb3 := nb_0 L3
  refine ⟨_, q3, t3, ph3, G3, rfl, ⟨τ3, a3, v3, sz3 + 1, e3, om3, o3, s3, L3 ++ [(m, 1600 * b + e, G)], F3, k3 + (1 + k), g1, ⟨by omega, by omega, stp_t st1 d3⟩, fr_t fA2 (cS_m g2 (by omega)), fσ3, ⟨by omega, by omega, ?_⟩, ?_, fun f hf => zop_b (h7 f hf).1 (h7 f hf).2 (d9 f hf).1 (d9 f hf).2, ?_, ?_, ?_⟩, d13, by omega⟩
  · rw [nb_a]
    simp only [nbL]
    rw [if_neg (by omega)]
    omega
  · have q0 : ∀ i, 0 ≤ i → i < sz3 → hI (jS (jS B2 (rp A.2.2.2.2 + 12) sz3 (0 * 64 + zcd m)) (rp A.2.2.2.2 + 11) 3 (sz3 + 1)) (rp A.2.2.2.2 + 12) i = hI B2 (rp A.2.2.2.2 + 12) i := fun i g0 g3 => (g2.2 _ i g0 (by unfold cS; omega)).1
    refine cSeg_bin (m := sz') (d1 := D0) (d2 := D') h7 d9 hm.1 hm.2 bT' (cSeg_cong h6 (fun i w0 w1 => ?_)) (cSeg_cong d8 (fun i w0 w1 => ?_)) hD1 hD2 hD0 ?_
    · rw [q0 i (by omega) (by omega), (d4.2 _ i (by omega) (by unfold cS; omega)).1, b2.2.2 _ _ (by omega)]
    · exact q0 i (by omega) (by omega)
    · rw [hI_jS_ne (by omega), hI_jS (by omega) (by omega) (by omega) (by omega), if_pos rfl]; omega
  · have cl : CH (hI τ3 74) (hI τ3 75) (hI τ3 83) D1 om (1600 * b + e) r1 [(m, 1600 * b + e, G)] (om + 1) (1600 * b + (e' + (om' - om))) G3 (fun f => zop m (G f) (G3 f)) := by
      refine ⟨?_, by rw [hr1]; exact Int.le_refl _, Or.inr ⟨hm, d9, h7, bT', ?_, by omega, rfl, rfl⟩⟩
      · rw [show om + 1 - 1 = om by omega, (d5.2 83 om (by omega) (by unfold sP; omega)).1]; exact y4
      · simp only [nbL, Int.sub_zero]
        refine mSeg_mono (mSeg_cong y5 (fun i w0 w1 => ?_)) hD1
        rw [(d5.2 74 i (by omega) (by unfold sP; omega)).1, (d5.2 75 i (by omega) (by unfold sP; omega)).1]
        exact ⟨rfl, rfl⟩
    refine CH_a cl (D1 := D1 - 1) (by simp only [nbL]; rw [if_neg (by omega)]; omega) _ _ _ _ (CH_m hrr (by omega) _ _ _ _ d10)
  · rw [nb_a]
    refine mSeg_mono d11 ?_
    simp only [nbL]
    rw [if_neg (by omega)]
    omega
  · rw [nn_a]
    simp only [nnL]
    rw [if_neg (by omega)]
    omega
end LP

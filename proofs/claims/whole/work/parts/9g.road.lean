/-! MY OWN: road, both sides -/
/-- all that the other side's reading changes -/
def maU (b : Int) (p : Nat) (k : Int) : Prop := mbU b p k ∨ mRd b p k
section RO
variable {A B C σ τ υ φ T : zS} {N b bk k p m x : Int} {d j : Bool} {oW oT : Option ((Int → Int) → Int)}
theorem run_j (hO : OWN σ) (hN : hI σ 2 1 = N) (hN' : 0 ≤ N ∧ N ≤ 1600) (hb : 0 ≤ b ∧ b ≤ 1) : ∃ A, A.2.2 = (σ.2.2.1, σ.2.2.2.1, σ.2.2.1) ∧ fz (cRa (rp σ.2.2.1)) σ A ∧ ∀ T : zS, (∀ k, 0 ≤ k → k < 1600 → hI T 57 k = tx σ k) → hI T 56 1 = N → hI T 56 13 = 1 - b → ∃ C υ m, fX10_road σ = fX10_road_42 C ∧ fX11_road T = fX11_road_138 (z32 m) υ ∧ fr (cRa (rp σ.2.2.1)) A C ∧ fr (maU b) T υ ∧ ENDR C υ σ.2.2.1 b m ∧ hI υ 56 1 = 0 := by
  obtain ⟨A, a1, a2, a3, a4, a5, a6, a7, a8, a9, a10, a11⟩ := bgn_z (σ := σ) (d := σ.2.2.1)
  refine ⟨A, a2, a3, fun T e57 e1 e13 => ?_⟩
  obtain ⟨τ, q, t1, t2, t3⟩ := LH_0 (T := T) (b := b) a2 a3 a4 a5 a6 a7 a8 a9 a10 a11 hO hN hN' e57 hb
  obtain ⟨C, υ, m, c1, c2, c3, c4, c5⟩ := rd_lp 80 0 0 q A τ zF zF (by omega) (by unfold zF; omega) (by unfold zF; omega) t3
  refine ⟨C, υ, m, ?_, ?_, c3, fr_t (fr_t (fr_m (mB0_f hb.1) (fun p k _ u => Or.inl u)) (fr_m (oM_d (b := b) t2) (fun p k _ u => Or.inr u))) (fr_m c4 (fun p k _ u => Or.inr u)), c5, ?_⟩
  rotate_right
  · rw [(c4.2 56 1 (by omega) (by unfold mRd; omega)).1, t2.2.2.1 1 (by omega) (by omega) (by omega) (by omega) (by omega)]
    exact (mB0_56 hb hN').1
  · unfold fX10_road
    rw [a1, bnr_q, show (0 : Int32) = z32 0 from z32_litn 0, c1]
  · rw [mB0_r e1 e13 hb hN', t1, bnr_q, c2]
theorem sum_c {w : Int} {P Q : Nat} {o : Option ((Int → Int) → Int)} (hw : 0 ≤ w ∧ w ≤ 1) (hs : SMo C υ d b w P Q o) (hz : hI C (rp d + 11) 3 ≤ 1600) (hd : φ.2.2.2.1 = d) (e : ∀ n k, n ≤ 15 → 0 ≤ k → hI φ (rp d + n) k = hI C (rp d + n) k) : cSum φ w o := by
  cases o with
  | none =>
    obtain ⟨s1, s2, -⟩ := hs
    show hI φ (rp φ.2.2.2.1 + 14) w = 0 ∧ hI φ (rp φ.2.2.2.1 + 15) w = 0
    rw [hd, e 14 w (by omega) hw.1, e 15 w (by omega) hw.1]
    exact ⟨s1, s2⟩
  | some F =>
    obtain ⟨s1, s2, -, -, -, s6⟩ := hs
    show cSeg φ.2.2.2.1 (fun i => hI φ (rp φ.2.2.2.1 + 12) i) (hI φ (rp φ.2.2.2.1 + 14) w) (hI φ (rp φ.2.2.2.1 + 15) w) F 38 ∧ hI φ (rp φ.2.2.2.1 + 15) w ≤ 1600 ∧ bF F
    rw [hd, e 14 w (by omega) hw.1, e 15 w (by omega) hw.1]
    have s0 := s1.1.1
    exact ⟨cSeg_cong s1 (fun i g0 g1 => e 12 i (by omega) (by omega)), by omega, s6⟩
theorem sum_m {w : Int} {P Q : Nat} {o : Option ((Int → Int) → Int)} (hs : SMo C υ d b w P Q o) (hz : hI υ 56 34 ≤ 1600) (hb : 0 ≤ b ∧ b ≤ 1) (h13 : hI φ 56 13 = b) (hP : 68 ≤ P ∧ P ≤ 71) (hQ : 68 ≤ Q ∧ Q ≤ 71) (e : ∀ p k, 57 ≤ p → p ≤ 84 → 0 ≤ k → hI φ p k = hI υ p k) : mSum φ P Q o := by
  cases o with
  | none =>
    obtain ⟨-, -, s3⟩ := hs
    show hI φ P (hI φ 56 13) = -1
    rw [h13, e P b (by omega) (by omega) hb.1]
    exact s3
  | some F =>
    obtain ⟨-, -, s3, s4, s5, s6⟩ := hs
    show mSeg (fun i => hI φ 74 i) (fun i => hI φ 75 i) (1600 * hI φ 56 13 + hI φ P (hI φ 56 13)) (1600 * hI φ 56 13 + hI φ Q (hI φ 56 13)) F 200 ∧ 0 ≤ hI φ P (hI φ 56 13) ∧ hI φ Q (hI φ 56 13) ≤ 1600 ∧ bF F
    rw [h13, e P b (by omega) (by omega) hb.1, e Q b (by omega) (by omega) hb.1]
    exact ⟨mSeg_cong (mSeg_mono s3 (by omega)) (fun i g0 g1 => ⟨e 74 i (by omega) (by omega) (by omega), e 75 i (by omega) (by omega) (by omega)⟩), s4, by omega, s6⟩
/-- the new road stands on both sides -/
theorem IR_n (h : RR C υ d b 1600) (hd : φ.2.2.2.1 = d) (h13 : hI φ 56 13 = b) (e : ∀ n k, n ≤ 15 → 0 ≤ k → hI φ (rp d + n) k = hI C (rp d + n) k) (em : ∀ p k, 57 ≤ p → p ≤ 84 → 0 ≤ k → hI φ p k = hI υ p k ∧ hL φ p k = hL υ p k) : ∃ oW oT, IR oW oT φ := by
  obtain ⟨r0, ⟨⟨n1, nb⟩, n2, n3, n4, n5⟩, ⟨l1, -⟩, ⟨g1, -⟩, ⟨f1, f2⟩, ⟨oW, oT, sW, sT⟩, ⟨z1, z2⟩⟩ := h
  have fT : vT φ = hI C (rp d + 0) 1 := by unfold vT; rw [hd]; exact e 0 1 (by omega) (by omega)
  have fH : vH φ = hI C (rp d + 0) 2 := by unfold vH; rw [hd]; exact e 0 2 (by omega) (by omega)
  have fS : vSeen φ = hI C (rp d + 0) 3 := by unfold vSeen; rw [hd]; exact e 0 3 (by omega) (by omega)
  have fF : vFine φ = hI C (rp d + 0) 4 := by unfold vFine; rw [hd]; exact e 0 4 (by omega) (by omega)
  have fG : ∀ t, 0 ≤ t → vGap φ t = hI C (rp d + 2) t := fun t g => by unfold vGap; rw [hd]; exact e 2 t (by omega) g
  have fC : ∀ t, 0 ≤ t → vCnt φ t = hI C (rp d + 3) t := fun t g => by unfold vCnt; rw [hd]; exact e 3 t (by omega) g
  have fL : ∀ t k, 0 ≤ t → 0 ≤ k → vLen φ t k = hI C (rp d + 4) (t * 4 + k) := fun t k g g' => by unfold vLen; rw [hd]; exact e 4 _ (by omega) (by omega)
  have fW : ∀ t k, 0 ≤ t → 0 ≤ k → vWt φ t k = hI C (rp d + 5) (t * 4 + k) := fun t k g g' => by unfold vWt; rw [hd]; exact e 5 _ (by omega) (by omega)
  have f7 : ∀ h, 0 ≤ h → vBr0 φ h = hI C (rp d + 7) h := fun h g => by unfold vBr0; rw [hd]; exact e 7 h (by omega) g
  have f8 : ∀ h, 0 ≤ h → vLau φ h = hI C (rp d + 8) h := fun h g => by unfold vLau; rw [hd]; exact e 8 h (by omega) g
  have hR : okR φ := by
    unfold okR
    rw [fT, fH, fS, fF]
    refine ⟨n2.2, n3.2, f1.2, f2.2, fun t w0 w1 => ?_, fun h w0 w1 => ?_⟩
    · obtain ⟨q1, q2, q3⟩ := l1 t w0 w1
      rw [fG t w0, fC t w0]
      exact ⟨q1.2, q2.2, fun k u0 u1 => by rw [fL t k w0 u0, fW t k w0 u0]; exact ⟨(q3 k u0 u1).1.2, (q3 k u0 u1).2.2⟩⟩
    · obtain ⟨q1, q2, -⟩ := g1 h w0 w1
      rw [f7 h w0, f8 h w0]
      exact ⟨q1.2, q2.2⟩
  have hr : rlR φ φ := by
    unfold rlR
    rw [h13, fT, fH, fS, fF]
    refine ⟨nb, by rw [(em 58 b (by omega) (by omega) nb.1).1]; exact n2.1, by rw [(em 63 b (by omega) (by omega) nb.1).1]; exact n3.1, by rw [(em 72 b (by omega) (by omega) nb.1).1]; exact f1.1, by rw [(em 73 b (by omega) (by omega) nb.1).1]; exact f2.1, fun t w0 w1 => ?_, fun h w0 w1 => ?_⟩
    · obtain ⟨q1, q2, q3⟩ := l1 t w0 w1
      rw [fG t w0, fC t w0, (em 59 _ (by omega) (by omega) (by omega)).1, (em 60 _ (by omega) (by omega) (by omega)).1]
      exact ⟨q1.1, q2.1, fun k u0 u1 => by rw [fL t k w0 u0, fW t k w0 u0, (em 61 _ (by omega) (by omega) (by omega)).1, (em 62 _ (by omega) (by omega) (by omega)).1]; exact ⟨(q3 k u0 u1).1.1, (q3 k u0 u1).2.1⟩⟩
    · obtain ⟨q1, q2, -⟩ := g1 h w0 w1
      rw [f7 h w0, f8 h w0, (em 64 _ (by omega) (by omega) (by omega)).1, (em 65 _ (by omega) (by omega) (by omega)).1]
      exact ⟨q1.1, q2.1⟩
  have em' : ∀ p k, 57 ≤ p → p ≤ 84 → 0 ≤ k → hI φ p k = hI υ p k := fun p k w0 w1 w2 => (em p k w0 w1 w2).1
  refine ⟨oW, oT, hR, hr, sum_c (by omega) sW z1.2 hd e, sum_c (by omega) sT z1.2 hd e, sum_m sW z2.2 nb h13 (by omega) (by omega) em', sum_m sT z2.2 nb h13 (by omega) (by omega) em', ?_⟩
  unfold rlM
  rw [h13, hd, fT, fH]
  exact ⟨fun t w0 w1 => by rw [e 1 t (by omega) w0, (em 76 _ (by omega) (by omega) (by omega)).2]; exact n4 t w0 w1, fun h w0 w1 => by rw [e 6 h (by omega) w0, (em 77 _ (by omega) (by omega) (by omega)).2]; exact n5 h w0 w1⟩
theorem C_road (h : INV σ) : CA fX10_road fX11_road σ := by
  have h' := h
  obtain ⟨oW, oT, i1, i2, i3, i4, i5, i6, i7, i8, i9, i10, i11⟩ := h'
  have hR := i1.1
  have hm := IR_M i1 i2
  have b13 := hm.1.1
  obtain ⟨t1, t2, t3⟩ := i3
  obtain ⟨d, hd⟩ : ∃ d, d = σ.2.2.1 := ⟨_, rfl⟩
  obtain ⟨j, hj⟩ : ∃ j, j = σ.2.2.2.1 := ⟨_, rfl⟩
  have hdj : d ≠ j := by rw [hd, hj]; exact i10.2
  have hrp : (rp d = 9 ∧ rp j = 38) ∨ (rp d = 38 ∧ rp j = 9) := by
    cases d <;> cases j
    · exact absurd rfl hdj
    · exact Or.inl ⟨rfl, rfl⟩
    · exact Or.inr ⟨rfl, rfl⟩
    · exact absurd rfl hdj
  obtain ⟨b, hb⟩ : ∃ b, b = 1 - hI σ 56 13 := ⟨_, rfl⟩
  have hb' : 0 ≤ b ∧ b ≤ 1 := by omega
  obtain ⟨A, a1, a2, a3⟩ := run_j (N := hI σ 2 1) (b := b) i10.1 rfl t2 hb'
  rw [← hd, ← hj] at a1
  rw [← hd] at a2
  simp only [← hd] at a3
  -- the one side alone
  obtain ⟨r, B, r1, r2⟩ : ∃ r B, fX10_road σ = some (r, B) ∧ ∀ p k, 56 ≤ p → 0 ≤ k → hI B p k = hI σ p k ∧ hL B p k = hL σ p k := by
    obtain ⟨C, υ, m, c1, -, c3, -, c5, -⟩ := a3 σ t3 t1 (by omega)
    have fC : C.2.2 = (d, j, d) := by rw [c3.1, a1]
    have cs : ∀ p k, 56 ≤ p → 0 ≤ k → hI C p k = hI σ p k ∧ hL C p k = hL σ p k := fun p k w0 w1 => by
      have u1 := c3.2 p k w1 (by unfold cRa; omega)
      have u2 := a2 p k w1 (by unfold cRa; omega)
      exact ⟨u1.1.trans u2.1, u1.2.trans u2.2⟩
    rcases c5 with ⟨e1, -⟩ | ⟨k, p, e1, e2, e3, -⟩
    · obtain ⟨B, b1, -, b3, -⟩ := r42_g e1 fC
      refine ⟨_, B, c1.trans b1, fun p k w0 w1 => ?_⟩
      have u := b3 p k w1 (by unfold rgU; omega)
      exact ⟨u.1.trans (cs p k w0 w1).1, u.2.trans (cs p k w0 w1).2⟩
    · refine ⟨_, _, c1.trans (r42_b e1 e3), fun p k w0 w1 => ?_⟩
      rw [hI_jS_ne (by omega), hI_jS_ne (by omega), hL_jS, hL_jS]
      exact cs p k w0 w1
  -- both
  obtain ⟨C, υ, m, c1, c2, c3, c4, c5, c6⟩ := a3 B (fun k w0 w1 => by rw [(r2 57 k (by omega) w0).1]; exact t3 k w0 w1) (by rw [(r2 56 1 (by omega) (by omega)).1]; exact t1) (by rw [(r2 56 13 (by omega) (by omega)).1]; omega)
  have fC : C.2.2 = (d, j, d) := by rw [c3.1, a1]
  have cA : ∀ p k, 0 ≤ k → ¬ cRa (rp d) p k → hI C p k = hI σ p k ∧ hL C p k = hL σ p k := fun p k w1 w => by
    have u1 := c3.2 p k w1 w
    have u2 := a2 p k w1 w
    exact ⟨u1.1.trans u2.1, u1.2.trans u2.2⟩
  rcases c5 with ⟨e1, e2, e3, e4, e5, e6, e7⟩ | ⟨k, p, e1, e2, e3, e4⟩
  · obtain ⟨B', b1, b2, b3, b4, b5, b6, b7, b8, b9, b10, b11, b12⟩ := r42_g e1 fC
    have eq : some (r, B) = some (z32 (hI C (rp d + 0) 0), B') := r1.symm.trans (c1.trans b1)
    simp only [Option.some.injEq, Prod.mk.injEq] at eq
    obtain ⟨er, rfl⟩ := eq
    rw [e5] at er
    have n35 : hI υ 56 35 = b := e7.2.1.1.1
    obtain ⟨φ, p1, p2, p3, p4, p5, p6⟩ := r138_g (m := m) e3 e4 n35 hb'
    have fl : φ.2.2 = (j, d, d) := by rw [p2.1, c4.1, b2]
    have fd : φ.2.2.2.1 = d := by rw [fl]
    have cl : ∀ p k, p < 56 → 0 ≤ k → hI φ p k = hI B p k := fun p k w0 w1 => by
      rw [(p2.2 p k w1 (by unfold rmU; omega)).1, (c4.2 p k w1 (by unfold maU mbU mRd; omega)).1]
    have eC : ∀ n k, n ≤ 15 → 0 ≤ k → hI φ (rp d + n) k = hI C (rp d + n) k := fun n k w0 w1 => by
      rw [cl _ k (by omega) w1, (b3 _ k w1 (by unfold rgU; omega)).1]
    have em : ∀ p k, 57 ≤ p → p ≤ 84 → 0 ≤ k → hI φ p k = hI υ p k ∧ hL φ p k = hL υ p k := fun p k w0 w1 w2 => p2.2 p k w2 (by unfold rmU; omega)
    obtain ⟨oW', oT', hIR⟩ := IR_n (φ := φ) e7 fd p3.2.2.1 eC em
    obtain ⟨-, ⟨-, n2, n3, -, -⟩, -, ⟨g1, -⟩, -⟩ := e7
    have fT : vT φ = hI C (rp d + 0) 1 := by unfold vT; rw [fd]; exact eC 0 1 (by omega) (by omega)
    have fH : vH φ = hI C (rp d + 0) 2 := by unfold vH; rw [fd]; exact eC 0 2 (by omega) (by omega)
    have cS : ∀ p k, p < 56 → 0 ≤ k → ¬ rgU p k → ¬ cRa (rp d) p k → hI φ p k = hI σ p k := fun p k w0 w1 w2 w3 => by
      rw [cl p k w0 w1, (b3 p k w1 w2).1, (cA p k w1 w3).1]
    have mS : ∀ p k, 56 ≤ p → 0 ≤ k → ¬ rmU p k → ¬ maU b p k → hI φ p k = hI σ p k ∧ hL φ p k = hL σ p k := fun p k w0 w1 w2 w3 => by
      have u1 := p2.2 p k w1 w2
      have u2 := c4.2 p k w1 w3
      have u3 := r2 p k w0 w1
      exact ⟨u1.1.trans (u2.1.trans u3.1), u1.2.trans (u2.2.trans u3.2)⟩
    refine ⟨r, B, φ, r1, by rw [c2, p1, er], oW', oT', hIR, ⟨?_, ?_⟩, ?_, ?_, ?_, ?_, ?_, ?_, ?_, ?_, KK_n ?_ ?_⟩
    · rw [fH, fT]
      refine rowS_0.2 ⟨?_, ?_, fun h w0 w1 => ?_⟩
      · show hI φ 85 0 = hI φ 5 0
        rw [p4.1, cl 5 0 (by omega) (by omega), b5]
      · show 0 ≤ hI φ 5 0 ∧ (hI φ 5 0 < hI C (rp d + 0) 1 ∨ hI φ 5 0 = 0)
        rw [cl 5 0 (by omega) (by omega), b5]; omega
      · obtain ⟨q1, q2, q3, q4⟩ := g1 h w0 w1
        obtain ⟨u1, u2, u3⟩ := b7 h w0 (by omega)
        obtain ⟨v1, v2, v3⟩ := p5 h w0 (by omega)
        refine ⟨?_, ?_, ?_, fun t w2 w3 => ?_⟩
        · show hI φ 86 h = hI φ 5 (50 + h) ∧ 0 ≤ hI φ 5 (50 + h) ∧ hI φ 5 (50 + h) ≤ 60
          rw [cl 5 _ (by omega) (by omega), u1, v1]
          exact ⟨q1.1, by omega, q1.2.2⟩
        · show hI φ 87 h = hI φ 5 (56 + h) ∧ 0 ≤ hI φ 5 (56 + h) ∧ hI φ 5 (56 + h) ≤ 60
          rw [cl 5 _ (by omega) (by omega), u2, v2]
          exact q3
        · show hI φ 88 h = hI φ 5 (62 + h) ∧ -99999 ≤ hI φ 5 (62 + h) ∧ hI φ 5 (62 + h) ≤ 99999
          rw [cl 5 _ (by omega) (by omega), u3, v3]; omega
        · show hI φ 89 (6 * h + t) = hI φ 5 (68 + h * 6 + t) ∧ 0 ≤ hI φ 5 (68 + h * 6 + t) ∧ hI φ 5 (68 + h * 6 + t) ≤ 60
          have y1 := p6 (6 * h + t) (by omega) (by omega)
          have y2 := b8 (h * 6 + t) (by omega) (by omega)
          have y3 := q4 t w2 (by omega)
          rw [cl 5 _ (by omega) (by omega), show 68 + h * 6 + t = 68 + (h * 6 + t) by omega, y2, y1, show 36 * b + (6 * h + t) = 6 * (6 * b + h) + t by omega]
          exact y3
    · have gk : gNow φ 1 = 0 := by
        show hI φ 5 1 = 0
        rw [cl 5 1 (by omega) (by omega), b6]
      have zm : zmin 48 0 = 0 := by unfold zmin; split <;> omega
      refine rowK_0.2 ?_
      rw [gk, zm]
      exact ⟨by omega, p4.2, fun k w0 w1 => by omega⟩
    · have x1 : hI φ 2 1 = 0 := by rw [cl 2 1 (by omega) (by omega), b4]
      have x2 : hI φ 56 1 = 0 := by rw [(p2.2 56 1 (by omega) (by unfold rmU; omega)).1, c6]
      exact ⟨by rw [x1, x2], by rw [x1]; omega, fun k w0 w1 => by rw [(mS 57 k (by omega) w0 (by unfold rmU; omega) (by unfold maU mbU mRd; omega)).1, tx_c (A := σ) (cS 3 k (by omega) w0 (by unfold rgU; omega) (by unfold cRa; omega))]; exact t3 k w0 w1⟩
    · refine ⟨?_, ?_⟩
      · rw [cS 1 10 (by omega) (by omega) (by unfold rgU; omega) (by unfold cRa; omega), (mS 56 59 (by omega) (by omega) (by unfold rmU; omega) (by unfold maU mbU mRd; omega)).2]; exact i4.1
      · rw [cS 1 10 (by omega) (by omega) (by unfold rgU; omega) (by unfold cRa; omega)]; exact i4.2
    · intro k w0 w1
      rw [cS 37 k (by omega) w0 (by unfold rgU; omega) (by unfold cRa; omega), (mS 84 k (by omega) w0 (by unfold rmU; omega) (by unfold maU mbU mRd; omega)).1]; exact i5 k w0 w1
    · refine ⟨?_, ?_⟩
      · rw [p3.1, cl 54 9 (by omega) (by omega), (b3 54 9 (by omega) (by unfold rgU; omega)).1, e1]
      · rw [p3.2.1, cl 54 10 (by omega) (by omega), (b3 54 10 (by omega) (by unfold rgU; omega)).1, e2]
    · have x1 : hI φ 35 1 = hI σ 35 1 := cS 35 1 (by omega) (by omega) (by unfold rgU; omega) (by unfold cRa; omega)
      obtain ⟨y1, y2, y3⟩ := i7
      refine ⟨?_, by rw [x1]; exact y2, fun k w0 w1 => ?_⟩
      · rw [x1, (mS 56 78 (by omega) (by omega) (by unfold rmU; omega) (by unfold maU mbU mRd; omega)).1]; exact y1
      · rw [x1] at w1
        rw [(mS 102 k (by omega) w0 (by unfold rmU; omega) (by unfold maU mbU mRd; omega)).1, cS 36 k (by omega) w0 (by unfold rgU; omega) (by unfold cRa; omega)]; exact y3 k w0 w1
    · have x1 : hI φ 32 3 = 0 := by rw [cl 32 3 (by omega) (by omega), b10]
      refine ⟨by rw [x1]; exact p3.2.2.2.2, by rw [x1]; omega, fun w => by rw [x1] at w; omega, fun k w0 w1 => by rw [x1] at w1; omega⟩
    · have x1 : hI φ 6 2 = 0 := by rw [cl 6 2 (by omega) (by omega), b9]
      have x2 : hI φ 6 1 = hI σ 6 1 := cS 6 1 (by omega) (by omega) (by unfold rgU; omega) (by unfold cRa; omega)
      have x3 : hI φ 56 57 = hI σ 56 57 := (mS 56 57 (by omega) (by omega) (by unfold rmU; omega) (by unfold maU mbU mRd; omega)).1
      exact ⟨by rw [x2]; exact i9.1, by rw [x1]; omega, by rw [x1]; exact p3.2.2.2.1, by rw [x3]; exact i9.2.2.2.1, fun k w0 w1 => by rw [x1] at w1; omega⟩
    · refine ⟨fun i w0 w1 => ?_, ?_⟩
      · rw [cS 55 i (by omega) w0 (by unfold rgU; omega) (by unfold cRa; omega)]; exact i10.1 i w0 w1
      · rw [fl]; exact fun w => hdj w.symm
    · rw [cl 27 4 (by omega) (by omega), b11]
    · rw [cl 27 10 (by omega) (by omega), b12]
  · have b1 := r42_b e1 e3
    have eq : some (r, B) = some (z32 (-1), jS (jS C 2 1 0) 37 1 (z32 (hI (jS C 2 1 0) 37 1 + 1)).toInt) := r1.symm.trans (c1.trans b1)
    simp only [Option.some.injEq, Prod.mk.injEq] at eq
    obtain ⟨er, eB⟩ := eq
    obtain ⟨m1, m2, m3⟩ := e4
    have p1 := r138_b (x1 := z32 m) m1 m3 m2
    obtain ⟨φ, hφ⟩ : ∃ φ, φ = jS (jS (jS υ 56 10 k) 56 11 p) 84 1 (z32 (hI (jS (jS υ 56 10 k) 56 11 p) 84 1 + 1)).toInt := ⟨_, rfl⟩
    rw [← hφ] at p1
    have z1 := z32_b (z32 (hI (jS C 2 1 0) 37 1 + 1))
    have z2 := z32_b (z32 (hI (jS (jS υ 56 10 k) 56 11 p) 84 1 + 1))
    have l1 := hI_lo υ 56 8
    have l2 := hI_hi υ 56 8
    have l3 := hI_lo υ 56 9
    have l4 := hI_hi υ 56 9
    rw [m1] at l1 l2
    rw [m2] at l3 l4
    have fφ : fr (fun p k => (p = 56 ∧ (k = 10 ∨ k = 11)) ∨ (p = 84 ∧ k = 1)) υ φ := by
      rw [hφ]; exact fr_t (fr_t (fr_j (by omega) (by omega)) (fr_j (by omega) (by omega))) (fr_j (by omega) (by omega))
    have fB : fr (fun p k => (p = 2 ∧ k = 1) ∨ (p = 37 ∧ k = 1)) C B := by
      rw [eB]; exact fr_t (fr_j (by omega) (by omega)) (fr_j (by omega) (by omega))
    have fl : φ.2.2 = (d, j, d) := by rw [fφ.1, c4.1, fB.1, fC]
    have cF : ∀ p k, p < 56 → 0 ≤ k → ¬ ((p = 2 ∧ k = 1) ∨ (p = 37 ∧ k = 1)) → ¬ cRa (rp d) p k → hI φ p k = hI σ p k ∧ hL φ p k = hL σ p k := fun p k w0 w1 w2 w3 => by
      have u1 := fφ.2 p k w1 (by omega)
      have u2 := c4.2 p k w1 (by unfold maU mbU mRd; omega)
      have u3 := fB.2 p k w1 w2
      have u4 := cA p k w1 w3
      exact ⟨u1.1.trans (u2.1.trans (u3.1.trans u4.1)), u1.2.trans (u2.2.trans (u3.2.trans u4.2))⟩
    have mF : ∀ p k, 56 ≤ p → 0 ≤ k → ¬ ((p = 56 ∧ (k = 10 ∨ k = 11)) ∨ (p = 84 ∧ k = 1)) → ¬ maU b p k → hI φ p k = hI σ p k ∧ hL φ p k = hL σ p k := fun p k w0 w1 w2 w3 => by
      have u1 := fφ.2 p k w1 w2
      have u2 := c4.2 p k w1 w3
      have u3 := r2 p k w0 w1
      exact ⟨u1.1.trans (u2.1.trans u3.1), u1.2.trans (u2.2.trans u3.2)⟩
    have F : ∀ (P : Nat → Int → Prop), (∀ p k, 0 ≤ k → P p k → (p < 56 ∧ ¬ ((p = 2 ∧ k = 1) ∨ (p = 37 ∧ k = 1)) ∧ ¬ cRa (rp d) p k) ∨ (56 ≤ p ∧ ¬ ((p = 56 ∧ (k = 10 ∨ k = 11)) ∨ (p = 84 ∧ k = 1)) ∧ ¬ maU b p k)) → sm P σ φ := fun P hP p k w0 w1 => by
      rcases hP p k w0 w1 with ⟨u1, u2, u3⟩ | ⟨u1, u2, u3⟩
      · exact ⟨(cF p k u1 w0 u2 u3).1, fun w => by omega⟩
      · exact ⟨(mF p k u1 w0 u2 u3).1, fun _ => (mF p k u1 w0 u2 u3).2⟩
    have J : jE σ φ := ⟨by rw [fl, ← hj], F _ (fun p k w0 w1 => Or.inl (by rw [← hj] at w1; unfold fpC at w1; unfold cRa; omega))⟩
    have x1 : hI φ 2 1 = 0 := by rw [(fφ.2 2 1 (by omega) (by omega)).1, (c4.2 2 1 (by omega) (by unfold maU mbU mRd; omega)).1, eB, hI_jS_ne (by omega), hI_jS (by omega) (by omega) (by omega) (by omega), if_pos rfl]
    have x2 : hI φ 56 1 = 0 := by rw [(fφ.2 56 1 (by omega) (by omega)).1, c6]
    refine ⟨r, B, φ, r1, by rw [c2, p1, er], oW, oT, iv_R J (F _ (fun p k w0 w1 => Or.inr ?_)) i1, iv_N J (F _ (fun p k w0 w1 => ?_)) hR i2, ?_, iv_S (F _ (fun p k w0 w1 => ?_)) i4, ?_, ?_, iv_P (F _ (fun p k w0 w1 => ?_)) i7, iv_C J (F _ (fun p k w0 w1 => ?_)) i8, iv_H J (F _ (fun p k w0 w1 => ?_)) hR i9, iv_O (by rw [fl]; exact hdj) (F _ (fun p k w0 w1 => Or.inl (by unfold cRa; omega))) i10, c_KPp (jE_vE J) (KPp_c i11.1 (fun k g _ => (cF 27 k (by omega) g (by omega) (by unfold cRa; omega)).1) (fun k g => (cF 27 k (by omega) g (by omega) (by unfold cRa; omega)).2)), c_KPs (jE_vE J) (fun h g => (cF 5 (50 + h) (by omega) (by omega) (by omega) (by unfold cRa; omega)).1) (KPs_c i11.2 (fun k g => (cF 27 k (by omega) (by omega) (by omega) (by unfold cRa; omega)).1) (fun k g => (cF 31 k (by omega) g (by omega) (by unfold cRa; omega)).1))⟩
    · unfold fpM at w1
      refine ⟨by omega, by omega, ?_⟩
      unfold maU mbU mRd
      omega
    · unfold fpN at w1
      by_cases g : p < 56
      · exact Or.inl ⟨g, by omega, by unfold cRa; omega⟩
      · exact Or.inr ⟨by omega, by omega, by unfold maU mbU mRd; omega⟩
    · exact ⟨by rw [x1, x2], by rw [x1]; omega, fun k w0 w1 => by rw [(mF 57 k (by omega) w0 (by omega) (by unfold maU mbU mRd; omega)).1, tx_c (A := σ) (cF 3 k (by omega) w0 (by omega) (by unfold cRa; omega)).1]; exact t3 k w0 w1⟩
    · unfold fpS at w1
      by_cases g : p < 56
      · exact Or.inl ⟨g, by omega, by unfold cRa; omega⟩
      · exact Or.inr ⟨by omega, by omega, by unfold maU mbU mRd; omega⟩
    · refine rlF_r i5 (k := 1) (by omega) (by omega) (fun i w0 w1 => ⟨(cF 37 i (by omega) w0 (by omega) (by unfold cRa; omega)).1, (mF 84 i (by omega) w0 (by omega) (by unfold maU mbU mRd; omega)).1⟩) ?_ ?_
      · rw [(fφ.2 37 1 (by omega) (by omega)).1, (c4.2 37 1 (by omega) (by unfold maU mbU mRd; omega)).1, eB, hI_jS (by omega) (by omega) z1.1 z1.2, if_pos rfl, hI_jS_ne (by omega), (cA 37 1 (by omega) (by unfold cRa; omega)).1]
      · rw [hφ, hI_jS (by omega) (by omega) z2.1 z2.2, if_pos rfl, hI_jS_ne (by omega), hI_jS_ne (by omega), (c4.2 84 1 (by omega) (by unfold maU mbU mRd; omega)).1, (r2 84 1 (by omega) (by omega)).1]
    · have y9 : hI φ 54 9 = k := by rw [(fφ.2 54 9 (by omega) (by omega)).1, (c4.2 54 9 (by omega) (by unfold maU mbU mRd; omega)).1, (fB.2 54 9 (by omega) (by omega)).1, e1]
      have y10 : hI φ 54 10 = p := by rw [(fφ.2 54 10 (by omega) (by omega)).1, (c4.2 54 10 (by omega) (by unfold maU mbU mRd; omega)).1, (fB.2 54 10 (by omega) (by omega)).1, e2]
      refine ⟨?_, ?_⟩
      · rw [y9, hφ, hI_jS_ne (by omega), hI_jS (by omega) (by omega) l3 l4, if_neg (by omega), hI_jS (by omega) (by omega) l1 l2, if_pos rfl]
      · rw [y10, hφ, hI_jS_ne (by omega), hI_jS (by omega) (by omega) l3 l4, if_pos rfl]
    · unfold fpP at w1
      by_cases g : p < 56
      · exact Or.inl ⟨g, by omega, by unfold cRa; omega⟩
      · exact Or.inr ⟨by omega, by omega, by unfold maU mbU mRd; omega⟩
    · unfold fpQ at w1
      by_cases g : p < 56
      · exact Or.inl ⟨g, by omega, by unfold cRa; omega⟩
      · exact Or.inr ⟨by omega, by omega, by unfold maU mbU mRd; omega⟩
    · unfold fpH at w1
      by_cases g : p < 56
      · exact Or.inl ⟨g, by omega, by unfold cRa; omega⟩
      · exact Or.inr ⟨by omega, by omega, by unfold maU mbU mRd; omega⟩
end RO

/-! MY OWN: ON: from a stage on; the plan -/
section FR
variable {A B σ τ υ : zS} {oW oT : Option ((Int → Int) → Int)} {t br s k l t0 : Int} {T : Nat → Int} {n m : Nat}
theorem gg_2 (N : Nat) : (ggGX0_addPlanned (N + 1)).2 = fX0_bestFrom' (ggGX0_addPlanned N) := rfl
theorem gg_1 (N : Nat) : (ggGX0_addPlanned (N + 1)).1 = fX0_addPlanned' (ggGX0_addPlanned N) := rfl
theorem bf_z (hR : okR A) (hW : cSum A 0 oW) (hT : cSum A 1 oT) (h0 : 0 ≤ t0) (h1 : t0 < vT A) (hn : n ≤ 4) : ∀ (m N : Nat), m ≤ n → 2 * m + 1 ≤ N → ∀ (σ : zS) (br : Int), 0 ≤ br → br ≤ 60 → qC A σ → PST t0 n σ → WHO A (TT A t0 n) n σ → MEM oW oT A (TT A t0 n) n σ → ∃ τ, (ggGX0_addPlanned N).2 (z32 ((n : Int) - m)) (z32 br) σ = some (z64 (vR oW oT A (TT A t0 n) m br), τ) ∧ fB ((n : Int) - m) σ τ ∧ MEM oW oT A (TT A t0 n) n τ ∧ (1 ≤ m → hL σ 29 (((n : Int) - m) * 61 + br) = -1000000000000000 → ∀ s, 0 ≤ s → s ≤ br → hL τ 28 (((n : Int) - m) * 61 + s) = sS oW oT A (wR A (TT A t0 n) (m - 1)) (vR oW oT A (TT A t0 n) (m - 1)) (TT A t0 n (m - 1)) br s) := by
  have hTT := TT_b (n := n) hR h0 h1
  intro m
  induction m with
  | zero =>
    intro N hmn hN σ br hb hb' q ps wh me
    obtain ⟨N', rfl⟩ : ∃ N', N = N' + 1 := ⟨N - 1, by omega⟩
    refine ⟨σ, ?_, fB_r, me, fun g => absurd g (by omega)⟩
    have e5 := ps.2
    rw [gg_2, show (n : Int) - ((0 : Nat) : Int) = n by omega]
    simp (disch := omega) only [fX0_bestFrom', z32_add, z32_sub, z32_mul, z32_neg, z32_litn, z32_lt, z32_le, z32_eq, iG_h, lG_h, iS_q, lS_q, aI_h, wI_h, aL_h, wL_h, ↓bnd_q, bnr_q, bnc_q, ↓reduceIte, ieqT, ieqF, iltT, iltF, ileT, ileF, not_true, not_false_iff, z64_add, z64_sub, z64_mul, z64_neg, z64_litn, z64_lt, z64_le, z64_eq, z32_64, z64_32, e5]
    rfl
  | succ m ih =>
    intro N hmn hN σ br hb hb' q ps wh me
    obtain ⟨N', rfl⟩ : ∃ N', N = N' + 2 := ⟨N - 2, by omega⟩
    have e5 := ps.2
    have tb := hTT m
    have hwb := wR_b hR hTT m
    have hvb := vR_b (oW := oW) (oT := oT) hR hTT m
    have hvb1 := vR_b (oW := oW) (oT := oT) hR hTT (m + 1) br hb hb'
    obtain ⟨⟨kw1, kw2⟩, kw3, kw4⟩ := wkb m (by omega)
    obtain ⟨-, kw5, kw6⟩ := wkb (m + 1) (by omega)
    have hc := (hR.2.2.2.2.1 _ tb.1 tb.2).2.1
    obtain ⟨S, hS⟩ : ∃ x, x = (n : Int) - (m + 1) := ⟨_, rfl⟩
    have ec : (n : Int) - ((m + 1 : Nat) : Int) = S := by omega
    rw [gg_2, ec, Nat.add_sub_cancel]
    have l1 := hL_lo σ 29 (S * 61 + br)
    have l2 := hL_hi σ 29 (S * 61 + br)
    by_cases hu : hL σ 29 (S * 61 + br) = -1000000000000000
    · obtain ⟨σ3, f1, f2, f3⟩ := fillR_z (σ := σ) (c := 28) (n := 244) (i := S * 61) (j := S * 61 + 61) (v := 0) (by omega) (by omega) (by omega) (by omega) (by omega)
      have fb3 : fB S σ σ3 := fB_28 f2 (fun k g0 g1 => by rw [f3 k g0, if_neg (by omega)])
      have q3 := qC_t q fb3.1
      have ps3 := PST_c ps fb3
      have etun := tunA_z q3 hR ps3.1 h0 h1 (s := S) (by omega) (by omega)
      rw [show (t0 + S) % vT A = TT A t0 n m by rw [hS]; unfold TT; congr 1; omega] at etun
      have efl := e_fl q3.1
      have ecn : hI σ3 (rp A.2.2.2.1 + 3) (TT A t0 n m) = vCnt A (TT A t0 n m) := by rw [e_road q3.1 (by omega) tb.1]; rfl
      have hT6 := hR.1
      have fin := zupP0 (β := Int64 × zS) (L := fun f x a => fX0_bestFrom'_64 (ggGX0_addPlanned (N' + 1)) f (z32 S) (z32 br) (z32 (S * 61)) (z32 (vCnt A (TT A t0 n m))) (z32 x) a) (n := vCnt A (TT A t0 n m)) (Q := fun r => ∃ τ, r = some (z64 (vR oW oT A (TT A t0 n) (m + 1) br), τ) ∧ fB S σ τ ∧ MEM oW oT A (TT A t0 n) n τ ∧ ∀ s, 0 ≤ s → s ≤ br → hL τ 28 (S * 61 + s) = sS oW oT A (wR A (TT A t0 n) m) (vR oW oT A (TT A t0 n) m) (TT A t0 n m) br s)
        (fun x τ => fB S σ τ ∧ MEM oW oT A (TT A t0 n) n τ ∧ ∀ s, 0 ≤ s → s ≤ br → hL τ 28 (S * 61 + s) = zs (fun k => vWt A (TT A t0 n m) k * (sWA oW A (TT A t0 n m) (vLen A (TT A t0 n m) k) (zmin (vLen A (TT A t0 n m) k) s) br * wR A (TT A t0 n) m + vR oW oT A (TT A t0 n) m (sTA oT A (TT A t0 n m) (vLen A (TT A t0 n m) k) (zmin (vLen A (TT A t0 n m) k) s) br))) x) (a := σ3) (by omega) (by omega)
        ⟨fb3, MEM_c me (fun k _ => f2.2.2 29 k (by omega)), fun s g0 g1 => by rw [f3 _ (by omega), if_pos (by omega), zs_0]⟩ ?_ ?_
      · obtain ⟨τ, r1, r2, r3, r4⟩ := fin
        refine ⟨τ, ?_, r2, r3, fun _ _ => r4⟩
        simp (disch := omega) only [fX0_bestFrom', z32_add, z32_sub, z32_mul, z32_neg, z32_litn, z32_lt, z32_le, z32_eq, iG_h, lG_h, iS_q, lS_q, aI_h, wI_h, aL_h, wL_h, ↓bnd_q, bnr_q, bnc_q, ↓reduceIte, ieqT, ieqF, iltT, iltF, ileT, ileF, not_true, not_false_iff, z64_add, z64_sub, z64_mul, z64_neg, z64_litn, z64_lt, z64_le, z64_eq, z32_64, z64_32, e5, hu, f1, etun, efl, ecn]
        exact r1
      · intro f x a hx hx' ⟨p1, p2, p3⟩
        obtain ⟨τ, a1, a2, a3, a4⟩ := ap_z (σ := a) (k := x) (br := br) hR hW hT h0 h1 hn (by omega : m < n) (ggGX0_addPlanned N') (fun σ br g0 g1 g2 g3 g4 g5 => by
          obtain ⟨τ, w1, w2, w3, -⟩ := ih N' (by omega) (by omega) σ br g0 g1 g2 g3 g4 g5
          exact ⟨τ, w1, w2, w3⟩) ⟨hb, hb'⟩ hx hx' (qC_t q p1.1) (PST_c ps p1) (WHO_c wh p1) p2 (fun j g0 g1 => by
          rw [← hS] at g0 g1
          have := p3 (j - S * 61) (by omega) (by omega)
          rw [show S * 61 + (j - S * 61) = j by omega] at this
          rw [this]
          have b := sS_p (oW := oW) (oT := oT) (s := j - S * 61) (R := vR oW oT A (TT A t0 n) m) hR tb.1 tb.2 ⟨hb, hb'⟩ hwb hvb hx (Int.le_of_lt hx')
          omega)
        rw [← hS] at a1 a2 a4
        refine ⟨τ, ?_, fB_t p1 a2, a3, fun s g0 g1 => ?_⟩
        · show fX0_bestFrom'_64 (ggGX0_addPlanned (N' + 1)) (f + 1) (z32 S) (z32 br) (z32 (S * 61)) (z32 (vCnt A (TT A t0 n m))) (z32 x) a = fX0_bestFrom'_64 (ggGX0_addPlanned (N' + 1)) f (z32 S) (z32 br) (z32 (S * 61)) (z32 (vCnt A (TT A t0 n m))) (z32 (x + 1)) τ
          rw [fX0_bestFrom'_64, gg_1, a1, bnr_q, z1p, if_neg (by rw [z32_le (by omega) (by omega) (by omega) (by omega)]; omega)]
        · rw [a4 s g0 g1, p3 s g0 g1, zs_s hx]
      · intro f a ⟨p1, p2, p3⟩
        have hbs := bestS_z (σ := a) (row := S * 61) (br := br) (g := sS oW oT A (wR A (TT A t0 n) m) (vR oW oT A (TT A t0 n) m) (TT A t0 n m) br) (by omega) (by omega) hb p3
        have ab := am_b (g := sS oW oT A (wR A (TT A t0 n) m) (vR oW oT A (TT A t0 n) m) (TT A t0 n m) br) hb
        have ev : hL a 28 (S * 61 + am (sS oW oT A (wR A (TT A t0 n) m) (vR oW oT A (TT A t0 n) m) (TT A t0 n m) br) br) = vR oW oT A (TT A t0 n) (m + 1) br := p3 _ ab.1 ab.2
        have eg : hL (kS a 29 (S * 61 + br) (vR oW oT A (TT A t0 n) (m + 1) br)) 29 (S * 61 + br) = vR oW oT A (TT A t0 n) (m + 1) br := by
          rw [hL_kS (by omega) (by omega) (by omega) (by omega), if_pos rfl]
        refine ⟨kS a 29 (S * 61 + br) (vR oW oT A (TT A t0 n) (m + 1) br), ?_, fB_t p1 (fB_29 oLa_k), fun m' b g1 g2 g3 g4 => ?_, fun s g0 g1 => ?_⟩
        · show fX0_bestFrom'_64 (ggGX0_addPlanned (N' + 1)) (f + 1) (z32 S) (z32 br) (z32 (S * 61)) (z32 (vCnt A (TT A t0 n m))) (z32 (vCnt A (TT A t0 n m))) a = _
          simp (disch := omega) only [fX0_bestFrom'_64, fX0_bestFrom'_106, z32_add, z32_sub, z32_mul, z32_neg, z32_litn, z32_lt, z32_le, z32_eq, iG_h, lG_h, iS_q, lS_q, aI_h, wI_h, aL_h, wL_h, ↓bnd_q, bnr_q, bnc_q, ↓reduceIte, ieqT, ieqF, iltT, iltF, ileT, ileF, not_true, not_false_iff, z64_add, z64_sub, z64_mul, z64_neg, z64_litn, z64_lt, z64_le, z64_eq, z32_64, z64_32, hbs, ev, eg]
        · rw [hL_kS (by omega) (by omega) (by omega) (by omega)]
          by_cases g5 : ((n : Int) - m') * 61 + b = S * 61 + br
          · rw [if_pos g5]
            right
            have g6 : m' = m + 1 := by omega
            have g7 : b = br := by omega
            rw [g6, g7]
          · rw [if_neg g5]; exact p2 m' b g1 g2 g3 g4
        · rw [hL_kS_ne (by omega)]; exact p3 s g0 g1
    · have hv : hL σ 29 (S * 61 + br) = vR oW oT A (TT A t0 n) (m + 1) br := by
        have := me (m + 1) br (by omega) hmn hb hb'
        rw [ec] at this
        rcases this with g | g
        · exact absurd g hu
        · exact g
      refine ⟨σ, ?_, fB_r, me, fun _ g => absurd g hu⟩
      rw [hv] at hu l1 l2
      simp (disch := omega) only [fX0_bestFrom', fX0_bestFrom'_106, z32_add, z32_sub, z32_mul, z32_neg, z32_litn, z32_lt, z32_le, z32_eq, iG_h, lG_h, iS_q, lS_q, aI_h, wI_h, aL_h, wL_h, ↓bnd_q, bnr_q, bnc_q, ↓reduceIte, ieqT, ieqF, iltT, iltF, ileT, ileF, not_true, not_false_iff, z64_add, z64_sub, z64_mul, z64_neg, z64_litn, z64_lt, z64_le, z64_eq, z32_64, z64_32, e5, hv]
def pS (oW oT : Option ((Int → Int) → Int)) (A : zS) (t0 : Int) (n : Nat) (br : Int) : Int := am (sS oW oT A (wR A (TT A t0 n) (n - 1)) (vR oW oT A (TT A t0 n) (n - 1)) (TT A t0 n (n - 1)) br) br
/-- what a plan leaves behind -/
def PLD (oW oT : Option ((Int → Int) → Int)) (A σ : zS) (t0 : Int) (n : Nat) (br : Int) : Prop := hI σ 27 4 = t0 ∧ hI σ 27 5 = n ∧ hI σ 27 6 = br ∧ hI σ 27 7 = pS oW oT A t0 n br ∧ hL σ 27 8 = vR oW oT A (TT A t0 n) n br ∧ hL σ 27 9 = wR A (TT A t0 n) n
/-- a plan that stands is true -/
def KPp (oW oT : Option ((Int → Int) → Int)) (A σ : zS) : Prop := hI σ 27 4 = -1 ∨ ∃ (t0 : Int) (n : Nat) (br : Int), (0 ≤ t0 ∧ t0 < vT A) ∧ (1 ≤ n ∧ n ≤ 4) ∧ (0 ≤ br ∧ br ≤ 60) ∧ PLD oW oT A σ t0 n br
/-- what a plan leaves as it was -/
def fP (σ τ : zS) : Prop := qC σ τ ∧ (∀ k, 10 ≤ k → hI τ 27 k = hI σ 27 k) ∧ ∀ k, 0 ≤ k → hI τ 31 k = hI σ 31 k
theorem fP_r : fP σ σ := ⟨qC_r σ, fun _ _ => rfl, fun _ _ => rfl⟩
theorem fP_t (h1 : fP σ τ) (h2 : fP τ υ) : fP σ υ := ⟨qC_t h1.1 h2.1, fun k a => (h2.2.1 k a).trans (h1.2.1 k a), fun k a => (h2.2.2 k a).trans (h1.2.2 k a)⟩
theorem fP_B (h : fB s σ τ) : fP σ τ := ⟨h.1, fun k a => (h.2.1 k (by omega)).1, h.2.2.2.1⟩
theorem qC_j27 {i v : Int} : qC σ (jS σ 27 i v) := ⟨⟨rfl, fun p k _ _ c _ _ => hI_jS_ne (by omega)⟩, fun p k a _ => ⟨hI_jS_ne (by omega), rfl⟩⟩
theorem qC_k {c : Nat} {i v : Int} (hc : 25 ≤ c ∧ c ≤ 31) : qC σ (kS σ c i v) := ⟨⟨rfl, fun p k _ _ _ _ _ => rfl⟩, fun p k a _ => ⟨rfl, hL_kS_ne (by omega)⟩⟩
theorem fP_j {i v : Int} (h0 : 0 ≤ i) (h1 : i < 10) : fP σ (jS σ 27 i v) := ⟨qC_j27, fun k a => hI_j0 h0 (by omega) (by omega), fun k _ => hI_jS_ne (by omega)⟩
theorem fP_k {c : Nat} {i v : Int} (hc : 25 ≤ c ∧ c ≤ 31) : fP σ (kS σ c i v) := ⟨qC_k hc, fun _ _ => rfl, fun _ _ => rfl⟩
theorem plan25_z (hR : okR σ) (hW : cSum σ 0 oW) (hT : cSum σ 1 oT) (h0 : 0 ≤ t0) (h1 : t0 < vT σ) (hn : 1 ≤ n) (hn' : n ≤ 4) (hb : 0 ≤ br ∧ br ≤ 60) : ∃ τ, fX0_plan_25 (z32 t0) (z32 (n : Int)) (z32 br) σ = some τ ∧ fP σ τ ∧ PLD oW oT σ τ t0 n br := by
  have hTT := TT_b (n := n) hR h0 h1
  have hT6 := hR.1
  obtain ⟨σ4, hσ4⟩ : ∃ x, x = kS (jS (jS (jS σ 27 4 t0) 27 5 (n : Int)) 27 6 br) 30 (n : Int) 1 := ⟨_, rfl⟩
  have f4 : fP σ σ4 := by
    rw [hσ4]
    exact fP_t (fP_t (fP_t (fP_j (by omega) (by omega)) (fP_j (by omega) (by omega))) (fP_j (by omega) (by omega))) (fP_k (by omega))
  have c4 : hI σ4 27 4 = t0 ∧ hI σ4 27 5 = n ∧ hI σ4 27 6 = br := by
    rw [hσ4]
    simp (disch := omega) only [hI_kS, hI_jS, ↓reduceIte, ieqT, ieqF, iltT, iltF, ileT, ileF, not_true, not_false_iff]
    simp
  have w4 : hL σ4 30 (n : Int) = 1 := by
    rw [hσ4, hL_kS (by omega) (by omega) (by omega) (by omega), if_pos rfl]
  have e1 : fX0_plan_25 (z32 t0) (z32 (n : Int)) (z32 br) σ = fX0_plan_52 zF (z32 br) (z32 ((n : Int) - 1)) σ4 := by
    rw [hσ4]
    simp (disch := omega) only [fX0_plan_25, z32_add, z32_sub, z32_mul, z32_neg, z32_litn, z32_lt, z32_le, z32_eq, iG_h, lG_h, iS_q, lS_q, aI_h, wI_h, aL_h, wL_h, ↓bnd_q, bnr_q, bnc_q, ↓reduceIte, ieqT, ieqF, iltT, iltF, ileT, ileF, not_true, not_false_iff, z64_add, z64_sub, z64_mul, z64_neg, z64_litn, z64_lt, z64_le, z64_eq, z32_64, z64_32]
  rw [e1]
  have fin := zupP0 (β := zS) (L := fun f x a => fX0_plan_52 f (z32 br) (z32 ((n : Int) - 1 - x)) a) (n := (n : Int)) (Q := fun r => ∃ τ, r = some τ ∧ fP σ τ ∧ PLD oW oT σ τ t0 n br)
    (fun x τ => fP σ τ ∧ (hI τ 27 4 = t0 ∧ hI τ 27 5 = n ∧ hI τ 27 6 = br) ∧ ∀ m : Nat, m ≤ n → (m : Int) ≤ x → hL τ 30 ((n : Int) - m) = wR σ (TT σ t0 n) m) (a := σ4) (by omega) (by omega)
    ⟨f4, c4, fun m g0 g1 => by
      have : m = 0 := by omega
      subst this
      rw [show (n : Int) - ((0 : Nat) : Int) = n by omega, w4]; rfl⟩ ?_ ?_
  · rw [show (n : Int) - 1 = (n : Int) - 1 - 0 by omega]; exact fin
  · intro f x a hx hx' ⟨p1, ⟨p2, p3, p4⟩, p5⟩
    obtain ⟨m, rfl⟩ := Int.eq_ofNat_of_zero_le hx
    have tb := hTT m
    have etun := tunA_z p1.1 hR p2 h0 h1 (s := (n : Int) - 1 - m) (by omega) (by omega)
    rw [show (t0 + ((n : Int) - 1 - m)) % vT σ = TT σ t0 n m from rfl] at etun
    have ew := cW_z (A := a) (t := TT σ t0 n m) (e_okR p1.1.1 hR) tb.1 (by rw [e_T p1.1.1]; exact tb.2)
    rw [e_W p1.1.1 tb.1] at ew
    have sb := sW_b hR tb.1 tb.2
    have e30 := p5 m (by omega) (by omega)
    have wb1 := wR_b hR hTT (m + 1)
    obtain ⟨⟨kw1, kw2⟩, -⟩ := wkb (m + 1) (by omega)
    have ewr : wR σ (TT σ t0 n) m * sW σ (TT σ t0 n m) = wR σ (TT σ t0 n) (m + 1) := rfl
    refine ⟨kS a 30 ((n : Int) - 1 - m) (wR σ (TT σ t0 n) (m + 1)), ?_, fP_t p1 (fP_k (by omega)), ⟨p2, p3, p4⟩, fun m' g0 g1 => ?_⟩
    · show fX0_plan_52 (f + 1) (z32 br) (z32 ((n : Int) - 1 - m)) a = fX0_plan_52 f (z32 br) (z32 ((n : Int) - 1 - ((m : Int) + 1))) _
      have x1 : (n : Int) - 1 - m + 1 = (n : Int) - m := by omega
      have x2 : (n : Int) - 1 - m + -1 = (n : Int) - 1 - ((m : Int) + 1) := by omega
      simp (disch := omega) only [fX0_plan_52, z32_add, z32_sub, z32_mul, z32_neg, z32_litn, z32_lt, z32_le, z32_eq, iG_h, lG_h, iS_q, lS_q, aI_h, wI_h, aL_h, wL_h, ↓bnd_q, bnr_q, bnc_q, ↓reduceIte, ieqT, ieqF, iltT, iltF, ileT, ileF, not_true, not_false_iff, z64_add, z64_sub, z64_mul, z64_neg, z64_litn, z64_lt, z64_le, z64_eq, z32_64, z64_32, x1, x2, etun, ew, e30, ewr]
    · rw [hL_kS (by omega) (by omega) (by omega) (by omega)]
      by_cases g2 : m' = m + 1
      · subst g2
        rw [if_pos (by omega)]
      · rw [if_neg (by omega)]; exact p5 m' g0 (by omega)
  · intro f a ⟨p1, ⟨p2, p3, p4⟩, p5⟩
    obtain ⟨B, b1, b2, b3⟩ := fillL_z (σ := a) (c := 29) (n := 244) (v := -1000000000000000) (by omega) (by omega)
    have fb : fB 0 a B := fB_29 b2
    have pB : PST t0 n B := ⟨(fb.2.1 4 (by omega)).1.trans p2, (fb.2.1 5 (by omega)).1.trans p3⟩
    have qB := qC_t p1.1 fb.1
    have wB : WHO σ (TT σ t0 n) n B := fun m g => by
      rw [fb.2.2.1 _ (by omega)]; exact p5 m g (by omega)
    obtain ⟨C, c1, c2, c3, c4'⟩ := bf_z (n := n) hR hW hT h0 h1 hn' n zD (by omega) (by unfold zD; omega) B br hb.1 hb.2 qB pB wB (fun m b g1 g2 g3 g4 => Or.inl (b3 _ (by omega) (by omega)))
    have c4 := c4' hn (b3 _ (by omega) (by omega))
    rw [show (n : Int) - (n : Int) = 0 by omega] at c1 c2 c4
    have vb := vR_b (oW := oW) (oT := oT) hR hTT n br hb.1 hb.2
    have wb1 := wR_b hR hTT n
    obtain ⟨⟨kw1, kw2⟩, kw3, kw4⟩ := wkb n hn'
    have e30 : hL C 30 0 = wR σ (TT σ t0 n) n := by
      rw [c2.2.2.1 0 (by omega)]
      have := wB n (by omega)
      rw [show (n : Int) - (n : Int) = 0 by omega] at this
      exact this
    obtain ⟨D, hD⟩ : ∃ x, x = kS (kS C 27 8 (vR oW oT σ (TT σ t0 n) n br)) 27 9 (wR σ (TT σ t0 n) n) := ⟨_, rfl⟩
    have eD28 : ∀ k, 0 ≤ k → hL D 28 k = hL C 28 k := fun k _ => by
      rw [hD, hL_kS_ne (by omega), hL_kS_ne (by omega)]
    have hbs := bestS_z (σ := D) (row := 0) (br := br) (g := sS oW oT σ (wR σ (TT σ t0 n) (n - 1)) (vR oW oT σ (TT σ t0 n) (n - 1)) (TT σ t0 n (n - 1)) br) (by omega) (by omega) hb.1 (fun s g0 g1 => by
      have := c4 s g0 g1
      rw [eD28 _ (by omega), ← this, Int.zero_mul])
    have ab := am_b (g := sS oW oT σ (wR σ (TT σ t0 n) (n - 1)) (vR oW oT σ (TT σ t0 n) (n - 1)) (TT σ t0 n (n - 1)) br) hb.1
    rw [show am (sS oW oT σ (wR σ (TT σ t0 n) (n - 1)) (vR oW oT σ (TT σ t0 n) (n - 1)) (TT σ t0 n (n - 1)) br) br = pS oW oT σ t0 n br from rfl] at hbs ab
    refine ⟨jS D 27 7 (pS oW oT σ t0 n br), ?_, fP_t (fP_t (fP_t p1 (fP_B fb)) (fP_B c2)) (by rw [hD]; exact fP_t (fP_t (fP_k (by omega)) (fP_k (by omega))) (fP_j (by omega) (by omega))), ?_⟩
    · show fX0_plan_52 (f + 1) (z32 br) (z32 ((n : Int) - 1 - n)) a = _
      rw [← show (0 : Int32) = z32 0 from z32_litn 0] at c1
      have c1' : fX0_bestFrom zD 0 (z32 br) B = some (z64 (vR oW oT σ (TT σ t0 n) n br), C) := c1
      have eun : ((-1000000000000000) : Int64) = z64 (-1000000000000000) := by rw [z64_litn, z64_neg]
      rw [← eun] at b1
      rw [fX0_plan_52, if_pos (by rw [z32_litn, z32_lt (by omega) (by omega) (by omega) (by omega)]; omega), b1, bnr_q, c1', bnc_q, bnd_q]
      dsimp only
      rw [lS_q, show (0 : Int32) = z32 0 from z32_litn 0, aL_h (by omega) (by omega) (by omega), hL_kS_ne (by omega), e30, bnd_q, lS_q, ← hD, hbs, bnr_q, bnd_q]
      rfl
    · have k27 : ∀ k, 0 ≤ k → k ≤ 6 → hI (jS D 27 7 (pS oW oT σ t0 n br)) 27 k = hI a 27 k := fun k g0 g1 => by
        rw [hI_jS (by omega) g0 (by omega) (by omega), if_neg (by omega), hD]
        show hI C 27 k = _
        rw [(c2.2.1 k g0).1, (fb.2.1 k g0).1]
      refine ⟨(k27 4 (by omega) (by omega)).trans p2, (k27 5 (by omega) (by omega)).trans p3, (k27 6 (by omega) (by omega)).trans p4, ?_, ?_, ?_⟩
      · rw [hI_jS (by omega) (by omega) (by omega) (by omega), if_pos rfl]
      · rw [hL_jS, hD, hL_kS (by omega) (by omega) (by omega) (by omega), if_neg (by omega), hL_kS (by omega) (by omega) (by omega) (by omega), if_pos rfl]
      · rw [hL_jS, hD, hL_kS (by omega) (by omega) (by omega) (by omega), if_pos rfl]
theorem plan_z (hR : okR σ) (hW : cSum σ 0 oW) (hT : cSum σ 1 oT) (hk : KPp oW oT σ σ) (h0 : 0 ≤ t0) (h1 : t0 < vT σ) (hn : 1 ≤ n) (hn' : n ≤ 4) (hb : 0 ≤ br ∧ br ≤ 60) : ∃ τ, fX0_plan (z32 t0) (z32 (n : Int)) (z32 br) σ = some τ ∧ fP σ τ ∧ PLD oW oT σ τ t0 n br := by
  have hT6 := hR.1
  obtain ⟨τ, t1, t2, t3⟩ := plan25_z (oW := oW) (oT := oT) hR hW hT h0 h1 hn hn' hb
  have a1 := hI_lo σ 27 4
  have a2 := hI_hi σ 27 4
  have b1 := hI_lo σ 27 5
  have b2 := hI_hi σ 27 5
  have c1 := hI_lo σ 27 6
  have c2 := hI_hi σ 27 6
  by_cases g4 : hI σ 27 4 = t0
  · by_cases g5 : hI σ 27 5 = n
    · by_cases g6 : hI σ 27 6 = br
      · refine ⟨σ, ?_, fP_r, ?_⟩
        · simp (disch := omega) only [fX0_plan, z32_add, z32_sub, z32_mul, z32_neg, z32_litn, z32_lt, z32_le, z32_eq, iG_h, lG_h, iS_q, lS_q, aI_h, wI_h, aL_h, wL_h, ↓bnd_q, bnr_q, bnc_q, ↓reduceIte, ieqT, ieqF, iltT, iltF, ileT, ileF, not_true, not_false_iff, g4, g5, g6]
        · rcases hk with hk | ⟨t', n', br', k1, k2, k3, k4⟩
          · omega
          · have e1 := k4.1
            have e2 := k4.2.1
            have e3 := k4.2.2.1
            have x1 : t' = t0 := by omega
            have x2 : n' = n := by omega
            have x3 : br' = br := by omega
            rw [x1, x2, x3] at k4
            exact k4
      · refine ⟨τ, ?_, t2, t3⟩
        simp (disch := omega) only [fX0_plan, z32_add, z32_sub, z32_mul, z32_neg, z32_litn, z32_lt, z32_le, z32_eq, iG_h, lG_h, iS_q, lS_q, aI_h, wI_h, aL_h, wL_h, ↓bnd_q, bnr_q, bnc_q, ↓reduceIte, ieqT, ieqF, iltT, iltF, ileT, ileF, not_true, not_false_iff, g4, g5]
        exact t1
    · refine ⟨τ, ?_, t2, t3⟩
      simp (disch := omega) only [fX0_plan, z32_add, z32_sub, z32_mul, z32_neg, z32_litn, z32_lt, z32_le, z32_eq, iG_h, lG_h, iS_q, lS_q, aI_h, wI_h, aL_h, wL_h, ↓bnd_q, bnr_q, bnc_q, ↓reduceIte, ieqT, ieqF, iltT, iltF, ileT, ileF, not_true, not_false_iff, g4]
      exact t1
  · refine ⟨τ, ?_, t2, t3⟩
    simp (disch := omega) only [fX0_plan, z32_add, z32_sub, z32_mul, z32_neg, z32_litn, z32_lt, z32_le, z32_eq, iG_h, lG_h, iS_q, lS_q, aI_h, wI_h, aL_h, wL_h, ↓bnd_q, bnr_q, bnc_q, ↓reduceIte, ieqT, ieqF, iltT, iltF, ileT, ileF, not_true, not_false_iff]
    exact t1
end FR

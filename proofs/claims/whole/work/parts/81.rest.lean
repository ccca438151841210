/-! MY OWN: AT REST, rounds, both sides -/
def vB0 (A : zS) (h : Int) : Int := if 0 ≤ h then vBr A h else 0
theorem vB0_p {A : zS} {h : Int} (g : 0 ≤ h) : vB0 A h = vBr A h := if_pos g
def KPs (oW : Option ((Int → Int) → Int)) (A σ : zS) : Prop := hI σ 27 10 = -1 ∨ ∃ t, (0 ≤ t ∧ t < vT A) ∧ hI σ 27 10 = t ∧ hI σ 27 12 = (resR oW A t 12 (vB0 A) 1).2 ∧ ∀ h, 0 ≤ h → h < vH A → hI σ 31 h = (resR oW A t 12 (vB0 A) 1).1 h
/-- as fS, but for the row of seconds -/
def fT (σ τ : zS) : Prop := qC σ τ ∧ (∀ k, 0 ≤ k → hI τ 27 k = hI σ 27 k ∧ hL τ 27 k = hL σ 27 k)
section RS
variable {A B σ τ υ : zS} {oW oT : Option ((Int → Int) → Int)} {t br s k l h wt a b c r : Int} {R : Int → Int} {n m : Nat}
theorem fT_r : fT σ σ := ⟨qC_r σ, fun _ _ => ⟨rfl, rfl⟩⟩
theorem fT_t (h1 : fT σ τ) (h2 : fT τ υ) : fT σ υ := ⟨qC_t h1.1 h2.1, fun k a => ⟨(h2.2 k a).1.trans (h1.2 k a).1, (h2.2 k a).2.trans (h1.2 k a).2⟩⟩
theorem fS_T (h : fS σ τ) : fT σ τ := ⟨h.1, h.2.1⟩
theorem fT_31 {i v : Int} : fT σ (jS σ 31 i v) := ⟨⟨⟨rfl, fun p k _ _ c _ _ => hI_jS_ne (by omega)⟩, fun p k a _ => ⟨hI_jS_ne (by omega), rfl⟩⟩, fun k _ => ⟨hI_jS_ne (by omega), rfl⟩⟩
theorem stR_b (hN : okN A) (hh0 : 0 ≤ h) (hh1 : h < vH A) (ok : okRs A R) : okRs A (stR oW A t R h) := by
  intro o g0 g1
  unfold stR
  split
  · exact ok o g0 g1
  · by_cases g : o = h
    · subst g
      simp only [if_true]
      have := am_b (g := wB oW A t R o) (hN.2 o hh0 hh1).1.1
      exact this
    · simp only [if_neg g]
      exact ok o g0 g1
theorem rnR_b (hN : okN A) (ok : okRs A R) (n : Nat) (hn : (n : Int) ≤ vH A) : okRs A (rnR oW A t R n).1 ∧ ((rnR oW A t R n).2 = 0 ∨ (rnR oW A t R n).2 = 1) := by
  induction n with
  | zero => exact ⟨ok, Or.inl rfl⟩
  | succ n ih =>
    obtain ⟨i1, i2⟩ := ih (by omega)
    refine ⟨stR_b hN (by omega) (by omega) i1, ?_⟩
    show (if mvR oW A t (rnR oW A t R n).1 n = 0 then (rnR oW A t R n).2 else 1) = 0 ∨ (if mvR oW A t (rnR oW A t R n).1 n = 0 then (rnR oW A t R n).2 else 1) = 1
    split
    · exact i2
    · exact Or.inr rfl
theorem any_z (hR : okR A) (hN : okN A) (hW : cSum A 0 oW) (q : qC A σ) (h31 : ∀ o, 0 ≤ o → o < vH A → hI σ 31 o = R o) (ok : okRs A R) (h0 : 0 ≤ t) (h1 : t < vT A) : ∃ τ, fX0_isAnyMoved (z32 t) σ = some (z32 (rnR oW A t R (vH A).toNat).2, τ) ∧ fT σ τ ∧ ∀ o, 0 ≤ o → o < vH A → hI τ 31 o = (rnR oW A t R (vH A).toNat).1 o := by
  have hH := hR.2.1
  rw [fX0_isAnyMoved, show (0 : Int32) = z32 0 from z32_litn 0]
  refine zupP0 (β := Int32 × zS) (L := fun f x a => fX0_isAnyMoved_4 f (z32 t) (z32 (rnR oW A t R x.toNat).2) (z32 x) a) (n := vH A) (Q := fun r => ∃ τ, r = some (z32 (rnR oW A t R (vH A).toNat).2, τ) ∧ fT σ τ ∧ ∀ o, 0 ≤ o → o < vH A → hI τ 31 o = (rnR oW A t R (vH A).toNat).1 o)
    (fun x a => fT σ a ∧ ∀ o, 0 ≤ o → o < vH A → hI a 31 o = (rnR oW A t R x.toNat).1 o) (a := σ) hH.1 (by omega) ⟨fT_r, h31⟩ ?_ ?_
  · intro f x a hx hx' ⟨p1, p2⟩
    obtain ⟨m, rfl⟩ := Int.eq_ofNat_of_zero_le hx
    have e1 : ((m : Int)).toNat = m := by omega
    have e2 : ((m : Int) + 1).toNat = m + 1 := by omega
    rw [e1] at p2
    have qa := qC_t q p1.1
    obtain ⟨ok', mv'⟩ := rnR_b (oW := oW) (t := t) hN ok m (by omega)
    have hbr := (hN.2 m hx hx').1
    have ebr : hI a 5 (50 + (m : Int)) = vBr A m := by rw [e_row qa.1 (by omega)]; rfl
    have eH : hI a (rp A.2.2.2.1 + 0) 2 = vH A := by rw [e_road qa.1 (by omega) (by omega)]; rfl
    have efl := e_fl qa.1
    have okm := ok' m hx hx'
    obtain ⟨B1, b1, b2, b3⟩ := fag_z (σ := a) (h := (m : Int)) (br := vBr A m) hR hN hW qa p2 (fun o g0 g1 => by
      have := ok' o g0 g1
      have := (hN.2 o g0 g1).1
      omega) hx hx' h0 h1 hbr
    have hbs := bestS_z (σ := B1) (row := 0) (br := vBr A m) (g := wB oW A t (rnR oW A t R m).1 m) (by omega) (by omega) hbr.1 (fun s g0 g1 => by rw [Int.zero_add]; exact b3 s g0 g1)
    have ab := am_b (g := wB oW A t (rnR oW A t R m).1 m) hbr.1
    have v7 := b3 _ ab.1 ab.2
    have v9 := b3 _ okm.1 okm.2
    have e31 : hI B1 31 (m : Int) = (rnR oW A t R m).1 m := by rw [b2.2.2 _ hx]; exact p2 m hx hx'
    have w1 := wB_b (oW := oW) (h := (m : Int)) (s := am (wB oW A t (rnR oW A t R m).1 m) (vBr A m)) (R := (rnR oW A t R m).1) hR h0 h1
    have w2 := wB_b (oW := oW) (h := (m : Int)) (s := (rnR oW A t R m).1 m) (R := (rnR oW A t R m).1) hR h0 h1
    have pre : fX0_isAnyMoved_4 (f + 1) (z32 t) (z32 (rnR oW A t R m).2) (z32 (m : Int)) a = if z64 (wB oW A t (rnR oW A t R m).1 m (am (wB oW A t (rnR oW A t R m).1 m) (vBr A m))) ≤ z64 (wB oW A t (rnR oW A t R m).1 m ((rnR oW A t R m).1 m)) then fX0_isAnyMoved_80 (fX0_isAnyMoved_4 f) (z32 t) (z32 (rnR oW A t R m).2) (z32 (m : Int)) B1 else wI B1 31 6 (z32 (m : Int)) (z32 (am (wB oW A t (rnR oW A t R m).1 m) (vBr A m))) fun σ10 => fX0_isAnyMoved_80 (fX0_isAnyMoved_4 f) (z32 t) 1 (z32 (m : Int)) σ10 := by
      rw [fX0_isAnyMoved_4, efl, show iG a (rp A.2.2.2.1 + 0) 2 = z32 (hI a (rp A.2.2.2.1 + 0) 2) from iG_h _ _ 2, eH, if_neg (by rw [z32_le (by omega) (by omega) (by omega) (by omega)]; omega)]
      unfold fX7_breathOf
      rw [show (50 : Int32) = z32 50 from z32_litn 50, z32_add, aI_h (by omega) (by omega) (by omega), ebr, bnr_q, b1, bnr_q, show (0 : Int32) = z32 0 from z32_litn 0, hbs, bnr_q, aL_h (by omega) (by omega) (by omega), v7, aI_h (by omega) (by omega) (by omega), e31, aL_h (by omega) (by omega) (by omega), v9]
    show ∃ a', fX0_isAnyMoved_4 (f + 1) (z32 t) (z32 (rnR oW A t R ((m : Int)).toNat).2) (z32 (m : Int)) a = fX0_isAnyMoved_4 f (z32 t) (z32 (rnR oW A t R ((m : Int) + 1).toNat).2) (z32 ((m : Int) + 1)) a' ∧ fT σ a' ∧ ∀ o, 0 ≤ o → o < vH A → hI a' 31 o = (rnR oW A t R ((m : Int) + 1).toNat).1 o
    rw [e1, e2, pre]
    have n1 : (rnR oW A t R (m + 1)).1 = stR oW A t (rnR oW A t R m).1 m := rfl
    have n2 : (rnR oW A t R (m + 1)).2 = if mvR oW A t (rnR oW A t R m).1 m = 0 then (rnR oW A t R m).2 else 1 := rfl
    rw [n1, n2]
    unfold stR mvR fX0_isAnyMoved_80
    by_cases gc : wB oW A t (rnR oW A t R m).1 m (am (wB oW A t (rnR oW A t R m).1 m) (vBr A m)) ≤ wB oW A t (rnR oW A t R m).1 m ((rnR oW A t R m).1 m)
    · refine ⟨B1, ?_, fT_t p1 (fS_T b2), fun o g0 g1 => ?_⟩
      · rw [if_pos (by rw [z64_le (by omega) (by omega) (by omega) (by omega)]; exact gc), if_pos gc, if_pos rfl, z1p]
      · rw [if_pos gc, b2.2.2 o g0]; exact p2 o g0 g1
    · refine ⟨jS B1 31 (m : Int) (am (wB oW A t (rnR oW A t R m).1 m) (vBr A m)), ?_, fT_t p1 (fT_t (fS_T b2) fT_31), fun o g0 g1 => ?_⟩
      · rw [if_neg (by rw [z64_le (by omega) (by omega) (by omega) (by omega)]; exact gc), if_neg gc, if_neg (by omega), wI_h (by omega) (by omega) (by omega), z1p, show (1 : Int32) = z32 1 from z32_litn 1]
      · rw [if_neg gc, hI_jS hx g0 (by omega) (by omega)]
        by_cases g : o = (m : Int)
        · rw [if_pos g, if_pos g]
        · rw [if_neg g, if_neg g, b2.2.2 o g0]; exact p2 o g0 g1
  · intro f a ⟨p1, p2⟩
    have qa := qC_t q p1.1
    have eH : hI a (rp A.2.2.2.1 + 0) 2 = vH A := by rw [e_road qa.1 (by omega) (by omega)]; rfl
    have efl := e_fl qa.1
    obtain ⟨-, mv'⟩ := rnR_b (oW := oW) (t := t) hN ok (vH A).toNat (by omega)
    refine ⟨a, ?_, p1, p2⟩
    show fX0_isAnyMoved_4 (f + 1) (z32 t) (z32 (rnR oW A t R (vH A).toNat).2) (z32 (vH A)) a = _
    rw [fX0_isAnyMoved_4, efl, show iG a (rp A.2.2.2.1 + 0) 2 = z32 (hI a (rp A.2.2.2.1 + 0) 2) from iG_h _ _ 2, eH, if_pos (by rw [z32_le (by omega) (by omega) (by omega) (by omega)]; omega), gd_pos]
    rcases mv' with g | g
    · rw [g]; exact Or.inl z00
    · rw [g]; exact Or.inr (by rw [z32_litn])
/-- what a settling leaves as it was -/
def fU (σ τ : zS) : Prop := qC σ τ ∧ (∀ k, 0 ≤ k → k < 10 → hI τ 27 k = hI σ 27 k) ∧ (∀ k, 0 ≤ k → hL τ 27 k = hL σ 27 k) ∧ hI τ 27 10 = hI σ 27 10
theorem fU_r : fU σ σ := ⟨qC_r σ, fun _ _ _ => rfl, fun _ _ => rfl, rfl⟩
theorem fU_t (h1 : fU σ τ) (h2 : fU τ υ) : fU σ υ := ⟨qC_t h1.1 h2.1, fun k a b => (h2.2.1 k a b).trans (h1.2.1 k a b), fun k a => (h2.2.2.1 k a).trans (h1.2.2.1 k a), h2.2.2.2.trans h1.2.2.2⟩
theorem fT_U (h : fT σ τ) : fU σ τ := ⟨h.1, fun k a _ => (h.2 k a).1, fun k a => (h.2 k a).2, (h.2 10 (by omega)).1⟩
theorem fU_12 {v : Int} : fU σ (jS σ 27 12 v) := ⟨qC_j27, fun k a b => hI_j0 (by omega) a (by omega), fun _ _ => rfl, hI_j0 (by omega) (by omega) (by omega)⟩
theorem s61_z (hR : okR A) (hN : okN A) (hW : cSum A 0 oW) (h0 : 0 ≤ t) (h1 : t < vT A) : ∀ (d : Nat) (r : Int) (R : Int → Int) (f : Nat) (σ : zS), r + d = 13 → d < f → 1 ≤ r → qC A σ → (∀ o, 0 ≤ o → o < vH A → hI σ 31 o = R o) → okRs A R → hI σ 27 12 = 13 → ∃ τ, fX0_settle_61 f (z32 t) (z32 r) σ = some τ ∧ fU σ τ ∧ hI τ 27 12 = (resR oW A t d R r).2 ∧ ∀ o, 0 ≤ o → o < vH A → hI τ 31 o = (resR oW A t d R r).1 o := by
  intro d
  induction d with
  | zero =>
    intro r R f σ hr hf hr1 q h31 ok h12
    obtain ⟨g, rfl⟩ : ∃ g, f = g + 1 := ⟨f - 1, by omega⟩
    refine ⟨σ, ?_, fU_r, h12, h31⟩
    rw [fX0_settle_61, if_pos (by rw [z32_litn, z32_lt (by omega) (by omega) (by omega) (by omega)]; omega)]
  | succ d ih =>
    intro r R f σ hr hf hr1 q h31 ok h12
    obtain ⟨g, rfl⟩ : ∃ g, f = g + 1 := ⟨f - 1, by omega⟩
    obtain ⟨B, b1, b2, b3⟩ := any_z hR hN hW q h31 ok h0 h1
    obtain ⟨ok', mv'⟩ := rnR_b (oW := oW) (t := t) hN ok (vH A).toNat (by have := hR.2.1; omega)
    have pre : fX0_settle_61 (g + 1) (z32 t) (z32 r) σ = if z32 (rnR oW A t R (vH A).toNat).2 = 0 then some (jS B 27 12 r) else fX0_settle_61 g (z32 t) (z32 (r + 1)) B := by
      rw [fX0_settle_61, if_neg (by rw [z32_litn, z32_lt (by omega) (by omega) (by omega) (by omega)]; omega), b1, bnc_q, z1p, iS_q, bnd_q]
    rw [pre]
    unfold resR
    by_cases gm : (rnR oW A t R (vH A).toNat).2 = 0
    · rw [if_pos (by rw [gm]; exact z00), if_pos gm]
      refine ⟨_, rfl, fU_t (fT_U b2) fU_12, ?_, fun o g0 g1 => ?_⟩
      · rw [hI_jS (by omega) (by omega) (by omega) (by omega), if_pos rfl]
      · rw [hI_jS_ne (by omega)]; exact b3 o g0 g1
    · have gm' : (rnR oW A t R (vH A).toNat).2 = 1 := by omega
      rw [if_neg (by rw [gm']; exact z10), if_neg gm]
      obtain ⟨τ, t1, t2, t3, t4⟩ := ih (r + 1) _ g B (by omega) (by omega) (by omega) (qC_t q b2.1) b3 ok' (by rw [(b2.2 12 (by omega)).1]; exact h12)
      exact ⟨τ, t1, fU_t (fT_U b2) t2, t3, t4⟩
theorem settle_z (hR : okR A) (hN : okN A) (hW : cSum A 0 oW) (hk : KPs oW A A) (h0 : 0 ≤ t) (h1 : t < vT A) : ∃ τ, fX0_settle (z32 t) A = some τ ∧ qC A τ ∧ (∀ k, 0 ≤ k → k < 10 → hI τ 27 k = hI A 27 k) ∧ (∀ k, 0 ≤ k → hL τ 27 k = hL A 27 k) ∧ hI τ 27 10 = t ∧ hI τ 27 12 = (resR oW A t 12 (vB0 A) 1).2 ∧ ∀ h, 0 ≤ h → h < vH A → hI τ 31 h = (resR oW A t 12 (vB0 A) 1).1 h := by
  have hT := hR.1
  have hH := hR.2.1
  have a1 := hI_lo A 27 10
  have a2 := hI_hi A 27 10
  by_cases gt : hI A 27 10 = t
  · refine ⟨A, ?_, qC_r A, fun _ _ _ => rfl, fun _ _ => rfl, gt, ?_⟩
    · rw [fX0_settle, show iG A 27 10 = z32 (hI A 27 10) from iG_h A 27 10, gt, if_pos rfl]
    · rcases hk with hk | ⟨t', k1, k2, k3, k4⟩
      · omega
      · have : t' = t := by omega
        subst this
        exact ⟨k3, k4⟩
  · obtain ⟨σ1, hσ1⟩ : ∃ x, x = jS A 27 10 t := ⟨_, rfl⟩
    have q1 : qC A σ1 := by rw [hσ1]; exact qC_j27
    have pre : fX0_settle (z32 t) A = fX0_settle_16 zF (z32 t) (z32 0) σ1 := by
      rw [fX0_settle, show iG A 27 10 = z32 (hI A 27 10) from iG_h A 27 10, if_neg (by rw [z32_eq (by omega) (by omega) (by omega) (by omega)]; exact gt), iS_q, bnd_q, show (0 : Int32) = z32 0 from z32_litn 0, hσ1]
    rw [pre]
    obtain ⟨σ2, s1, s2, s3⟩ : ∃ σ2, fX0_settle_16 zF (z32 t) (z32 0) σ1 = fX0_settle_61 zF (z32 t) (z32 1) (jS σ2 27 12 13) ∧ fT σ1 σ2 ∧ ∀ o, 0 ≤ o → o < vH A → hI σ2 31 o = vBr A o := by
      refine zupP0 (β := zS) (L := fun f x a => fX0_settle_16 f (z32 t) (z32 x) a) (n := vH A) (Q := fun r => ∃ σ2, r = fX0_settle_61 zF (z32 t) (z32 1) (jS σ2 27 12 13) ∧ fT σ1 σ2 ∧ ∀ o, 0 ≤ o → o < vH A → hI σ2 31 o = vBr A o)
        (fun x a => fT σ1 a ∧ ∀ o, 0 ≤ o → o < x → hI a 31 o = vBr A o) (a := σ1) hH.1 (by omega) ⟨fT_r, fun o g0 g1 => by omega⟩ ?_ ?_
      · intro f x a hx hx' ⟨p1, p2⟩
        have qa := qC_t q1 p1.1
        have eH : hI a (rp A.2.2.2.1 + 0) 2 = vH A := by rw [e_road qa.1 (by omega) (by omega)]; rfl
        have efl := e_fl qa.1
        have hbr := (hN.2 x hx hx').1
        have ebr : hI a 5 (50 + x) = vBr A x := by rw [e_row qa.1 (by omega)]; rfl
        refine ⟨jS a 31 x (vBr A x), ?_, fT_t p1 fT_31, fun o g0 g1 => ?_⟩
        · simp (disch := omega) only [fX0_settle_16, fX7_breathOf, z32_add, z32_sub, z32_mul, z32_neg, z32_litn, z32_lt, z32_le, z32_eq, iG_h, lG_h, iS_q, lS_q, aI_h, wI_h, aL_h, wL_h, ↓bnd_q, bnr_q, bnc_q, ↓reduceIte, ieqT, ieqF, iltT, iltF, ileT, ileF, not_true, not_false_iff, efl, eH, ebr]
        · rw [hI_jS hx g0 (by omega) (by omega)]
          by_cases g : o = x
          · rw [if_pos g, g]
          · rw [if_neg g]; exact p2 o g0 (by omega)
      · intro f a ⟨p1, p2⟩
        have qa := qC_t q1 p1.1
        have eH : hI a (rp A.2.2.2.1 + 0) 2 = vH A := by rw [e_road qa.1 (by omega) (by omega)]; rfl
        have efl := e_fl qa.1
        refine ⟨a, ?_, p1, p2⟩
        simp (disch := omega) only [fX0_settle_16, z32_add, z32_sub, z32_mul, z32_neg, z32_litn, z32_lt, z32_le, z32_eq, iG_h, lG_h, iS_q, lS_q, aI_h, wI_h, aL_h, wL_h, ↓bnd_q, bnr_q, bnc_q, ↓reduceIte, ieqT, ieqF, iltT, iltF, ileT, ileF, not_true, not_false_iff, efl, eH]
    have f2 : fU σ1 (jS σ2 27 12 13) := fU_t (fT_U s2) fU_12
    obtain ⟨τ, t1, t2, t3, t4⟩ := s61_z (oW := oW) hR hN hW h0 h1 12 1 (vB0 A) zF (jS σ2 27 12 13) (by omega) (by unfold zF; omega) (by omega) (qC_t q1 f2.1) (fun o g0 g1 => by rw [hI_jS_ne (by omega), vB0_p g0]; exact s3 o g0 g1) (fun o g0 g1 => by rw [vB0_p g0]; exact ⟨(hN.2 o g0 g1).1.1, Int.le_refl _⟩) (by rw [hI_jS (by omega) (by omega) (by omega) (by omega), if_pos rfl])
    have f3 := fU_t f2 t2
    refine ⟨τ, by rw [s1]; exact t1, qC_t q1 f3.1, fun k g0 g1 => ?_, fun k g0 => ?_, ?_, t3, t4⟩
    · rw [f3.2.1 k g0 g1, hσ1, hI_jS (by omega) g0 (by omega) (by omega), if_neg (by omega)]
    · rw [f3.2.2.1 k g0, hσ1, hL_jS]
    · rw [f3.2.2.2, hσ1, hI_jS (by omega) (by omega) (by omega) (by omega), if_pos rfl]
end RS

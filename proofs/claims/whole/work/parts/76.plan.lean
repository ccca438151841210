/-! MY OWN: ON: what is best from a stage on, the one side's memo -/
def sS (oW oT : Option ((Int → Int) → Int)) (A : zS) (W : Int) (R : Int → Int) (t br s : Int) : Int := zs (fun k => vWt A t k * (sWA oW A t (vLen A t k) (zmin (vLen A t k) s) br * W + R (sTA oT A t (vLen A t k) (zmin (vLen A t k) s) br))) (vCnt A t)
def wR (A : zS) (T : Nat → Int) : Nat → Int
  | 0 => 1
  | m + 1 => wR A T m * sW A (T m)
def vR (oW oT : Option ((Int → Int) → Int)) (A : zS) (T : Nat → Int) : Nat → Int → Int
  | 0 => fun _ => 0
  | m + 1 => fun br => sS oW oT A (wR A T m) (vR oW oT A T m) (T m) br (am (sS oW oT A (wR A T m) (vR oW oT A T m) (T m) br) br)
def wb : Nat → Int
  | 0 => 1
  | m + 1 => 36 * wb m
def kb : Nat → Int
  | 0 => 0
  | m + 1 => 36 * (999 * wb m + kb m)
theorem wkb (m : Nat) (h : m ≤ 4) : (1 ≤ wb m ∧ wb m ≤ 1679616) ∧ (0 ≤ kb m ∧ kb m ≤ 6711745536) := by
  rcases (by omega : m = 0 ∨ m = 1 ∨ m = 2 ∨ m = 3 ∨ m = 4) with g | g | g | g | g <;> subst g <;> decide
theorem mulb {a b x y : Int} (h1 : -a ≤ x) (h2 : x ≤ a) (h3 : 0 ≤ y) (h4 : y ≤ b) : -(a * b) ≤ x * y ∧ x * y ≤ a * b := by
  have ha : 0 ≤ a := by omega
  have e1 : x * y ≤ a * y := Int.mul_le_mul_of_nonneg_right h2 h3
  have e2 : a * y ≤ a * b := Int.mul_le_mul_of_nonneg_left h4 ha
  have e3 : (-a) * y ≤ x * y := Int.mul_le_mul_of_nonneg_right h1 h3
  have e4 : (-a) * y = -(a * y) := Int.neg_mul a y
  omega
section PL
variable {A B σ τ υ : zS} {oW oT : Option ((Int → Int) → Int)} {t br s k l W w0 k0 t0 : Int} {R : Int → Int} {T : Nat → Int} {n m : Nat}
theorem tm_b (hR : okR A) (h0 : 0 ≤ t) (h1 : t < vT A) (hk : 0 ≤ k) (hk' : k < vCnt A t) (hb : 0 ≤ br ∧ br ≤ 60) (hW : 1 ≤ W ∧ W ≤ w0) (hRb : ∀ b, 0 ≤ b → b ≤ 60 → -k0 ≤ R b ∧ R b ≤ k0) : (-(9 * (999 * w0 + k0)) ≤ vWt A t k * (sWA oW A t (vLen A t k) s br * W + R (sTA oT A t (vLen A t k) s br)) ∧ vWt A t k * (sWA oW A t (vLen A t k) s br * W + R (sTA oT A t (vLen A t k) s br)) ≤ 9 * (999 * w0 + k0)) ∧ (-(999 * w0 + k0) ≤ sWA oW A t (vLen A t k) s br * W + R (sTA oT A t (vLen A t k) s br) ∧ sWA oW A t (vLen A t k) s br * W + R (sTA oT A t (vLen A t k) s br) ≤ 999 * w0 + k0) ∧ (-(999 * w0) ≤ sWA oW A t (vLen A t k) s br * W ∧ sWA oW A t (vLen A t k) s br * W ≤ 999 * w0) := by
  have hw := ((hR.2.2.2.2.1 t h0 h1).2.2 k hk hk').2
  have b1 := sWA_b (oW := oW) (A := A) (t := t) (l := vLen A t k) (s := s) (br := br)
  have b2 := sTA_b (oT := oT) (A := A) (t := t) (l := vLen A t k) (s := s) hb
  have b3 := hRb _ b2.1 b2.2
  obtain ⟨m1, m2⟩ := mulb (a := 999) (b := w0) (x := sWA oW A t (vLen A t k) s br) (y := W) b1.1 b1.2 (by omega) hW.2
  obtain ⟨m3, m4⟩ := mulb (a := 999 * w0 + k0) (b := 9) (x := sWA oW A t (vLen A t k) s br * W + R (sTA oT A t (vLen A t k) s br)) (y := vWt A t k) (by omega) (by omega) (by omega) (by omega)
  refine ⟨⟨?_, ?_⟩, ⟨by omega, by omega⟩, m1, m2⟩
  · rw [Int.mul_comm (vWt A t k)]; omega
  · rw [Int.mul_comm (vWt A t k)]; omega
theorem sS_p (hR : okR A) (h0 : 0 ≤ t) (h1 : t < vT A) (hb : 0 ≤ br ∧ br ≤ 60) (hW : 1 ≤ W ∧ W ≤ w0) (hRb : ∀ b, 0 ≤ b → b ≤ 60 → -k0 ≤ R b ∧ R b ≤ k0) (hk : 0 ≤ k) (hk' : k ≤ vCnt A t) : -(36 * (999 * w0 + k0)) ≤ zs (fun k => vWt A t k * (sWA oW A t (vLen A t k) (zmin (vLen A t k) s) br * W + R (sTA oT A t (vLen A t k) (zmin (vLen A t k) s) br))) k ∧ zs (fun k => vWt A t k * (sWA oW A t (vLen A t k) (zmin (vLen A t k) s) br * W + R (sTA oT A t (vLen A t k) (zmin (vLen A t k) s) br))) k ≤ 36 * (999 * w0 + k0) := by
  have hc := (hR.2.2.2.2.1 t h0 h1).2.1
  have hp := hRb 0 (by omega) (by omega)
  have b := zs_b (g := fun k => vWt A t k * (sWA oW A t (vLen A t k) (zmin (vLen A t k) s) br * W + R (sTA oT A t (vLen A t k) (zmin (vLen A t k) s) br))) (a := -(9 * (999 * w0 + k0))) (b := 9 * (999 * w0 + k0)) (k := k) hk (fun i g0 g1 => (tm_b hR h0 h1 g0 (by omega) hb hW hRb).1)
  have e1 : 9 * (999 * w0 + k0) * k ≤ 9 * (999 * w0 + k0) * 4 := Int.mul_le_mul_of_nonneg_left (by omega) (by omega)
  have e2 : -(9 * (999 * w0 + k0)) * k = -(9 * (999 * w0 + k0) * k) := Int.neg_mul _ _
  omega
theorem wR_b (hR : okR A) (hT : ∀ m, 0 ≤ T m ∧ T m < vT A) (m : Nat) : 1 ≤ wR A T m ∧ wR A T m ≤ wb m := by
  induction m with
  | zero => exact ⟨Int.le_refl 1, Int.le_refl 1⟩
  | succ m ih =>
    have hs := sW_b hR (hT m).1 (hT m).2
    have e1 : wR A T m * 1 ≤ wR A T m * sW A (T m) := Int.mul_le_mul_of_nonneg_left hs.1 (by omega)
    have e2 : wR A T m * sW A (T m) ≤ wb m * sW A (T m) := Int.mul_le_mul_of_nonneg_right ih.2 (by omega)
    have e3 : wb m * sW A (T m) ≤ wb m * 36 := Int.mul_le_mul_of_nonneg_left hs.2 (by omega)
    show 1 ≤ wR A T m * sW A (T m) ∧ wR A T m * sW A (T m) ≤ 36 * wb m
    omega
theorem vR_b (hR : okR A) (hT : ∀ m, 0 ≤ T m ∧ T m < vT A) (m : Nat) : ∀ b, 0 ≤ b → b ≤ 60 → -(kb m) ≤ vR oW oT A T m b ∧ vR oW oT A T m b ≤ kb m := by
  induction m with
  | zero => intro b _ _; exact ⟨(by decide : -(0 : Int) ≤ 0), Int.le_refl 0⟩
  | succ m ih =>
    intro b g0 g1
    exact sS_p hR (hT m).1 (hT m).2 ⟨g0, g1⟩ (wR_b hR hT m) ih (by have := (hR.2.2.2.2.1 _ (hT m).1 (hT m).2).2.1; omega) (Int.le_refl _)
theorem e_WA (q : kC A B) (h0 : 0 ≤ t) : sWA oW B t l s br = sWA oW A t l s br := by
  unfold sWA; rw [e_Gap q h0]
theorem e_TA (q : kC A B) (h0 : 0 ≤ t) : sTA oT B t l s br = sTA oT A t l s br := by
  cases oT with
  | none => rfl
  | some F => show clp 0 60 (F (fct s l 1 0 br (vGap B t))) = clp 0 60 (F (fct s l 1 0 br (vGap A t))); rw [e_Gap q h0]
/-- what stays while a plan is made, from the stage s on -/
def fB (s : Int) (σ τ : zS) : Prop := qC σ τ ∧ (∀ k, 0 ≤ k → hI τ 27 k = hI σ 27 k ∧ hL τ 27 k = hL σ 27 k) ∧ (∀ k, 0 ≤ k → hL τ 30 k = hL σ 30 k) ∧ (∀ k, 0 ≤ k → hI τ 31 k = hI σ 31 k) ∧ (∀ k, 0 ≤ k → k < s * 61 → hL τ 28 k = hL σ 28 k)
theorem fB_r : fB s σ σ := ⟨qC_r σ, fun _ _ => ⟨rfl, rfl⟩, fun _ _ => rfl, fun _ _ => rfl, fun _ _ _ => rfl⟩
theorem fB_t (h1 : fB s σ τ) (h2 : fB s τ υ) : fB s σ υ := ⟨qC_t h1.1 h2.1, fun k a => ⟨(h2.2.1 k a).1.trans (h1.2.1 k a).1, (h2.2.1 k a).2.trans (h1.2.1 k a).2⟩, fun k a => (h2.2.2.1 k a).trans (h1.2.2.1 k a), fun k a => (h2.2.2.2.1 k a).trans (h1.2.2.2.1 k a), fun k a b => (h2.2.2.2.2 k a b).trans (h1.2.2.2.2 k a b)⟩
theorem fB_m {s' : Int} (h : fB s σ τ) (hs : s' ≤ s) : fB s' σ τ := ⟨h.1, h.2.1, h.2.2.1, h.2.2.2.1, fun k a b => h.2.2.2.2 k a (by omega)⟩
theorem fB_o (h1 : qC σ τ) (h2 : kO σ τ) : fB s σ τ := ⟨h1, fun k a => h2 27 k (by omega) (by omega) a, fun k a => (h2 30 k (by omega) (by omega) a).2, fun k a => (h2 31 k (by omega) (by omega) a).1, fun k a _ => (h2 28 k (by omega) (by omega) a).2⟩
theorem oLa_q {c : Nat} (hc : 25 ≤ c ∧ c ≤ 31) (h : oLa c σ τ) : qC σ τ := ⟨⟨h.1, fun p k _ _ _ _ _ => h.2.1 p k⟩, fun p k a _ => ⟨h.2.1 p k, h.2.2 p k (by omega)⟩⟩
theorem fB_28 (h : oLa 28 σ τ) (h2 : ∀ k, 0 ≤ k → k < s * 61 → hL τ 28 k = hL σ 28 k) : fB s σ τ := ⟨oLa_q (by omega) h, fun k _ => ⟨h.2.1 27 k, h.2.2 27 k (by omega)⟩, fun k _ => h.2.2 30 k (by omega), fun k _ => h.2.1 31 k, h2⟩
theorem fB_29 (h : oLa 29 σ τ) : fB s σ τ := ⟨oLa_q (by omega) h, fun k _ => ⟨h.2.1 27 k, h.2.2 27 k (by omega)⟩, fun k _ => h.2.2 30 k (by omega), fun k _ => h.2.1 31 k, fun k _ _ => h.2.2 28 k (by omega)⟩
def MEM (oW oT : Option ((Int → Int) → Int)) (A : zS) (T : Nat → Int) (n : Nat) (σ : zS) : Prop := ∀ (m : Nat) (b : Int), 1 ≤ m → m ≤ n → 0 ≤ b → b ≤ 60 → hL σ 29 (((n : Int) - m) * 61 + b) = -1000000000000000 ∨ hL σ 29 (((n : Int) - m) * 61 + b) = vR oW oT A T m b
def WHO (A : zS) (T : Nat → Int) (n : Nat) (σ : zS) : Prop := ∀ m : Nat, m ≤ n → hL σ 30 ((n : Int) - m) = wR A T m
def PST (t0 : Int) (n : Nat) (σ : zS) : Prop := hI σ 27 4 = t0 ∧ hI σ 27 5 = n
def TT (A : zS) (t0 : Int) (n : Nat) (m : Nat) : Int := (t0 + ((n : Int) - 1 - m)) % vT A
theorem MEM_c (h : MEM oW oT A T n σ) (e : ∀ k, 0 ≤ k → hL τ 29 k = hL σ 29 k) : MEM oW oT A T n τ := fun m b h1 h2 h3 h4 => by
  rw [e _ (by omega)]; exact h m b h1 h2 h3 h4
theorem WHO_c (h : WHO A T n σ) (e : fB s σ τ) : WHO A T n τ := fun m h1 => by
  rw [e.2.2.1 _ (by omega)]; exact h m h1
theorem PST_c (h : PST t0 n σ) (e : fB s σ τ) : PST t0 n τ := ⟨(e.2.1 4 (by omega)).1.trans h.1, (e.2.1 5 (by omega)).1.trans h.2⟩
theorem TT_b (hR : okR A) (h0 : 0 ≤ t0) (h1 : t0 < vT A) (m : Nat) : 0 ≤ TT A t0 n m ∧ TT A t0 n m < vT A := ⟨Int.emod_nonneg _ (by omega), Int.emod_lt_of_pos _ (by omega)⟩
theorem tunA_z (q : qC A σ) (hR : okR A) (e4 : hI σ 27 4 = t0) (h0 : 0 ≤ t0) (h1 : t0 < vT A) (hs : 0 ≤ s) (hs' : s ≤ 10) : fX0_tunnelAt σ (z32 s) = some (z32 ((t0 + s) % vT A)) := by
  have hT := hR.1
  have efl := e_fl q.1
  have e1 : hI σ (rp A.2.2.2.1 + 0) 1 = vT A := by rw [e_road q.1 (by omega) (by omega)]; rfl
  simp (disch := omega) only [fX0_tunnelAt, z32_add, z32_sub, z32_mul, z32_neg, z32_litn, z32_lt, z32_le, z32_eq, iG_h, lG_h, iS_q, lS_q, aI_h, wI_h, aL_h, wL_h, ↓bnd_q, bnr_q, bnc_q, ↓reduceIte, ieqT, ieqF, iltT, iltF, ileT, ileF, not_true, not_false_iff, efl, e1, e4, z32_rem, gdT]
/-- one length of a stage is added to all seconds -/
theorem ap_z (hR : okR A) (hW : cSum A 0 oW) (hT : cSum A 1 oT) (h0 : 0 ≤ t0) (h1 : t0 < vT A) (hn : n ≤ 4) (hm : m < n) (g : TGX0_addPlanned) (ih : ∀ σ br, 0 ≤ br → br ≤ 60 → qC A σ → PST t0 n σ → WHO A (TT A t0 n) n σ → MEM oW oT A (TT A t0 n) n σ → ∃ τ, g.2 (z32 ((n : Int) - m)) (z32 br) σ = some (z64 (vR oW oT A (TT A t0 n) m br), τ) ∧ fB ((n : Int) - m) σ τ ∧ MEM oW oT A (TT A t0 n) n τ) (hb : 0 ≤ br ∧ br ≤ 60) (hk : 0 ≤ k) (hk' : k < vCnt A (TT A t0 n m)) (q : qC A σ) (ps : PST t0 n σ) (wh : WHO A (TT A t0 n) n σ) (me : MEM oW oT A (TT A t0 n) n σ) (hbd : ∀ j, ((n : Int) - (m + 1)) * 61 ≤ j → j ≤ ((n : Int) - (m + 1)) * 61 + br → -1000000000000000000 ≤ hL σ 28 j ∧ hL σ 28 j ≤ 1000000000000000000) : ∃ τ, fX0_addPlanned' g (z32 ((n : Int) - (m + 1))) (z32 k) (z32 br) σ = some τ ∧ fB ((n : Int) - (m + 1)) σ τ ∧ MEM oW oT A (TT A t0 n) n τ ∧ ∀ s, 0 ≤ s → s ≤ br → hL τ 28 (((n : Int) - (m + 1)) * 61 + s) = hL σ 28 (((n : Int) - (m + 1)) * 61 + s) + vWt A (TT A t0 n m) k * (sWA oW A (TT A t0 n m) (vLen A (TT A t0 n m) k) (zmin (vLen A (TT A t0 n m) k) s) br * wR A (TT A t0 n) m + vR oW oT A (TT A t0 n) m (sTA oT A (TT A t0 n m) (vLen A (TT A t0 n m) k) (zmin (vLen A (TT A t0 n m) k) s) br)) := by
  have hTT := TT_b (n := n) hR h0 h1
  have tb := hTT m
  have hwb := wR_b hR hTT m
  have hvb := vR_b (oW := oW) (oT := oT) hR hTT m
  obtain ⟨⟨kw1, kw2⟩, kw3, kw4⟩ := wkb m (by omega)
  obtain ⟨ht, hte⟩ : ∃ x, x = TT A t0 n m := ⟨_, rfl⟩
  obtain ⟨S, hS⟩ : ∃ x, x = (n : Int) - (m + 1) := ⟨_, rfl⟩
  have hT6 := hR.1
  have hc := (hR.2.2.2.2.1 _ tb.1 tb.2).2.1
  have hlw := (hR.2.2.2.2.1 _ tb.1 tb.2).2.2 k hk hk'
  have etn : (t0 + S) % vT A = ht := by rw [hte, hS]; unfold TT; congr 1; omega
  have etun := tunA_z q hR ps.1 h0 h1 (s := S) (by omega) (by omega)
  rw [etn] at etun
  rw [← hte] at tb hc hlw hk' ⊢
  rw [← hS] at hbd ⊢
  obtain ⟨L, hL0⟩ : ∃ x, x = vLen A ht k := ⟨_, rfl⟩
  obtain ⟨Wt, hW0⟩ : ∃ x, x = vWt A ht k := ⟨_, rfl⟩
  obtain ⟨trm, htrm⟩ : ∃ f : Int → Int, f = fun s => Wt * (sWA oW A ht L s br * wR A (TT A t0 n) m + vR oW oT A (TT A t0 n) m (sTA oT A ht L s br)) := ⟨_, rfl⟩
  have tmb : ∀ s, (-(9 * (999 * wb m + kb m)) ≤ trm s ∧ trm s ≤ 9 * (999 * wb m + kb m)) ∧ (-(999 * wb m + kb m) ≤ sWA oW A ht L s br * wR A (TT A t0 n) m + vR oW oT A (TT A t0 n) m (sTA oT A ht L s br) ∧ sWA oW A ht L s br * wR A (TT A t0 n) m + vR oW oT A (TT A t0 n) m (sTA oT A ht L s br) ≤ 999 * wb m + kb m) ∧ (-(999 * wb m) ≤ sWA oW A ht L s br * wR A (TT A t0 n) m ∧ sWA oW A ht L s br * wR A (TT A t0 n) m ≤ 999 * wb m) := fun s => by
    have := tm_b (oW := oW) (oT := oT) (s := s) (R := vR oW oT A (TT A t0 n) m) hR tb.1 tb.2 hk hk' hb hwb hvb
    rw [← hL0, ← hW0] at this
    rw [htrm]
    exact this
  rw [← hL0, ← hW0] at hlw
  rw [← hL0, ← hW0]
  have zb : 0 ≤ zmin L br ∧ zmin L br ≤ L ∧ zmin L br ≤ br := by unfold zmin; split <;> omega
  have fin := zupP0 (β := zS) (L := fun f x a => fX0_addPlanned'_57 g f (z32 S) (z32 br) (z32 ht) (z32 L) (z32 Wt) (if m = 0 then z32 0 else z32 1) (z32 x) a) (n := zmin L br + 1) (Q := fun r => ∃ τ, r = some τ ∧ fB S σ τ ∧ MEM oW oT A (TT A t0 n) n τ ∧ ∀ s, 0 ≤ s → s ≤ br → hL τ 28 (S * 61 + s) = hL σ 28 (S * 61 + s) + trm (zmin L s))
    (fun x τ => fB S σ τ ∧ MEM oW oT A (TT A t0 n) n τ ∧ ∀ s, 0 ≤ s → s ≤ br → hL τ 28 (S * 61 + s) = hL σ 28 (S * 61 + s) + (if zmin L s < x then trm (zmin L s) else 0)) (a := σ) (by omega) (by omega)
    ⟨fB_r, me, fun s g0 g1 => by rw [if_neg (by unfold zmin; split <;> omega)]; omega⟩ ?_ ?_
  · obtain ⟨τ, f1, f2, f3, f4⟩ := fin
    refine ⟨τ, ?_, f2, f3, fun s g0 g1 => ?_⟩
    · have hq := q.1
      have hR' := e_okR hq hR
      have eT := e_T hq
      have el := cLen_z (A := σ) (t := ht) (k := k) hR' tb.1 (by omega) hk (by rw [e_Cnt hq tb.1]; exact hk')
      have ew := cWt_z (A := σ) (t := ht) (k := k) hR' tb.1 (by omega) hk (by rw [e_Cnt hq tb.1]; exact hk')
      rw [e_Len hq tb.1 hk, ← hL0] at el
      rw [e_Wt hq tb.1 hk, ← hW0] at ew
      have e5 := ps.2
      by_cases gm : m = 0
      · rw [if_pos gm] at f1
        simp (disch := omega) only [fX0_addPlanned', fX0_addPlanned'_52, etun, el, ew, z32_add, z32_sub, z32_mul, z32_neg, z32_litn, z32_lt, z32_le, z32_eq, iG_h, lG_h, iS_q, lS_q, aI_h, wI_h, aL_h, wL_h, ↓bnd_q, bnr_q, bnc_q, ↓reduceIte, ieqT, ieqF, iltT, iltF, ileT, ileF, not_true, not_false_iff, e5]
        exact f1
      · rw [if_neg gm] at f1
        simp (disch := omega) only [fX0_addPlanned', fX0_addPlanned'_52, etun, el, ew, z32_add, z32_sub, z32_mul, z32_neg, z32_litn, z32_lt, z32_le, z32_eq, iG_h, lG_h, iS_q, lS_q, aI_h, wI_h, aL_h, wL_h, ↓bnd_q, bnr_q, bnc_q, ↓reduceIte, ieqT, ieqF, iltT, iltF, ileT, ileF, not_true, not_false_iff, e5]
        exact f1
    · rw [f4 s g0 g1, htrm]
  · intro f x a hx hx' ⟨p1, p2, p3⟩
    have qa := qC_t q p1.1
    have psa := PST_c ps p1
    have wha := WHO_c wh p1
    obtain ⟨B1, b1, b2, b3, -⟩ := cWA_z (A := a) (t := ht) (l := L) (s := x) (br := br) (e_okR qa.1 hR) (e_sum qa.1 (by omega) hW) tb.1 (by rw [e_T qa.1]; exact tb.2) (by omega) (by omega) hb
    rw [e_WA qa.1 tb.1] at b1
    have fb1 : fB S a B1 := fB_o b2 b3
    have qb := qC_t qa b2
    have wv : hL B1 30 (S + 1) = wR A (TT A t0 n) m := by
      have := WHO_c wha fb1 m (by omega)
      rw [show S + 1 = (n : Int) - m by omega]; exact this
    have m1 : MEM oW oT A (TT A t0 n) n B1 := MEM_c p2 (fun k g => (b3 29 k (by omega) (by omega) g).2)
    have wab := sWA_b (oW := oW) (A := A) (t := ht) (l := L) (s := x) (br := br)
    have tm := tmb x
    -- the stages behind
    obtain ⟨C, rv, hrv, c2, c3, c4⟩ : ∃ C rv, rv = vR oW oT A (TT A t0 n) m (sTA oT A ht L x br) ∧ fB (S + 1) a C ∧ MEM oW oT A (TT A t0 n) n C ∧ fX0_addPlanned'_57 g (f + 1) (z32 S) (z32 br) (z32 ht) (z32 L) (z32 Wt) (if m = 0 then z32 0 else z32 1) (z32 x) a = fX0_addPlanned'_125 g (fX0_addPlanned'_57 g f) (z32 S) (z32 br) (z32 ht) (z32 L) (z32 Wt) (if m = 0 then z32 0 else z32 1) (z32 x) (z64 (sWA oW A ht L x br * wR A (TT A t0 n) m + rv)) C := by
      by_cases gm : m = 0
      · refine ⟨B1, 0, by rw [gm]; rfl, fB_o b2 b3, m1, ?_⟩
        rw [if_pos gm]
        simp (disch := omega) only [fX0_addPlanned'_57, jmin_z, z32_add, z32_sub, z32_mul, z32_neg, z32_litn, z32_lt, z32_le, z32_eq, iG_h, lG_h, iS_q, lS_q, aI_h, wI_h, aL_h, wL_h, ↓bnd_q, bnr_q, bnc_q, ↓reduceIte, ieqT, ieqF, iltT, iltF, ileT, ileF, not_true, not_false_iff, z64_add, z64_sub, z64_mul, z64_neg, z64_litn, z64_lt, z64_le, z64_eq, z32_64, z64_32, b1, wv, Int.add_zero]
      · obtain ⟨B2, d1, d2, d3, -⟩ := cTA_z (A := B1) (t := ht) (l := L) (s := x) (br := br) (e_okR qb.1 hR) (e_sum qb.1 (by omega) hT) tb.1 (by rw [e_T qb.1]; exact tb.2) (by omega) (by omega) hb
        rw [e_TA qb.1 tb.1] at d1
        have qc := qC_t qb d2
        have fb2 : fB (S + 1) a B2 := fB_t (fB_o b2 b3) (fB_o d2 d3)
        have tb2 := sTA_b (oT := oT) (A := A) (t := ht) (l := L) (s := x) hb
        obtain ⟨B3, u1, u2, u3⟩ := ih B2 (sTA oT A ht L x br) tb2.1 tb2.2 qc (PST_c psa fb2) (WHO_c wha fb2) (MEM_c m1 (fun k g => (d3 29 k (by omega) (by omega) g).2))
        rw [show (n : Int) - m = S + 1 by omega] at u1 u2
        refine ⟨B3, _, rfl, fB_t fb2 u2, u3, ?_⟩
        rw [if_neg gm]
        simp (disch := omega) only [fX0_addPlanned'_57, jmin_z, z32_add, z32_sub, z32_mul, z32_neg, z32_litn, z32_lt, z32_le, z32_eq, iG_h, lG_h, iS_q, lS_q, aI_h, wI_h, aL_h, wL_h, ↓bnd_q, bnr_q, bnc_q, ↓reduceIte, ieqT, ieqF, iltT, iltF, ileT, ileF, not_true, not_false_iff, z64_add, z64_sub, z64_mul, z64_neg, z64_litn, z64_lt, z64_le, z64_eq, z32_64, z64_32, b1, wv, d1, u1]
    rw [hrv] at c4
    have c2' := fB_m (s' := S) c2 (by omega)
    have row : ∀ s, 0 ≤ s → s ≤ br → hL C 28 (S * 61 + s) = hL σ 28 (S * 61 + s) + (if zmin L s < x then trm (zmin L s) else 0) := fun s g0 g1 => by
      rw [c2.2.2.2.2 _ (by omega) (by omega)]; exact p3 s g0 g1
    have rowb : ∀ s, 0 ≤ s → s ≤ br → -2000000000000000000 ≤ hL C 28 (S * 61 + s) ∧ hL C 28 (S * 61 + s) ≤ 2000000000000000000 := fun s g0 g1 => by
      rw [row s g0 g1]
      have h1 := hbd (S * 61 + s) (by omega) (by omega)
      have h2 := (tmb (zmin L s)).1
      split <;> omega
    obtain ⟨la, hla, hla2⟩ : ∃ la, (if x = L then la = br else la = x) ∧ (x ≤ la ∧ la ≤ br) := by
      by_cases gx : x = L
      · exact ⟨br, by rw [if_pos gx], by omega, by omega⟩
      · exact ⟨x, by rw [if_neg gx], by omega, by omega⟩
    obtain ⟨D, e1, e2, e3⟩ := addS_z (σ := C) (row := S * 61) (f := x) (l := la) (w := trm x) (by omega) hx (by omega) (by omega) (by omega) (fun j g0 g1 => by
      have := rowb (j - S * 61) (by omega) (by omega)
      rw [show S * 61 + (j - S * 61) = j by omega] at this
      omega)
    refine ⟨D, ?_, fB_t p1 (fB_t c2' (fB_28 e2 (fun k g0 g1 => by rw [e3 k g0, if_neg (by omega)]; omega))), MEM_c c3 (fun k g => e2.2.2 29 k (by omega)), fun s g0 g1 => ?_⟩
    · show fX0_addPlanned'_57 g (f + 1) (z32 S) (z32 br) (z32 ht) (z32 L) (z32 Wt) (if m = 0 then z32 0 else z32 1) (z32 x) a = _
      rw [c4]
      have ew : (z32 Wt).toInt64 * z64 (sWA oW A ht L x br * wR A (TT A t0 n) m + vR oW oT A (TT A t0 n) m (sTA oT A ht L x br)) = z64 (trm x) := by
        rw [z32_64 (by omega) (by omega), z64_mul, htrm]
      unfold fX0_addPlanned'_125 fX0_addPlanned'_145
      by_cases gx : x = L
      · rw [if_pos gx] at hla
        rw [if_pos (by rw [gx]), ew, show (61 : Int32) = z32 61 from z32_litn 61, z32_mul, ← hla, e1, bnr_q, z1p]
      · rw [if_neg gx] at hla
        rw [hla] at e1
        rw [if_neg (by rw [z32_eq (by omega) (by omega) (by omega) (by omega)]; exact gx), ew, show (61 : Int32) = z32 61 from z32_litn 61, z32_mul, e1, bnr_q, z1p]
    · rw [e3 _ (by omega), row s g0 g1]
      by_cases g2 : zmin L s = x
      · have g3 : S * 61 + x ≤ S * 61 + s ∧ S * 61 + s ≤ S * 61 + la := by
          unfold zmin at g2
          split at hla <;> split at g2 <;> omega
        rw [if_pos g3, if_neg (by omega), if_pos (by omega), g2]; omega
      · have g3 : ¬ (S * 61 + x ≤ S * 61 + s ∧ S * 61 + s ≤ S * 61 + la) := by
          unfold zmin at g2
          split at hla <;> split at g2 <;> omega
        rw [if_neg g3]
        by_cases g4 : zmin L s < x
        · rw [if_pos g4, if_pos (by omega)]; omega
        · rw [if_neg g4, if_neg (by omega)]; omega
  · intro f a ⟨p1, p2, p3⟩
    refine ⟨a, ?_, p1, p2, fun s g0 g1 => ?_⟩
    · show fX0_addPlanned'_57 g (f + 1) (z32 S) (z32 br) (z32 ht) (z32 L) (z32 Wt) (if m = 0 then z32 0 else z32 1) (z32 (zmin L br + 1)) a = _
      simp (disch := omega) only [fX0_addPlanned'_57, jmin_z, z32_add, z32_sub, z32_mul, z32_neg, z32_litn, z32_lt, z32_le, z32_eq, iG_h, lG_h, iS_q, lS_q, aI_h, wI_h, aL_h, wL_h, ↓bnd_q, bnr_q, bnc_q, ↓reduceIte, ieqT, ieqF, iltT, iltF, ileT, ileF, not_true, not_false_iff]
    · rw [p3 s g0 g1, if_pos]
      unfold zmin
      split <;> split <;> omega
end PL

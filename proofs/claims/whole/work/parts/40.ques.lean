/-! MY OWN: the questions that need no chooser, both sides -/
theorem gdT {β : Type} {F : Option β} [inst : Decidable True] : gd True F = F := if_pos trivial
def RC (oW oT : Option ((Int → Int) → Int)) (A : zS) : Prop := okR A ∧ okN A ∧ cSum A 0 oW ∧ cSum A 1 oT
def RM (oW oT : Option ((Int → Int) → Int)) (A σ : zS) : Prop := rlR A σ ∧ rlN A σ ∧ mSum σ 68 69 oW ∧ mSum σ 70 71 oT
theorem e_RC {oW oT : Option ((Int → Int) → Int)} {A B : zS} (q : kC A B) (h : RC oW oT A) : RC oW oT B := ⟨e_okR q h.1, e_okN q h.2.1, e_sum q (by omega) h.2.2.1, e_sum q (by omega) h.2.2.2⟩
theorem m_RM {oW oT : Option ((Int → Int) → Int)} {A σ τ : zS} (q : kM σ τ) (hA : okR A) (h : RM oW oT A σ) : RM oW oT A τ := ⟨m_rlR q h.1 hA, m_rlN q h.2.1, m_sum q h.1.1.1 (by omega) (by omega) (by omega) (by omega) h.2.2.1, m_sum q h.1.1.1 (by omega) (by omega) (by omega) (by omega) h.2.2.2⟩
/-- a question answered alike: with a state handed on, and without -/
def QJ (oW oT : Option ((Int → Int) → Int)) (f g : zS → Option (Int32 × zS)) (A : zS) : Prop := ∃ r B, f A = some (r, B) ∧ qC A B ∧ kO A B ∧ ∀ σ, RM oW oT A σ → ∃ τ, g σ = some (r, τ) ∧ qM σ τ
def QP (oW oT : Option ((Int → Int) → Int)) (f g : zS → Option Int32) (A : zS) : Prop := ∃ r, f A = some r ∧ ∀ σ, RM oW oT A σ → g σ = some r
section U
variable {A : zS} {a b c d : Int} {oW oT : Option ((Int → Int) → Int)}
theorem Q_score (H : RC oW oT A) (h1 : -2147483648 ≤ a) (h2 : a < 2147483648) : QP oW oT (fun s => fX10_score s (z32 a)) (fun s => fX11_score s (z32 a)) A := by
  have hR := H.1
  have g2 := hR.2.1
  by_cases hh : 0 ≤ a ∧ a < vH A
  · have e1 : hI A 5 (62 + a) = vSc A a := rfl
    refine ⟨z32 (vSc A a), ?_, fun σ hm => ?_⟩
    · simp (disch := omega) only [fX10_score, hasH_p, fX7_scoreOf, z32_add, z32_sub, z32_mul, z32_neg, z32_litn, z32_lt, z32_le, z32_eq, iG_h, lG_h, iS_j, lS_k, aI_h, wI_h, aL_h, wL_h, bnd, bnr_s, bnc_s, ↓reduceIte, ieqT, ieqF, iltT, iltF, ileT, ileF, not_true, not_false_iff, e1]
    · have e3 := (hm.2.1.2 a hh.1 hh.2).2.2.1
      simp (disch := omega) only [fX11_score, isH_p hR hm.1 hh.1 hh.2, z32_add, z32_sub, z32_mul, z32_neg, z32_litn, z32_lt, z32_le, z32_eq, iG_h, lG_h, iS_j, lS_k, aI_h, wI_h, aL_h, wL_h, bnd, bnr_s, bnc_s, ↓reduceIte, ieqT, ieqF, iltT, iltF, ileT, ileF, not_true, not_false_iff, e3]
  · refine ⟨z32 (-1000000000), ?_, fun σ hm => ?_⟩
    · simp (disch := omega) only [fX10_score, hasH_n h1 h2 hh, z32_add, z32_sub, z32_mul, z32_neg, z32_litn, z32_lt, z32_le, z32_eq, iG_h, lG_h, iS_j, lS_k, aI_h, wI_h, aL_h, wL_h, bnd, bnr_s, bnc_s, ↓reduceIte, ieqT, ieqF, iltT, iltF, ileT, ileF, not_true, not_false_iff]
    · simp (disch := omega) only [fX11_score, isH_n hR hm.1 h1 h2 hh, z32_add, z32_sub, z32_mul, z32_neg, z32_litn, z32_lt, z32_le, z32_eq, iG_h, lG_h, iS_j, lS_k, aI_h, wI_h, aL_h, wL_h, bnd, bnr_s, bnc_s, ↓reduceIte, ieqT, ieqF, iltT, iltF, ileT, ileF, not_true, not_false_iff]
theorem Q_holds (H : RC oW oT A) (h1 : -2147483648 ≤ a) (h2 : a < 2147483648) (h3 : -2147483648 ≤ b) (h4 : b < 2147483648) (h5 : -2147483648 ≤ c) (h6 : c < 2147483648) : QP oW oT (fun s => fX10_holds s (z32 a) (z32 b) (z32 c)) (fun s => fX11_holds s (z32 a) (z32 b) (z32 c)) A := by
  have hR := H.1
  have hN := H.2.1
  by_cases hh : 0 ≤ a ∧ a < vH A
  · by_cases ht : 0 ≤ b ∧ b < vT A
    · by_cases hl : 1 ≤ c ∧ c ≤ 60
      · refine ⟨z32 (sHold A a b c), ?_, fun σ hm => ?_⟩
        · simp (disch := omega) only [fX10_holds, fX10_isLength, hasB_p, cHold_z hR hN, z32_add, z32_sub, z32_mul, z32_neg, z32_litn, z32_lt, z32_le, z32_eq, iG_h, lG_h, iS_j, lS_k, aI_h, wI_h, aL_h, wL_h, bnd, bnr_s, bnc_s, ↓reduceIte, ieqT, ieqF, iltT, iltF, ileT, ileF, not_true, not_false_iff]
        · simp (disch := omega) only [fX11_holds, fX11_canBe, isH_p hR hm.1, isT_p hR hm.1, is_p, mHold_z hR hN hm.2.1, z32_add, z32_sub, z32_mul, z32_neg, z32_litn, z32_lt, z32_le, z32_eq, iG_h, lG_h, iS_j, lS_k, aI_h, wI_h, aL_h, wL_h, bnd, bnr_s, bnc_s, ↓reduceIte, ieqT, ieqF, iltT, iltF, ileT, ileF, not_true, not_false_iff]
      · refine ⟨z32 (-1), ?_, fun σ hm => ?_⟩
        · by_cases hl2 : c < 1
          · simp (disch := omega) only [fX10_holds, fX10_isLength, hasB_p, z32_add, z32_sub, z32_mul, z32_neg, z32_litn, z32_lt, z32_le, z32_eq, iG_h, lG_h, iS_j, lS_k, aI_h, wI_h, aL_h, wL_h, bnd, bnr_s, bnc_s, ↓reduceIte, ieqT, ieqF, iltT, iltF, ileT, ileF, not_true, not_false_iff]
          · simp (disch := omega) only [fX10_holds, fX10_isLength, hasB_p, z32_add, z32_sub, z32_mul, z32_neg, z32_litn, z32_lt, z32_le, z32_eq, iG_h, lG_h, iS_j, lS_k, aI_h, wI_h, aL_h, wL_h, bnd, bnr_s, bnc_s, ↓reduceIte, ieqT, ieqF, iltT, iltF, ileT, ileF, not_true, not_false_iff]
        · simp (disch := omega) only [fX11_holds, fX11_canBe, isH_p hR hm.1, isT_p hR hm.1, is_n, z32_add, z32_sub, z32_mul, z32_neg, z32_litn, z32_lt, z32_le, z32_eq, iG_h, lG_h, iS_j, lS_k, aI_h, wI_h, aL_h, wL_h, bnd, bnr_s, bnc_s, ↓reduceIte, ieqT, ieqF, iltT, iltF, ileT, ileF, not_true, not_false_iff]
    · refine ⟨z32 (-1), ?_, fun σ hm => ?_⟩
      · simp (disch := omega) only [fX10_holds, hasB_nt, z32_add, z32_sub, z32_mul, z32_neg, z32_litn, z32_lt, z32_le, z32_eq, iG_h, lG_h, iS_j, lS_k, aI_h, wI_h, aL_h, wL_h, bnd, bnr_s, bnc_s, ↓reduceIte, ieqT, ieqF, iltT, iltF, ileT, ileF, not_true, not_false_iff]
      · simp (disch := omega) only [fX11_holds, fX11_canBe, isH_p hR hm.1, isT_n hR hm.1, z32_add, z32_sub, z32_mul, z32_neg, z32_litn, z32_lt, z32_le, z32_eq, iG_h, lG_h, iS_j, lS_k, aI_h, wI_h, aL_h, wL_h, bnd, bnr_s, bnc_s, ↓reduceIte, ieqT, ieqF, iltT, iltF, ileT, ileF, not_true, not_false_iff]
  · refine ⟨z32 (-1), ?_, fun σ hm => ?_⟩
    · simp (disch := omega) only [fX10_holds, hasB_nh, z32_add, z32_sub, z32_mul, z32_neg, z32_litn, z32_lt, z32_le, z32_eq, iG_h, lG_h, iS_j, lS_k, aI_h, wI_h, aL_h, wL_h, bnd, bnr_s, bnc_s, ↓reduceIte, ieqT, ieqF, iltT, iltF, ileT, ileF, not_true, not_false_iff]
    · simp (disch := omega) only [fX11_holds, fX11_canBe, isH_n hR hm.1, z32_add, z32_sub, z32_mul, z32_neg, z32_litn, z32_lt, z32_le, z32_eq, iG_h, lG_h, iS_j, lS_k, aI_h, wI_h, aL_h, wL_h, bnd, bnr_s, bnc_s, ↓reduceIte, ieqT, ieqF, iltT, iltF, ileT, ileF, not_true, not_false_iff]
theorem Q_likely (H : RC oW oT A) (h1 : -2147483648 ≤ a) (h2 : a < 2147483648) (h3 : -2147483648 ≤ b) (h4 : b < 2147483648) : QP oW oT (fun s => fX10_likely s (z32 a) (z32 b)) (fun s => fX11_likely s (z32 a) (z32 b)) A := by
  have hR := H.1
  by_cases ht : 0 ≤ a ∧ a < vT A
  · by_cases hb : 0 ≤ b
    · have hc := (hR.2.2.2.2.1 a ht.1 ht.2).2.1
      have hW := sW_b hR ht.1 ht.2
      have hT := hR.1
      have e3 : hI A (rp A.2.2.2.1 + 3) a = vCnt A a := rfl
      have gb : ∀ n, 0 ≤ n → n ≤ vCnt A a → 0 ≤ zs (fun k => if vLen A a k ≤ b then 0 else vWt A a k) n ∧ zs (fun k => if vLen A a k ≤ b then 0 else vWt A a k) n ≤ 9 * n := fun n g0 g1 => by
        have := zs_b (g := fun k => if vLen A a k ≤ b then 0 else vWt A a k) (a := 0) (b := 9) (k := n) g0 (fun i w0 w1 => by
          have := ((hR.2.2.2.2.1 a ht.1 ht.2).2.2 i w0 (by omega)).2
          split <;> omega)
        omega
      have gB := gb (vCnt A a) (by omega) (by omega)
      refine ⟨z32 ((1000 * zs (fun k => if vLen A a k ≤ b then 0 else vWt A a k) (vCnt A a)).fdiv (sW A a)), ?_, fun σ hm => ?_⟩
      · simp (disch := omega) only [fX10_likely, hasT_p, z32_add, z32_sub, z32_mul, z32_neg, z32_litn, z32_lt, z32_le, z32_eq, iG_h, lG_h, iS_j, lS_k, aI_h, wI_h, aL_h, wL_h, bnd, bnr_s, bnc_s, ↓reduceIte, ieqT, ieqF, iltT, iltF, ileT, ileF, not_true, not_false_iff]
        refine zup0 (L := fun f k x => fX10_likely_28 A f (z32 a) (z32 b) A.2.2.2.1 (z32 x) (z32 k)) (n := vCnt A a) (zs (fun k => if vLen A a k ≤ b then 0 else vWt A a k)) (by omega) (by omega) ?_ ?_
        · intro f k hk hk'
          have hL := ((hR.2.2.2.2.1 a ht.1 ht.2).2.2 k hk hk').1
          rw [zs_s hk]
          by_cases g : vLen A a k ≤ b
          · simp (disch := omega) only [fX10_likely_28, fX10_likely_62, cLen_z hR ht.1 ht.2, z32_add, z32_sub, z32_mul, z32_neg, z32_litn, z32_lt, z32_le, z32_eq, iG_h, lG_h, iS_j, lS_k, aI_h, wI_h, aL_h, wL_h, bnd, bnr_s, bnc_s, ↓reduceIte, ieqT, ieqF, iltT, iltF, ileT, ileF, not_true, not_false_iff, e3, Int.add_zero]
          · simp (disch := omega) only [fX10_likely_28, fX10_likely_62, cLen_z hR ht.1 ht.2, cWt_z hR ht.1 ht.2, z32_add, z32_sub, z32_mul, z32_neg, z32_litn, z32_lt, z32_le, z32_eq, iG_h, lG_h, iS_j, lS_k, aI_h, wI_h, aL_h, wL_h, bnd, bnr_s, bnc_s, ↓reduceIte, ieqT, ieqF, iltT, iltF, ileT, ileF, not_true, not_false_iff, e3]
        · intro f
          simp (disch := omega) only [fX10_likely_28, cW_z hR ht.1 ht.2, z32_add, z32_sub, z32_mul, z32_neg, z32_litn, z32_lt, z32_le, z32_eq, iG_h, lG_h, iS_j, lS_k, aI_h, wI_h, aL_h, wL_h, bnd, bnr_s, bnc_s, ↓reduceIte, ieqT, ieqF, iltT, iltF, ileT, ileF, not_true, not_false_iff, e3, z32_64, cThou]
      · simp (disch := omega) only [fX11_likely, isT_p hR hm.1, z32_add, z32_sub, z32_mul, z32_neg, z32_litn, z32_lt, z32_le, z32_eq, iG_h, lG_h, iS_j, lS_k, aI_h, wI_h, aL_h, wL_h, bnd, bnr_s, bnc_s, ↓reduceIte, ieqT, ieqF, iltT, iltF, ileT, ileF, not_true, not_false_iff]
        refine zup0 (L := fun f k x => fX11_likely_19 σ f (z32 a) (z32 b) (z32 x) (z32 k)) (n := vCnt A a) (zs (fun k => if vLen A a k ≤ b then 0 else vWt A a k)) (by omega) (by omega) ?_ ?_
        · intro f k hk hk'
          have hL := ((hR.2.2.2.2.1 a ht.1 ht.2).2.2 k hk hk').1
          rw [zs_s hk]
          by_cases g : vLen A a k ≤ b
          · simp (disch := omega) only [fX11_likely_19, fX11_likely_52, mCnt_z hR hm.1, mLen_z hR hm.1, z32_add, z32_sub, z32_mul, z32_neg, z32_litn, z32_lt, z32_le, z32_eq, iG_h, lG_h, iS_j, lS_k, aI_h, wI_h, aL_h, wL_h, bnd, bnr_s, bnc_s, ↓reduceIte, ieqT, ieqF, iltT, iltF, ileT, ileF, not_true, not_false_iff, Int.add_zero]
          · simp (disch := omega) only [fX11_likely_19, fX11_likely_52, mCnt_z hR hm.1, mLen_z hR hm.1, mWt_z hR hm.1, z32_add, z32_sub, z32_mul, z32_neg, z32_litn, z32_lt, z32_le, z32_eq, iG_h, lG_h, iS_j, lS_k, aI_h, wI_h, aL_h, wL_h, bnd, bnr_s, bnc_s, ↓reduceIte, ieqT, ieqF, iltT, iltF, ileT, ileF, not_true, not_false_iff]
        · intro f
          simp (disch := omega) only [fX11_likely_19, mCnt_z hR hm.1, mW_z hR hm.1, z32_add, z32_sub, z32_mul, z32_neg, z32_litn, z32_lt, z32_le, z32_eq, iG_h, lG_h, iS_j, lS_k, aI_h, wI_h, aL_h, wL_h, bnd, bnr_s, bnc_s, ↓reduceIte, ieqT, ieqF, iltT, iltF, ileT, ileF, not_true, not_false_iff, gdT]
          rw [← z32_mul, mThou32 (by omega) (by omega) (by omega) (by omega)]
    · refine ⟨z32 (-1), ?_, fun σ hm => ?_⟩
      · simp (disch := omega) only [fX10_likely, hasT_p, z32_add, z32_sub, z32_mul, z32_neg, z32_litn, z32_lt, z32_le, z32_eq, iG_h, lG_h, iS_j, lS_k, aI_h, wI_h, aL_h, wL_h, bnd, bnr_s, bnc_s, ↓reduceIte, ieqT, ieqF, iltT, iltF, ileT, ileF, not_true, not_false_iff]
      · simp (disch := omega) only [fX11_likely, isT_p hR hm.1, z32_add, z32_sub, z32_mul, z32_neg, z32_litn, z32_lt, z32_le, z32_eq, iG_h, lG_h, iS_j, lS_k, aI_h, wI_h, aL_h, wL_h, bnd, bnr_s, bnc_s, ↓reduceIte, ieqT, ieqF, iltT, iltF, ileT, ileF, not_true, not_false_iff]
  · refine ⟨z32 (-1), ?_, fun σ hm => ?_⟩
    · simp (disch := omega) only [fX10_likely, hasT_n h1 h2 ht, z32_add, z32_sub, z32_mul, z32_neg, z32_litn, z32_lt, z32_le, z32_eq, iG_h, lG_h, iS_j, lS_k, aI_h, wI_h, aL_h, wL_h, bnd, bnr_s, bnc_s, ↓reduceIte, ieqT, ieqF, iltT, iltF, ileT, ileF, not_true, not_false_iff]
    · simp (disch := omega) only [fX11_likely, isT_n hR hm.1, z32_add, z32_sub, z32_mul, z32_neg, z32_litn, z32_lt, z32_le, z32_eq, iG_h, lG_h, iS_j, lS_k, aI_h, wI_h, aL_h, wL_h, bnd, bnr_s, bnc_s, ↓reduceIte, ieqT, ieqF, iltT, iltF, ileT, ileF, not_true, not_false_iff]
theorem Q_made (H : RC oW oT A) (h1 : -2147483648 ≤ a) (h2 : a < 2147483648) (h3 : -2147483648 ≤ b) (h4 : b < 2147483648) : QP oW oT (fun s => fX10_made s (z32 a) (z32 b)) (fun s => fX11_made s (z32 a) (z32 b)) A := by
  have hR := H.1
  have hN := H.2.1
  by_cases hh : 0 ≤ a ∧ a < vH A
  · by_cases ht : 0 ≤ b ∧ b < vT A
    · have hc := (hR.2.2.2.2.1 b ht.1 ht.2).2.1
      have hW := sW_b hR ht.1 ht.2
      have hT := hR.1
      have e3 : hI A (rp A.2.2.2.1 + 3) b = vCnt A b := rfl
      have gb : ∀ n, 0 ≤ n → n ≤ vCnt A b → 0 ≤ zs (fun k => if sHold A a b (vLen A b k) = vLen A b k then vWt A b k else 0) n ∧ zs (fun k => if sHold A a b (vLen A b k) = vLen A b k then vWt A b k else 0) n ≤ 9 * n := fun n g0 g1 => by
        have := zs_b (g := fun k => if sHold A a b (vLen A b k) = vLen A b k then vWt A b k else 0) (a := 0) (b := 9) (k := n) g0 (fun i w0 w1 => by
          have := ((hR.2.2.2.2.1 b ht.1 ht.2).2.2 i w0 (by omega)).2
          split <;> omega)
        omega
      have gB := gb (vCnt A b) (by omega) (by omega)
      refine ⟨z32 ((1000 * zs (fun k => if sHold A a b (vLen A b k) = vLen A b k then vWt A b k else 0) (vCnt A b)).fdiv (sW A b)), ?_, fun σ hm => ?_⟩
      · simp (disch := omega) only [fX10_made, hasB_p, z32_add, z32_sub, z32_mul, z32_neg, z32_litn, z32_lt, z32_le, z32_eq, iG_h, lG_h, iS_j, lS_k, aI_h, wI_h, aL_h, wL_h, bnd, bnr_s, bnc_s, ↓reduceIte, ieqT, ieqF, iltT, iltF, ileT, ileF, not_true, not_false_iff]
        refine zup0 (L := fun f k x => fX10_made_25 A f (z32 a) (z32 b) A.2.2.2.1 (z32 x) (z32 k)) (n := vCnt A b) (zs (fun k => if sHold A a b (vLen A b k) = vLen A b k then vWt A b k else 0)) (by omega) (by omega) ?_ ?_
        · intro f k hk hk'
          have hL := ((hR.2.2.2.2.1 b ht.1 ht.2).2.2 k hk hk').1
          have hS := sHold_b (t := b) (l := vLen A b k) hN hh.1 hh.2 (by omega) (by omega)
          rw [zs_s hk]
          by_cases g : sHold A a b (vLen A b k) = vLen A b k
          · simp (disch := omega) only [fX10_made_25, fX10_made_73, cLen_z hR ht.1 ht.2, cWt_z hR ht.1 ht.2, cHold_z hR hN, z32_add, z32_sub, z32_mul, z32_neg, z32_litn, z32_lt, z32_le, z32_eq, iG_h, lG_h, iS_j, lS_k, aI_h, wI_h, aL_h, wL_h, bnd, bnr_s, bnc_s, ↓reduceIte, ieqT, ieqF, iltT, iltF, ileT, ileF, not_true, not_false_iff, e3]
          · simp (disch := omega) only [fX10_made_25, fX10_made_73, cLen_z hR ht.1 ht.2, cHold_z hR hN, z32_add, z32_sub, z32_mul, z32_neg, z32_litn, z32_lt, z32_le, z32_eq, iG_h, lG_h, iS_j, lS_k, aI_h, wI_h, aL_h, wL_h, bnd, bnr_s, bnc_s, ↓reduceIte, ieqT, ieqF, iltT, iltF, ileT, ileF, not_true, not_false_iff, e3, Int.add_zero]
        · intro f
          simp (disch := omega) only [fX10_made_25, cW_z hR ht.1 ht.2, z32_add, z32_sub, z32_mul, z32_neg, z32_litn, z32_lt, z32_le, z32_eq, iG_h, lG_h, iS_j, lS_k, aI_h, wI_h, aL_h, wL_h, bnd, bnr_s, bnc_s, ↓reduceIte, ieqT, ieqF, iltT, iltF, ileT, ileF, not_true, not_false_iff, e3, z32_64, cThou]
      · simp (disch := omega) only [fX11_made, isH_p hR hm.1, isT_p hR hm.1, z32_add, z32_sub, z32_mul, z32_neg, z32_litn, z32_lt, z32_le, z32_eq, iG_h, lG_h, iS_j, lS_k, aI_h, wI_h, aL_h, wL_h, bnd, bnr_s, bnc_s, ↓reduceIte, ieqT, ieqF, iltT, iltF, ileT, ileF, not_true, not_false_iff]
        refine zup0 (L := fun f k x => fX11_made_23 σ f (z32 a) (z32 b) (z32 x) (z32 k)) (n := vCnt A b) (zs (fun k => if sHold A a b (vLen A b k) = vLen A b k then vWt A b k else 0)) (by omega) (by omega) ?_ ?_
        · intro f k hk hk'
          have hL := ((hR.2.2.2.2.1 b ht.1 ht.2).2.2 k hk hk').1
          have hS := sHold_b (t := b) (l := vLen A b k) hN hh.1 hh.2 (by omega) (by omega)
          rw [zs_s hk]
          by_cases g : sHold A a b (vLen A b k) = vLen A b k
          · simp (disch := omega) only [fX11_made_23, fX11_made_68, mCnt_z hR hm.1, mLen_z hR hm.1, mWt_z hR hm.1, mHold_z hR hN hm.2.1, z32_add, z32_sub, z32_mul, z32_neg, z32_litn, z32_lt, z32_le, z32_eq, iG_h, lG_h, iS_j, lS_k, aI_h, wI_h, aL_h, wL_h, bnd, bnr_s, bnc_s, ↓reduceIte, ieqT, ieqF, iltT, iltF, ileT, ileF, not_true, not_false_iff]
          · simp (disch := omega) only [fX11_made_23, fX11_made_68, mCnt_z hR hm.1, mLen_z hR hm.1, mHold_z hR hN hm.2.1, z32_add, z32_sub, z32_mul, z32_neg, z32_litn, z32_lt, z32_le, z32_eq, iG_h, lG_h, iS_j, lS_k, aI_h, wI_h, aL_h, wL_h, bnd, bnr_s, bnc_s, ↓reduceIte, ieqT, ieqF, iltT, iltF, ileT, ileF, not_true, not_false_iff, Int.add_zero]
        · intro f
          simp (disch := omega) only [fX11_made_23, mCnt_z hR hm.1, mW_z hR hm.1, z32_add, z32_sub, z32_mul, z32_neg, z32_litn, z32_lt, z32_le, z32_eq, iG_h, lG_h, iS_j, lS_k, aI_h, wI_h, aL_h, wL_h, bnd, bnr_s, bnc_s, ↓reduceIte, ieqT, ieqF, iltT, iltF, ileT, ileF, not_true, not_false_iff, gdT]
          rw [← z32_mul, mThou32 (by omega) (by omega) (by omega) (by omega)]
    · refine ⟨z32 (-1), ?_, fun σ hm => ?_⟩
      · simp (disch := omega) only [fX10_made, hasB_nt, z32_add, z32_sub, z32_mul, z32_neg, z32_litn, z32_lt, z32_le, z32_eq, iG_h, lG_h, iS_j, lS_k, aI_h, wI_h, aL_h, wL_h, bnd, bnr_s, bnc_s, ↓reduceIte, ieqT, ieqF, iltT, iltF, ileT, ileF, not_true, not_false_iff]
      · simp (disch := omega) only [fX11_made, isH_p hR hm.1, isT_n hR hm.1, z32_add, z32_sub, z32_mul, z32_neg, z32_litn, z32_lt, z32_le, z32_eq, iG_h, lG_h, iS_j, lS_k, aI_h, wI_h, aL_h, wL_h, bnd, bnr_s, bnc_s, ↓reduceIte, ieqT, ieqF, iltT, iltF, ileT, ileF, not_true, not_false_iff]
  · refine ⟨z32 (-1), ?_, fun σ hm => ?_⟩
    · simp (disch := omega) only [fX10_made, hasB_nh, z32_add, z32_sub, z32_mul, z32_neg, z32_litn, z32_lt, z32_le, z32_eq, iG_h, lG_h, iS_j, lS_k, aI_h, wI_h, aL_h, wL_h, bnd, bnr_s, bnc_s, ↓reduceIte, ieqT, ieqF, iltT, iltF, ileT, ileF, not_true, not_false_iff]
    · simp (disch := omega) only [fX11_made, isH_n hR hm.1, z32_add, z32_sub, z32_mul, z32_neg, z32_litn, z32_lt, z32_le, z32_eq, iG_h, lG_h, iS_j, lS_k, aI_h, wI_h, aL_h, wL_h, bnd, bnr_s, bnc_s, ↓reduceIte, ieqT, ieqF, iltT, iltF, ileT, ileF, not_true, not_false_iff]
theorem Q_worth (H : RC oW oT A) (h1 : -2147483648 ≤ a) (h2 : a < 2147483648) (h3 : -2147483648 ≤ b) (h4 : b < 2147483648) (h5 : -2147483648 ≤ c) (h6 : c < 2147483648) : QJ oW oT (fX10_worth (z32 a) (z32 b) (z32 c)) (fX11_worth (z32 a) (z32 b) (z32 c)) A := by
  have hR := H.1
  have hN := H.2.1
  by_cases hh : 0 ≤ a ∧ a < vH A
  · by_cases ht : 0 ≤ b ∧ b < vT A
    · by_cases hl : 1 ≤ c ∧ c ≤ 60
      · obtain ⟨B, b1, b2, b3, b4⟩ := cAll_z hR hN ht.1 ht.2 (l := c) (by omega)
        obtain ⟨q1, q2⟩ := oH_q b2
        have hh' : ∀ i, 0 ≤ i → i < vH A → 0 ≤ sHold A i b c ∧ sHold A i b c ≤ 60 := fun i g0 g1 => by
          have := sHold_b (t := b) (l := c) hN g0 g1 (by omega) (by omega)
          omega
        have eH := e_H q1.1
        have eT := e_T q1.1
        obtain ⟨C, c1, c2, c3, c4⟩ := cAW_z (hr := fun i => sHold A i b c) (h := a) (t := b) (l := c) (e_okR q1.1 hR) (e_okN q1.1 hN) (e_sum q1.1 (by omega) H.2.2.1) (fun i g0 g1 => b3 i g0 (by omega)) (fun i g0 g1 => hh' i g0 (by omega)) hh.1 (by omega) ht.1 (by omega) (by omega)
        have es : sAW oW B (fun i => sHold A i b c) a b c = sAW oW A (fun i => sHold A i b c) a b c := by
          unfold sAW fctA; rw [eH, e_Br q1.1 hh.1, e_Gap q1.1 ht.1]
        rw [es] at c1
        refine ⟨z32 (sAW oW A (fun i => sHold A i b c) a b c), C, ?_, qC_t q1 c2, kO_t (oH_q b2).2 c3, fun σ hm => ?_⟩
        · simp (disch := omega) only [fX10_worth, fX10_isLength, hasB_p, z32_add, z32_sub, z32_mul, z32_neg, z32_litn, z32_lt, z32_le, z32_eq, iG_h, lG_h, iS_j, lS_k, aI_h, wI_h, aL_h, wL_h, bnd, bnr_s, bnc_s, ↓reduceIte, ieqT, ieqF, iltT, iltF, ileT, ileF, not_true, not_false_iff, b1, c1]
        · obtain ⟨τ, t1, t2, t3, t4, t5⟩ := mAll_z hR hN hm.1 hm.2.1 ht.1 ht.2 (l := c) (by omega)
          have hm' := m_RM t2.1 hR hm
          obtain ⟨υ, u1, u2, -⟩ := mRW_z (hr := fun i => sHold A i b c) (h := a) (t := b) (l := c) hR hN hm'.1 hm'.2.1 hm'.2.2.1 t3 hh' hh.1 hh.2 ht.1 ht.2 (by omega)
          refine ⟨υ, ?_, qM_t t2 u2⟩
          simp (disch := omega) only [fX11_worth, fX11_canBe, isH_p hR hm.1, isT_p hR hm.1, is_p, z32_add, z32_sub, z32_mul, z32_neg, z32_litn, z32_lt, z32_le, z32_eq, iG_h, lG_h, iS_j, lS_k, aI_h, wI_h, aL_h, wL_h, bnd, bnr_s, bnc_s, ↓reduceIte, ieqT, ieqF, iltT, iltF, ileT, ileF, not_true, not_false_iff, t1, u1]
      · refine ⟨z32 (-1000000000), A, ?_, qC_r A, kO_r A, fun σ hm => ⟨σ, ?_, qM_r σ⟩⟩
        · by_cases hl2 : c < 1
          · simp (disch := omega) only [fX10_worth, fX10_isLength, hasB_p, z32_add, z32_sub, z32_mul, z32_neg, z32_litn, z32_lt, z32_le, z32_eq, iG_h, lG_h, iS_j, lS_k, aI_h, wI_h, aL_h, wL_h, bnd, bnr_s, bnc_s, ↓reduceIte, ieqT, ieqF, iltT, iltF, ileT, ileF, not_true, not_false_iff]
          · simp (disch := omega) only [fX10_worth, fX10_isLength, hasB_p, z32_add, z32_sub, z32_mul, z32_neg, z32_litn, z32_lt, z32_le, z32_eq, iG_h, lG_h, iS_j, lS_k, aI_h, wI_h, aL_h, wL_h, bnd, bnr_s, bnc_s, ↓reduceIte, ieqT, ieqF, iltT, iltF, ileT, ileF, not_true, not_false_iff]
        · simp (disch := omega) only [fX11_worth, fX11_canBe, isH_p hR hm.1, isT_p hR hm.1, is_n, z32_add, z32_sub, z32_mul, z32_neg, z32_litn, z32_lt, z32_le, z32_eq, iG_h, lG_h, iS_j, lS_k, aI_h, wI_h, aL_h, wL_h, bnd, bnr_s, bnc_s, ↓reduceIte, ieqT, ieqF, iltT, iltF, ileT, ileF, not_true, not_false_iff]
    · refine ⟨z32 (-1000000000), A, ?_, qC_r A, kO_r A, fun σ hm => ⟨σ, ?_, qM_r σ⟩⟩
      · simp (disch := omega) only [fX10_worth, hasB_nt, z32_add, z32_sub, z32_mul, z32_neg, z32_litn, z32_lt, z32_le, z32_eq, iG_h, lG_h, iS_j, lS_k, aI_h, wI_h, aL_h, wL_h, bnd, bnr_s, bnc_s, ↓reduceIte, ieqT, ieqF, iltT, iltF, ileT, ileF, not_true, not_false_iff]
      · simp (disch := omega) only [fX11_worth, fX11_canBe, isH_p hR hm.1, isT_n hR hm.1, z32_add, z32_sub, z32_mul, z32_neg, z32_litn, z32_lt, z32_le, z32_eq, iG_h, lG_h, iS_j, lS_k, aI_h, wI_h, aL_h, wL_h, bnd, bnr_s, bnc_s, ↓reduceIte, ieqT, ieqF, iltT, iltF, ileT, ileF, not_true, not_false_iff]
  · refine ⟨z32 (-1000000000), A, ?_, qC_r A, kO_r A, fun σ hm => ⟨σ, ?_, qM_r σ⟩⟩
    · simp (disch := omega) only [fX10_worth, hasB_nh, z32_add, z32_sub, z32_mul, z32_neg, z32_litn, z32_lt, z32_le, z32_eq, iG_h, lG_h, iS_j, lS_k, aI_h, wI_h, aL_h, wL_h, bnd, bnr_s, bnc_s, ↓reduceIte, ieqT, ieqF, iltT, iltF, ileT, ileF, not_true, not_false_iff]
    · simp (disch := omega) only [fX11_worth, fX11_canBe, isH_n hR hm.1, z32_add, z32_sub, z32_mul, z32_neg, z32_litn, z32_lt, z32_le, z32_eq, iG_h, lG_h, iS_j, lS_k, aI_h, wI_h, aL_h, wL_h, bnd, bnr_s, bnc_s, ↓reduceIte, ieqT, ieqF, iltT, iltF, ileT, ileF, not_true, not_false_iff]
theorem Q_tired (H : RC oW oT A) (h1 : -2147483648 ≤ a) (h2 : a < 2147483648) (h3 : -2147483648 ≤ b) (h4 : b < 2147483648) (h5 : -2147483648 ≤ c) (h6 : c < 2147483648) (h7 : -2147483648 ≤ d) (h8 : d < 2147483648) : QJ oW oT (fX10_tired (z32 a) (z32 b) (z32 c) (z32 d)) (fX11_tired (z32 a) (z32 b) (z32 c) (z32 d)) A := by
  have hR := H.1
  have hN := H.2.1
  have hH := hR.2.1
  by_cases hh : 0 ≤ a ∧ a < vH A
  · by_cases ht : 0 ≤ b ∧ b < vT A
    · by_cases hl : 1 ≤ c ∧ c ≤ 60
      · by_cases hd : 0 ≤ d ∧ d ≤ c
        · have hbr := (hN.2 a hh.1 hh.2).1
          have e5 : hI A 5 (50 + a) = vBr A a := rfl
          have hT := hR.1
          have hg := (hR.2.2.2.2.1 b ht.1 ht.2).1
          have ok := fct_ok (s := d) (l := c) (la := 1) (be := 0) (br := vBr A a) (g := vGap A b) (by omega) (by omega) (by omega) (by omega) hbr hg
          obtain ⟨B, b1, b2, b3, b4⟩ := cTA_z (t := b) (l := c) (s := d) (br := vBr A a) hR H.2.2.2 ht.1 ht.2 (by omega) (by omega) hbr
          refine ⟨z32 (sTA oT A b c d (vBr A a)), B, ?_, b2, b3, fun σ hm => ?_⟩
          · simp (disch := omega) only [fX10_tired, fX10_isLength, hasB_p, fX7_breathOf, z32_add, z32_sub, z32_mul, z32_neg, z32_litn, z32_lt, z32_le, z32_eq, iG_h, lG_h, iS_j, lS_k, aI_h, wI_h, aL_h, wL_h, bnd, bnr_s, bnc_s, ↓reduceIte, ieqT, ieqF, iltT, iltF, ileT, ileF, not_true, not_false_iff, e5, b1]
          · obtain ⟨τ, t1, t2, t3, -⟩ := mAsk_z (s := d) (l := c) (br := vBr A a) (la := 1) (be := 0) (hm.1.2.2.2.2.2.1 b ht.1 ht.2).1 ht.1 (by omega) hm.1.1 (by omega) (by omega) hbr (by omega) (by omega) hg
            have eb := m_bank t2.1
            obtain ⟨υ, u1, u2⟩ := mTN_z (m_sum t2.1 hm.1.1.1 (by omega) (by omega) (by omega) (by omega) hm.2.2.2) ok t3 (by rw [eb]; exact hm.1.1)
            have e86 := (hm.2.1.2 a hh.1 hh.2).1
            refine ⟨υ, ?_, qM_t t2 (sM_q u2)⟩
            simp (disch := omega) only [fX11_tired, fX11_canBe, isH_p hR hm.1, isT_p hR hm.1, is_p, z32_add, z32_sub, z32_mul, z32_neg, z32_litn, z32_lt, z32_le, z32_eq, iG_h, lG_h, iS_j, lS_k, aI_h, wI_h, aL_h, wL_h, bnd, bnr_s, bnc_s, ↓reduceIte, ieqT, ieqF, iltT, iltF, ileT, ileF, not_true, not_false_iff, e86, t1, u1]
            cases oT <;> rfl
        · refine ⟨z32 (-1), A, ?_, qC_r A, kO_r A, fun σ hm => ⟨σ, ?_, qM_r σ⟩⟩
          · by_cases hd2 : d < 0
            · simp (disch := omega) only [fX10_tired, fX10_isLength, hasB_p, z32_add, z32_sub, z32_mul, z32_neg, z32_litn, z32_lt, z32_le, z32_eq, iG_h, lG_h, iS_j, lS_k, aI_h, wI_h, aL_h, wL_h, bnd, bnr_s, bnc_s, ↓reduceIte, ieqT, ieqF, iltT, iltF, ileT, ileF, not_true, not_false_iff]
            · simp (disch := omega) only [fX10_tired, fX10_isLength, hasB_p, z32_add, z32_sub, z32_mul, z32_neg, z32_litn, z32_lt, z32_le, z32_eq, iG_h, lG_h, iS_j, lS_k, aI_h, wI_h, aL_h, wL_h, bnd, bnr_s, bnc_s, ↓reduceIte, ieqT, ieqF, iltT, iltF, ileT, ileF, not_true, not_false_iff]
          · simp (disch := omega) only [fX11_tired, fX11_canBe, isH_p hR hm.1, isT_p hR hm.1, is_p, is_n, z32_add, z32_sub, z32_mul, z32_neg, z32_litn, z32_lt, z32_le, z32_eq, iG_h, lG_h, iS_j, lS_k, aI_h, wI_h, aL_h, wL_h, bnd, bnr_s, bnc_s, ↓reduceIte, ieqT, ieqF, iltT, iltF, ileT, ileF, not_true, not_false_iff]
      · refine ⟨z32 (-1), A, ?_, qC_r A, kO_r A, fun σ hm => ⟨σ, ?_, qM_r σ⟩⟩
        · by_cases hl2 : c < 1
          · simp (disch := omega) only [fX10_tired, fX10_isLength, hasB_p, z32_add, z32_sub, z32_mul, z32_neg, z32_litn, z32_lt, z32_le, z32_eq, iG_h, lG_h, iS_j, lS_k, aI_h, wI_h, aL_h, wL_h, bnd, bnr_s, bnc_s, ↓reduceIte, ieqT, ieqF, iltT, iltF, ileT, ileF, not_true, not_false_iff]
          · simp (disch := omega) only [fX10_tired, fX10_isLength, hasB_p, z32_add, z32_sub, z32_mul, z32_neg, z32_litn, z32_lt, z32_le, z32_eq, iG_h, lG_h, iS_j, lS_k, aI_h, wI_h, aL_h, wL_h, bnd, bnr_s, bnc_s, ↓reduceIte, ieqT, ieqF, iltT, iltF, ileT, ileF, not_true, not_false_iff]
        · simp (disch := omega) only [fX11_tired, fX11_canBe, isH_p hR hm.1, isT_p hR hm.1, is_n, z32_add, z32_sub, z32_mul, z32_neg, z32_litn, z32_lt, z32_le, z32_eq, iG_h, lG_h, iS_j, lS_k, aI_h, wI_h, aL_h, wL_h, bnd, bnr_s, bnc_s, ↓reduceIte, ieqT, ieqF, iltT, iltF, ileT, ileF, not_true, not_false_iff]
    · refine ⟨z32 (-1), A, ?_, qC_r A, kO_r A, fun σ hm => ⟨σ, ?_, qM_r σ⟩⟩
      · simp (disch := omega) only [fX10_tired, hasB_nt, z32_add, z32_sub, z32_mul, z32_neg, z32_litn, z32_lt, z32_le, z32_eq, iG_h, lG_h, iS_j, lS_k, aI_h, wI_h, aL_h, wL_h, bnd, bnr_s, bnc_s, ↓reduceIte, ieqT, ieqF, iltT, iltF, ileT, ileF, not_true, not_false_iff]
      · simp (disch := omega) only [fX11_tired, fX11_canBe, isH_p hR hm.1, isT_n hR hm.1, z32_add, z32_sub, z32_mul, z32_neg, z32_litn, z32_lt, z32_le, z32_eq, iG_h, lG_h, iS_j, lS_k, aI_h, wI_h, aL_h, wL_h, bnd, bnr_s, bnc_s, ↓reduceIte, ieqT, ieqF, iltT, iltF, ileT, ileF, not_true, not_false_iff]
  · refine ⟨z32 (-1), A, ?_, qC_r A, kO_r A, fun σ hm => ⟨σ, ?_, qM_r σ⟩⟩
    · simp (disch := omega) only [fX10_tired, hasB_nh, z32_add, z32_sub, z32_mul, z32_neg, z32_litn, z32_lt, z32_le, z32_eq, iG_h, lG_h, iS_j, lS_k, aI_h, wI_h, aL_h, wL_h, bnd, bnr_s, bnc_s, ↓reduceIte, ieqT, ieqF, iltT, iltF, ileT, ileF, not_true, not_false_iff]
    · simp (disch := omega) only [fX11_tired, fX11_canBe, isH_n hR hm.1, z32_add, z32_sub, z32_mul, z32_neg, z32_litn, z32_lt, z32_le, z32_eq, iG_h, lG_h, iS_j, lS_k, aI_h, wI_h, aL_h, wL_h, bnd, bnr_s, bnc_s, ↓reduceIte, ieqT, ieqF, iltT, iltF, ileT, ileF, not_true, not_false_iff]
end U

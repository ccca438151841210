/-! MY OWN: faces, both sides -/
/-- the tape goes, one is refused; the other side may try in its second slot -/
def tfU (k : Int) (p : Nat) (i : Int) : Prop := (p = 2 ∧ i = 1) ∨ (p = 56 ∧ i = 1) ∨ ((p = 37 ∨ p = 84) ∧ i = k) ∨ cpU 1 p i
section FA
variable {A B a b σ τ φ : zS} {t n k x c R : Int} {oW oT : Option ((Int → Int) → Int)}
theorem inv_TF (h : INV σ) (h0 : 0 ≤ k) (h1 : k < 5) (f : fr (tfU k) σ φ) (e2 : hI φ 2 1 = 0) (e56 : hI φ 56 1 = 0) (e37 : hI φ 37 k = (z32 (hI σ 37 k + 1)).toInt) (e84 : hI φ 84 k = (z32 (hI σ 84 k + 1)).toInt) : INV φ := by
  have hrp := rp_or σ.2.2.2.1
  refine inv_l h f (fun p i g u => ?_) (fun ht => ?_) (iv_S (sm_f f (fun p i g w u => by unfold fpS at w; unfold tfU cpU at u; omega))) (fun hf => rlF_r hf h0 h1 (fun i g0 g => ⟨(f.2 37 i g0 (by unfold tfU cpU; omega)).1, (f.2 84 i g0 (by unfold tfU cpU; omega)).1⟩) e37 e84) (iv_U (sm_f f (fun p i g w u => by unfold fpU at w; unfold tfU cpU at u; omega))) (iv_P (sm_f f (fun p i g w u => by unfold fpP at w; unfold tfU cpU at u; omega))) (fun hc j => iv_C j (sm_f f (fun p i g w u => by unfold fpQ at w; unfold tfU cpU at u; omega)) hc)
  · unfold tfU cpU at u
    unfold sfR fpC fpM fpN fpH
    omega
  · exact ⟨by rw [e56, e2], by rw [e2]; omega, fun k g0 g1 => by rw [(f.2 57 k g0 (by unfold tfU cpU; omega)).1, tx_c (f.2 3 k g0 (by unfold tfU cpU; omega)).1]; exact ht.2.2 k g0 g1⟩
theorem bytA_z (h0 : 0 ≤ k) (h1 : k < hI A 2 1) (h2 : hI A 2 1 ≤ 1600) : fX9_byteAt A (z32 k) = some (z32 (tx A k)) := by
  unfold fX9_byteAt
  rw [if_neg (by rw [z32_litn, z32_lt (by omega) (by omega) (by omega) (by omega)]; omega), show iG A 2 1 = z32 (hI A 2 1) from iG_h A 2 1, if_neg (by rw [z32_le (by omega) (by omega) (by omega) (by omega)]; omega), aI_h h0 (by omega) (by omega), tx_h, z32_of]
/-- row i of the tape may be one of faces -/
def okFc (A : zS) (i : Int) : Prop := tx A (2 * i) < vH A ∧ tx A (2 * i + 1) ≤ 60
theorem t43_g (hR : okR A) (hn : hI A 2 1 = 2 * R) (hR' : R ≤ 12) : ∀ (d : Nat) (x : Int) (f : Nat), x + d = R → 0 ≤ x → d < f → (∀ i, x ≤ i → i < R → okFc A i) → fX1_take_43 A.2.2.2.1 f (z32 t) (z32 R) (z32 x) A = fX1_take_92 A.2.2.2.1 zF (z32 t) (z32 R) (z32 0) A := by
  have hH := hR.2.1
  intro d
  induction d with
  | zero =>
    intro x f hx h0 hf g
    obtain ⟨f', rfl⟩ : ∃ f', f = f' + 1 := ⟨f - 1, by omega⟩
    rw [fX1_take_43, if_pos (by rw [z32_le (by omega) (by omega) (by omega) (by omega)]; omega), show (0 : Int32) = z32 0 from z32_litn 0]
  | succ d ih =>
    intro x f hx h0 hf g
    obtain ⟨f', rfl⟩ : ∃ f', f = f' + 1 := ⟨f - 1, by omega⟩
    obtain ⟨g1, g2⟩ := g x (Int.le_refl x) (by omega)
    have b1 := tx_b A (2 * x)
    have b2 := tx_b A (2 * x + 1)
    rw [fX1_take_43, if_neg (by rw [z32_le (by omega) (by omega) (by omega) (by omega)]; omega), show (2 : Int32) = z32 2 from z32_litn 2, z32_mul, bytA_z (by omega) (by omega) (by omega), bnr_q, hasH_p b1.1 g1, if_neg (by rw [z32_litn, z32_eq (by omega) (by omega) (by omega) (by omega)]; omega), z1p, bytA_z (by omega) (by omega) (by omega), bnr_q, isS_p b2.1 g2, if_neg (by rw [z32_litn, z32_eq (by omega) (by omega) (by omega) (by omega)]; omega), z1p]
    exact ih (x + 1) f' (by omega) (by omega) (by omega) (fun i w0 w1 => g i (by omega) w1)
theorem t43_b (hR : okR A) (hn : hI A 2 1 = 2 * R) (hR' : R ≤ 12) : ∀ (d : Nat) (x : Int) (f : Nat), x + d = R → 0 ≤ x → d < f → (∃ i, x ≤ i ∧ i < R ∧ ¬ okFc A i) → fX1_take_43 A.2.2.2.1 f (z32 t) (z32 R) (z32 x) A = some (z32 0, A) := by
  have hH := hR.2.1
  intro d
  induction d with
  | zero =>
    intro x f hx h0 hf g
    obtain ⟨i, g1, g2, -⟩ := g
    omega
  | succ d ih =>
    intro x f hx h0 hf g
    obtain ⟨f', rfl⟩ : ∃ f', f = f' + 1 := ⟨f - 1, by omega⟩
    have b1 := tx_b A (2 * x)
    have b2 := tx_b A (2 * x + 1)
    rw [fX1_take_43, if_neg (by rw [z32_le (by omega) (by omega) (by omega) (by omega)]; omega), show (2 : Int32) = z32 2 from z32_litn 2, z32_mul, bytA_z (by omega) (by omega) (by omega), bnr_q]
    by_cases g1 : tx A (2 * x) < vH A
    · rw [hasH_p b1.1 g1, if_neg (by rw [z32_litn, z32_eq (by omega) (by omega) (by omega) (by omega)]; omega), z1p, bytA_z (by omega) (by omega) (by omega), bnr_q]
      by_cases g2 : tx A (2 * x + 1) ≤ 60
      · rw [isS_p b2.1 g2, if_neg (by rw [z32_litn, z32_eq (by omega) (by omega) (by omega) (by omega)]; omega), z1p]
        obtain ⟨i, w1, w2, w3⟩ := g
        refine ih (x + 1) f' (by omega) (by omega) (by omega) ⟨i, ?_, w2, w3⟩
        by_cases gi : i = x
        · rw [gi] at w3; exact absurd ⟨g1, g2⟩ w3
        · omega
      · rw [isS_n (by omega) (by omega) (by omega), if_pos (by rw [z32_litn]), z32_litn]
    · rw [hasH_n (by omega) (by omega) (by omega), if_pos (by rw [z32_litn]), z32_litn]
theorem t92_z (hn : hI A 2 1 = 2 * R) (hR0 : 0 ≤ R) (hR' : R ≤ 12) (ht : 0 ≤ t ∧ t < 6) : ∃ a, fX1_take_92 A.2.2.2.1 zF (z32 t) (z32 R) (z32 0) A = some (z32 1, a) ∧ fr (fun p k => 32 ≤ p ∧ p ≤ 34) A a ∧ hI a 32 2 = t ∧ hI a 32 3 = R ∧ ∀ i, 0 ≤ i → i < R → hI a 33 i = tx A (2 * i) ∧ hI a 34 i = tx A (2 * i + 1) := by
  refine zupP0 (β := Int32 × zS) (L := fun f x a => fX1_take_92 A.2.2.2.1 f (z32 t) (z32 R) (z32 x) a) (n := R) (Q := fun r => ∃ a, r = some (z32 1, a) ∧ fr (fun p k => 32 ≤ p ∧ p ≤ 34) A a ∧ hI a 32 2 = t ∧ hI a 32 3 = R ∧ ∀ i, 0 ≤ i → i < R → hI a 33 i = tx A (2 * i) ∧ hI a 34 i = tx A (2 * i + 1))
    (fun x a => fr (fun p k => 33 ≤ p ∧ p ≤ 34) A a ∧ ∀ i, 0 ≤ i → i < x → hI a 33 i = tx A (2 * i) ∧ hI a 34 i = tx A (2 * i + 1)) (a := A) hR0 (by omega) ⟨fr_r, fun i g0 g1 => by omega⟩ ?_ ?_
  · intro f x a hx hx' ⟨p1, p2⟩
    have b1 := tx_b A (2 * x)
    have b2 := tx_b A (2 * x + 1)
    have e21 : hI a 2 1 = 2 * R := by rw [(p1.2 2 1 (by omega) (by omega)).1, hn]
    have y1 : fX9_byteAt a (z32 (2 * x)) = some (z32 (tx A (2 * x))) := by
      rw [bytA_z (by omega) (by omega) (by omega), tx_c (p1.2 3 _ (by omega) (by omega)).1]
    have y2 : fX9_byteAt (jS a 33 x (tx A (2 * x))) (z32 (2 * x + 1)) = some (z32 (tx A (2 * x + 1))) := by
      rw [bytA_z (by omega) (by rw [hI_jS_ne (by omega)]; omega) (by rw [hI_jS_ne (by omega)]; omega), tx_c (A := A) (by rw [hI_jS_ne (by omega)]; exact (p1.2 3 _ (by omega) (by omega)).1)]
    refine ⟨jS (jS a 33 x (tx A (2 * x))) 34 x (tx A (2 * x + 1)), ?_, fr_t p1 (fr_t (fr_j hx (by omega)) (fr_j hx (by omega))), fun i g0 g1 => ?_⟩
    · simp (disch := omega) only [fX1_take_92, z32_add, z32_sub, z32_mul, z32_neg, z32_litn, z32_lt, z32_le, z32_eq, iG_h, lG_h, iS_q, lS_q, aI_h, wI_h, aL_h, wL_h, ↓bnd_q, bnr_q, bnc_q, ↓reduceIte, ieqT, ieqF, iltT, iltF, ileT, ileF, not_true, not_false_iff, y1, y2]
    · rw [hI_jS_ne (by omega), hI_jS hx g0 (by omega) (by omega), hI_jS hx g0 (by omega) (by omega), hI_jS_ne (by omega)]
      by_cases gi : i = x
      · rw [if_pos gi, if_pos gi, gi]; exact ⟨rfl, rfl⟩
      · rw [if_neg gi, if_neg gi]; exact p2 i g0 (by omega)
  · intro f a ⟨p1, p2⟩
    refine ⟨jS (jS a 32 2 t) 32 3 R, ?_, fr_t (fr_m p1 (fun p k _ u => by omega)) (fr_t (fr_j (by omega) (by omega)) (fr_j (by omega) (by omega))), ?_, ?_, fun i g0 g1 => ?_⟩
    · simp (disch := omega) only [fX1_take_92, z32_add, z32_sub, z32_mul, z32_neg, z32_litn, z32_lt, z32_le, z32_eq, iG_h, lG_h, iS_q, lS_q, aI_h, wI_h, aL_h, wL_h, ↓bnd_q, bnr_q, bnc_q, ↓reduceIte, ieqT, ieqF, iltT, iltF, ileT, ileF, not_true, not_false_iff]
    · rw [hI_jS (by omega) (by omega) (by omega) (by omega), if_neg (by omega), hI_jS (by omega) (by omega) (by omega) (by omega), if_pos rfl]
    · rw [hI_jS (by omega) (by omega) (by omega) (by omega), if_pos rfl]
    · rw [hI_jS_ne (by omega), hI_jS_ne (by omega), hI_jS_ne (by omega), hI_jS_ne (by omega)]; exact p2 i g0 g1
-- the other side
theorem m43_0 (f : Nat) {x1 x2 x4 : Int32} : fX11_faces_43 (f + 1) x1 x2 (z32 0) x4 τ = fX11_faces_93 x1 x2 (z32 0) τ := by
  rw [fX11_faces_43]
  by_cases g : x2 ≤ x4
  · rw [if_pos g]
  · rw [if_neg g, if_pos (by rw [z32_litn])]
theorem m43_g (hR : okR A) (hm : rlR A τ) (e57 : ∀ k, 0 ≤ k → k < 1600 → hI τ 57 k = tx A k) (hR' : R ≤ 12) : ∀ (d : Nat) (x : Int) (f : Nat), x + d = R → 0 ≤ x → d < f → (∀ i, x ≤ i → i < R → okFc A i) → fX11_faces_43 f (z32 t) (z32 (2 * R)) (z32 1) (z32 (2 * x)) τ = fX11_faces_93 (z32 t) (z32 (2 * R)) (z32 1) τ := by
  have hH := hR.2.1
  intro d
  induction d with
  | zero =>
    intro x f hx h0 hf g
    obtain ⟨f', rfl⟩ : ∃ f', f = f' + 1 := ⟨f - 1, by omega⟩
    rw [fX11_faces_43, if_pos (by rw [z32_le (by omega) (by omega) (by omega) (by omega)]; omega)]
  | succ d ih =>
    intro x f hx h0 hf g
    obtain ⟨f', rfl⟩ : ∃ f', f = f' + 1 := ⟨f - 1, by omega⟩
    obtain ⟨g1, g2⟩ := g x (Int.le_refl x) (by omega)
    have b1 := tx_b A (2 * x)
    have b2 := tx_b A (2 * x + 1)
    rw [fX11_faces_43, if_neg (by rw [z32_le (by omega) (by omega) (by omega) (by omega)]; omega), if_neg (by rw [z32_litn, z32_eq (by omega) (by omega) (by omega) (by omega)]; omega), aI_h (by omega) (by omega) (by omega), e57 _ (by omega) (by omega), isH_p hR hm b1.1 g1, bnr_q, if_neg (by rw [z32_litn, z32_eq (by omega) (by omega) (by omega) (by omega)]; omega), z1p, aI_h (by omega) (by omega) (by omega), e57 _ (by omega) (by omega), if_neg (by rw [z32_litn, z32_lt (by omega) (by omega) (by omega) (by omega)]; omega), fX11_faces_86, show (2 : Int32) = z32 2 from z32_litn 2, z32_add, show 2 * x + 2 = 2 * (x + 1) by omega, show (1 : Int32) = z32 1 from z32_litn 1]
    exact ih (x + 1) f' (by omega) (by omega) (by omega) (fun i w0 w1 => g i (by omega) w1)
theorem m43_b (hR : okR A) (hm : rlR A τ) (e57 : ∀ k, 0 ≤ k → k < 1600 → hI τ 57 k = tx A k) (hR' : R ≤ 12) : ∀ (d : Nat) (x : Int) (f : Nat), x + d = R → 0 ≤ x → d + 1 < f → (∃ i, x ≤ i ∧ i < R ∧ ¬ okFc A i) → fX11_faces_43 f (z32 t) (z32 (2 * R)) (z32 1) (z32 (2 * x)) τ = fX11_faces_93 (z32 t) (z32 (2 * R)) (z32 0) τ := by
  have hH := hR.2.1
  intro d
  induction d with
  | zero =>
    intro x f hx h0 hf g
    obtain ⟨i, g1, g2, -⟩ := g
    omega
  | succ d ih =>
    intro x f hx h0 hf g
    obtain ⟨f', rfl⟩ : ∃ f', f = f' + 2 := ⟨f - 2, by omega⟩
    have b1 := tx_b A (2 * x)
    have b2 := tx_b A (2 * x + 1)
    rw [fX11_faces_43, if_neg (by rw [z32_le (by omega) (by omega) (by omega) (by omega)]; omega), if_neg (by rw [z32_litn, z32_eq (by omega) (by omega) (by omega) (by omega)]; omega), aI_h (by omega) (by omega) (by omega), e57 _ (by omega) (by omega)]
    by_cases g1 : tx A (2 * x) < vH A
    · rw [isH_p hR hm b1.1 g1, bnr_q, if_neg (by rw [z32_litn, z32_eq (by omega) (by omega) (by omega) (by omega)]; omega), z1p, aI_h (by omega) (by omega) (by omega), e57 _ (by omega) (by omega)]
      by_cases g2 : tx A (2 * x + 1) ≤ 60
      · rw [if_neg (by rw [z32_litn, z32_lt (by omega) (by omega) (by omega) (by omega)]; omega), fX11_faces_86, show (2 : Int32) = z32 2 from z32_litn 2, z32_add, show 2 * x + 2 = 2 * (x + 1) by omega, show (1 : Int32) = z32 1 from z32_litn 1]
        obtain ⟨i, w1, w2, w3⟩ := g
        refine ih (x + 1) (f' + 1) (by omega) (by omega) (by omega) ⟨i, ?_, w2, w3⟩
        by_cases gi : i = x
        · rw [gi] at w3; exact absurd ⟨g1, g2⟩ w3
        · omega
      · rw [if_pos (by rw [z32_litn, z32_lt (by omega) (by omega) (by omega) (by omega)]; omega), fX11_faces_85, fX11_faces_86, show (0 : Int32) = z32 0 from z32_litn 0, m43_0]
    · rw [isH_n hR hm (by omega) (by omega) (by omega), bnr_q, if_pos (by rw [z32_litn]), fX11_faces_85, fX11_faces_86, show (0 : Int32) = z32 0 from z32_litn 0, m43_0]
theorem m118_z (e57 : ∀ k, 0 ≤ k → k < 1600 → hI τ 57 k = tx A k) (hR0 : 0 ≤ R) (hR' : R ≤ 12) (e72 : hI τ 56 72 = R) : ∃ φ, fX11_faces_118 zF (z32 0) τ = some (z32 R, φ) ∧ fr (fun p k => 99 ≤ p ∧ p ≤ 100) τ φ ∧ ∀ i, 0 ≤ i → i < R → hI φ 99 i = tx A (2 * i) ∧ hI φ 100 i = tx A (2 * i + 1) := by
  refine zupP0 (β := Int32 × zS) (L := fun f x a => fX11_faces_118 f (z32 x) a) (n := R) (Q := fun r => ∃ φ, r = some (z32 R, φ) ∧ fr (fun p k => 99 ≤ p ∧ p ≤ 100) τ φ ∧ ∀ i, 0 ≤ i → i < R → hI φ 99 i = tx A (2 * i) ∧ hI φ 100 i = tx A (2 * i + 1))
    (fun x a => fr (fun p k => 99 ≤ p ∧ p ≤ 100) τ a ∧ ∀ i, 0 ≤ i → i < x → hI a 99 i = tx A (2 * i) ∧ hI a 100 i = tx A (2 * i + 1)) (a := τ) hR0 (by omega) ⟨fr_r, fun i g0 g1 => by omega⟩ ?_ ?_
  · intro f x a hx hx' ⟨p1, p2⟩
    have b1 := tx_b A (2 * x)
    have b2 := tx_b A (2 * x + 1)
    have e1 : hI a 56 72 = R := by rw [(p1.2 56 72 (by omega) (by omega)).1, e72]
    have e2 : hI a 57 (2 * x) = tx A (2 * x) := by rw [(p1.2 57 _ (by omega) (by omega)).1, e57 _ (by omega) (by omega)]
    have e3 : hI a 57 (2 * x + 1) = tx A (2 * x + 1) := by rw [(p1.2 57 _ (by omega) (by omega)).1, e57 _ (by omega) (by omega)]
    refine ⟨jS (jS a 99 x (tx A (2 * x))) 100 x (tx A (2 * x + 1)), ?_, fr_t p1 (fr_t (fr_j hx (by omega)) (fr_j hx (by omega))), fun i g0 g1 => ?_⟩
    · simp (disch := omega) only [fX11_faces_118, z32_add, z32_sub, z32_mul, z32_neg, z32_litn, z32_lt, z32_le, z32_eq, iG_h, lG_h, iS_q, lS_q, aI_h, wI_h, aL_h, wL_h, ↓bnd_q, bnr_q, bnc_q, ↓reduceIte, ieqT, ieqF, iltT, iltF, ileT, ileF, not_true, not_false_iff, hI_jS_ne, e1, e2, e3]
    · rw [hI_jS_ne (by omega), hI_jS hx g0 (by omega) (by omega), hI_jS hx g0 (by omega) (by omega), hI_jS_ne (by omega)]
      by_cases gi : i = x
      · rw [if_pos gi, if_pos gi, gi]; exact ⟨rfl, rfl⟩
      · rw [if_neg gi, if_neg gi]; exact p2 i g0 (by omega)
  · intro f a ⟨p1, p2⟩
    have e1 : hI a 56 72 = R := by rw [(p1.2 56 72 (by omega) (by omega)).1, e72]
    refine ⟨a, ?_, p1, p2⟩
    simp (disch := omega) only [fX11_faces_118, z32_add, z32_sub, z32_mul, z32_neg, z32_litn, z32_lt, z32_le, z32_eq, iG_h, lG_h, iS_q, lS_q, aI_h, wI_h, aL_h, wL_h, ↓bnd_q, bnr_q, bnc_q, ↓reduceIte, ieqT, ieqF, iltT, iltF, ileT, ileF, not_true, not_false_iff, e1]
theorem C_faces (h : INV σ) (h1 : -2147483648 ≤ c) (h2 : c < 2147483648) : CA (fX10_faces (z32 c)) (fX11_faces (z32 c)) σ := by
  have h' := h
  obtain ⟨oW, oT, i1, i2, i3, i4, i5, i6, i7, i8, i9, i10, i11⟩ := h'
  have hR := i1.1
  have hm := IR_M i1 i2
  have hT6 := hR.1
  have hrp := rp_or σ.2.2.2.1
  obtain ⟨t1, t2, t3⟩ := i3
  obtain ⟨n, hn⟩ : ∃ n, n = hI σ 2 1 := ⟨_, rfl⟩
  have en : iG σ 2 1 = z32 n := by rw [hn]; exact iG_h σ 2 1
  rw [← hn] at t1 t2
  have bad : fX1_take σ.2.2.2.1 (z32 c) σ = some (z32 0, σ) → (∀ B : zS, hI B 56 1 = n → rlR σ (jS B 56 1 0) → (∀ k, 0 ≤ k → k < 1600 → hI (jS B 56 1 0) 57 k = tx σ k) → fX11_faces (z32 c) B = fX11_faces_93 (z32 c) (z32 n) (z32 0) (jS B 56 1 0)) → CA (fX10_faces (z32 c)) (fX11_faces (z32 c)) σ := fun g1 g2 => by
    obtain ⟨B, hB⟩ : ∃ B, B = jS (jS σ 2 1 0) 37 4 (z32 (hI (jS σ 2 1 0) 37 4 + 1)).toInt := ⟨_, rfl⟩
    obtain ⟨τ, hτ⟩ : ∃ τ, τ = jS B 56 1 0 := ⟨_, rfl⟩
    obtain ⟨φ, hφ⟩ : ∃ φ, φ = jS τ 84 4 (z32 (hI τ 84 4 + 1)).toInt := ⟨_, rfl⟩
    have fB : fr (tfU 4) σ B := by rw [hB]; exact fr_t (fr_j (by omega) (by unfold tfU; omega)) (fr_j (by omega) (by unfold tfU; omega))
    have fτ : fr (tfU 4) B τ := by rw [hτ]; exact fr_j (by omega) (by unfold tfU; omega)
    have fφ : fr (tfU 4) τ φ := by rw [hφ]; exact fr_j (by omega) (by unfold tfU; omega)
    have mτ : RM oW oT σ τ := RM_f hR hm (fr_t fB fτ) (fun p k _ u => by have := hm.1.1; unfold tfU cpU at u; unfold fpM fpN; omega)
    have z1 := z32_b (z32 (hI (jS σ 2 1 0) 37 4 + 1))
    have z2 := z32_b (z32 (hI τ 84 4 + 1))
    refine ⟨z32 (-1), B, φ, ?_, ?_, inv_TF h (k := 4) (by omega) (by omega) (fr_t (fr_t fB fτ) fφ) ?_ ?_ ?_ ?_⟩
    · unfold fX10_faces
      rw [g1, bnc_q]
      try dsimp only
      rw [show (0 : Int32) = z32 0 from z32_litn 0, iS_q, bnd_q, if_pos rfl, ref_z (k := 4) (z32_litn 4) (by omega) (by omega), bnc_q, ← hB]
    · rw [g2 B (by rw [hB, hI_jS_ne (by omega), hI_jS_ne (by omega), t1]) (by rw [← hτ]; exact mτ.1) (fun k g0 g1 => by rw [hI_jS_ne (by omega), hB, hI_jS_ne (by omega), hI_jS_ne (by omega)]; exact t3 k g0 g1), ← hτ, fX11_faces_93, if_pos (by rw [z32_litn]), mref_z (k := 4) (z32_litn 4) (by omega) (by omega), bnc_q, ← hφ]
    · rw [hφ, hI_jS_ne (by omega), hτ, hI_jS_ne (by omega), hB, hI_jS_ne (by omega), hI_jS (by omega) (by omega) (by omega) (by omega), if_pos rfl]
    · rw [hφ, hI_jS_ne (by omega), hτ, hI_jS (by omega) (by omega) (by omega) (by omega), if_pos rfl]
    · rw [hφ, hI_jS_ne (by omega), hτ, hI_jS_ne (by omega), hB, hI_jS (by omega) (by omega) z1.1 z1.2, if_pos rfl, hI_jS_ne (by omega)]
    · rw [hφ, hI_jS (by omega) (by omega) z2.1 z2.2, if_pos rfl, hτ, hI_jS_ne (by omega), hB, hI_jS_ne (by omega), hI_jS_ne (by omega)]
  have m38 : ∀ (B : zS) (x : Int32), fX11_faces_38 (z32 c) x B = fX11_faces_93 (z32 c) x (z32 0) B := fun B x => by
    obtain ⟨g, hg⟩ := zF_ex
    unfold fX11_faces_38 fX11_faces_39
    rw [show (0 : Int32) = z32 0 from z32_litn 0, hg, m43_0]
  by_cases ht : 0 ≤ c ∧ c < vT σ
  · by_cases hn0 : n = 0
    · refine bad ?_ (fun B e1 e2 e3 => ?_)
      · simp (disch := omega) only [fX1_take, hasT_p, en, z32_add, z32_sub, z32_mul, z32_neg, z32_litn, z32_lt, z32_le, z32_eq, iG_h, lG_h, iS_q, lS_q, aI_h, wI_h, aL_h, wL_h, ↓bnd_q, bnr_q, bnc_q, ↓reduceIte, ieqT, ieqF, iltT, iltF, ileT, ileF, not_true, not_false_iff, z32_div]
      · simp (disch := omega) only [fX11_faces, z32_add, z32_sub, z32_mul, z32_neg, z32_litn, z32_lt, z32_le, z32_eq, iG_h, lG_h, iS_q, lS_q, aI_h, wI_h, aL_h, wL_h, ↓bnd_q, bnr_q, bnc_q, ↓reduceIte, ieqT, ieqF, iltT, iltF, ileT, ileF, not_true, not_false_iff, e1, isT_p hR e2, m38]
    · by_cases ho : n % 2 = 0
      · obtain ⟨R, hRn⟩ : ∃ R, n = 2 * R := ⟨n / 2, by omega⟩
        by_cases hR12 : R ≤ 12
        · have ek : fX1_take σ.2.2.2.1 (z32 c) σ = fX1_take_43 σ.2.2.2.1 zF (z32 c) (z32 R) (z32 0) σ := by
            have eh : n / 2 = R := by omega
            simp (disch := omega) only [fX1_take, hasT_p, en, z32_add, z32_sub, z32_mul, z32_neg, z32_litn, z32_lt, z32_le, z32_eq, iG_h, lG_h, iS_q, lS_q, aI_h, wI_h, aL_h, wL_h, ↓bnd_q, bnr_q, bnc_q, ↓reduceIte, ieqT, ieqF, iltT, iltF, ileT, ileF, not_true, not_false_iff, z32_div, eh]
          have em : ∀ B : zS, hI B 56 1 = n → rlR σ (jS B 56 1 0) → fX11_faces (z32 c) B = fX11_faces_43 zF (z32 c) (z32 n) (z32 1) (z32 (2 * 0)) (jS B 56 1 0) := fun B e1 e2 => by
            simp (disch := omega) only [fX11_faces, fX11_faces_39, z32_add, z32_sub, z32_mul, z32_neg, z32_litn, z32_lt, z32_le, z32_eq, iG_h, lG_h, iS_q, lS_q, aI_h, wI_h, aL_h, wL_h, ↓bnd_q, bnr_q, bnc_q, ↓reduceIte, ieqT, ieqF, iltT, iltF, ileT, ileF, not_true, not_false_iff, e1, isT_p hR e2, z32_rem, Int.mul_zero]
          obtain ⟨d, hd⟩ : ∃ d : Nat, (0 : Int) + d = R := ⟨R.toNat, by omega⟩
          by_cases good : ∀ i, 0 ≤ i → i < R → okFc σ i
          · obtain ⟨a, a1, a2, a3, a4, a5⟩ := t92_z (A := σ) (t := c) (by omega : hI σ 2 1 = 2 * R) (by omega) hR12 (by omega)
            have g43 := t43_g (A := σ) (t := c) hR (by omega : hI σ 2 1 = 2 * R) hR12 d 0 zF hd (by omega) (by unfold zF; omega) good
            obtain ⟨B, hB⟩ : ∃ B, B = jS a 2 1 0 := ⟨_, rfl⟩
            have fB : fr (fun p k => (32 ≤ p ∧ p ≤ 34) ∨ (p = 2 ∧ k = 1)) σ B := by rw [hB]; exact fr_t (fr_m a2 (fun p k _ u => Or.inl u)) (fr_j (by omega) (Or.inr ⟨rfl, rfl⟩))
            obtain ⟨τ0, hτ0⟩ : ∃ τ0, τ0 = jS B 56 1 0 := ⟨_, rfl⟩
            obtain ⟨τ, hτ⟩ : ∃ τ, τ = jS (jS τ0 56 73 c) 56 72 R := ⟨_, rfl⟩
            have fτ0 : fr (fun p k => p = 56 ∧ (k = 1 ∨ k = 72 ∨ k = 73)) B τ0 := by rw [hτ0]; exact fr_j (by omega) (by omega)
            have fτ : fr (fun p k => p = 56 ∧ (k = 1 ∨ k = 72 ∨ k = 73)) τ0 τ := by rw [hτ]; exact fr_t (fr_j (by omega) (by omega)) (fr_j (by omega) (by omega))
            have m0 : RM oW oT σ τ0 := RM_f hR (RM_f hR hm fB (fun p k _ u => by have := hm.1.1; unfold fpM fpN; omega)) fτ0 (fun p k _ u => by have := hm.1.1; rw [(fB.2 56 13 (by omega) (by omega)).1]; unfold fpM fpN; omega)
            have e57 : ∀ k, 0 ≤ k → k < 1600 → hI τ0 57 k = tx σ k := fun k g0 g1 => by rw [(fτ0.2 57 k g0 (by omega)).1, (fB.2 57 k g0 (by omega)).1]; exact t3 k g0 g1
            have e57' : ∀ k, 0 ≤ k → k < 1600 → hI τ 57 k = tx σ k := fun k g0 g1 => by rw [(fτ.2 57 k g0 (by omega)).1]; exact e57 k g0 g1
            have g43' := m43_g (A := σ) (τ := τ0) (t := c) hR m0.1 e57 hR12 d 0 zF hd (by omega) (by unfold zF; omega) good
            obtain ⟨φ, p1, p2, p3⟩ := m118_z (A := σ) (τ := τ) e57' (by omega : 0 ≤ R) hR12 (by rw [hτ, hI_jS (by omega) (by omega) (by omega) (by omega), if_pos rfl])
            have fφ : fr (fun p k => (32 ≤ p ∧ p ≤ 34) ∨ (p = 2 ∧ k = 1) ∨ (p = 56 ∧ (k = 1 ∨ k = 72 ∨ k = 73)) ∨ (99 ≤ p ∧ p ≤ 100)) σ φ := fr_t (fr_t (fr_t (fr_m fB (fun p k _ u => by omega)) (fr_m fτ0 (fun p k _ u => by omega))) (fr_m fτ (fun p k _ u => by omega))) (fr_m p2 (fun p k _ u => by omega))
            have cl : ∀ p k, p < 56 → 0 ≤ k → hI φ p k = hI B p k := fun p k g0 g1 => by rw [(p2.2 p k g1 (by omega)).1, (fτ.2 p k g1 (by omega)).1, (fτ0.2 p k g1 (by omega)).1]
            refine ⟨z32 R, B, φ, ?_, ?_, inv_l h fφ (fun p i g u => ?_) (fun ht => ?_) (iv_S (sm_f fφ (fun p i g w u => by unfold fpS at w; omega))) (iv_F (sm_f fφ (fun p i g w u => by unfold fpF at w; omega))) (iv_U (sm_f fφ (fun p i g w u => by unfold fpU at w; omega))) (iv_P (sm_f fφ (fun p i g w u => by unfold fpP at w; omega))) (fun hc j => ?_)⟩
            · unfold fX10_faces
              rw [ek, g43, a1, bnc_q]
              try dsimp only
              rw [show (0 : Int32) = z32 0 from z32_litn 0, iS_q, bnd_q, if_neg (by rw [z32_eq (by omega) (by omega) (by omega) (by omega)]; omega), show iG (jS a 2 1 0) 32 3 = z32 (hI (jS a 2 1 0) 32 3) from iG_h _ 32 3, hI_jS_ne (by omega), a4, ← hB]
            · rw [em B (by rw [(fB.2 56 1 (by omega) (by omega)).1, t1]) (by rw [← hτ0]; exact m0.1), ← hτ0, hRn, g43', fX11_faces_93, if_neg (by rw [z32_litn, z32_eq (by omega) (by omega) (by omega) (by omega)]; omega), iS_q, bnd_q, show (2 : Int32) = z32 2 from z32_litn 2, z32_div (by omega) (by omega) (by omega) (by omega), show 2 * R / 2 = R by omega, iS_q, bnd_q, ← hτ, show (0 : Int32) = z32 0 from z32_litn 0, p1]
            · unfold sfR fpC fpM fpN fpH
              omega
            · refine ⟨?_, ?_, fun k g0 g1 => ?_⟩
              · rw [cl 2 1 (by omega) (by omega), hB, hI_jS (by omega) (by omega) (by omega) (by omega), if_pos rfl, (p2.2 56 1 (by omega) (by omega)).1, hτ, hI_jS (by omega) (by omega) (by omega) (by omega), if_neg (by omega), hI_jS (by omega) (by omega) (by omega) (by omega), if_neg (by omega), hτ0, hI_jS (by omega) (by omega) (by omega) (by omega), if_pos rfl]
              · rw [cl 2 1 (by omega) (by omega), hB, hI_jS (by omega) (by omega) (by omega) (by omega), if_pos rfl]; omega
              · rw [(p2.2 57 k g0 (by omega)).1, e57' k g0 g1, tx_c (A := σ) (fφ.2 3 k g0 (by omega)).1]
            · have c3 : hI φ 32 3 = R := by rw [cl 32 3 (by omega) (by omega), hB, hI_jS_ne (by omega), a4]
              have c2 : hI φ 32 2 = c := by rw [cl 32 2 (by omega) (by omega), hB, hI_jS_ne (by omega), a3]
              have c33 : ∀ i, 0 ≤ i → i < R → hI φ 33 i = tx σ (2 * i) ∧ hI φ 34 i = tx σ (2 * i + 1) := fun i g0 g1 => by
                rw [cl 33 i (by omega) g0, cl 34 i (by omega) g0, hB, hI_jS_ne (by omega), hI_jS_ne (by omega)]; exact a5 i g0 g1
              unfold rlC
              rw [c3, c2, j_T j, j_H j]
              refine ⟨?_, by omega, fun _ => ⟨?_, ht.1, ht.2⟩, fun k g0 g1 => ?_⟩
              · rw [(p2.2 56 72 (by omega) (by omega)).1, hτ, hI_jS (by omega) (by omega) (by omega) (by omega), if_pos rfl]
              · rw [(p2.2 56 73 (by omega) (by omega)).1, hτ, hI_jS (by omega) (by omega) (by omega) (by omega), if_neg (by omega), hI_jS (by omega) (by omega) (by omega) (by omega), if_pos rfl]
              · obtain ⟨w1, w2⟩ := c33 k g0 g1
                obtain ⟨w3, w4⟩ := p3 k g0 g1
                obtain ⟨w5, w6⟩ := good k g0 g1
                have b1 := tx_b σ (2 * k)
                have b2 := tx_b σ (2 * k + 1)
                rw [w1, w2, w3, w4]
                exact ⟨rfl, rfl, ⟨b1.1, w5⟩, b2.1, w6⟩
          · have bd : ∃ i, (0 : Int) ≤ i ∧ i < R ∧ ¬ okFc σ i := by
              apply Classical.byContradiction
              intro w
              exact good (fun i g0 g1 => Classical.byContradiction (fun g => w ⟨i, g0, g1, g⟩))
            refine bad ?_ (fun B e1 e2 e3 => ?_)
            · rw [ek, t43_b (A := σ) (t := c) hR (by omega : hI σ 2 1 = 2 * R) hR12 d 0 zF hd (by omega) (by unfold zF; omega) bd]
            · rw [em B e1 e2, hRn, m43_b (A := σ) (t := c) hR e2 e3 hR12 d 0 zF hd (by omega) (by unfold zF; omega) bd]
        · refine bad ?_ (fun B e1 e2 e3 => ?_)
          · simp (disch := omega) only [fX1_take, hasT_p, en, z32_add, z32_sub, z32_mul, z32_neg, z32_litn, z32_lt, z32_le, z32_eq, iG_h, lG_h, iS_q, lS_q, aI_h, wI_h, aL_h, wL_h, ↓bnd_q, bnr_q, bnc_q, ↓reduceIte, ieqT, ieqF, iltT, iltF, ileT, ileF, not_true, not_false_iff, z32_div]
          · simp (disch := omega) only [fX11_faces, z32_add, z32_sub, z32_mul, z32_neg, z32_litn, z32_lt, z32_le, z32_eq, iG_h, lG_h, iS_q, lS_q, aI_h, wI_h, aL_h, wL_h, ↓bnd_q, bnr_q, bnc_q, ↓reduceIte, ieqT, ieqF, iltT, iltF, ileT, ileF, not_true, not_false_iff, e1, isT_p hR e2, m38, z32_rem]
      · refine bad ?_ (fun B e1 e2 e3 => ?_)
        · simp (disch := omega) only [fX1_take, hasT_p, en, z32_add, z32_sub, z32_mul, z32_neg, z32_litn, z32_lt, z32_le, z32_eq, iG_h, lG_h, iS_q, lS_q, aI_h, wI_h, aL_h, wL_h, ↓bnd_q, bnr_q, bnc_q, ↓reduceIte, ieqT, ieqF, iltT, iltF, ileT, ileF, not_true, not_false_iff, z32_div]
        · simp (disch := omega) only [fX11_faces, z32_add, z32_sub, z32_mul, z32_neg, z32_litn, z32_lt, z32_le, z32_eq, iG_h, lG_h, iS_q, lS_q, aI_h, wI_h, aL_h, wL_h, ↓bnd_q, bnr_q, bnc_q, ↓reduceIte, ieqT, ieqF, iltT, iltF, ileT, ileF, not_true, not_false_iff, e1, isT_p hR e2, m38, z32_rem]
  · refine bad ?_ (fun B e1 e2 e3 => ?_)
    · simp (disch := omega) only [fX1_take, hasT_n h1 h2 ht, z32_add, z32_sub, z32_mul, z32_neg, z32_litn, z32_lt, z32_le, z32_eq, iG_h, lG_h, iS_q, lS_q, aI_h, wI_h, aL_h, wL_h, ↓bnd_q, bnr_q, bnc_q, ↓reduceIte, ieqT, ieqF, iltT, iltF, ileT, ileF, not_true, not_false_iff]
    · simp (disch := omega) only [fX11_faces, z32_add, z32_sub, z32_mul, z32_neg, z32_litn, z32_lt, z32_le, z32_eq, iG_h, lG_h, iS_q, lS_q, aI_h, wI_h, aL_h, wL_h, ↓bnd_q, bnr_q, bnc_q, ↓reduceIte, ieqT, ieqF, iltT, iltF, ileT, ileF, not_true, not_false_iff, e1, isT_n hR e2 h1 h2 ht, m38]
end FA

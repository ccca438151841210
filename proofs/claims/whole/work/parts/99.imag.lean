/-! MY OWN: image, both sides -/
def ckN (g : Int → Int) : Nat → Int
  | 0 => 107
  | n + 1 => (5 * ckN g n + g n) % 251
def imC (p : Nat) (k : Int) : Prop := p = 36 ∨ (p = 35 ∧ k = 1)
def imM (p : Nat) (k : Int) : Prop := p = 102 ∨ (p = 56 ∧ k = 78)
def IMG (A b : zS) (s : Int) : Prop := hI A 35 1 = s ∧ hI b 56 78 = s ∧ 0 ≤ s ∧ ∀ i, 0 ≤ i → i < s → hI b 102 i = hI A 36 i ∧ 0 ≤ hI A 36 i ∧ hI A 36 i ≤ 255
theorem ckN_b (g : Int → Int) (n : Nat) : 0 ≤ ckN g n ∧ ckN g n ≤ 250 := by
  cases n with
  | zero => show (0 : Int) ≤ 107 ∧ (107 : Int) ≤ 250; omega
  | succ n => show 0 ≤ (5 * ckN g n + g n) % 251 ∧ (5 * ckN g n + g n) % 251 ≤ 250; omega
theorem ckN_c {g g' : Int → Int} : ∀ n : Nat, (∀ i : Nat, i < n → g i = g' i) → ckN g n = ckN g' n := by
  intro n
  induction n with
  | zero => intro _; rfl
  | succ n ih =>
    intro h
    show (5 * ckN g n + g n) % 251 = (5 * ckN g' n + g' n) % 251
    rw [ih (fun i hi => h i (by omega)), h n (by omega)]
section IM
variable {A B a b σ τ : zS} {v w s x k c : Int} {oW oT : Option ((Int → Int) → Int)}
theorem and_b (h0 : 0 ≤ v) (h1 : v ≤ 255) : z32 v &&& 255 = z32 v := by
  obtain ⟨n, rfl⟩ := Int.eq_ofNat_of_zero_le h0
  rw [show z32 (n : Int) = nI n from (z32_ofNat n).symm, pk_andN (by omega) 8 (by decide), Nat.mod_eq_of_lt (by omega)]
theorem and_m (h0 : 0 ≤ v) (h1 : v < 2147483648) : z32 v &&& 255 = z32 (v % 256) := by
  obtain ⟨n, rfl⟩ := Int.eq_ofNat_of_zero_le h0
  rw [show z32 (n : Int) = nI n from (z32_ofNat n).symm, pk_andN (by omega) 8 (by decide)]
  exact z32_ofNat _
theorem shr_16 (h0 : 0 ≤ v) (h1 : v < 2147483648) : z32 v >>> (16 &&& 31) = z32 (v / 65536) := by
  obtain ⟨n, rfl⟩ := Int.eq_ofNat_of_zero_le h0
  rw [show z32 (n : Int) = nI n from (z32_ofNat n).symm, pk_shrN (by omega) _ 16 (by decide)]
  exact z32_ofNat _
theorem shr_8 (h0 : 0 ≤ v) (h1 : v < 2147483648) : z32 v >>> (8 &&& 31) = z32 (v / 256) := by
  obtain ⟨n, rfl⟩ := Int.eq_ofNat_of_zero_le h0
  rw [show z32 (n : Int) = nI n from (z32_ofNat n).symm, pk_shrN (by omega) _ 8 (by decide)]
  exact z32_ofNat _
theorem chk_z (h0 : 0 ≤ c ∧ c ≤ 250) (h1 : 0 ≤ v ∧ v ≤ 255) : fX3_withChecked (z32 c) (z32 v) = z32 ((5 * c + v) % 251) := by
  unfold fX3_withChecked
  rw [show (5 : Int32) = z32 5 from z32_litn 5, z32_mul, z32_add, show (251 : Int32) = z32 251 from z32_litn 251, z32_rem (by omega) (by omega) (by omega) (by omega)]
theorem adB_j (I : IMG A b s) (hs : s < 68) (hv : 0 ≤ v ∧ v ≤ 255) {x : Int32} (hx : x &&& 255 = z32 v) : ∃ A' b', fX3_addByte (z32 v) A = some A' ∧ fX11_writes x b = some b' ∧ IMG A' b' (s + 1) ∧ fr imC A A' ∧ fr imM b b' := by
  obtain ⟨i1, i2, i3, i4⟩ := I
  refine ⟨jS (jS A 36 s v) 35 1 (s + 1), jS (jS b 102 s v) 56 78 (s + 1), ?_, ?_, ⟨?_, ?_, by omega, fun i g0 g1 => ?_⟩, fr_t (fr_j i3 (Or.inl rfl)) (fr_j (by omega) (Or.inr ⟨rfl, rfl⟩)), fr_t (fr_j i3 (Or.inl rfl)) (fr_j (by omega) (Or.inr ⟨rfl, rfl⟩))⟩
  · unfold fX3_addByte
    rw [show iG A 35 1 = z32 (hI A 35 1) from iG_h A 35 1, i1, if_neg (by rw [z32_litn, z32_le (by omega) (by omega) (by omega) (by omega)]; omega), wI_h i3 (by omega) (by omega), show iG (jS A 36 s v) 35 1 = z32 (hI (jS A 36 s v) 35 1) from iG_h _ 35 1, hI_jS_ne (by omega), i1, z1p, iS_q, bnd_q]
  · unfold fX11_writes
    rw [show iG b 56 78 = z32 (hI b 56 78) from iG_h b 56 78, i2, hx, wI_h i3 (by omega) (by omega), show iG (jS b 102 s v) 56 78 = z32 (hI (jS b 102 s v) 56 78) from iG_h _ 56 78, hI_jS_ne (by omega), i2, z1p, iS_q, bnd_q]
  · rw [hI_jS (by omega) (by omega) (by omega) (by omega), if_pos rfl]
  · rw [hI_jS (by omega) (by omega) (by omega) (by omega), if_pos rfl]
  · have y1 : hI (jS (jS b 102 s v) 56 78 (s + 1)) 102 i = if i = s then v else hI b 102 i := by rw [hI_jS_ne (by omega), hI_jS i3 g0 (by omega) (by omega)]
    have y2 : hI (jS (jS A 36 s v) 35 1 (s + 1)) 36 i = if i = s then v else hI A 36 i := by rw [hI_jS_ne (by omega), hI_jS i3 g0 (by omega) (by omega)]
    rw [y1, y2]
    by_cases gi : i = s
    · rw [if_pos gi, if_pos gi]; exact ⟨rfl, hv⟩
    · rw [if_neg gi, if_neg gi]; exact i4 i g0 (by omega)
/-- base and now: what an image reads stays -/
def imB (A a b0 b : zS) : Prop := fr imC A a ∧ fr imM b0 b
theorem th_j (hR : okR A) (hN : okN A) {b0 : zS} (hm : RM oW oT A b0) (hx : 0 ≤ x) (hx' : x < vH A) (r15 : Int32 → zS → Option zS) (r17 : Int32 → zS → Option (Int32 × zS)) : ∀ (d : Nat) (k s : Int) (a b : zS) (f f' : Nat), k + d = vT A → 0 ≤ k → d < f → d < f' → IMG a b s → s + d ≤ 68 → imB A a b0 b → ∃ a' b', fX3_write_86 A.2.2.2.1 r15 f (z32 x) (z32 k) a = r15 (z32 (x + 1)) a' ∧ fX11_image_84 r17 f' (z32 x) (z32 k) b = r17 (z32 (x + 1)) b' ∧ IMG a' b' (s + d) ∧ imB A a' b0 b' := by
  have hH := hR.2.1
  have hT := hR.1
  have hrp := rp_or A.2.2.2.1
  have b13 := hm.1.1
  intro d
  induction d with
  | zero =>
    intro k s a b f f' hk h0 hf hf' I hs J
    obtain ⟨g, rfl⟩ : ∃ g, f = g + 1 := ⟨f - 1, by omega⟩
    obtain ⟨g', rfl⟩ : ∃ g', f' = g' + 1 := ⟨f' - 1, by omega⟩
    have eT : hI a (rp A.2.2.2.1 + 0) 1 = vT A := (J.1.2 _ 1 (by omega) (by unfold imC; omega)).1
    have e13 : hI b 56 13 = hI b0 56 13 := (J.2.2 56 13 (by omega) (by unfold imM; omega)).1
    have e58 : hI b 58 (hI b0 56 13) = vT A := by rw [(J.2.2 58 _ (by omega) (by unfold imM; omega)).1]; exact hm.1.2.1
    refine ⟨a, b, ?_, ?_, by rw [show s + ((0 : Nat) : Int) = s by omega]; exact I, J⟩
    · simp (disch := omega) only [fX3_write_86, z32_add, z32_sub, z32_mul, z32_neg, z32_litn, z32_lt, z32_le, z32_eq, iG_h, lG_h, iS_q, lS_q, aI_h, wI_h, aL_h, wL_h, ↓bnd_q, bnr_q, bnc_q, ↓reduceIte, ieqT, ieqF, iltT, iltF, ileT, ileF, not_true, not_false_iff, eT]
    · simp (disch := omega) only [fX11_image_84, z32_add, z32_sub, z32_mul, z32_neg, z32_litn, z32_lt, z32_le, z32_eq, iG_h, lG_h, iS_q, lS_q, aI_h, wI_h, aL_h, wL_h, ↓bnd_q, bnr_q, bnc_q, ↓reduceIte, ieqT, ieqF, iltT, iltF, ileT, ileF, not_true, not_false_iff, e13, e58]
  | succ d ih =>
    intro k s a b f f' hk h0 hf hf' I hs J
    obtain ⟨g, rfl⟩ : ∃ g, f = g + 1 := ⟨f - 1, by omega⟩
    obtain ⟨g', rfl⟩ : ∃ g', f' = g' + 1 := ⟨f' - 1, by omega⟩
    have hk' : k < vT A := by omega
    have eT : hI a (rp A.2.2.2.1 + 0) 1 = vT A := (J.1.2 _ 1 (by omega) (by unfold imC; omega)).1
    have e13 : hI b 56 13 = hI b0 56 13 := (J.2.2 56 13 (by omega) (by unfold imM; omega)).1
    have e58 : hI b 58 (hI b0 56 13) = vT A := by rw [(J.2.2 58 _ (by omega) (by unfold imM; omega)).1]; exact hm.1.2.1
    have e5 : hI a 5 (68 + x * 6 + k) = vTh A x k := (J.1.2 5 _ (by omega) (by unfold imC; omega)).1
    have e89 : hI b 89 (6 * x + k) = vTh A x k := by rw [(J.2.2 89 _ (by omega) (by unfold imM; omega)).1]; exact (hm.2.1.2 x hx hx').2.2.2 k h0 hk'
    have tb := (hN.2 x hx hx').2.2.2 k h0 hk'
    obtain ⟨a1, b1, c1, c2, c3, c4, c5⟩ := adB_j I (by omega) (v := vTh A x k) (by omega) (and_b (by omega) (by omega))
    obtain ⟨a', b', d1, d2, d3, d4⟩ := ih (k + 1) (s + 1) a1 b1 g g' (by omega) (by omega) (by omega) (by omega) c3 (by omega) ⟨fr_t J.1 c4, fr_t J.2 c5⟩
    refine ⟨a', b', ?_, ?_, by rw [show s + ((d + 1 : Nat) : Int) = s + 1 + (d : Int) by omega]; exact d3, d4⟩
    · rw [← d1]
      simp (disch := omega) only [fX3_write_86, fX7_thinksOf, z32_add, z32_sub, z32_mul, z32_neg, z32_litn, z32_lt, z32_le, z32_eq, iG_h, lG_h, iS_q, lS_q, aI_h, wI_h, aL_h, wL_h, ↓bnd_q, bnr_q, bnc_q, ↓reduceIte, ieqT, ieqF, iltT, iltF, ileT, ileF, not_true, not_false_iff, eT, e5, c1]
    · rw [← d2]
      simp (disch := omega) only [fX11_image_84, z32_add, z32_sub, z32_mul, z32_neg, z32_litn, z32_lt, z32_le, z32_eq, iG_h, lG_h, iS_q, lS_q, aI_h, wI_h, aL_h, wL_h, ↓bnd_q, bnr_q, bnc_q, ↓reduceIte, ieqT, ieqF, iltT, iltF, ileT, ileF, not_true, not_false_iff, e13, e58, e89, c2]
theorem ho_j (hR : okR A) (hN : okN A) {b0 : zS} (hm : RM oW oT A b0) : ∀ (d : Nat) (x s : Int) (a b : zS) (f f' : Nat), x + d = vH A → 0 ≤ x → d < f → d < f' → IMG a b s → s ≤ 1 + 11 * x → imB A a b0 b → ∃ s' a' b', fX3_write_15 A.2.2.2.1 f (z32 x) a = fX3_write_124 A.2.2.2.1 zF (z32 107) (z32 0) a' ∧ fX11_image_17 f' (z32 x) b = fX11_image_129 zF (z32 107) (z32 0) b' ∧ IMG a' b' s' ∧ s' ≤ 67 ∧ imB A a' b0 b' := by
  have hH := hR.2.1
  have hT := hR.1
  have hrp := rp_or A.2.2.2.1
  have b13 := hm.1.1
  intro d
  induction d with
  | zero =>
    intro x s a b f f' hx h0 hf hf' I hs J
    obtain ⟨g, rfl⟩ : ∃ g, f = g + 1 := ⟨f - 1, by omega⟩
    obtain ⟨g', rfl⟩ : ∃ g', f' = g' + 1 := ⟨f' - 1, by omega⟩
    have eH : hI a (rp A.2.2.2.1 + 0) 2 = vH A := (J.1.2 _ 2 (by omega) (by unfold imC; omega)).1
    have e13 : hI b 56 13 = hI b0 56 13 := (J.2.2 56 13 (by omega) (by unfold imM; omega)).1
    have e63 : hI b 63 (hI b0 56 13) = vH A := by rw [(J.2.2 63 _ (by omega) (by unfold imM; omega)).1]; exact hm.1.2.2.1
    refine ⟨s, a, b, ?_, ?_, I, by omega, J⟩
    · simp (disch := omega) only [fX3_write_15, z32_add, z32_sub, z32_mul, z32_neg, z32_litn, z32_lt, z32_le, z32_eq, iG_h, lG_h, iS_q, lS_q, aI_h, wI_h, aL_h, wL_h, ↓bnd_q, bnr_q, bnc_q, ↓reduceIte, ieqT, ieqF, iltT, iltF, ileT, ileF, not_true, not_false_iff, eH]
    · simp (disch := omega) only [fX11_image_17, z32_add, z32_sub, z32_mul, z32_neg, z32_litn, z32_lt, z32_le, z32_eq, iG_h, lG_h, iS_q, lS_q, aI_h, wI_h, aL_h, wL_h, ↓bnd_q, bnr_q, bnc_q, ↓reduceIte, ieqT, ieqF, iltT, iltF, ileT, ileF, not_true, not_false_iff, e13, e63]
  | succ d ih =>
    intro x s a b f f' hx h0 hf hf' I hs J
    obtain ⟨g, rfl⟩ : ∃ g, f = g + 1 := ⟨f - 1, by omega⟩
    obtain ⟨g', rfl⟩ : ∃ g', f' = g' + 1 := ⟨f' - 1, by omega⟩
    have hx' : x < vH A := by omega
    obtain ⟨n1, n2, n3, n4⟩ := hN.2 x h0 hx'
    obtain ⟨m1, m2, m3, m4⟩ := hm.2.1.2 x h0 hx'
    have i3 := I.2.2.1
    obtain ⟨sc, hsc⟩ : ∃ sc, sc = vSc A x + 100000 := ⟨_, rfl⟩
    obtain ⟨a1, b1, p1, p2, p3, p4, p5⟩ := adB_j I (by omega) (v := vBr A x) (by omega) (and_b (by omega) (by omega))
    obtain ⟨a2, b2, q1, q2, q3, q4, q5⟩ := adB_j p3 (by omega) (v := vGv A x) (by omega) (and_b (by omega) (by omega))
    obtain ⟨a3, b3, r1, r2, r3, r4, r5⟩ := adB_j q3 (by omega) (v := sc / 65536) (by omega) (x := z32 (sc / 65536)) (and_b (by omega) (by omega))
    obtain ⟨a4, b4, s1, s2, s3, s4, s5⟩ := adB_j r3 (by omega) (v := sc / 256 % 256) (by omega) (x := z32 (sc / 256)) (and_m (by omega) (by omega))
    obtain ⟨a5, b5, t1, t2, t3, t4, t5⟩ := adB_j s3 (by omega) (v := sc % 256) (by omega) (x := z32 sc) (and_m (by omega) (by omega))
    have J5 : imB A a5 b0 b5 := ⟨fr_t J.1 (fr_t p4 (fr_t q4 (fr_t r4 (fr_t s4 t4)))), fr_t J.2 (fr_t p5 (fr_t q5 (fr_t r5 (fr_t s5 t5))))⟩
    obtain ⟨dt, hdt⟩ : ∃ dt : Nat, (0 : Int) + dt = vT A := ⟨(vT A).toNat, by omega⟩
    obtain ⟨a6, b6, u1, u2, u3, u4⟩ := th_j hR hN hm h0 hx' (fX3_write_15 A.2.2.2.1 g) (fX11_image_17 g') dt 0 (s + 1 + 1 + 1 + 1 + 1) a5 b5 zF zF hdt (by omega) (by unfold zF; omega) (by unfold zF; omega) t3 (by omega) J5
    obtain ⟨s', a', b', w1, w2, w3, w4, w5⟩ := ih (x + 1) (s + 1 + 1 + 1 + 1 + 1 + dt) a6 b6 g g' (by omega) (by omega) (by omega) (by omega) u3 (by omega) u4
    refine ⟨s', a', b', ?_, ?_, w3, w4, w5⟩
    · have eH : hI a (rp A.2.2.2.1 + 0) 2 = vH A := (J.1.2 _ 2 (by omega) (by unfold imC; omega)).1
      have e50 : hI a 5 (50 + x) = vBr A x := (J.1.2 5 _ (by omega) (by unfold imC; omega)).1
      have e56 : hI a1 5 (56 + x) = vGv A x := by rw [(p4.2 5 _ (by omega) (by unfold imC; omega)).1]; exact (J.1.2 5 _ (by omega) (by unfold imC; omega)).1
      have e62 : hI a2 5 (62 + x) = vSc A x := by rw [(q4.2 5 _ (by omega) (by unfold imC; omega)).1, (p4.2 5 _ (by omega) (by unfold imC; omega)).1]; exact (J.1.2 5 _ (by omega) (by unfold imC; omega)).1
      have x8 : z32 (sc / 256) &&& 255 = z32 (sc / 256 % 256) := and_m (by omega) (by omega)
      have x0 : z32 sc &&& 255 = z32 (sc % 256) := and_m (by omega) (by omega)
      have xs : z32 (vSc A x) + 100000 = z32 sc := by rw [z32_litn, z32_add, hsc]
      have y16 := shr_16 (v := sc) (by omega) (by omega)
      have y8 := shr_8 (v := sc) (by omega) (by omega)
      rw [← w1, ← u1, fX3_write_15, show iG a (rp A.2.2.2.1 + 0) 2 = z32 (hI a (rp A.2.2.2.1 + 0) 2) from iG_h _ _ 2, eH, if_neg (by rw [z32_le (by omega) (by omega) (by omega) (by omega)]; omega)]
      unfold fX7_breathOf fX7_givesOf fX7_scoreOf
      rw [show (50 : Int32) = z32 50 from z32_litn 50, show (56 : Int32) = z32 56 from z32_litn 56, show (62 : Int32) = z32 62 from z32_litn 62, z32_add, z32_add, z32_add, aI_h (by omega) (by omega) (by omega), e50, bnr_q, p1, bnr_q, aI_h (by omega) (by omega) (by omega), e56, bnr_q, q1, bnr_q, aI_h (by omega) (by omega) (by omega), e62, bnr_q, xs, y16, r1, bnr_q, y8, x8, s1, bnr_q, x0, t1, bnr_q, show (0 : Int32) = z32 0 from z32_litn 0]
    · have e13 : hI b 56 13 = hI b0 56 13 := (J.2.2 56 13 (by omega) (by unfold imM; omega)).1
      have e63 : hI b 63 (hI b0 56 13) = vH A := by rw [(J.2.2 63 _ (by omega) (by unfold imM; omega)).1]; exact hm.1.2.2.1
      have e88 : hI b 88 x = vSc A x := by rw [(J.2.2 88 x (by omega) (by unfold imM; omega)).1]; exact m3
      have e86 : hI b 86 x = vBr A x := by rw [(J.2.2 86 x (by omega) (by unfold imM; omega)).1]; exact m1
      have e87 : hI b1 87 x = vGv A x := by rw [(p5.2 87 x (by omega) (by unfold imM; omega)).1, (J.2.2 87 x (by omega) (by unfold imM; omega)).1]; exact m2
      have xs : z32 (vSc A x) + 100000 = z32 sc := by rw [z32_litn, z32_add, hsc]
      have y16 := shr_16 (v := sc) (by omega) (by omega)
      have y8 := shr_8 (v := sc) (by omega) (by omega)
      rw [← w2, ← u2, fX11_image_17, show iG b 56 13 = z32 (hI b 56 13) from iG_h _ 56 13, e13, aI_h (by omega) (by omega) (by omega), e63, if_neg (by rw [z32_le (by omega) (by omega) (by omega) (by omega)]; omega), aI_h (by omega) (by omega) (by omega), e88, aI_h (by omega) (by omega) (by omega), e86, p2, bnr_q, aI_h (by omega) (by omega) (by omega), e87, q2, bnr_q, xs, y16, r2, bnr_q, y8, s2, bnr_q, t2, bnr_q, show (0 : Int32) = z32 0 from z32_litn 0]
theorem ck_c (I : IMG a b s) (hs : s ≤ 67) (dd : Bool) : fX3_write_124 dd zF (z32 107) (z32 0) a = bnr (fX3_addByte (z32 (ckN (fun i => hI a 36 i) s.toNat)) a) fun σ6 => some σ6 := by
  obtain ⟨i1, i2, i3, i4⟩ := I
  have e35 : iG a 35 1 = z32 s := by rw [← i1]; exact iG_h a 35 1
  refine zup0 (L := fun f k (c : Int) => fX3_write_124 dd f (z32 c) (z32 k) a) (n := s) (fun k => ckN (fun i => hI a 36 i) k.toNat) i3 (by omega) ?_ ?_
  · intro f k gk gk'
    obtain ⟨m, rfl⟩ := Int.eq_ofNat_of_zero_le gk
    show fX3_write_124 dd (f + 1) (z32 (ckN (fun i => hI a 36 i) ((m : Int)).toNat)) (z32 (m : Int)) a = fX3_write_124 dd f (z32 (ckN (fun i => hI a 36 i) ((m : Int) + 1).toNat)) (z32 ((m : Int) + 1)) a
    rw [show ((m : Int)).toNat = m by omega, show ((m : Int) + 1).toNat = m + 1 by omega, fX3_write_124, e35, if_neg (by rw [z32_le (by omega) (by omega) (by omega) (by omega)]; omega), aI_h gk (by omega) (by omega), chk_z (ckN_b _ m) (i4 (m : Int) gk gk').2, z1p]
    rfl
  · intro f
    show fX3_write_124 dd (f + 1) (z32 (ckN (fun i => hI a 36 i) s.toNat)) (z32 s) a = _
    rw [fX3_write_124, e35, if_pos (by rw [z32_le (by omega) (by omega) (by omega) (by omega)]; omega)]
theorem ck_m (I : IMG a b s) (hs : s ≤ 67) : fX11_image_129 zF (z32 107) (z32 0) b = bnr (fX11_writes (z32 (ckN (fun i => hI a 36 i) s.toNat)) b) fun σ6 => some (iG σ6 56 78, σ6) := by
  obtain ⟨i1, i2, i3, i4⟩ := I
  have e78 : iG b 56 78 = z32 s := by rw [← i2]; exact iG_h b 56 78
  refine zup0 (L := fun f k (c : Int) => fX11_image_129 f (z32 c) (z32 k) b) (n := s) (fun k => ckN (fun i => hI a 36 i) k.toNat) i3 (by omega) ?_ ?_
  · intro f k gk gk'
    obtain ⟨m, rfl⟩ := Int.eq_ofNat_of_zero_le gk
    have cb := ckN_b (fun i => hI a 36 i) m
    obtain ⟨v1, v2⟩ := i4 (m : Int) gk gk'
    show fX11_image_129 (f + 1) (z32 (ckN (fun i => hI a 36 i) ((m : Int)).toNat)) (z32 (m : Int)) b = fX11_image_129 f (z32 (ckN (fun i => hI a 36 i) ((m : Int) + 1).toNat)) (z32 ((m : Int) + 1)) b
    rw [show ((m : Int)).toNat = m by omega, show ((m : Int) + 1).toNat = m + 1 by omega, fX11_image_129, e78, if_neg (by rw [z32_le (by omega) (by omega) (by omega) (by omega)]; omega), aI_h gk (by omega) (by omega), v1, show (5 : Int32) = z32 5 from z32_litn 5, z32_mul, z32_add, show (251 : Int32) = z32 251 from z32_litn 251, z32_rem (by omega) (by omega) (by omega) (by omega), z1p]
    rfl
  · intro f
    show fX11_image_129 (f + 1) (z32 (ckN (fun i => hI a 36 i) s.toNat)) (z32 s) b = _
    rw [fX11_image_129, e78, if_pos (by rw [z32_le (by omega) (by omega) (by omega) (by omega)]; omega)]
theorem img_j (H : RC oW oT A) (hm : RM oW oT A b) : ∃ s a' b', fX10_image A = some (z32 s, a') ∧ fX11_image b = some (z32 s, b') ∧ IMG a' b' s ∧ s ≤ 68 ∧ imB A a' b b' := by
  have hR := H.1
  have hN := H.2.1
  have hH := hR.2.1
  have hT := hR.1
  have nb := hN.1
  have hrp := rp_or A.2.2.2.1
  have I0 : IMG (jS A 35 1 0) (jS b 56 78 0) 0 := ⟨by rw [hI_jS (by omega) (by omega) (by omega) (by omega), if_pos rfl], by rw [hI_jS (by omega) (by omega) (by omega) (by omega), if_pos rfl], by omega, fun i g0 g1 => by omega⟩
  have J0 : imB A (jS A 35 1 0) b (jS b 56 78 0) := ⟨fr_j (by omega) (Or.inr ⟨rfl, rfl⟩), fr_j (by omega) (Or.inr ⟨rfl, rfl⟩)⟩
  obtain ⟨a1, b1, c1, c2, c3, c4, c5⟩ := adB_j I0 (by omega) (v := vNext A) (by omega) (and_b (by omega) (by omega))
  obtain ⟨d, hd⟩ : ∃ d : Nat, (0 : Int) + d = vH A := ⟨(vH A).toNat, by omega⟩
  obtain ⟨s, a2, b2, d1, d2, d3, d4, d5⟩ := ho_j hR hN hm d 0 (0 + 1) a1 b1 zF zF hd (by omega) (by unfold zF; omega) (by unfold zF; omega) c3 (by omega) ⟨fr_t J0.1 c4, fr_t J0.2 c5⟩
  have cb := ckN_b (fun i => hI a2 36 i) s.toNat
  obtain ⟨a3, b3, e1, e2, e3, e4, e5⟩ := adB_j d3 (by omega) (v := ckN (fun i => hI a2 36 i) s.toNat) (by omega) (and_b (by omega) (by omega))
  refine ⟨s + 1, a3, b3, ?_, ?_, e3, by omega, fr_t d5.1 e4, fr_t d5.2 e5⟩
  · have en : hI (jS A 35 1 0) 5 0 = vNext A := by rw [hI_jS_ne (by omega)]; rfl
    have w : fX3_write A.2.2.2.1 A = some a3 := by
      unfold fX3_write fX7_nextTunnel
      rw [show (0 : Int32) = z32 0 from z32_litn 0, iS_q, bnd_q, aI_h (by omega) (by omega) (by omega), en, bnr_q, c1, bnr_q, d1, ck_c d3 d4, e1, bnr_q]
    unfold fX10_image
    rw [w, bnr_q, show iG a3 35 1 = z32 (hI a3 35 1) from iG_h a3 35 1, e3.1]
  · have en : hI (jS b 56 78 0) 85 0 = vNext A := by rw [hI_jS_ne (by omega)]; exact hm.2.1.1
    unfold fX11_image
    rw [show (0 : Int32) = z32 0 from z32_litn 0, iS_q, bnd_q, aI_h (by omega) (by omega) (by omega), en, c2, bnr_q, d2, ck_m d3 d4, e2, bnr_q, show iG b3 56 78 = z32 (hI b3 56 78) from iG_h b3 56 78, e3.2.1]
theorem C_image (h : INV σ) : CA fX10_image fX11_image σ := by
  have h' := h
  obtain ⟨oW, oT, i1, i2, i3, i4, i5, i6, i7, i8, i9, i10, i11⟩ := h'
  have hrp := rp_or σ.2.2.2.1
  have hm := IR_M i1 i2
  have hC := IR_C i1 i2
  obtain ⟨s, B, _, b1, -, -, b4, b5⟩ := img_j hC hm
  have hmB : RM oW oT σ B := RM_f i1.1 hm b5.1 (fun p k _ u => by have := hm.1.1; unfold imC at u; unfold fpM fpN; omega)
  obtain ⟨s2, B', φ, c1, c2, c3, c4, c5⟩ := img_j hC hmB
  rw [b1] at c1
  simp only [Option.some.injEq, Prod.mk.injEq] at c1
  obtain ⟨es, rfl⟩ := c1
  have f : fr (fun p k => imC p k ∨ imM p k) σ φ := fr_t (fr_m b5.1 (fun p k _ u => Or.inl u)) (fr_m c5.2 (fun p k _ u => Or.inr u))
  rw [← es] at c2
  refine ⟨z32 s, B, φ, b1, c2, inv_l h f (fun p i g u => ?_) (iv_T (sm_f f (fun p i g w u => by unfold fpT at w; unfold imC imM at u; omega))) (iv_S (sm_f f (fun p i g w u => by unfold fpS at w; unfold imC imM at u; omega))) (iv_F (sm_f f (fun p i g w u => by unfold fpF at w; unfold imC imM at u; omega))) (iv_U (sm_f f (fun p i g w u => by unfold fpU at w; unfold imC imM at u; omega))) (fun _ => ?_) (fun hc j => iv_C j (sm_f f (fun p i g w u => by unfold fpQ at w; unfold imC imM at u; omega)) hc)⟩
  · unfold imC imM at u
    unfold sfR fpC fpM fpN fpH
    omega
  · obtain ⟨k1, k2, k3, k4⟩ := c3
    have e35 : hI φ 35 1 = s2 := by rw [(c5.2.2 35 1 (by omega) (by unfold imM; omega)).1, k1]
    refine ⟨by rw [e35, k2], by rw [e35]; omega, fun k g0 g1 => ?_⟩
    rw [e35] at g1
    rw [(c5.2.2 36 k g0 (by unfold imM; omega)).1]
    exact (k4 k g0 g1).1
end IM

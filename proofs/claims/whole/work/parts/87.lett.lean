/-! MY OWN: bits of longs; letters -/
theorem z64_shr {x : Int} (h0 : 0 ≤ x) (h1 : x < 9223372036854775808) (s : Int64) (k : Nat) (hs : (s.toBitVec.smod 64).toNat = k) : z64 x >>> s = z64 (x / ((2 ^ k : Nat) : Int)) := by
  apply Int64.toInt_inj.1
  have e : (z64 x >>> s).toInt = (z64 x).toInt >>> k := by
    show ((z64 x).toBitVec.sshiftRight (s.toBitVec.smod 64).toNat).toInt = _
    rw [hs, BitVec.toInt_sshiftRight]
    rfl
  have p : (0 : Int) < ((2 ^ k : Nat) : Int) := by exact_mod_cast Nat.two_pow_pos k
  have b1 : 0 ≤ x / ((2 ^ k : Nat) : Int) := Int.ediv_nonneg h0 (by omega)
  have b2 := Int.ediv_le_self ((2 ^ k : Nat) : Int) h0
  rw [e, z64_int (by omega) h1, Int.shiftRight_eq_div_pow, z64_int (by omega) (by omega)]
theorem z64_and {x : Int} (h0 : 0 ≤ x) (h1 : x < 9223372036854775808) (m : Int64) (k : Nat) (hm : m.toBitVec.toNat = 2 ^ k - 1) : z64 x &&& m = z64 (x % ((2 ^ k : Nat) : Int)) := by
  obtain ⟨n, rfl⟩ := Int.eq_ofNat_of_zero_le h0
  have e1 : ((n : Int) % ((2 ^ k : Nat) : Int)) = ((n % 2 ^ k : Nat) : Int) := (Int.natCast_emod n (2 ^ k)).symm
  rw [e1, show z64 (n : Int) = Int64.ofNat n from Int64.ofInt_eq_ofNat, show z64 ((n % 2 ^ k : Nat) : Int) = Int64.ofNat (n % 2 ^ k) from Int64.ofInt_eq_ofNat]
  apply Int64.toBitVec_inj.1
  apply BitVec.eq_of_toNat_eq
  show (BitVec.ofNat 64 n &&& m.toBitVec).toNat = (BitVec.ofNat 64 (n % 2 ^ k)).toNat
  have l : n % 2 ^ k ≤ n := Nat.mod_le _ _
  rw [BitVec.toNat_and, hm, BitVec.toNat_ofNat, BitVec.toNat_ofNat, Nat.mod_eq_of_lt (by omega : n < 2 ^ 64), Nat.mod_eq_of_lt (by omega : n % 2 ^ k < 2 ^ 64), Nat.and_two_pow_sub_one_eq_mod]
section LT
variable {A σ : zS} {c : Nat → Int} {a b d : Int} {oW oT : Option ((Int → Int) → Int)}
theorem dg5 {m : Nat} (h6 : m ≤ 6) (hl : ∀ i, i < m → 1 ≤ c i ∧ c i ≤ 26) {k : Nat} (hk : k ≤ 5) : pk5 c m / ((2 ^ (25 - 5 * k) : Nat) : Int) % 32 = if k < m then c k else 0 := by
  rcases (by omega : m = 0 ∨ m = 1 ∨ m = 2 ∨ m = 3 ∨ m = 4 ∨ m = 5 ∨ m = 6) with g | g | g | g | g | g | g <;> subst g
  · rcases (by omega : k = 0 ∨ k = 1 ∨ k = 2 ∨ k = 3 ∨ k = 4 ∨ k = 5) with g | g | g | g | g | g <;> subst g <;> simp [pk5] <;> omega
  · have h0 := hl 0 (by omega)
    rcases (by omega : k = 0 ∨ k = 1 ∨ k = 2 ∨ k = 3 ∨ k = 4 ∨ k = 5) with g | g | g | g | g | g <;> subst g <;> simp [pk5] <;> omega
  · have h0 := hl 0 (by omega)
    have h1 := hl 1 (by omega)
    rcases (by omega : k = 0 ∨ k = 1 ∨ k = 2 ∨ k = 3 ∨ k = 4 ∨ k = 5) with g | g | g | g | g | g <;> subst g <;> simp [pk5] <;> omega
  · have h0 := hl 0 (by omega)
    have h1 := hl 1 (by omega)
    have h2 := hl 2 (by omega)
    rcases (by omega : k = 0 ∨ k = 1 ∨ k = 2 ∨ k = 3 ∨ k = 4 ∨ k = 5) with g | g | g | g | g | g <;> subst g <;> simp [pk5] <;> omega
  · have h0 := hl 0 (by omega)
    have h1 := hl 1 (by omega)
    have h2 := hl 2 (by omega)
    have h3 := hl 3 (by omega)
    rcases (by omega : k = 0 ∨ k = 1 ∨ k = 2 ∨ k = 3 ∨ k = 4 ∨ k = 5) with g | g | g | g | g | g <;> subst g <;> simp [pk5] <;> omega
  · have h0 := hl 0 (by omega)
    have h1 := hl 1 (by omega)
    have h2 := hl 2 (by omega)
    have h3 := hl 3 (by omega)
    have h4 := hl 4 (by omega)
    rcases (by omega : k = 0 ∨ k = 1 ∨ k = 2 ∨ k = 3 ∨ k = 4 ∨ k = 5) with g | g | g | g | g | g <;> subst g <;> simp [pk5] <;> omega
  · have h0 := hl 0 (by omega)
    have h1 := hl 1 (by omega)
    have h2 := hl 2 (by omega)
    have h3 := hl 3 (by omega)
    have h4 := hl 4 (by omega)
    have h5 := hl 5 (by omega)
    rcases (by omega : k = 0 ∨ k = 1 ∨ k = 2 ∨ k = 3 ∨ k = 4 ∨ k = 5) with g | g | g | g | g | g <;> subst g <;> simp [pk5] <;> omega
theorem let_c {m : Nat} (h6 : m ≤ 6) (hl : ∀ i, i < m → 1 ≤ c i ∧ c i ≤ 26) {k : Nat} (hk : k ≤ 5) : fX5_letterOf (z32 (pk5 c m)) (z32 (k : Int)) = z32 (if k < m then c k else 0) := by
  obtain ⟨b1, b2, -⟩ := pk5_b m h6 hl
  rw [← dg5 h6 hl hk]
  obtain ⟨n, hn⟩ := Int.eq_ofNat_of_zero_le b1
  rw [hn] at b2 ⊢
  unfold fX5_letterOf
  rw [show z32 (n : Int) = nI n from (z32_ofNat n).symm]
  rcases (by omega : k = 0 ∨ k = 1 ∨ k = 2 ∨ k = 3 ∨ k = 4 ∨ k = 5) with g | g | g | g | g | g <;> subst g
  · rw [pk_shrN (by omega) _ 25 (by decide), pk_andN (by omega) 5 (by decide)]
    exact z32_ofNat _
  · rw [pk_shrN (by omega) _ 20 (by decide), pk_andN (by omega) 5 (by decide)]
    exact z32_ofNat _
  · rw [pk_shrN (by omega) _ 15 (by decide), pk_andN (by omega) 5 (by decide)]
    exact z32_ofNat _
  · rw [pk_shrN (by omega) _ 10 (by decide), pk_andN (by omega) 5 (by decide)]
    exact z32_ofNat _
  · rw [pk_shrN (by omega) _ 5 (by decide), pk_andN (by omega) 5 (by decide)]
    exact z32_ofNat _
  · rw [pk_shrN (by omega) _ 0 (by decide), pk_andN (by omega) 5 (by decide)]
    exact z32_ofNat _
theorem p8_d {n : Nat} (hl : 1 ≤ c n ∧ c n ≤ 26) : pk8 c (n + 1) / 256 = pk8 c n ∧ pk8 c (n + 1) % 256 = c n + 96 := by
  show (pk8 c n * 256 + (c n + 96)) / 256 = pk8 c n ∧ (pk8 c n * 256 + (c n + 96)) % 256 = c n + 96
  omega
theorem p8_p {n : Nat} (hn : 1 ≤ n) (h6 : n ≤ 6) (hl : ∀ i, i < n → 1 ≤ c i ∧ c i ≤ 26) : 0 < pk8 c n := by
  obtain ⟨m, rfl⟩ : ∃ m, n = m + 1 := ⟨n - 1, by omega⟩
  have b := pk8_c m (by omega) (fun i hi => hl i (by omega))
  have h := hl m (by omega)
  show 0 < pk8 c m * 256 + (c m + 96)
  omega
theorem p8_s {m : Nat} (hl : ∀ i, i < m → 1 ≤ c i ∧ c i ≤ 26) : ∀ (j : Nat), j ≤ m → pk8 c m / ((2 ^ (8 * j) : Nat) : Int) = pk8 c (m - j) := by
  intro j
  induction j with
  | zero => intro _; simp
  | succ j ih =>
    intro hj
    have e : ((2 ^ (8 * (j + 1)) : Nat) : Int) = ((2 ^ (8 * j) : Nat) : Int) * 256 := by
      rw [show 8 * (j + 1) = 8 * j + 8 by omega, Nat.pow_add]
      simp
    rw [e, ← Int.ediv_ediv_of_nonneg (Int.natCast_nonneg _), ih (by omega), show m - j = (m - (j + 1)) + 1 by omega]
    exact (p8_d (hl _ (by omega))).1
theorem let_m {m : Nat} (h1 : 1 ≤ m) (h6 : m ≤ 6) (hl : ∀ i, i < m → 1 ≤ c i ∧ c i ≤ 26) {k : Nat} (hk : k ≤ 5) : fX11_letter_58 σ zF (z32 (k : Int)) (z64 (pk8 c m)) (z32 0) (z64 (pk8 c m)) = some (z32 (if k < m then c k else 0)) := by
  have b0 := pk8_c m h6 hl
  have key : ∀ (j : Nat) (f : Nat), j ≤ m → j < f → fX11_letter_58 σ f (z32 (k : Int)) (z64 (pk8 c m)) (z32 ((m : Int) - j)) (z64 (pk8 c j)) = some (z32 (if k < m then c k else 0)) := by
    intro j
    induction j with
    | zero =>
      intro f hj hf
      obtain ⟨g, rfl⟩ : ∃ g, f = g + 1 := ⟨f - 1, by omega⟩
      rw [show (m : Int) - ((0 : Nat) : Int) = m by omega, fX11_letter_58, if_pos (by show z64 0 ≤ 0; decide)]
      by_cases hkm : k < m
      · rw [if_pos (by rw [z32_lt (by omega) (by omega) (by omega) (by omega)]; omega), if_pos hkm, show (1 : Int32) = z32 1 from z32_litn 1, z32_sub, z32_sub, show (8 : Int32) = z32 8 from z32_litn 8, z32_mul, bnd_q]
        obtain ⟨d, hd⟩ : ∃ d : Nat, d = m - 1 - k := ⟨_, rfl⟩
        rw [show (8 : Int) * ((m : Int) - 1 - (k : Int)) = ((8 * d : Nat) : Int) by omega]
        have e := p8_s hl d (by omega)
        rw [show m - d = k + 1 by omega] at e
        have e2 := (p8_d (hl k hkm)).2
        have hlk := hl k hkm
        have sh : z64 (pk8 c m) >>> ((z32 ((8 * d : Nat) : Int)).toInt64 &&& 63) = z64 (pk8 c m / ((2 ^ (8 * d) : Nat) : Int)) := by
          rcases (by omega : d = 0 ∨ d = 1 ∨ d = 2 ∨ d = 3 ∨ d = 4 ∨ d = 5) with g | g | g | g | g | g <;> rw [g] <;> exact z64_shr (by omega) (by omega) _ _ (by decide)
        have bk := pk8_c (k + 1) (by omega) (fun i hi => hl i (by omega))
        rw [sh, e, z64_and (by omega) (by omega) 255 8 (by decide), show ((2 ^ 8 : Nat) : Int) = 256 by rfl, e2, z64_32, show (97 : Int32) = z32 97 from z32_litn 97, z32_sub, z32_add, show c k + 96 - 97 + 1 = c k by omega]
      · rw [if_neg (by rw [z32_lt (by omega) (by omega) (by omega) (by omega)]; omega), if_neg hkm, z32_litn]
    | succ j ih =>
      intro f hj hf
      obtain ⟨g, rfl⟩ : ∃ g, f = g + 1 := ⟨f - 1, by omega⟩
      have p := p8_p (n := j + 1) (by omega) (by omega) (fun i hi => hl i (by omega))
      have b := pk8_c (j + 1) (by omega) (fun i hi => hl i (by omega))
      have e := (p8_d (hl j (by omega))).1
      rw [fX11_letter_58, if_neg (by rw [z64_litn, z64_le (by omega) (by omega) (by omega) (by omega)]; omega), z64_shr (by omega) (by omega) _ 8 (by decide), show ((2 ^ 8 : Nat) : Int) = 256 by rfl, e, z1p, show (m : Int) - ((j + 1 : Nat) : Int) + 1 = (m : Int) - j by omega]
      exact ih g (by omega) (by omega)
  have := key m zF (Nat.le_refl _) (by unfold zF; omega)
  rw [show (m : Int) - (m : Int) = 0 by omega] at this
  exact this
theorem Q_letter (H : RC oW oT A) (hm : RM oW oT A σ) (hn : rlM A σ) (h1 : -2147483648 ≤ a) (h2 : a < 2147483648) (h3 : -2147483648 ≤ b) (h4 : b < 2147483648) (h5 : -2147483648 ≤ d) (h6 : d < 2147483648) : ∃ r, fX10_letter A (z32 a) (z32 b) (z32 d) = some r ∧ fX11_letter σ (z32 a) (z32 b) (z32 d) = some r := by
  have hR := H.1
  have hT := hR.1
  have hH := hR.2.1
  obtain ⟨m1, m2, m3, -⟩ := hm.1
  have en : (-1 : Int32) = z32 (-1) := by rw [z32_litn, z32_neg]
  by_cases hd : 0 ≤ d ∧ d ≤ 5
  · obtain ⟨k, rfl⟩ := Int.eq_ofNat_of_zero_le hd.1
    by_cases ha : a = 0
    · subst ha
      by_cases hb : 0 ≤ b ∧ b < vT A
      · obtain ⟨m, c, g1, g2, g3, g4, g5⟩ := hn.1 b hb.1 hb.2
        refine ⟨z32 (if k < m then c k else 0), ?_, ?_⟩
        · simp (disch := omega) only [fX10_letter, hasT_p, z32_add, z32_sub, z32_mul, z32_neg, z32_litn, z32_lt, z32_le, z32_eq, iG_h, lG_h, iS_q, lS_q, aI_h, wI_h, aL_h, wL_h, ↓bnd_q, bnr_q, bnc_q, ↓reduceIte, ieqT, ieqF, iltT, iltF, ileT, ileF, not_true, not_false_iff, g4]
          rw [let_c g2 g3 (by omega)]
        · simp (disch := omega) only [fX11_letter, fX11_manyOf, fX11_nameOf, is_p, z32_add, z32_sub, z32_mul, z32_neg, z32_litn, z32_lt, z32_le, z32_eq, iG_h, lG_h, iS_q, lS_q, aI_h, wI_h, aL_h, wL_h, ↓bnd_q, bnr_q, bnc_q, ↓reduceIte, ieqT, ieqF, iltT, iltF, ileT, ileF, not_true, not_false_iff, z64_add, z64_sub, z64_mul, z64_neg, z64_litn, z64_lt, z64_le, z64_eq, z32_64, z64_32, m2, g5]
          exact let_m g1 g2 g3 (by omega)
      · refine ⟨z32 (-1), ?_, ?_⟩
        · simp (disch := omega) only [fX10_letter, fX10_letter_47, hasT_n h3 h4 hb, z32_add, z32_sub, z32_mul, z32_neg, z32_litn, z32_lt, z32_le, z32_eq, iG_h, lG_h, iS_q, lS_q, aI_h, wI_h, aL_h, wL_h, ↓bnd_q, bnr_q, bnc_q, ↓reduceIte, ieqT, ieqF, iltT, iltF, ileT, ileF, not_true, not_false_iff]
        · simp (disch := omega) only [fX11_letter, fX11_manyOf, is_p, is_n, z32_add, z32_sub, z32_mul, z32_neg, z32_litn, z32_lt, z32_le, z32_eq, iG_h, lG_h, iS_q, lS_q, aI_h, wI_h, aL_h, wL_h, ↓bnd_q, bnr_q, bnc_q, ↓reduceIte, ieqT, ieqF, iltT, iltF, ileT, ileF, not_true, not_false_iff, m2]
    · by_cases ha1 : a = 1
      · subst ha1
        by_cases hb : 0 ≤ b ∧ b < vH A
        · obtain ⟨m, c, g1, g2, g3, g4, g5⟩ := hn.2 b hb.1 hb.2
          refine ⟨z32 (if k < m then c k else 0), ?_, ?_⟩
          · simp (disch := omega) only [fX10_letter, fX10_letter_47, hasH_p, z32_add, z32_sub, z32_mul, z32_neg, z32_litn, z32_lt, z32_le, z32_eq, iG_h, lG_h, iS_q, lS_q, aI_h, wI_h, aL_h, wL_h, ↓bnd_q, bnr_q, bnc_q, ↓reduceIte, ieqT, ieqF, iltT, iltF, ileT, ileF, not_true, not_false_iff, g4]
            rw [let_c g2 g3 (by omega)]
          · simp (disch := omega) only [fX11_letter, fX11_manyOf, fX11_nameOf, is_p, z32_add, z32_sub, z32_mul, z32_neg, z32_litn, z32_lt, z32_le, z32_eq, iG_h, lG_h, iS_q, lS_q, aI_h, wI_h, aL_h, wL_h, ↓bnd_q, bnr_q, bnc_q, ↓reduceIte, ieqT, ieqF, iltT, iltF, ileT, ileF, not_true, not_false_iff, z64_add, z64_sub, z64_mul, z64_neg, z64_litn, z64_lt, z64_le, z64_eq, z32_64, z64_32, m3, g5]
            exact let_m g1 g2 g3 (by omega)
        · refine ⟨z32 (-1), ?_, ?_⟩
          · simp (disch := omega) only [fX10_letter, fX10_letter_47, hasH_n h3 h4 hb, z32_add, z32_sub, z32_mul, z32_neg, z32_litn, z32_lt, z32_le, z32_eq, iG_h, lG_h, iS_q, lS_q, aI_h, wI_h, aL_h, wL_h, ↓bnd_q, bnr_q, bnc_q, ↓reduceIte, ieqT, ieqF, iltT, iltF, ileT, ileF, not_true, not_false_iff]
          · simp (disch := omega) only [fX11_letter, fX11_manyOf, is_p, is_n, z32_add, z32_sub, z32_mul, z32_neg, z32_litn, z32_lt, z32_le, z32_eq, iG_h, lG_h, iS_q, lS_q, aI_h, wI_h, aL_h, wL_h, ↓bnd_q, bnr_q, bnc_q, ↓reduceIte, ieqT, ieqF, iltT, iltF, ileT, ileF, not_true, not_false_iff, m3]
      · refine ⟨z32 (-1), ?_, ?_⟩
        · simp (disch := omega) only [fX10_letter, fX10_letter_47, z32_add, z32_sub, z32_mul, z32_neg, z32_litn, z32_lt, z32_le, z32_eq, iG_h, lG_h, iS_q, lS_q, aI_h, wI_h, aL_h, wL_h, ↓bnd_q, bnr_q, bnc_q, ↓reduceIte, ieqT, ieqF, iltT, iltF, ileT, ileF, not_true, not_false_iff]
        · simp (disch := omega) only [fX11_letter, is_n, z32_add, z32_sub, z32_mul, z32_neg, z32_litn, z32_lt, z32_le, z32_eq, iG_h, lG_h, iS_q, lS_q, aI_h, wI_h, aL_h, wL_h, ↓bnd_q, bnr_q, bnc_q, ↓reduceIte, ieqT, ieqF, iltT, iltF, ileT, ileF, not_true, not_false_iff]
  · have kk : fX10_letter A (z32 a) (z32 b) (z32 d) = some (z32 (-1)) := by
      by_cases g : d < 0
      · simp (disch := omega) only [fX10_letter, z32_add, z32_sub, z32_mul, z32_neg, z32_litn, z32_lt, z32_le, z32_eq, iG_h, lG_h, iS_q, lS_q, aI_h, wI_h, aL_h, wL_h, ↓bnd_q, bnr_q, bnc_q, ↓reduceIte, ieqT, ieqF, iltT, iltF, ileT, ileF, not_true, not_false_iff]
      · simp (disch := omega) only [fX10_letter, z32_add, z32_sub, z32_mul, z32_neg, z32_litn, z32_lt, z32_le, z32_eq, iG_h, lG_h, iS_q, lS_q, aI_h, wI_h, aL_h, wL_h, ↓bnd_q, bnr_q, bnc_q, ↓reduceIte, ieqT, ieqF, iltT, iltF, ileT, ileF, not_true, not_false_iff]
    refine ⟨z32 (-1), kk, ?_⟩
    by_cases ha : 0 ≤ a ∧ a ≤ 1
    · by_cases ha0 : a = 0
      · subst ha0
        by_cases hb : 0 ≤ b ∧ b < vT A
        · simp (disch := omega) only [fX11_letter, fX11_manyOf, is_p, is_n, z32_add, z32_sub, z32_mul, z32_neg, z32_litn, z32_lt, z32_le, z32_eq, iG_h, lG_h, iS_q, lS_q, aI_h, wI_h, aL_h, wL_h, ↓bnd_q, bnr_q, bnc_q, ↓reduceIte, ieqT, ieqF, iltT, iltF, ileT, ileF, not_true, not_false_iff, m2]
        · simp (disch := omega) only [fX11_letter, fX11_manyOf, is_p, is_n, z32_add, z32_sub, z32_mul, z32_neg, z32_litn, z32_lt, z32_le, z32_eq, iG_h, lG_h, iS_q, lS_q, aI_h, wI_h, aL_h, wL_h, ↓bnd_q, bnr_q, bnc_q, ↓reduceIte, ieqT, ieqF, iltT, iltF, ileT, ileF, not_true, not_false_iff, m2]
      · have ha1 : a = 1 := by omega
        subst ha1
        by_cases hb : 0 ≤ b ∧ b < vH A
        · simp (disch := omega) only [fX11_letter, fX11_manyOf, is_p, is_n, z32_add, z32_sub, z32_mul, z32_neg, z32_litn, z32_lt, z32_le, z32_eq, iG_h, lG_h, iS_q, lS_q, aI_h, wI_h, aL_h, wL_h, ↓bnd_q, bnr_q, bnc_q, ↓reduceIte, ieqT, ieqF, iltT, iltF, ileT, ileF, not_true, not_false_iff, m3]
        · simp (disch := omega) only [fX11_letter, fX11_manyOf, is_p, is_n, z32_add, z32_sub, z32_mul, z32_neg, z32_litn, z32_lt, z32_le, z32_eq, iG_h, lG_h, iS_q, lS_q, aI_h, wI_h, aL_h, wL_h, ↓bnd_q, bnr_q, bnc_q, ↓reduceIte, ieqT, ieqF, iltT, iltF, ileT, ileF, not_true, not_false_iff, m3]
    · simp (disch := omega) only [fX11_letter, is_n, z32_add, z32_sub, z32_mul, z32_neg, z32_litn, z32_lt, z32_le, z32_eq, iG_h, lG_h, iS_q, lS_q, aI_h, wI_h, aL_h, wL_h, ↓bnd_q, bnr_q, bnc_q, ↓reduceIte, ieqT, ieqF, iltT, iltF, ileT, ileF, not_true, not_false_iff]
end LT

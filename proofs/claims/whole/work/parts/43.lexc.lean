/-! MY OWN: how the one side reads words, numbers and signs -/
def isL (c : Int) : Prop := 97 ≤ c ∧ c ≤ 122
def isD (c : Int) : Prop := 48 ≤ c ∧ c ≤ 57
def isB (c : Int) : Prop := c = 10 ∨ c = 32
def isS (c : Int) : Prop := c = 59 ∨ c = 40 ∨ c = 41 ∨ c = 91 ∨ c = 93 ∨ c = 44 ∨ c = 43 ∨ c = 45 ∨ c = 42 ∨ c = 47 ∨ c = 37 ∨ c = 60 ∨ c = 62 ∨ c = 61
/-- only the reader's cell differs -/
def oR (A B : zS) : Prop := B.2.2 = A.2.2 ∧ (∀ p k, hL B p k = hL A p k) ∧ ∀ p k, p ≠ 54 → hI B p k = hI A p k
theorem oR_r (A : zS) : oR A A := ⟨rfl, fun _ _ => rfl, fun _ _ _ => rfl⟩
theorem oR_t {A B C : zS} (h1 : oR A B) (h2 : oR B C) : oR A C := ⟨h2.1.trans h1.1, fun p k => (h2.2.1 p k).trans (h1.2.1 p k), fun p k a => (h2.2.2 p k a).trans (h1.2.2 p k a)⟩
theorem oR_j {A : zS} {i v : Int} : oR A (jS A 54 i v) := ⟨rfl, fun _ _ => rfl, fun _ _ a => hI_jS_ne a⟩
def lv (A : zS) (a fr tk ow nm nu fa pl : Int) : Prop := hI A 54 3 = a ∧ hI A 54 4 = fr ∧ hI A 54 5 = tk ∧ hI A 54 6 = ow ∧ hI A 54 7 = nm ∧ hI A 54 8 = nu ∧ hI A 54 9 = fa ∧ hI A 54 10 = pl
/-- the text -/
def TX (A : zS) (c : Int → Int) (N : Int) : Prop := hI A 2 1 = N ∧ (0 ≤ N ∧ N ≤ 1600) ∧ ∀ k, 0 ≤ k → k < N → tx A k = c k
theorem tx_c {A B : zS} {k : Int} (h : hI B 3 k = hI A 3 k) : tx B k = tx A k := by
  have : B.1 3 k.toNat = A.1 3 k.toNat := Int32.toInt_inj.1 h
  unfold tx
  rw [this]
theorem TX_o {A B : zS} {c : Int → Int} {N : Int} (h : TX A c N) (o : oR A B) : TX B c N :=
  ⟨(o.2.2 2 1 (by omega)).trans h.1, h.2.1, fun k g0 g1 => (tx_c (o.2.2 3 k (by omega))).trans (h.2.2 k g0 g1)⟩
theorem TX_b {A : zS} {c : Int → Int} {N k : Int} (h : TX A c N) (h0 : 0 ≤ k) (h1 : k < N) : 0 ≤ c k ∧ c k ≤ 255 := by
  rw [← h.2.2 k h0 h1]; exact tx_b A k
section LX
variable {A : zS} {c : Int → Int} {N k a fr tk ow nm nu fa pl x q : Int}
theorem byte_z (h : TX A c N) (h0 : 0 ≤ k) (h1 : k < N) : fX9_byteAt A (z32 k) = some (z32 (c k)) := by
  obtain ⟨h2, h3, h4⟩ := h
  have h5 := h4 k h0 h1
  have e : z32 (hI A 3 k) &&& 255 = z32 (c k) := by
    rw [← h5]
    show z32 (A.1 3 k.toNat).toInt &&& 255 = z32 ((A.1 3 k.toNat) &&& 255).toInt
    rw [z32_of, z32_of]
  simp (disch := omega) only [fX9_byteAt, z32_litn, iG_h, h2, z32_lt, z32_le, z32_eq, ↓reduceIte, ieqT, ieqF, iltT, iltF, ileT, ileF, not_true, not_false_iff, aI_h]
  rw [z32_litn] at e
  rw [e]
theorem byte_n (h : TX A c N) (h0 : 0 ≤ k) (h1 : N ≤ k) (h2 : k < 2147483648) : fX9_byteAt A (z32 k) = some (z32 0) := by
  obtain ⟨h2, h3, h4⟩ := h
  simp (disch := omega) only [fX9_byteAt, z32_add, z32_sub, z32_mul, z32_neg, z32_litn, z32_lt, z32_le, z32_eq, iG_h, lG_h, iS_j, lS_k, aI_h, wI_h, aL_h, wL_h, bnd, bnr_s, bnc_s, ↓reduceIte, ieqT, ieqF, iltT, iltF, ileT, ileF, not_true, not_false_iff, h2]
theorem fail_0 (h : lv A a fr tk ow nm nu 0 pl) (hk : -2147483648 ≤ k ∧ k < 2147483648) (hx : -2147483648 ≤ x ∧ x < 2147483648) : ∃ B, fX5_fail (z32 k) (z32 x) A = some B ∧ oR A B ∧ lv B a fr 4 (-1) nm nu k x := by
  obtain ⟨e1, e2, e3, e4, e5, e6, e7, e8⟩ := h
  refine ⟨jS (jS (jS (jS A 54 9 k) 54 10 x) 54 5 4) 54 6 (-1), ?_, oR_t (oR_t (oR_t oR_j oR_j) oR_j) oR_j, ?_⟩
  · simp (disch := omega) only [fX5_fail, fX5_fail_17, z32_add, z32_sub, z32_mul, z32_neg, z32_litn, z32_lt, z32_le, z32_eq, iG_h, lG_h, iS_j, lS_k, aI_h, wI_h, aL_h, wL_h, bnd, bnr_s, bnc_s, ↓reduceIte, ieqT, ieqF, iltT, iltF, ileT, ileF, not_true, not_false_iff, e7]
  · simp (disch := omega) only [lv, hI_jS, ↓reduceIte, ieqT, ieqF, iltT, iltF, ileT, ileF, not_true, not_false_iff, e1, e2, e5, e6]
    simp
theorem fail_1 (h : lv A a fr tk ow nm nu fa pl) (hf : fa ≠ 0) : ∃ B, fX5_fail (z32 k) (z32 x) A = some B ∧ oR A B ∧ lv B a fr 4 (-1) nm nu fa pl := by
  obtain ⟨e1, e2, e3, e4, e5, e6, e7, e8⟩ := h
  have b1 := hI_lo A 54 9
  have b2 := hI_hi A 54 9
  refine ⟨jS (jS A 54 5 4) 54 6 (-1), ?_, oR_t oR_j oR_j, ?_⟩
  · simp (disch := omega) only [fX5_fail, fX5_fail_17, z32_add, z32_sub, z32_mul, z32_neg, z32_litn, z32_lt, z32_le, z32_eq, iG_h, lG_h, iS_j, lS_k, aI_h, wI_h, aL_h, wL_h, bnd, bnr_s, bnc_s, ↓reduceIte, ieqT, ieqF, iltT, iltF, ileT, ileF, not_true, not_false_iff, e7]
  · simp (disch := omega) only [lv, hI_jS, ↓reduceIte, ieqT, ieqF, iltT, iltF, ileT, ileF, not_true, not_false_iff, e1, e2, e5, e6, e7, e8]
    simp
theorem isL_t (h : isL x) : fX5_isLetter (z32 x) = z32 1 := by
  unfold isL at h
  simp (disch := omega) only [fX5_isLetter, z32_add, z32_sub, z32_mul, z32_neg, z32_litn, z32_lt, z32_le, z32_eq, iG_h, lG_h, iS_j, lS_k, aI_h, wI_h, aL_h, wL_h, bnd, bnr_s, bnc_s, ↓reduceIte, ieqT, ieqF, iltT, iltF, ileT, ileF, not_true, not_false_iff]
theorem isL_f (h : ¬ isL x) (h1 : 0 ≤ x) (h2 : x ≤ 255) : fX5_isLetter (z32 x) = z32 0 := by
  unfold isL at h
  by_cases g : x < 97
  · simp (disch := omega) only [fX5_isLetter, z32_add, z32_sub, z32_mul, z32_neg, z32_litn, z32_lt, z32_le, z32_eq, iG_h, lG_h, iS_j, lS_k, aI_h, wI_h, aL_h, wL_h, bnd, bnr_s, bnc_s, ↓reduceIte, ieqT, ieqF, iltT, iltF, ileT, ileF, not_true, not_false_iff]
  · simp (disch := omega) only [fX5_isLetter, z32_add, z32_sub, z32_mul, z32_neg, z32_litn, z32_lt, z32_le, z32_eq, iG_h, lG_h, iS_j, lS_k, aI_h, wI_h, aL_h, wL_h, bnd, bnr_s, bnc_s, ↓reduceIte, ieqT, ieqF, iltT, iltF, ileT, ileF, not_true, not_false_iff]
theorem isD_t (h : isD x) : fX5_isDigit (z32 x) = z32 1 := by
  unfold isD at h
  simp (disch := omega) only [fX5_isDigit, z32_add, z32_sub, z32_mul, z32_neg, z32_litn, z32_lt, z32_le, z32_eq, iG_h, lG_h, iS_j, lS_k, aI_h, wI_h, aL_h, wL_h, bnd, bnr_s, bnc_s, ↓reduceIte, ieqT, ieqF, iltT, iltF, ileT, ileF, not_true, not_false_iff]
theorem isD_f (h : ¬ isD x) (h1 : 0 ≤ x) (h2 : x ≤ 255) : fX5_isDigit (z32 x) = z32 0 := by
  unfold isD at h
  by_cases g : x < 48
  · simp (disch := omega) only [fX5_isDigit, z32_add, z32_sub, z32_mul, z32_neg, z32_litn, z32_lt, z32_le, z32_eq, iG_h, lG_h, iS_j, lS_k, aI_h, wI_h, aL_h, wL_h, bnd, bnr_s, bnc_s, ↓reduceIte, ieqT, ieqF, iltT, iltF, ileT, ileF, not_true, not_false_iff]
  · simp (disch := omega) only [fX5_isDigit, z32_add, z32_sub, z32_mul, z32_neg, z32_litn, z32_lt, z32_le, z32_eq, iG_h, lG_h, iS_j, lS_k, aI_h, wI_h, aL_h, wL_h, bnd, bnr_s, bnc_s, ↓reduceIte, ieqT, ieqF, iltT, iltF, ileT, ileF, not_true, not_false_iff]
/-- from p on blanks up to q -/
def skT (c : Int → Int) (N p q : Int) : Prop := p ≤ q ∧ q ≤ N ∧ (∀ j, p ≤ j → j < q → isB (c j)) ∧ (q = N ∨ ¬ isB (c q))
theorem sk_ex (c : Int → Int) {N p : Int} (h : p ≤ N) : ∃ q, skT c N p q := by
  obtain ⟨d, hd⟩ : ∃ d : Nat, N - p = d := ⟨(N - p).toNat, by omega⟩
  induction d generalizing p with
  | zero => exact ⟨p, by omega, h, fun j _ _ => by omega, Or.inl (by omega)⟩
  | succ d ih =>
    by_cases g : isB (c p)
    · obtain ⟨q, h1, h2, h3, h4⟩ := ih (p := p + 1) (by omega) (by omega)
      refine ⟨q, by omega, h2, fun j g1 g2 => ?_, h4⟩
      by_cases g3 : j = p
      · rw [g3]; exact g
      · exact h3 j (by omega) g2
    · exact ⟨p, by omega, h, fun j _ _ => by omega, Or.inr g⟩
theorem cSkip_z (hT : TX A c N) (h : lv A a fr tk ow nm nu fa pl) (h0 : 0 ≤ a) (hq : skT c N a q) : ∃ B, fX5_skipBlanks A = some B ∧ oR A B ∧ lv B q fr tk ow nm nu fa pl := by
  have key : ∀ (d : Nat) (f : Nat) (A : zS) (a : Int), TX A c N → lv A a fr tk ow nm nu fa pl → 0 ≤ a → q - a = d → (∀ j, a ≤ j → j < q → isB (c j)) → d < f → ∃ B, fX5_skipBlanks_0 f A = some B ∧ oR A B ∧ lv B q fr tk ow nm nu fa pl := by
    intro d
    induction d with
    | zero =>
      intro f A a hT h h0 hd hb hf
      obtain ⟨g, rfl⟩ : ∃ g, f = g + 1 := ⟨f - 1, by omega⟩
      have ha : a = q := by omega
      subst ha
      obtain ⟨e1, e2, e3, e4, e5, e6, e7, e8⟩ := h
      have hN := hT.2.1
      have hs := hT.1
      have hq2 := hq.2.1
      refine ⟨A, ?_, oR_r A, e1, e2, e3, e4, e5, e6, e7, e8⟩
      rcases hq.2.2.2 with hq3 | hq3
      · simp (disch := omega) only [fX5_skipBlanks_0, z32_add, z32_sub, z32_mul, z32_neg, z32_litn, z32_lt, z32_le, z32_eq, iG_h, lG_h, iS_j, lS_k, aI_h, wI_h, aL_h, wL_h, bnd, bnr_s, bnc_s, ↓reduceIte, ieqT, ieqF, iltT, iltF, ileT, ileF, not_true, not_false_iff, e1, hs]
      · by_cases g2 : a = N
        · simp (disch := omega) only [fX5_skipBlanks_0, z32_add, z32_sub, z32_mul, z32_neg, z32_litn, z32_lt, z32_le, z32_eq, iG_h, lG_h, iS_j, lS_k, aI_h, wI_h, aL_h, wL_h, bnd, bnr_s, bnc_s, ↓reduceIte, ieqT, ieqF, iltT, iltF, ileT, ileF, not_true, not_false_iff, e1, hs]
        · have bb := TX_b hT h0 (by omega)
          unfold isB at hq3
          simp (disch := omega) only [fX5_skipBlanks_0, z32_add, z32_sub, z32_mul, z32_neg, z32_litn, z32_lt, z32_le, z32_eq, iG_h, lG_h, iS_j, lS_k, aI_h, wI_h, aL_h, wL_h, bnd, bnr_s, bnc_s, ↓reduceIte, ieqT, ieqF, iltT, iltF, ileT, ileF, not_true, not_false_iff, e1, hs, byte_z hT]
    | succ d ih =>
      intro f A a hT h h0 hd hb hf
      obtain ⟨g, rfl⟩ : ∃ g, f = g + 1 := ⟨f - 1, by omega⟩
      have hN := hT.2.1
      have hs := hT.1
      have hq2 := hq.2.1
      obtain ⟨e1, e2, e3, e4, e5, e6, e7, e8⟩ := h
      obtain ⟨B, b1, b2, b3⟩ := ih g (jS A 54 3 (a + 1)) (a + 1) (TX_o hT oR_j) (by
        simp (disch := omega) only [lv, hI_jS, ↓reduceIte, ieqT, ieqF, iltT, iltF, ileT, ileF, not_true, not_false_iff, e2, e3, e4, e5, e6, e7, e8]
        simp) (by omega) (by omega) (fun j g1 g2 => hb j (by omega) g2) (by omega)
      refine ⟨B, ?_, oR_t oR_j b2, b3⟩
      have hba := hb a (by omega) (by omega)
      have bb := TX_b hT h0 (by omega)
      rcases hba with g1 | g1
      · simp (disch := omega) only [fX5_skipBlanks_0, fX5_skipBlanks_46, z32_add, z32_sub, z32_mul, z32_neg, z32_litn, z32_lt, z32_le, z32_eq, iG_h, lG_h, iS_j, lS_k, aI_h, wI_h, aL_h, wL_h, bnd, bnr_s, bnc_s, ↓reduceIte, ieqT, ieqF, iltT, iltF, ileT, ileF, not_true, not_false_iff, e1, hs, byte_z hT, g1]
        exact b1
      · simp (disch := omega) only [fX5_skipBlanks_0, fX5_skipBlanks_46, z32_add, z32_sub, z32_mul, z32_neg, z32_litn, z32_lt, z32_le, z32_eq, iG_h, lG_h, iS_j, lS_k, aI_h, wI_h, aL_h, wL_h, bnd, bnr_s, bnc_s, ↓reduceIte, ieqT, ieqF, iltT, iltF, ileT, ileF, not_true, not_false_iff, e1, hs, byte_z hT, g1]
        exact b1
  exact key (q - a).toNat zF A a hT h h0 (by have := hq.1; omega) hq.2.2.1 (by unfold zF; have := hq.2.1; have := hT.2.1; omega)
/-- a run of m that are P from q on -/
def rnT (P : Int → Prop) (c : Int → Int) (N q : Int) (m : Nat) : Prop := q + m ≤ N ∧ (∀ i : Nat, i < m → P (c (q + i))) ∧ (q + m = N ∨ ¬ P (c (q + m)))
theorem rn_ex (P : Int → Prop) (c : Int → Int) {N q : Int} (h : q ≤ N) : ∃ m, rnT P c N q m := by
  obtain ⟨d, hd⟩ : ∃ d : Nat, N - q = d := ⟨(N - q).toNat, by omega⟩
  induction d generalizing q with
  | zero => exact ⟨0, by omega, fun i hi => by omega, Or.inl (by omega)⟩
  | succ d ih =>
    by_cases g : P (c q)
    · obtain ⟨m, h1, h2, h3⟩ := ih (q := q + 1) (by omega) (by omega)
      refine ⟨m + 1, by omega, fun i hi => ?_, ?_⟩
      · cases i with
        | zero => simpa using g
        | succ i =>
          have := h2 i (by omega)
          rw [show q + ((i + 1 : Nat) : Int) = q + 1 + i by omega]; exact this
      · rw [show q + ((m + 1 : Nat) : Int) = q + 1 + m by omega]; exact h3
    · exact ⟨0, by omega, fun i hi => by omega, Or.inr (by simpa using g)⟩
def ltr (c : Int → Int) (q : Int) : Nat → Int := fun i => c (q + i) - 96
theorem pk5_b {l : Nat → Int} (n : Nat) (hn : n ≤ 6) (hl : ∀ i, i < n → 1 ≤ l i ∧ l i ≤ 26) : 0 ≤ pk5 l n ∧ pk5 l n < 1073741824 ∧ pk5 l n % (32 ^ (6 - n)) = 0 := by
  rcases (by omega : n = 0 ∨ n = 1 ∨ n = 2 ∨ n = 3 ∨ n = 4 ∨ n = 5 ∨ n = 6) with h | h | h | h | h | h | h <;> subst h
  · simp [pk5]
  · have h0 := hl 0 (by omega)
    simp [pk5]; omega
  · have h0 := hl 0 (by omega)
    have h1 := hl 1 (by omega)
    simp [pk5]; omega
  · have h0 := hl 0 (by omega)
    have h1 := hl 1 (by omega)
    have h2 := hl 2 (by omega)
    simp [pk5]; omega
  · have h0 := hl 0 (by omega)
    have h1 := hl 1 (by omega)
    have h2 := hl 2 (by omega)
    have h3 := hl 3 (by omega)
    simp [pk5]; omega
  · have h0 := hl 0 (by omega)
    have h1 := hl 1 (by omega)
    have h2 := hl 2 (by omega)
    have h3 := hl 3 (by omega)
    have h4 := hl 4 (by omega)
    simp [pk5]; omega
  · have h0 := hl 0 (by omega)
    have h1 := hl 1 (by omega)
    have h2 := hl 2 (by omega)
    have h3 := hl 3 (by omega)
    have h4 := hl 4 (by omega)
    have h5 := hl 5 (by omega)
    simp [pk5]; omega
theorem or_n (a b : Nat) : nI a ||| nI b = nI (a ||| b) := by
  apply Int32.toBitVec_inj.1
  show (BitVec.ofNat 32 a) ||| (BitVec.ofNat 32 b) = BitVec.ofNat 32 (a ||| b)
  apply BitVec.eq_of_toNat_eq
  simp [Nat.or_mod_two_pow]
theorem wl_n {p x : Nat} {s : Int32} (e i : Nat) (hs : (s.toBitVec.smod 32).toNat = e) (hp : 2 ^ i * p < 2 ^ 31) (hx : x < 32) (hi : i = e + 5) (hi' : i ≤ 30) : nI (2 ^ i * p) ||| (nI x <<< s) = nI (2 ^ i * p + x * 2 ^ e) := by
  have h1 : x * 2 ^ e < 2 ^ i := by
    rw [hi, Nat.pow_add, Nat.mul_comm]
    exact Nat.mul_lt_mul_of_pos_left (by omega) (Nat.two_pow_pos e)
  have h2 : 2 ^ i ≤ 2 ^ 30 := Nat.pow_le_pow_right (by omega) hi'
  rw [pk_shlN s e hs (by omega), or_n, Nat.two_pow_add_eq_or_of_lt h1]
theorem wl_z {l : Nat → Int} {n : Nat} (hn : n < 6) (hl : ∀ i, i < n → 1 ≤ l i ∧ l i ≤ 26) (hx : isL x) : fX5_withLetter (z32 (pk5 l n)) (z32 (n : Int)) (z32 x) = z32 (pk5 l n + (x - 96) * 32 ^ (5 - n)) := by
  obtain ⟨h1, h2, h3⟩ := pk5_b n (by omega) hl
  unfold isL at hx
  obtain ⟨u, hu⟩ := Int.eq_ofNat_of_zero_le (show 0 ≤ x - 96 by omega)
  have e1 : (z32 x - 97 + 1 : Int32) = nI u := by
    rw [z32_litn, z32_litn, z32_sub, z32_add, show x - 97 + 1 = (u : Int) by omega]
    exact (z32_ofNat u).symm
  have hd := Int.mul_ediv_add_emod (pk5 l n) (32 ^ (6 - n))
  rw [h3] at hd
  obtain ⟨v, hv⟩ := Int.eq_ofNat_of_zero_le (show 0 ≤ pk5 l n / 32 ^ (6 - n) from Int.ediv_nonneg h1 (by rcases (by omega : n = 0 ∨ n = 1 ∨ n = 2 ∨ n = 3 ∨ n = 4 ∨ n = 5) with h | h | h | h | h | h <;> subst h <;> decide))
  rw [hv] at hd
  unfold fX5_withLetter
  rw [e1, hu]
  rcases (by omega : n = 0 ∨ n = 1 ∨ n = 2 ∨ n = 3 ∨ n = 4 ∨ n = 5) with h | h | h | h | h | h <;> subst h
  · rw [← hd, show z32 ((32 : Int) ^ (6 - 0) * (v : Int) + 0) = nI (2 ^ 30 * v) by rw [show (32 : Int) ^ (6 - 0) * (v : Int) + 0 = ((2 ^ 30 * v : Nat) : Int) by simp]; exact (z32_ofNat _).symm, wl_n 25 30 (by decide) (by simp at hd; omega) (by omega) (by omega) (by omega)]
    rw [show (32 : Int) ^ (6 - 0) * (v : Int) + 0 + (u : Int) * 32 ^ (5 - 0) = ((2 ^ 30 * v + u * 2 ^ 25 : Nat) : Int) by simp]
    exact z32_ofNat _
  · rw [← hd, show z32 ((32 : Int) ^ (6 - 1) * (v : Int) + 0) = nI (2 ^ 25 * v) by rw [show (32 : Int) ^ (6 - 1) * (v : Int) + 0 = ((2 ^ 25 * v : Nat) : Int) by simp]; exact (z32_ofNat _).symm, wl_n 20 25 (by decide) (by simp at hd; omega) (by omega) (by omega) (by omega)]
    rw [show (32 : Int) ^ (6 - 1) * (v : Int) + 0 + (u : Int) * 32 ^ (5 - 1) = ((2 ^ 25 * v + u * 2 ^ 20 : Nat) : Int) by simp]
    exact z32_ofNat _
  · rw [← hd, show z32 ((32 : Int) ^ (6 - 2) * (v : Int) + 0) = nI (2 ^ 20 * v) by rw [show (32 : Int) ^ (6 - 2) * (v : Int) + 0 = ((2 ^ 20 * v : Nat) : Int) by simp]; exact (z32_ofNat _).symm, wl_n 15 20 (by decide) (by simp at hd; omega) (by omega) (by omega) (by omega)]
    rw [show (32 : Int) ^ (6 - 2) * (v : Int) + 0 + (u : Int) * 32 ^ (5 - 2) = ((2 ^ 20 * v + u * 2 ^ 15 : Nat) : Int) by simp]
    exact z32_ofNat _
  · rw [← hd, show z32 ((32 : Int) ^ (6 - 3) * (v : Int) + 0) = nI (2 ^ 15 * v) by rw [show (32 : Int) ^ (6 - 3) * (v : Int) + 0 = ((2 ^ 15 * v : Nat) : Int) by simp]; exact (z32_ofNat _).symm, wl_n 10 15 (by decide) (by simp at hd; omega) (by omega) (by omega) (by omega)]
    rw [show (32 : Int) ^ (6 - 3) * (v : Int) + 0 + (u : Int) * 32 ^ (5 - 3) = ((2 ^ 15 * v + u * 2 ^ 10 : Nat) : Int) by simp]
    exact z32_ofNat _
  · rw [← hd, show z32 ((32 : Int) ^ (6 - 4) * (v : Int) + 0) = nI (2 ^ 10 * v) by rw [show (32 : Int) ^ (6 - 4) * (v : Int) + 0 = ((2 ^ 10 * v : Nat) : Int) by simp]; exact (z32_ofNat _).symm, wl_n 5 10 (by decide) (by simp at hd; omega) (by omega) (by omega) (by omega)]
    rw [show (32 : Int) ^ (6 - 4) * (v : Int) + 0 + (u : Int) * 32 ^ (5 - 4) = ((2 ^ 10 * v + u * 2 ^ 5 : Nat) : Int) by simp]
    exact z32_ofNat _
  · rw [← hd, show z32 ((32 : Int) ^ (6 - 5) * (v : Int) + 0) = nI (2 ^ 5 * v) by rw [show (32 : Int) ^ (6 - 5) * (v : Int) + 0 = ((2 ^ 5 * v : Nat) : Int) by simp]; exact (z32_ofNat _).symm, wl_n 0 5 (by decide) (by simp at hd; omega) (by omega) (by omega) (by omega)]
    rw [show (32 : Int) ^ (6 - 5) * (v : Int) + 0 + (u : Int) * 32 ^ (5 - 5) = ((2 ^ 5 * v + u * 2 ^ 0 : Nat) : Int) by simp]
    exact z32_ofNat _
end LX

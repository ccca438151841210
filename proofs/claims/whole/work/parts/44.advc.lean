/-! MY OWN: the one side goes ahead by a word, a number or a sign -/
def OW5 : List Int := [693581996, 236453888, 54525952, 777297171, 284561586, 86148744, 404397331, 679786867, 245044832, 788091136, 681121376, 642955264, 211227648, 274075648, 418847744, 437392384, 404344832, 72405166, 308281344, 522190848, 48365568, 486146048, 46530560, 446103552, 438042624]
def OW8 : List Int := [128047712724332, 6775152, 24948, 131277443786867, 114827769177458, 108243466679400, 119165837338739, 127991794264947, 444150998387, 512970880104, 499985311091, 1936024942, 1718185573, 1751477348, 1819242087, 1835099237, 1818325876, 108187566237038, 26982, 28530, 6385252, 7237492, 6384748, 7170414, 7168376]
def OWL : List (List Int) := [[20, 21, 14, 14, 5, 12], [7, 1, 16], [1, 20], [23, 5, 9, 7, 8, 19], [8, 15, 12, 4, 5, 18], [2, 18, 5, 1, 20, 8], [12, 1, 21, 7, 8, 19], [20, 8, 9, 14, 11, 19], [7, 9, 22, 5, 19], [23, 15, 18, 20, 8], [20, 9, 18, 5, 19], [19, 5, 5, 14], [6, 9, 14, 5], [8, 5, 12, 4], [12, 15, 14, 7], [13, 1, 4, 5], [12, 1, 19, 20], [2, 5, 1, 20, 5, 14], [9, 6], [15, 18], [1, 14, 4], [14, 15, 20], [1, 12, 12], [13, 9, 14], [13, 1, 24]]
def ow5 (i : Int) : Int := OW5.getD i.toNat 0
def ow8 (i : Int) : Int := OW8.getD i.toNat 0
def OWN (A : zS) : Prop := ∀ i, 0 ≤ i → i < 25 → hI A 55 i = ow5 i
theorem ow5_b : ∀ i : Fin 25, 0 ≤ OW5.getD i.val 0 ∧ OW5.getD i.val 0 < 1073741824 := by decide
def nvl (c : Int → Int) (q : Int) : Nat → Int
  | 0 => 0
  | n + 1 => 10 * nvl c q n + c (q + n) - 48
theorem nvl_b {c : Int → Int} {q : Int} (n : Nat) (hn : n ≤ 4) (h : ∀ i : Nat, i < n → isD (c (q + i))) : 0 ≤ nvl c q n ∧ nvl c q n ≤ 9999 := by
  unfold isD at h
  rcases (by omega : n = 0 ∨ n = 1 ∨ n = 2 ∨ n = 3 ∨ n = 4) with g | g | g | g | g <;> subst g
  · simp [nvl]
  · have h0 := h 0 (by omega)
    simp only [nvl]; omega
  · have h0 := h 0 (by omega)
    have h1 := h 1 (by omega)
    simp only [nvl]; omega
  · have h0 := h 0 (by omega)
    have h1 := h 1 (by omega)
    have h2 := h 2 (by omega)
    simp only [nvl]; omega
  · have h0 := h 0 (by omega)
    have h1 := h 1 (by omega)
    have h2 := h 2 (by omega)
    have h3 := h 3 (by omega)
    simp only [nvl]; omega
section LY
variable {A : zS} {c : Int → Int} {N k a fr tk ow nm nu fa pl x q : Int} {m : Nat}
theorem find_z {p n : Nat} {cnt : Int} (h0 : 0 ≤ cnt) (h1 : cnt ≤ n) (h2 : n ≤ 1000) (hx : -2147483648 ≤ x ∧ x < 2147483648) : ∃ r, fX6_find p n A (z32 cnt) (z32 x) = some (z32 r) ∧ ((r = -1 ∧ ∀ i, 0 ≤ i → i < cnt → hI A p i ≠ x) ∨ (0 ≤ r ∧ r < cnt ∧ hI A p r = x ∧ ∀ i, 0 ≤ i → i < r → hI A p i ≠ x)) := by
  have key : ∀ (d : Nat) (k : Int) (f : Nat), k + d = cnt → 0 ≤ k → d < f → (∀ i, 0 ≤ i → i < k → hI A p i ≠ x) → ∃ r, fX6_find_2 p n A f (z32 cnt) (z32 x) (z32 k) = some (z32 r) ∧ ((r = -1 ∧ ∀ i, 0 ≤ i → i < cnt → hI A p i ≠ x) ∨ (0 ≤ r ∧ r < cnt ∧ hI A p r = x ∧ ∀ i, 0 ≤ i → i < r → hI A p i ≠ x)) := by
    intro d
    induction d with
    | zero =>
      intro k f hk hk0 hf hi
      obtain ⟨g, rfl⟩ : ∃ g, f = g + 1 := ⟨f - 1, by omega⟩
      have : k = cnt := by omega
      subst this
      refine ⟨-1, ?_, Or.inl ⟨rfl, hi⟩⟩
      simp (disch := omega) only [fX6_find_2, z32_add, z32_sub, z32_mul, z32_neg, z32_litn, z32_lt, z32_le, z32_eq, iG_h, lG_h, iS_j, lS_k, aI_h, wI_h, aL_h, wL_h, bnd, bnr_s, bnc_s, ↓reduceIte, ieqT, ieqF, iltT, iltF, ileT, ileF, not_true, not_false_iff]
    | succ d ih =>
      intro k f hk hk0 hf hi
      obtain ⟨g, rfl⟩ : ∃ g, f = g + 1 := ⟨f - 1, by omega⟩
      have b1 := hI_lo A p k
      have b2 := hI_hi A p k
      by_cases he : hI A p k = x
      · refine ⟨k, ?_, Or.inr ⟨hk0, by omega, he, hi⟩⟩
        simp (disch := omega) only [fX6_find_2, z32_add, z32_sub, z32_mul, z32_neg, z32_litn, z32_lt, z32_le, z32_eq, iG_h, lG_h, iS_j, lS_k, aI_h, wI_h, aL_h, wL_h, bnd, bnr_s, bnc_s, ↓reduceIte, ieqT, ieqF, iltT, iltF, ileT, ileF, not_true, not_false_iff, z32_ofNat, he]
      · obtain ⟨r, r1, r2⟩ := ih (k + 1) g (by omega) (by omega) (by omega) (fun i g0 g1 => by
          by_cases g2 : i = k
          · rw [g2]; exact he
          · exact hi i g0 (by omega))
        refine ⟨r, ?_, r2⟩
        simp (disch := omega) only [fX6_find_2, z32_add, z32_sub, z32_mul, z32_neg, z32_litn, z32_lt, z32_le, z32_eq, iG_h, lG_h, iS_j, lS_k, aI_h, wI_h, aL_h, wL_h, bnd, bnr_s, bnc_s, ↓reduceIte, ieqT, ieqF, iltT, iltF, ileT, ileF, not_true, not_false_iff, z32_ofNat]
        exact r1
  exact key cnt.toNat 0 zF (by omega) (by omega) (by unfold zF; omega) (fun i g0 g1 => by omega)
/-- the own word's number, if it is one -/
def owOf (p own : Int) : Prop := (own = -1 ∧ ∀ i, 0 ≤ i → i < 25 → ow5 i ≠ p) ∨ (0 ≤ own ∧ own < 25 ∧ ow5 own = p)
theorem cWord_z (hT : TX A c N) (hO : OWN A) (h : lv A q q 2 (-1) 0 nu 0 pl) (h0 : 0 ≤ q) (hm : rnT isL c N q m) (h6 : m ≤ 6) : ∃ B own, fX5_scanWord_10 zF A = some B ∧ oR A B ∧ lv B (q + m) q 2 own (pk5 (ltr c q) m) nu 0 pl ∧ owOf (pk5 (ltr c q) m) own := by
  obtain ⟨hm1, hm2, hm3⟩ := hm
  have key : ∀ (d n : Nat) (f : Nat) (A : zS), TX A c N → OWN A → lv A (q + n) q 2 (-1) (pk5 (ltr c q) n) nu 0 pl → n + d = m → d < f → ∃ B own, fX5_scanWord_10 f A = some B ∧ oR A B ∧ lv B (q + m) q 2 own (pk5 (ltr c q) m) nu 0 pl ∧ owOf (pk5 (ltr c q) m) own := by
    intro d
    induction d with
    | zero =>
      intro n f A hT hO h hd hf
      obtain ⟨g, rfl⟩ : ∃ g, f = g + 1 := ⟨f - 1, by omega⟩
      have : n = m := by omega
      subst this
      obtain ⟨e1, e2, e3, e4, e5, e6, e7, e8⟩ := h
      have hN := hT.2.1
      have hs := hT.1
      have pb := pk5_b (l := ltr c q) n h6 (fun i hi => by have := hm2 i hi; unfold isL at this; unfold ltr; omega)
      obtain ⟨r, r1, r2⟩ := find_z (A := A) (p := 55) (n := 25) (cnt := 25) (x := pk5 (ltr c q) n) (by omega) (by omega) (by omega) (by omega)
      have rb : -1 ≤ r ∧ r < 25 := by omega
      refine ⟨jS A 54 6 r, r, ?_, oR_j, ?_, ?_⟩
      · have e9 : fX5_scanWord_109 A = some (jS A 54 6 r) := by
          simp (disch := omega) only [fX5_scanWord_109, z32_add, z32_sub, z32_mul, z32_neg, z32_litn, z32_lt, z32_le, z32_eq, iG_h, lG_h, iS_j, lS_k, aI_h, wI_h, aL_h, wL_h, bnd, bnr_s, bnc_s, ↓reduceIte, ieqT, ieqF, iltT, iltF, ileT, ileF, not_true, not_false_iff, e5, r1]
        rcases hm3 with h3 | h3
        · simp (disch := omega) only [fX5_scanWord_10, z32_add, z32_sub, z32_mul, z32_neg, z32_litn, z32_lt, z32_le, z32_eq, iG_h, lG_h, iS_j, lS_k, aI_h, wI_h, aL_h, wL_h, bnd, bnr_s, bnc_s, ↓reduceIte, ieqT, ieqF, iltT, iltF, ileT, ileF, not_true, not_false_iff, e1, hs, e9]
        · by_cases g2 : q + n = N
          · simp (disch := omega) only [fX5_scanWord_10, z32_add, z32_sub, z32_mul, z32_neg, z32_litn, z32_lt, z32_le, z32_eq, iG_h, lG_h, iS_j, lS_k, aI_h, wI_h, aL_h, wL_h, bnd, bnr_s, bnc_s, ↓reduceIte, ieqT, ieqF, iltT, iltF, ileT, ileF, not_true, not_false_iff, e1, hs, e9]
          · have bb := TX_b hT (k := q + n) (by omega) (by omega)
            simp (disch := omega) only [fX5_scanWord_10, z32_add, z32_sub, z32_mul, z32_neg, z32_litn, z32_lt, z32_le, z32_eq, iG_h, lG_h, iS_j, lS_k, aI_h, wI_h, aL_h, wL_h, bnd, bnr_s, bnc_s, ↓reduceIte, ieqT, ieqF, iltT, iltF, ileT, ileF, not_true, not_false_iff, e1, hs, byte_z hT, isL_f h3 bb.1 bb.2, e9]
      · simp (disch := omega) only [lv, hI_jS, ↓reduceIte, ieqT, ieqF, iltT, iltF, ileT, ileF, not_true, not_false_iff, e1, e2, e3, e5, e6, e7, e8]
        simp
      · rcases r2 with ⟨r3, r4⟩ | ⟨r3, r4, r5, -⟩
        · exact Or.inl ⟨r3, fun i g0 g1 => by rw [← hO i g0 g1]; exact r4 i g0 g1⟩
        · exact Or.inr ⟨r3, r4, by rw [← hO r r3 r4]; exact r5⟩
    | succ d ih =>
      intro n f A hT hO h hd hf
      obtain ⟨g, rfl⟩ : ∃ g, f = g + 1 := ⟨f - 1, by omega⟩
      obtain ⟨e1, e2, e3, e4, e5, e6, e7, e8⟩ := h
      have hN := hT.2.1
      have hs := hT.1
      have hl := hm2 n (by omega)
      have lb : ∀ i, i < n + 1 → 1 ≤ ltr c q i ∧ ltr c q i ≤ 26 := fun i hi => by have := hm2 i (by omega); unfold isL at this; unfold ltr; omega
      have pb := pk5_b (l := ltr c q) (n + 1) (by omega) lb
      have pbn := pk5_b (l := ltr c q) n (by omega) (fun i hi => lb i (by omega))
      have w := wl_z (l := ltr c q) (n := n) (x := c (q + n)) (by omega) (fun i hi => lb i (by omega)) hl
      rw [show pk5 (ltr c q) n + (c (q + n) - 96) * 32 ^ (5 - n) = pk5 (ltr c q) (n + 1) from rfl] at w
      obtain ⟨B, own, b1, b2, b3, b4⟩ := ih (n + 1) g (jS (jS A 54 7 (pk5 (ltr c q) (n + 1))) 54 3 (q + n + 1)) (TX_o hT (oR_t oR_j oR_j)) (fun i g0 g1 => by rw [hI_jS_ne (by omega), hI_jS_ne (by omega)]; exact hO i g0 g1) (by
        simp (disch := omega) only [lv, hI_jS, ↓reduceIte, ieqT, ieqF, iltT, iltF, ileT, ileF, not_true, not_false_iff, e2, e3, e4, e5, e6, e7, e8]
        refine ⟨?_, ?_, ?_, ?_, ?_, ?_, ?_, ?_⟩ <;> first | trivial | omega) (by omega) (by omega)
      refine ⟨B, own, ?_, oR_t (oR_t oR_j oR_j) b2, b3, b4⟩
      have bb := TX_b hT (k := q + n) (by omega) (by omega)
      have x1 : q + (n : Int) - q = n := by omega
      simp (disch := omega) only [fX5_scanWord_10, z32_add, z32_sub, z32_mul, z32_neg, z32_litn, z32_lt, z32_le, z32_eq, iG_h, lG_h, iS_j, lS_k, aI_h, wI_h, aL_h, wL_h, bnd, bnr_s, bnc_s, ↓reduceIte, ieqT, ieqF, iltT, iltF, ileT, ileF, not_true, not_false_iff, e1, e2, e5, hs, byte_z hT, isL_t hl, x1, w, hI_jS]
      exact b1
  exact key m 0 zF A hT hO (by simpa [pk5] using h) (by omega) (by unfold zF; omega)
theorem cWordL_z (hT : TX A c N) (h : lv A q q 2 (-1) 0 nu 0 pl) (h0 : 0 ≤ q) (hm : rnT isL c N q m) (h6 : 7 ≤ m) : ∃ B nm', fX5_scanWord_10 zF A = some B ∧ oR A B ∧ lv B (q + 6) q 4 (-1) nm' nu 1 (q + 6) := by
  obtain ⟨hm1, hm2, hm3⟩ := hm
  have key : ∀ (d n : Nat) (f : Nat) (A : zS), TX A c N → lv A (q + n) q 2 (-1) (pk5 (ltr c q) n) nu 0 pl → n + d = 6 → d < f → ∃ B nm', fX5_scanWord_10 f A = some B ∧ oR A B ∧ lv B (q + 6) q 4 (-1) nm' nu 1 (q + 6) := by
    intro d
    induction d with
    | zero =>
      intro n f A hT h hd hf
      obtain ⟨g, rfl⟩ : ∃ g, f = g + 1 := ⟨f - 1, by omega⟩
      have : n = 6 := by omega
      subst this
      have hN := hT.2.1
      have hs := hT.1
      obtain ⟨B, b1, b2, b3⟩ := fail_0 (k := 1) (x := q + 6) h (by omega) (by omega)
      obtain ⟨e1, e2, e3, e4, e5, e6, e7, e8⟩ := h
      have hl := hm2 6 (by omega)
      refine ⟨B, _, ?_, b2, b3⟩
      have x1 : q + ((6 : Nat) : Int) = q + 6 := by omega
      rw [x1] at e1 hl
      have x2 : q + 6 - q = 6 := by omega
      simp (disch := omega) only [fX5_scanWord_10, z32_add, z32_sub, z32_mul, z32_neg, z32_litn, z32_lt, z32_le, z32_eq, iG_h, lG_h, iS_j, lS_k, aI_h, wI_h, aL_h, wL_h, bnd, bnr_s, bnc_s, ↓reduceIte, ieqT, ieqF, iltT, iltF, ileT, ileF, not_true, not_false_iff, e1, e2, hs, byte_z hT, isL_t hl, x2, b1]
    | succ d ih =>
      intro n f A hT h hd hf
      obtain ⟨g, rfl⟩ : ∃ g, f = g + 1 := ⟨f - 1, by omega⟩
      obtain ⟨e1, e2, e3, e4, e5, e6, e7, e8⟩ := h
      have hN := hT.2.1
      have hs := hT.1
      have hl := hm2 n (by omega)
      have lb : ∀ i, i < n + 1 → 1 ≤ ltr c q i ∧ ltr c q i ≤ 26 := fun i hi => by have := hm2 i (by omega); unfold isL at this; unfold ltr; omega
      have pb := pk5_b (l := ltr c q) (n + 1) (by omega) lb
      have pbn := pk5_b (l := ltr c q) n (by omega) (fun i hi => lb i (by omega))
      have w := wl_z (l := ltr c q) (n := n) (x := c (q + n)) (by omega) (fun i hi => lb i (by omega)) hl
      rw [show pk5 (ltr c q) n + (c (q + n) - 96) * 32 ^ (5 - n) = pk5 (ltr c q) (n + 1) from rfl] at w
      obtain ⟨B, nm', b1, b2, b3⟩ := ih (n + 1) g (jS (jS A 54 7 (pk5 (ltr c q) (n + 1))) 54 3 (q + n + 1)) (TX_o hT (oR_t oR_j oR_j)) (by
        simp (disch := omega) only [lv, hI_jS, ↓reduceIte, ieqT, ieqF, iltT, iltF, ileT, ileF, not_true, not_false_iff, e2, e3, e4, e5, e6, e7, e8]
        refine ⟨?_, ?_, ?_, ?_, ?_, ?_, ?_, ?_⟩ <;> first | trivial | omega) (by omega) (by omega)
      refine ⟨B, nm', ?_, oR_t (oR_t oR_j oR_j) b2, b3⟩
      have bb := TX_b hT (k := q + n) (by omega) (by omega)
      have x1 : q + (n : Int) - q = n := by omega
      simp (disch := omega) only [fX5_scanWord_10, z32_add, z32_sub, z32_mul, z32_neg, z32_litn, z32_lt, z32_le, z32_eq, iG_h, lG_h, iS_j, lS_k, aI_h, wI_h, aL_h, wL_h, bnd, bnr_s, bnc_s, ↓reduceIte, ieqT, ieqF, iltT, iltF, ileT, ileF, not_true, not_false_iff, e1, e2, e5, hs, byte_z hT, isL_t hl, x1, w, hI_jS]
      exact b1
  exact key 6 0 zF A hT (by simpa [pk5] using h) (by omega) (by unfold zF; omega)
theorem cNum_z (hT : TX A c N) (h : lv A q q 3 (-1) nm 0 0 pl) (h0 : 0 ≤ q) (hm : rnT isD c N q m) (h6 : m ≤ 4) : ∃ B, fX5_scanNumber_10 zF A = some B ∧ oR A B ∧ lv B (q + m) q 3 (-1) nm (nvl c q m) 0 pl := by
  obtain ⟨hm1, hm2, hm3⟩ := hm
  have key : ∀ (d n : Nat) (f : Nat) (A : zS), TX A c N → lv A (q + n) q 3 (-1) nm (nvl c q n) 0 pl → n + d = m → d < f → ∃ B, fX5_scanNumber_10 f A = some B ∧ oR A B ∧ lv B (q + m) q 3 (-1) nm (nvl c q m) 0 pl := by
    intro d
    induction d with
    | zero =>
      intro n f A hT h hd hf
      obtain ⟨g, rfl⟩ : ∃ g, f = g + 1 := ⟨f - 1, by omega⟩
      have : n = m := by omega
      subst this
      refine ⟨A, ?_, oR_r A, h⟩
      obtain ⟨e1, e2, e3, e4, e5, e6, e7, e8⟩ := h
      have hN := hT.2.1
      have hs := hT.1
      rcases hm3 with h3 | h3
      · simp (disch := omega) only [fX5_scanNumber_10, z32_add, z32_sub, z32_mul, z32_neg, z32_litn, z32_lt, z32_le, z32_eq, iG_h, lG_h, iS_j, lS_k, aI_h, wI_h, aL_h, wL_h, bnd, bnr_s, bnc_s, ↓reduceIte, ieqT, ieqF, iltT, iltF, ileT, ileF, not_true, not_false_iff, e1, hs]
      · by_cases g2 : q + n = N
        · simp (disch := omega) only [fX5_scanNumber_10, z32_add, z32_sub, z32_mul, z32_neg, z32_litn, z32_lt, z32_le, z32_eq, iG_h, lG_h, iS_j, lS_k, aI_h, wI_h, aL_h, wL_h, bnd, bnr_s, bnc_s, ↓reduceIte, ieqT, ieqF, iltT, iltF, ileT, ileF, not_true, not_false_iff, e1, hs]
        · have bb := TX_b hT (k := q + n) (by omega) (by omega)
          simp (disch := omega) only [fX5_scanNumber_10, z32_add, z32_sub, z32_mul, z32_neg, z32_litn, z32_lt, z32_le, z32_eq, iG_h, lG_h, iS_j, lS_k, aI_h, wI_h, aL_h, wL_h, bnd, bnr_s, bnc_s, ↓reduceIte, ieqT, ieqF, iltT, iltF, ileT, ileF, not_true, not_false_iff, e1, hs, byte_z hT, isD_f h3 bb.1 bb.2]
    | succ d ih =>
      intro n f A hT h hd hf
      obtain ⟨g, rfl⟩ : ∃ g, f = g + 1 := ⟨f - 1, by omega⟩
      obtain ⟨e1, e2, e3, e4, e5, e6, e7, e8⟩ := h
      have hN := hT.2.1
      have hs := hT.1
      have hl := hm2 n (by omega)
      have nb := nvl_b (c := c) (q := q) (n + 1) (by omega) (fun i hi => hm2 i (by omega))
      have nbn := nvl_b (c := c) (q := q) n (by omega) (fun i hi => hm2 i (by omega))
      obtain ⟨B, b1, b2, b3⟩ := ih (n + 1) g (jS (jS A 54 8 (nvl c q (n + 1))) 54 3 (q + n + 1)) (TX_o hT (oR_t oR_j oR_j)) (by
        simp (disch := omega) only [lv, hI_jS, ↓reduceIte, ieqT, ieqF, iltT, iltF, ileT, ileF, not_true, not_false_iff, e2, e3, e4, e5, e6, e7, e8]
        refine ⟨?_, ?_, ?_, ?_, ?_, ?_, ?_, ?_⟩ <;> first | trivial | omega) (by omega) (by omega)
      refine ⟨B, ?_, oR_t (oR_t oR_j oR_j) b2, b3⟩
      have bb := TX_b hT (k := q + n) (by omega) (by omega)
      have x1 : q + (n : Int) - q = n := by omega
      have x2 : 10 * nvl c q n + c (q + n) - 48 = nvl c q (n + 1) := rfl
      simp (disch := omega) only [fX5_scanNumber_10, z32_add, z32_sub, z32_mul, z32_neg, z32_litn, z32_lt, z32_le, z32_eq, iG_h, lG_h, iS_j, lS_k, aI_h, wI_h, aL_h, wL_h, bnd, bnr_s, bnc_s, ↓reduceIte, ieqT, ieqF, iltT, iltF, ileT, ileF, not_true, not_false_iff, e1, e2, e6, hs, byte_z hT, isD_t hl, x1, x2, hI_jS]
      exact b1
  exact key m 0 zF A hT (by simpa [nvl] using h) (by omega) (by unfold zF; omega)
theorem cNumL_z (hT : TX A c N) (h : lv A q q 3 (-1) nm 0 0 pl) (h0 : 0 ≤ q) (hm : rnT isD c N q m) (h6 : 5 ≤ m) : ∃ B nu', fX5_scanNumber_10 zF A = some B ∧ oR A B ∧ lv B (q + 4) q 4 (-1) nm nu' 1 (q + 4) := by
  obtain ⟨hm1, hm2, hm3⟩ := hm
  have key : ∀ (d n : Nat) (f : Nat) (A : zS), TX A c N → lv A (q + n) q 3 (-1) nm (nvl c q n) 0 pl → n + d = 4 → d < f → ∃ B nu', fX5_scanNumber_10 f A = some B ∧ oR A B ∧ lv B (q + 4) q 4 (-1) nm nu' 1 (q + 4) := by
    intro d
    induction d with
    | zero =>
      intro n f A hT h hd hf
      obtain ⟨g, rfl⟩ : ∃ g, f = g + 1 := ⟨f - 1, by omega⟩
      have : n = 4 := by omega
      subst this
      have hN := hT.2.1
      have hs := hT.1
      obtain ⟨B, b1, b2, b3⟩ := fail_0 (k := 1) (x := q + 4) h (by omega) (by omega)
      obtain ⟨e1, e2, e3, e4, e5, e6, e7, e8⟩ := h
      have hl := hm2 4 (by omega)
      refine ⟨B, _, ?_, b2, b3⟩
      have x1 : q + ((4 : Nat) : Int) = q + 4 := by omega
      rw [x1] at e1 hl
      have x2 : q + 4 - q = 4 := by omega
      simp (disch := omega) only [fX5_scanNumber_10, z32_add, z32_sub, z32_mul, z32_neg, z32_litn, z32_lt, z32_le, z32_eq, iG_h, lG_h, iS_j, lS_k, aI_h, wI_h, aL_h, wL_h, bnd, bnr_s, bnc_s, ↓reduceIte, ieqT, ieqF, iltT, iltF, ileT, ileF, not_true, not_false_iff, e1, e2, hs, byte_z hT, isD_t hl, x2, b1]
    | succ d ih =>
      intro n f A hT h hd hf
      obtain ⟨g, rfl⟩ : ∃ g, f = g + 1 := ⟨f - 1, by omega⟩
      obtain ⟨e1, e2, e3, e4, e5, e6, e7, e8⟩ := h
      have hN := hT.2.1
      have hs := hT.1
      have hl := hm2 n (by omega)
      have nb := nvl_b (c := c) (q := q) (n + 1) (by omega) (fun i hi => hm2 i (by omega))
      have nbn := nvl_b (c := c) (q := q) n (by omega) (fun i hi => hm2 i (by omega))
      obtain ⟨B, nu', b1, b2, b3⟩ := ih (n + 1) g (jS (jS A 54 8 (nvl c q (n + 1))) 54 3 (q + n + 1)) (TX_o hT (oR_t oR_j oR_j)) (by
        simp (disch := omega) only [lv, hI_jS, ↓reduceIte, ieqT, ieqF, iltT, iltF, ileT, ileF, not_true, not_false_iff, e2, e3, e4, e5, e6, e7, e8]
        refine ⟨?_, ?_, ?_, ?_, ?_, ?_, ?_, ?_⟩ <;> first | trivial | omega) (by omega) (by omega)
      refine ⟨B, nu', ?_, oR_t (oR_t oR_j oR_j) b2, b3⟩
      have bb := TX_b hT (k := q + n) (by omega) (by omega)
      have x1 : q + (n : Int) - q = n := by omega
      have x2 : 10 * nvl c q n + c (q + n) - 48 = nvl c q (n + 1) := rfl
      simp (disch := omega) only [fX5_scanNumber_10, z32_add, z32_sub, z32_mul, z32_neg, z32_litn, z32_lt, z32_le, z32_eq, iG_h, lG_h, iS_j, lS_k, aI_h, wI_h, aL_h, wL_h, bnd, bnr_s, bnc_s, ↓reduceIte, ieqT, ieqF, iltT, iltF, ileT, ileF, not_true, not_false_iff, e1, e2, e6, hs, byte_z hT, isD_t hl, x1, x2, hI_jS]
      exact b1
  exact key 4 0 zF A hT (by simpa [nvl] using h) (by omega) (by unfold zF; omega)
theorem sgn_all : ∀ b : Fin 256, (match fJ0_indexOf_0f7a4 1 ((((Int32.ofNat b.val) : Int32).toUInt32 % 65536).toInt32) with | some v => (decide (0 ≤ v)) == ([59, 40, 41, 91, 93, 44, 43, 45, 42, 47, 37, 60, 62, 61].contains b.val) | none => false) = true := by
  decide +kernel
theorem sgn_z (h0 : 0 ≤ x) (h1 : x ≤ 255) : ∃ r, fJ0_indexOf_0f7a4 1 ((((z32 x) : Int32).toUInt32 % 65536).toInt32) = some (z32 r) ∧ (-2147483648 ≤ r ∧ r < 2147483648) ∧ (0 ≤ r ↔ isS x) := by
  obtain ⟨n, rfl⟩ := Int.eq_ofNat_of_zero_le h0
  have h := sgn_all ⟨n, by omega⟩
  simp only [] at h
  rw [show z32 (n : Int) = Int32.ofNat n from (z32_ofNat n).symm]
  cases e : fJ0_indexOf_0f7a4 1 ((((Int32.ofNat n) : Int32).toUInt32 % 65536).toInt32) with
  | none => rw [e] at h; simp at h
  | some v =>
    rw [e] at h
    refine ⟨v.toInt, by rw [z32_of], ⟨Int32.le_toInt v, Int32.toInt_lt v⟩, ?_⟩
    have h2 : (0 ≤ v.toInt) ↔ (0 : Int32) ≤ v := by
      rw [Int32.le_iff_toInt_le]
      rfl
    rw [h2]
    simp only [beq_iff_eq] at h
    by_cases g : (0 : Int32) ≤ v
    · simp [g] at h
      simp only [g, true_iff, isS]
      omega
    · simp [g] at h
      simp only [g, false_iff, isS]
      omega
end LY

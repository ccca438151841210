/-! MY OWN: statements: names, new ones and such that are asked, both sides -/
def NR (A σ : zS) (d : Bool) (b : Int) : Prop := (hI σ 56 35 = b ∧ 0 ≤ b ∧ b ≤ 1) ∧ (hI σ 58 b = hI A (rp d + 0) 1 ∧ 0 ≤ hI A (rp d + 0) 1 ∧ hI A (rp d + 0) 1 ≤ 6) ∧ (hI σ 63 b = hI A (rp d + 0) 2 ∧ 0 ≤ hI A (rp d + 0) 2 ∧ hI A (rp d + 0) 2 ≤ 6) ∧ (∀ t, 0 ≤ t → t < hI A (rp d + 0) 1 → nmR (hI A (rp d + 1) t) (hL σ 76 (6 * b + t))) ∧ (∀ h, 0 ≤ h → h < hI A (rp d + 0) 2 → nmR (hI A (rp d + 6) h) (hL σ 77 (6 * b + h)))
section NA
variable {A B σ τ υ : zS} {c : Int → Int} {N b q a t v i k p w kd cnt : Int} {d : Bool} {P Q : Nat}
theorem own_t (h0 : 0 ≤ i) (h1 : i < 25) : fX11_isOwn (z64 (ow8 i)) = z32 1 := by
  have h : ∀ i : Fin 25, fX11_isOwn (z64 (OW8.getD i.val 0)) = z32 1 := by decide +kernel
  exact h ⟨i.toNat, by omega⟩
theorem own_f (hb : 0 ≤ w ∧ w < 9000000000000000000) (h : ∀ i, 0 ≤ i → i < 25 → w ≠ ow8 i) : fX11_isOwn (z64 w) = z32 0 := by
  have h0 : w ≠ 128047712724332 := h 0 (by omega) (by omega)
  have h1 : w ≠ 6775152 := h 1 (by omega) (by omega)
  have h2 : w ≠ 24948 := h 2 (by omega) (by omega)
  have h3 : w ≠ 131277443786867 := h 3 (by omega) (by omega)
  have h4 : w ≠ 114827769177458 := h 4 (by omega) (by omega)
  have h5 : w ≠ 108243466679400 := h 5 (by omega) (by omega)
  have h6 : w ≠ 119165837338739 := h 6 (by omega) (by omega)
  have h7 : w ≠ 127991794264947 := h 7 (by omega) (by omega)
  have h8 : w ≠ 444150998387 := h 8 (by omega) (by omega)
  have h9 : w ≠ 512970880104 := h 9 (by omega) (by omega)
  have h10 : w ≠ 499985311091 := h 10 (by omega) (by omega)
  have h11 : w ≠ 1936024942 := h 11 (by omega) (by omega)
  have h12 : w ≠ 1718185573 := h 12 (by omega) (by omega)
  have h13 : w ≠ 1751477348 := h 13 (by omega) (by omega)
  have h14 : w ≠ 1819242087 := h 14 (by omega) (by omega)
  have h15 : w ≠ 1835099237 := h 15 (by omega) (by omega)
  have h16 : w ≠ 1818325876 := h 16 (by omega) (by omega)
  have h17 : w ≠ 108187566237038 := h 17 (by omega) (by omega)
  have h18 : w ≠ 26982 := h 18 (by omega) (by omega)
  have h19 : w ≠ 28530 := h 19 (by omega) (by omega)
  have h20 : w ≠ 6385252 := h 20 (by omega) (by omega)
  have h21 : w ≠ 7237492 := h 21 (by omega) (by omega)
  have h22 : w ≠ 6384748 := h 22 (by omega) (by omega)
  have h23 : w ≠ 7170414 := h 23 (by omega) (by omega)
  have h24 : w ≠ 7168376 := h 24 (by omega) (by omega)
  simp (disch := omega) only [fX11_isOwn, z64_litn, z64_eq, z32_litn, ↓reduceIte, ieqT, ieqF, iltT, iltF, ileT, ileF, not_true, not_false_iff]
theorem named_z (hk : (kd = 0 ∧ P = 58 ∧ Q = 76) ∨ (kd = 1 ∧ P = 63 ∧ Q = 77)) (h35 : hI σ 56 35 = b) (hb : 0 ≤ b ∧ b ≤ 1) (hc : hI σ P b = cnt) (h0 : 0 ≤ cnt) (h6 : cnt ≤ 6) (hw : -9000000000000000000 ≤ w ∧ w < 9000000000000000000) : ∃ r, fX11_named σ (z32 kd) (z64 w) = some (z32 r) ∧ ((r = -1 ∧ ∀ i, 0 ≤ i → i < cnt → hL σ Q (6 * b + i) ≠ w) ∨ (0 ≤ r ∧ r < cnt ∧ hL σ Q (6 * b + r) = w ∧ ∀ i, 0 ≤ i → i < r → hL σ Q (6 * b + i) ≠ w)) := by
  have key : ∀ (d : Nat) (k : Int) (f : Nat), k + d = cnt → 0 ≤ k → d < f → (∀ i, 0 ≤ i → i < k → hL σ Q (6 * b + i) ≠ w) → ∃ r, fX11_named_3 σ f (z32 kd) (z64 w) (z32 k) = some (z32 r) ∧ ((r = -1 ∧ ∀ i, 0 ≤ i → i < cnt → hL σ Q (6 * b + i) ≠ w) ∨ (0 ≤ r ∧ r < cnt ∧ hL σ Q (6 * b + r) = w ∧ ∀ i, 0 ≤ i → i < r → hL σ Q (6 * b + i) ≠ w)) := by
    intro d
    induction d with
    | zero =>
      intro k f hk2 hk0 hf hi
      obtain ⟨g, rfl⟩ : ∃ g, f = g + 1 := ⟨f - 1, by omega⟩
      have : k = cnt := by omega
      subst this
      refine ⟨-1, ?_, Or.inl ⟨rfl, hi⟩⟩
      rcases hk with ⟨h1, h2, h3⟩ | ⟨h1, h2, h3⟩ <;> subst h1 h2 h3 <;> simp (disch := omega) only [fX11_named_3, fX11_manyOf, z32_add, z32_sub, z32_mul, z32_neg, z32_litn, z32_lt, z32_le, z32_eq, iG_h, lG_h, iS_q, lS_q, aI_h, wI_h, aL_h, wL_h, ↓bnd_q, bnr_q, bnc_q, ↓reduceIte, ieqT, ieqF, iltT, iltF, ileT, ileF, not_true, not_false_iff, h35, hc]
    | succ d ih =>
      intro k f hk2 hk0 hf hi
      obtain ⟨g, rfl⟩ : ∃ g, f = g + 1 := ⟨f - 1, by omega⟩
      have b1 := hL_lo σ Q (6 * b + k)
      have b2 := hL_hi σ Q (6 * b + k)
      by_cases he : hL σ Q (6 * b + k) = w
      · refine ⟨k, ?_, Or.inr ⟨hk0, by omega, he, hi⟩⟩
        rcases hk with ⟨h1, h2, h3⟩ | ⟨h1, h2, h3⟩ <;> subst h1 h2 h3 <;> simp (disch := omega) only [fX11_named_3, fX11_manyOf, fX11_nameOf, z32_add, z32_sub, z32_mul, z32_neg, z32_litn, z32_lt, z32_le, z32_eq, iG_h, lG_h, iS_q, lS_q, aI_h, wI_h, aL_h, wL_h, ↓bnd_q, bnr_q, bnc_q, ↓reduceIte, ieqT, ieqF, iltT, iltF, ileT, ileF, not_true, not_false_iff, h35, hc, he, if_true]
      · obtain ⟨r, r1, r2⟩ := ih (k + 1) g (by omega) (by omega) (by omega) (fun i g0 g1 => by
          by_cases g2 : i = k
          · rw [g2]; exact he
          · exact hi i g0 (by omega))
        refine ⟨r, ?_, r2⟩
        rw [← r1]
        rcases hk with ⟨h1, h2, h3⟩ | ⟨h1, h2, h3⟩ <;> subst h1 h2 h3 <;> simp (disch := omega) only [fX11_named_3, fX11_manyOf, fX11_nameOf, z32_add, z32_sub, z32_mul, z32_neg, z32_litn, z32_lt, z32_le, z32_eq, iG_h, lG_h, iS_q, lS_q, aI_h, wI_h, aL_h, wL_h, ↓bnd_q, bnr_q, bnc_q, ↓reduceIte, ieqT, ieqF, iltT, iltF, ileT, ileF, not_true, not_false_iff, h35, hc, z64_eq]
  have := key cnt.toNat 0 zF (by omega) (by omega) (by unfold zF; omega) (fun i g0 g1 => by omega)
  unfold fX11_named
  rw [z32_litn]
  exact this
theorem nm_wb (h : nmR p w) : (0 ≤ w ∧ w < 281474976710656) ∧ (0 ≤ p ∧ p < 1073741824) := by
  obtain ⟨m, l, h1, h6, hl, rfl, rfl⟩ := h
  have := pk5_b m h6 hl
  exact ⟨pk8_c m h6 hl, by omega⟩
/-- both look a name up alike -/
theorem find_j (hn : NR A σ d b) (hw : nmR p w) (hk : kd = 0 ∨ kd = 1) : ∃ r, (bnr (fX6_find (rp d + (if kd = 0 then 1 else 6)) 6 A (iG A (rp d + 0) (if kd = 0 then 1 else 2)) (z32 p)) fun v1 => some v1) = some (z32 r) ∧ fX11_named σ (z32 kd) (z64 w) = some (z32 r) ∧ (r = -1 ∨ (0 ≤ r ∧ r < hI A (rp d + 0) (if kd = 0 then 1 else 2))) := by
  obtain ⟨⟨n1, n2⟩, ⟨n3, n4⟩, ⟨n5, n6⟩, n7, n8⟩ := hn
  obtain ⟨wb, pb⟩ := nm_wb hw
  rcases hk with hk | hk
  · subst hk
    obtain ⟨r, r1, r2⟩ := find_z (A := A) (p := rp d + 1) (n := 6) (cnt := hI A (rp d + 0) 1) (x := p) (by omega) (by omega) (by omega) (by omega)
    obtain ⟨r', s1, s2⟩ := named_z (σ := σ) (kd := 0) (P := 58) (Q := 76) (w := w) (Or.inl ⟨rfl, rfl, rfl⟩) n1 n2 n3 (by omega) (by omega) (by omega)
    have e : r = r' := by
      rcases r2 with ⟨a1, a2⟩ | ⟨a1, a2, a3, a4⟩ <;> rcases s2 with ⟨b1, b2⟩ | ⟨b1, b2, b3, b4⟩
      · omega
      · exact absurd ((nm_eq (n7 r' b1 b2) hw).2 b3) (a2 r' b1 b2)
      · exact absurd ((nm_eq (n7 r a1 a2) hw).1 a3) (b2 r a1 a2)
      · by_cases g1 : r < r'
        · exact absurd ((nm_eq (n7 r a1 a2) hw).1 a3) (b4 r a1 g1)
        · by_cases g2 : r' < r
          · exact absurd ((nm_eq (n7 r' b1 b2) hw).2 b3) (a4 r' b1 g2)
          · omega
    refine ⟨r, ?_, by rw [e]; exact s1, ?_⟩
    · rw [if_pos rfl, if_pos rfl, show iG A (rp d + 0) 1 = z32 (hI A (rp d + 0) 1) from iG_h A _ 1, r1, bnr_q]
    · rw [if_pos rfl]
      show r = -1 ∨ (0 ≤ r ∧ r < hI A (rp d + 0) 1)
      omega
  · subst hk
    obtain ⟨r, r1, r2⟩ := find_z (A := A) (p := rp d + 6) (n := 6) (cnt := hI A (rp d + 0) 2) (x := p) (by omega) (by omega) (by omega) (by omega)
    obtain ⟨r', s1, s2⟩ := named_z (σ := σ) (kd := 1) (P := 63) (Q := 77) (w := w) (Or.inr ⟨rfl, rfl, rfl⟩) n1 n2 n5 (by omega) (by omega) (by omega)
    have e : r = r' := by
      rcases r2 with ⟨a1, a2⟩ | ⟨a1, a2, a3, a4⟩ <;> rcases s2 with ⟨b1, b2⟩ | ⟨b1, b2, b3, b4⟩
      · omega
      · exact absurd ((nm_eq (n8 r' b1 b2) hw).2 b3) (a2 r' b1 b2)
      · exact absurd ((nm_eq (n8 r a1 a2) hw).1 a3) (b2 r a1 a2)
      · by_cases g1 : r < r'
        · exact absurd ((nm_eq (n8 r a1 a2) hw).1 a3) (b4 r a1 g1)
        · by_cases g2 : r' < r
          · exact absurd ((nm_eq (n8 r' b1 b2) hw).2 b3) (a4 r' b1 g2)
          · omega
    refine ⟨r, ?_, by rw [e]; exact s1, ?_⟩
    · rw [if_neg (by omega), if_neg (by omega), show iG A (rp d + 0) 2 = z32 (hI A (rp d + 0) 2) from iG_h A _ 2, r1, bnr_q]
    · rw [if_neg (by omega)]
      show r = -1 ∨ (0 ≤ r ∧ r < hI A (rp d + 0) 2)
      omega
theorem isn_t (hA : tkA A t) (ht : t = 2) : fX5_isName A = 1 := by
  unfold fX5_isName
  rw [if_pos (by rw [cw_2 hA]; omega), if_pos (by rw [cw_n hA]; omega)]
theorem isn_f (hA : tkA A t) (ht : t ≠ 2) : fX5_isName A = 0 := by
  unfold fX5_isName
  by_cases g : t = 2 ∨ 100 ≤ t
  · rw [if_pos (by rw [cw_2 hA]; exact g), if_neg (by rw [cw_n hA]; omega)]
  · rw [if_neg (by rw [cw_2 hA]; exact g)]
/-- the other side: is it a word that is no own word -/
theorem wd_2 (h : AL A σ c N q a t v) : (t = 2 → iG σ 56 3 = 1 ∧ fX11_isOwn (lG σ 56 7) = 0) ∧ (t ≠ 2 → ¬ (iG σ 56 3 = 1) ∨ (iG σ 56 3 = 1 ∧ ¬ fX11_isOwn (lG σ 56 7) = 0)) := by
  obtain ⟨hr, hA⟩ := AL_x h
  have hm := h.2.1.2.2.2.2.2.2
  refine ⟨fun ht => ⟨by rw [mk_1 hr.2.2.2]; omega, ?_⟩, fun ht => ?_⟩
  · obtain ⟨wb, -⟩ := nm_wb (h.2.2.2 (Or.inl ht))
    rw [show lG σ 56 7 = z64 (hL σ 56 7) from lG_h σ 56 7, own_f (by omega) (hm.2.2.2.1 ht).2.1]
    decide
  · by_cases g : 100 ≤ t
    · right
      have tb := tk_b hA.1
      refine ⟨by rw [mk_1 hr.2.2.2]; omega, ?_⟩
      rw [show lG σ 56 7 = z64 (hL σ 56 7) from lG_h σ 56 7, (hm.2.2.2.2 g).2.1, own_t (by omega) (by omega)]
      decide
    · left
      rw [mk_1 hr.2.2.2]
      omega
theorem fr43 {f : Nat} (h : mFt σ k p) {x : Int32} : fX11_fresh_43 (f + 1) x σ = some (lG σ 56 7, σ) := by
  have e : fX11_fresh_83 σ = some (lG σ 56 7, σ) := by
    unfold fX11_fresh_83
    rw [if_neg (c8e h)]
  rw [fX11_fresh_43]
  split
  · exact e
  · rw [if_neg (c8e h)]; exact e
theorem mm_fresh (h : mFb σ k p) : ∃ τ y, fX11_fresh σ = some (y, τ) ∧ oM σ τ ∧ mFt τ k p := by
  obtain ⟨υ, u1, u2, u3⟩ := mF_l h
  unfold fX11_fresh
  rw [u1, bnr_q]
  rcases u3 with u3 | ⟨hk, he, hr, hp⟩
  · rw [if_neg (c8p u3)]
    exact ⟨υ, _, rfl, u2, u3⟩
  · subst he hk
    obtain ⟨f1, f2⟩ := flt (k := 1) (p := p) hr.1 (by omega) (by omega)
    obtain ⟨g, hg⟩ := zF_ex
    rw [if_pos (c8z hr.1), if_neg (by rw [mk_1 hr.2.2.2]; omega)]
    unfold fX11_fresh_32 fX11_fresh_41
    rw [bl4 (z32_litn 1) hr.1 hr.2.2.1, bnr_q, hg, fr43 f1]
    exact ⟨_, _, rfl, oM_t u2 f2, f1⟩
/-- a new name -/
theorem jt_new (hd : A.2.2.2.2 = d) (h : AL A σ c N q a t v) (hn : NR A σ d b) : ∃ B τ r y, fX5_takeNewName A = some (r, B) ∧ oR A B ∧ fX11_fresh σ = some (y, τ) ∧ oM σ τ ∧ ((∃ p w, r = z32 p ∧ y = z64 w ∧ nmR p w ∧ ∃ q' a' t' v', AL B τ c N q' a' t' v' ∧ q < q') ∨ ∃ k p, cBk B k p ∧ mFb τ k p) := by
  obtain ⟨hr, hA⟩ := AL_x h
  obtain ⟨p1, p2, p3, p4, p5, p6, p7, p8⟩ := h.2.2.1
  obtain ⟨w2, w3⟩ := wd_2 h
  obtain ⟨g, hg⟩ := zF_ex
  obtain ⟨g2, hg2⟩ : ∃ g, zF = g + 1 + 1 + 1 := ⟨999997, rfl⟩
  by_cases ht : t = 2
  · have hnm := h.2.2.2 (Or.inl ht)
    obtain ⟨wb, pb⟩ := nm_wb hnm
    obtain ⟨r0, a1, a2, a3⟩ := find_j (kd := 0) hn hnm (Or.inl rfl)
    obtain ⟨r1, b1, b2, b3⟩ := find_j (kd := 1) hn hnm (Or.inr rfl)
    rw [if_pos rfl, if_pos rfl] at a1
    rw [if_pos rfl] at a3
    rw [if_neg (by omega), if_neg (by omega)] at b1
    rw [if_neg (by omega)] at b3
    have n2 := hn.2.1.2.2
    have n3 := hn.2.2.1.2.2
    have eC : fX5_takeNewName A = if r0 = -1 then (if r1 = -1 then fX5_takeNewName_63 (z32 (hI A 54 7)) A else fX5_takeNewName_54 (z32 (hI A 54 7)) A) else fX5_takeNewName_54 (z32 (hI A 54 7)) A := by
      unfold fX5_takeNewName fX6_tunnelNamed fX6_holderNamed
      rw [if_neg (by rw [isn_t hA ht]; decide), hd, show iG A 54 7 = z32 (hI A 54 7) from iG_h A 54 7, a1, bnr_q]
      by_cases g0 : r0 = -1
      · rw [if_pos g0, if_pos (by rw [g0, z32_litn, z32_neg]), b1, bnr_q]
        by_cases g1 : r1 = -1
        · rw [if_pos g1, if_pos (by rw [g1, z32_litn, z32_neg])]
        · rw [if_neg g1, if_neg (by rw [z32_litn, z32_neg, z32_eq (by omega) (by omega) (by omega) (by omega)]; exact g1)]
      · rw [if_neg g0, if_neg (by rw [z32_litn, z32_neg, z32_eq (by omega) (by omega) (by omega) (by omega)]; exact g0)]
    have eM : fX11_fresh σ = fX11_fresh_43 zF (z32 0) σ := by
      unfold fX11_fresh fX11_fresh_41
      rw [lex_n hr.2.1, bnr_q, if_pos (c8z hr.1), if_pos (w2 ht).1, if_pos (w2 ht).2, z32_litn]
    have s0 : fX11_fresh_43 zF (z32 0) σ = if r0 = -1 then fX11_fresh_43 (g2 + 1 + 1) (z32 1) σ else fX11_fresh_43 (g2 + 1 + 1) (z32 1) (jS (jS σ 56 8 2) 56 9 q) := by
      rw [hg2, fX11_fresh_43, if_neg (by rw [z32_litn, z32_lt (by omega) (by omega) (by omega) (by omega)]; omega), if_pos (c8q hr.1), show lG σ 56 7 = z64 (hL σ 56 7) from lG_h σ 56 7, a2, bnr_q]
      unfold fX11_fresh_77
      by_cases g0 : r0 = -1
      · rw [if_pos g0, if_pos (by rw [g0, z32_litn, z32_neg]), z1p]; rfl
      · rw [if_neg g0, if_neg (by rw [z32_litn, z32_neg, z32_eq (by omega) (by omega) (by omega) (by omega)]; exact g0), bl4 (z32_litn 2) hr.1 hr.2.2.1, bnr_q, z1p]; rfl
    have s1 : fX11_fresh_43 (g2 + 1 + 1) (z32 1) σ = if r1 = -1 then fX11_fresh_83 σ else some (lG (jS (jS σ 56 8 2) 56 9 q) 56 7, jS (jS σ 56 8 2) 56 9 q) := by
      obtain ⟨f1, f2⟩ := flt (k := 2) (p := q) hr.1 (by omega) (by omega)
      rw [fX11_fresh_43, if_neg (by rw [z32_litn, z32_lt (by omega) (by omega) (by omega) (by omega)]; omega), if_pos (c8q hr.1), show lG σ 56 7 = z64 (hL σ 56 7) from lG_h σ 56 7, b2, bnr_q]
      unfold fX11_fresh_77
      by_cases g0 : r1 = -1
      · rw [if_pos g0, if_pos (by rw [g0, z32_litn, z32_neg]), z1p, fX11_fresh_43, if_pos (by rw [z32_litn, z32_lt (by omega) (by omega) (by omega) (by omega)]; omega)]
      · rw [if_neg g0, if_neg (by rw [z32_litn, z32_neg, z32_eq (by omega) (by omega) (by omega) (by omega)]; exact g0), bl4 (z32_litn 2) hr.1 hr.2.2.1, bnr_q, fr43 f1]
    rw [eC, eM, s0]
    by_cases g0 : r0 = -1
    · rw [if_pos g0, if_pos g0, s1]
      by_cases g1 : r1 = -1
      · rw [if_pos g1, if_pos g1]
        obtain ⟨B, τ, b1, b2, t1, t2, hres⟩ := adv_j h (by omega)
        have qa := p6 (by omega)
        unfold fX5_takeNewName_63 fX11_fresh_83
        rw [b1, bnr_q, if_pos (c8q hr.1), t1, bnr_q]
        refine ⟨B, τ, _, _, rfl, b2, rfl, t2, ?_⟩
        rcases hres with ⟨q', a', t', v', h3, h4⟩ | ⟨p, h3, h4⟩
        · exact Or.inl ⟨_, _, rfl, lG_h σ 56 7, hnm, q', a', t', v', h3, by omega⟩
        · exact Or.inr ⟨1, p, h3, Or.inr ⟨rfl, h4⟩⟩
      · rw [if_neg g1, if_neg g1]
        obtain ⟨f1, f2⟩ := flt (k := 2) (p := q) hr.1 (by omega) (by omega)
        obtain ⟨B, b1, b2, b3⟩ := fl_j (k := 2) (z32_litn 2) h (by omega)
        unfold fX5_takeNewName_54 fX5_takeNewName_63
        rw [b1, bnr_q, adv_k b3, bnr_q]
        exact ⟨B, _, _, _, rfl, b2, rfl, f2, Or.inr ⟨2, q, b3, mt_b f1⟩⟩
    · rw [if_neg g0, if_neg g0]
      obtain ⟨f1, f2⟩ := flt (k := 2) (p := q) hr.1 (by omega) (by omega)
      obtain ⟨B, b1, b2, b3⟩ := fl_j (k := 2) (z32_litn 2) h (by omega)
      unfold fX5_takeNewName_54 fX5_takeNewName_63
      rw [b1, bnr_q, adv_k b3, bnr_q, fr43 f1]
      exact ⟨B, _, _, _, rfl, b2, rfl, f2, Or.inr ⟨2, q, b3, mt_b f1⟩⟩
  · obtain ⟨f1, f2⟩ := flt (k := 1) (p := q) hr.1 (by omega) (by omega)
    obtain ⟨B, b1, b2, b3⟩ := fl_j (k := 1) (z32_litn 1) h (by omega)
    have e32 : fX11_fresh_32 σ = some (lG (jS (jS σ 56 8 1) 56 9 q) 56 7, jS (jS σ 56 8 1) 56 9 q) := by
      unfold fX11_fresh_32 fX11_fresh_41
      rw [bl4 (z32_litn 1) hr.1 hr.2.2.1, bnr_q, hg, fr43 f1]
    refine ⟨B, jS (jS σ 56 8 1) 56 9 q, iG A 54 7, lG (jS (jS σ 56 8 1) 56 9 q) 56 7, ?_, b2, ?_, f2, Or.inr ⟨1, q, b3, mt_b f1⟩⟩
    · unfold fX5_takeNewName fX5_takeNewName_63
      rw [if_pos (isn_f hA ht), b1, bnr_q, adv_k b3, bnr_q]
    · unfold fX11_fresh
      rw [lex_n hr.2.1, bnr_q, if_pos (c8z hr.1)]
      rcases w3 ht with w | ⟨w, w'⟩
      · rw [if_neg w]; exact e32
      · rw [if_pos w, if_neg w']; exact e32
end NA

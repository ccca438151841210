/-! MY OWN: what is kept, both sides -/
def keU (p : Nat) (k : Int) : Prop := p = 5 ∧ 1 ≤ k ∧ k < 50
def wdU (p : Nat) (k : Int) : Prop := (p = 90 ∧ k = 0) ∨ ((91 ≤ p ∧ p ≤ 94) ∧ k < 48)
section KE
variable {A B a b σ τ : zS} {t l h r e m i j v1 v2 v3 v4 : Int}
theorem pk4 (h1 : 0 ≤ t ∧ t ≤ 127) (h2 : 0 ≤ l ∧ l ≤ 255) (h3 : 0 ≤ h ∧ h ≤ 255) (h4 : 0 ≤ r ∧ r ≤ 255) : (((z32 t <<< (24 &&& 31)) ||| (z32 l <<< (16 &&& 31))) ||| (z32 h <<< (8 &&& 31))) ||| z32 r = z32 (t * 16777216 + l * 65536 + h * 256 + r) := by
  obtain ⟨t', rfl⟩ := Int.eq_ofNat_of_zero_le h1.1
  obtain ⟨l', rfl⟩ := Int.eq_ofNat_of_zero_le h2.1
  obtain ⟨h', rfl⟩ := Int.eq_ofNat_of_zero_le h3.1
  obtain ⟨r', rfl⟩ := Int.eq_ofNat_of_zero_le h4.1
  have o1 : t' * 2 ^ 24 ||| l' * 2 ^ 16 = 2 ^ 16 * (t' * 256 + l') := by
    rw [Nat.mul_comm t' (2 ^ 24), ← Nat.two_pow_add_eq_or_of_lt (i := 24) (b := l' * 2 ^ 16) (by omega) t']
    omega
  have o2 : 2 ^ 16 * (t' * 256 + l') ||| h' * 2 ^ 8 = 2 ^ 8 * ((t' * 256 + l') * 256 + h') := by
    rw [← Nat.two_pow_add_eq_or_of_lt (i := 16) (b := h' * 2 ^ 8) (by omega) (t' * 256 + l')]
    omega
  have o3 : 2 ^ 8 * ((t' * 256 + l') * 256 + h') ||| r' = 2 ^ 8 * ((t' * 256 + l') * 256 + h') + r' := (Nat.two_pow_add_eq_or_of_lt (i := 8) (b := r') (by omega) ((t' * 256 + l') * 256 + h')).symm
  rw [show z32 (t' : Int) = nI t' from (z32_ofNat t').symm, show z32 (l' : Int) = nI l' from (z32_ofNat l').symm, show z32 (h' : Int) = nI h' from (z32_ofNat h').symm, show z32 (r' : Int) = nI r' from (z32_ofNat r').symm, pk_shlN (n := t') (24 &&& 31) 24 (by decide) (by omega), pk_shlN (n := l') (16 &&& 31) 16 (by decide) (by omega), pk_shlN (n := h') (8 &&& 31) 8 (by decide) (by omega), or_n, or_n, or_n, o1, o2, o3, show nI (2 ^ 8 * ((t' * 256 + l') * 256 + h') + r') = z32 ((2 ^ 8 * ((t' * 256 + l') * 256 + h') + r' : Nat) : Int) from z32_ofNat _]
  congr 1
  omega
theorem j4e (h0 : 0 ≤ i) (hj : 0 ≤ j) (b1 : -2147483648 ≤ v1 ∧ v1 < 2147483648) (b2 : -2147483648 ≤ v2 ∧ v2 < 2147483648) (b3 : -2147483648 ≤ v3 ∧ v3 < 2147483648) (b4 : -2147483648 ≤ v4 ∧ v4 < 2147483648) : hI (jS (jS (jS (jS A 91 i v1) 92 i v2) 93 i v3) 94 i v4) 91 j = (if j = i then v1 else hI A 91 j) ∧ hI (jS (jS (jS (jS A 91 i v1) 92 i v2) 93 i v3) 94 i v4) 92 j = (if j = i then v2 else hI A 92 j) ∧ hI (jS (jS (jS (jS A 91 i v1) 92 i v2) 93 i v3) 94 i v4) 93 j = (if j = i then v3 else hI A 93 j) ∧ hI (jS (jS (jS (jS A 91 i v1) 92 i v2) 93 i v3) 94 i v4) 94 j = (if j = i then v4 else hI A 94 j) := by
  refine ⟨?_, ?_, ?_, ?_⟩
  · rw [hI_jS_ne (by omega), hI_jS_ne (by omega), hI_jS_ne (by omega), hI_jS h0 hj b1.1 b1.2]
  · rw [hI_jS_ne (by omega), hI_jS_ne (by omega), hI_jS h0 hj b2.1 b2.2, hI_jS_ne (by omega)]
  · rw [hI_jS_ne (by omega), hI_jS h0 hj b3.1 b3.2, hI_jS_ne (by omega), hI_jS_ne (by omega)]
  · rw [hI_jS h0 hj b4.1 b4.2, hI_jS_ne (by omega), hI_jS_ne (by omega), hI_jS_ne (by omega)]
theorem keep_c (he : hI a 5 1 = e) (h0 : 0 ≤ e) (h5 : e < 96) (h1 : 0 ≤ t ∧ t ≤ 127) (h2 : 0 ≤ l ∧ l ≤ 255) (h3 : 0 ≤ h ∧ h ≤ 255) (h4 : 0 ≤ r ∧ r ≤ 255) : ∃ a', fX7_keep (z32 t) (z32 l) (z32 h) (z32 r) a = some a' ∧ fr keU a a' ∧ hI a' 5 1 = (if e = 95 then 48 else e + 1) ∧ ∀ k, 2 ≤ k → k < 50 → hI a' 5 k = if k = 2 + e % 48 then t * 16777216 + l * 65536 + h * 256 + r else hI a 5 k := by
  obtain ⟨V, hV⟩ : ∃ V, V = t * 16777216 + l * 65536 + h * 256 + r := ⟨_, rfl⟩
  have pk := pk4 h1 h2 h3 h4
  rw [← hV] at pk
  rw [← hV]
  obtain ⟨a1, ha1⟩ : ∃ a1, a1 = jS a 5 (2 + e % 48) V := ⟨_, rfl⟩
  have e1 : hI a1 5 1 = e := by rw [ha1, hI_jS (by omega) (by omega) (by omega) (by omega), if_neg (by omega), he]
  obtain ⟨a2, ha2⟩ : ∃ a2, a2 = jS a1 5 1 (e + 1) := ⟨_, rfl⟩
  have e2 : hI a2 5 1 = e + 1 := by rw [ha2, hI_jS (by omega) (by omega) (by omega) (by omega), if_pos rfl]
  have f1 : fr keU a a1 := by rw [ha1]; exact fr_j (by omega) (by unfold keU; omega)
  have f2 : fr keU a1 a2 := by rw [ha2]; exact fr_j (by omega) (by unfold keU; omega)
  have r2 : ∀ k, 2 ≤ k → k < 50 → hI a2 5 k = if k = 2 + e % 48 then V else hI a 5 k := fun k g0 g1 => by
    rw [ha2, hI_jS (by omega) (by omega) (by omega) (by omega), if_neg (by omega), ha1, hI_jS (by omega) (by omega) (by omega) (by omega)]
  have go : fX7_keep (z32 t) (z32 l) (z32 h) (z32 r) a = if z32 (e + 1) = 96 then wI a2 5 104 1 48 fun σ6 => some σ6 else some a2 := by
    unfold fX7_keep
    rw [show (1 : Int32) = z32 1 from z32_litn 1, aI_h (by omega) (by omega) (by omega), he, show (48 : Int32) = z32 48 from z32_litn 48, z32_rem (by omega) (by omega) (by omega) (by omega), show (2 : Int32) = z32 2 from z32_litn 2, z32_add, pk, wI_h (by omega) (by omega) (by omega), ← ha1, aI_h (by omega) (by omega) (by omega), e1, z32_add, wI_h (by omega) (by omega) (by omega), ← ha2, aI_h (by omega) (by omega) (by omega), e2]
  by_cases g : e = 95
  · refine ⟨jS a2 5 1 48, ?_, fr_t (fr_t f1 f2) (fr_j (by omega) (by unfold keU; omega)), ?_, fun k g0 g1 => ?_⟩
    · rw [go, if_pos (by rw [z32_litn, z32_eq (by omega) (by omega) (by omega) (by omega)]; omega), show (1 : Int32) = z32 1 from z32_litn 1, show (48 : Int32) = z32 48 from z32_litn 48, wI_h (by omega) (by omega) (by omega)]
    · rw [hI_jS (by omega) (by omega) (by omega) (by omega), if_pos rfl, if_pos g]
    · rw [hI_jS (by omega) (by omega) (by omega) (by omega), if_neg (by omega)]; exact r2 k g0 g1
  · refine ⟨a2, ?_, fr_t f1 f2, ?_, r2⟩
    · rw [go, if_neg (by rw [z32_litn, z32_eq (by omega) (by omega) (by omega) (by omega)]; omega)]
    · rw [e2, if_neg g]
theorem w101_z (hm : hI a 90 0 = m) (h0 : 0 ≤ m) (h5 : m < 48) (h96 : hI a 96 h = r) (h1 : 0 ≤ t ∧ t ≤ 127) (h2 : 0 ≤ l ∧ l ≤ 255) (h3 : 0 ≤ h ∧ h < 6) (h4 : 0 ≤ r ∧ r ≤ 255) : ∃ b', fX11_writesDown_101 (z32 t) (z32 l) (z32 h) a = some b' ∧ fr wdU a b' ∧ hI b' 90 0 = m + 1 ∧ ∀ j, 0 ≤ j → hI b' 91 j = (if j = m then t else hI a 91 j) ∧ hI b' 92 j = (if j = m then l else hI a 92 j) ∧ hI b' 93 j = (if j = m then h else hI a 93 j) ∧ hI b' 94 j = (if j = m then r else hI a 94 j) := by
  refine ⟨jS (jS (jS (jS (jS a 91 m t) 92 m l) 93 m h) 94 m r) 90 0 (m + 1), ?_, ?_, ?_, fun j hj => ?_⟩
  · have e0 : hI (jS (jS (jS a 91 m t) 92 m l) 93 m h) 96 h = r := by rw [hI_jS_ne (by omega), hI_jS_ne (by omega), hI_jS_ne (by omega), h96]
    have e90 : hI (jS (jS (jS (jS a 91 m t) 92 m l) 93 m h) 94 m r) 90 0 = m := by rw [hI_jS_ne (by omega), hI_jS_ne (by omega), hI_jS_ne (by omega), hI_jS_ne (by omega), hm]
    unfold fX11_writesDown_101
    rw [show (0 : Int32) = z32 0 from z32_litn 0, aI_h (by omega) (by omega) (by omega), hm, wI_h (by omega) (by omega) (by omega), wI_h (by omega) (by omega) (by omega), wI_h (by omega) (by omega) (by omega), aI_h (by omega) (by omega) (by omega), e0, wI_h (by omega) (by omega) (by omega), aI_h (by omega) (by omega) (by omega), e90, z1p, wI_h (by omega) (by omega) (by omega)]
  · exact fr_t (fr_t (fr_t (fr_t (fr_j h0 (by unfold wdU; omega)) (fr_j h0 (by unfold wdU; omega))) (fr_j h0 (by unfold wdU; omega))) (fr_j h0 (by unfold wdU; omega))) (fr_j (by omega) (by unfold wdU; omega))
  · rw [hI_jS (by omega) (by omega) (by omega) (by omega), if_pos rfl]
  · obtain ⟨q1, q2, q3, q4⟩ := j4e (A := a) (i := m) (j := j) (v1 := t) (v2 := l) (v3 := h) (v4 := r) h0 hj (by omega) (by omega) (by omega) (by omega)
    rw [hI_jS_ne (by omega), hI_jS_ne (by omega), hI_jS_ne (by omega), hI_jS_ne (by omega)]
    exact ⟨q1, q2, q3, q4⟩
theorem w14_z (hm : hI b 90 0 = 48) {x1 x2 x3 : Int32} : ∃ τ, fX11_writesDown_14 zF x1 x2 x3 (z32 0) b = fX11_writesDown_101 x1 x2 x3 τ ∧ fr wdU b τ ∧ hI τ 90 0 = 47 ∧ ∀ p i, 91 ≤ p → p ≤ 94 → 0 ≤ i → i < 47 → hI τ p i = hI b p (i + 1) := by
  refine zupP0 (β := zS) (L := fun f x a => fX11_writesDown_14 f x1 x2 x3 (z32 x) a) (n := 47) (Q := fun q => ∃ τ, q = fX11_writesDown_101 x1 x2 x3 τ ∧ fr wdU b τ ∧ hI τ 90 0 = 47 ∧ ∀ p i, 91 ≤ p → p ≤ 94 → 0 ≤ i → i < 47 → hI τ p i = hI b p (i + 1))
    (fun x a => fr (fun p k => (91 ≤ p ∧ p ≤ 94) ∧ k < x) b a ∧ ∀ p i, 91 ≤ p → p ≤ 94 → 0 ≤ i → i < x → hI a p i = hI b p (i + 1)) (a := b) (by omega) (by omega) ⟨fr_r, fun p i _ _ g0 g1 => by omega⟩ ?_ ?_
  · intro f x a hx hx' ⟨p1, p2⟩
    have ev : ∀ p, hI a p (x + 1) = hI b p (x + 1) := fun p => (p1.2 p (x + 1) (by omega) (by omega)).1
    have hw : ∀ p, -2147483648 ≤ (fun p => hI b p (x + 1)) p ∧ (fun p => hI b p (x + 1)) p < 2147483648 := fun p => ⟨hI_lo _ _ _, hI_hi _ _ _⟩
    refine ⟨jS (jS (jS (jS a 91 x (hI b 91 (x + 1))) 92 x (hI b 92 (x + 1))) 93 x (hI b 93 (x + 1))) 94 x (hI b 94 (x + 1)), ?_, ?_, ?_⟩
    · simp (disch := omega) only [fX11_writesDown_14, z32_add, z32_sub, z32_mul, z32_neg, z32_litn, z32_lt, z32_le, z32_eq, iG_h, lG_h, iS_q, lS_q, aI_h, wI_h, aL_h, wL_h, ↓bnd_q, bnr_q, bnc_q, ↓reduceIte, ieqT, ieqF, iltT, iltF, ileT, ileF, not_true, not_false_iff, hI_jS_ne, ev]
    · exact fr_t (fr_m p1 (fun p k _ u => by omega)) (fr_t (fr_t (fr_t (fr_j hx (by omega)) (fr_j hx (by omega))) (fr_j hx (by omega))) (fr_j hx (by omega)))
    · intro p i g0 g1 g2 g3
      rw [j4 (w := fun p => hI b p (x + 1)) hx hw g0 g1 g2]
      by_cases gi : i = x
      · rw [if_pos gi, gi]
      · rw [if_neg gi]; exact p2 p i g0 g1 g2 (by omega)
  · intro f a ⟨p1, p2⟩
    have e90 : hI a 90 0 = 48 := by rw [(p1.2 90 0 (by omega) (by omega)).1, hm]
    refine ⟨jS a 90 0 47, ?_, fr_t (fr_m p1 (fun p k _ u => by unfold wdU; omega)) (fr_j (by omega) (by unfold wdU; omega)), ?_, fun p i g0 g1 g2 g3 => ?_⟩
    · show fX11_writesDown_14 (f + 1) x1 x2 x3 (z32 47) a = _
      rw [fX11_writesDown_14, if_pos (by rw [z32_litn, z32_le (by omega) (by omega) (by omega) (by omega)]; omega), show (0 : Int32) = z32 0 from z32_litn 0, aI_h (by omega) (by omega) (by omega), e90, show (1 : Int32) = z32 1 from z32_litn 1, z32_sub, wI_h (by omega) (by omega) (by omega)]
      rfl
    · rw [hI_jS (by omega) (by omega) (by omega) (by omega), if_pos rfl]
    · rw [hI_jS_ne (by omega)]; exact p2 p i g0 g1 g2 g3
theorem rowK_0 {g : Int → Int} : rowK g σ 0 ↔ ((0 ≤ g 1 ∧ g 1 < 96) ∧ hI σ 90 0 = zmin 48 (g 1) ∧ ∀ k, 0 ≤ k → k < zmin 48 (g 1) → g (2 + (g 1 - zmin 48 (g 1) + k) % 48) = hI σ 91 k * 16777216 + hI σ 92 k * 65536 + hI σ 93 k * 256 + hI σ 94 k ∧ (0 ≤ hI σ 91 k ∧ hI σ 91 k ≤ 127) ∧ (0 ≤ hI σ 92 k ∧ hI σ 92 k ≤ 255) ∧ (0 ≤ hI σ 93 k ∧ hI σ 93 k ≤ 255) ∧ (0 ≤ hI σ 94 k ∧ hI σ 94 k ≤ 255)) := by
  unfold rowK
  simp only [Int.mul_zero, Int.zero_add]
/-- one who drove is kept, by both -/
theorem kept_j (hk : rowK (gNow a) b 0) (h96 : hI b 96 h = r) (h1 : 0 ≤ t ∧ t ≤ 127) (h2 : 0 ≤ l ∧ l ≤ 255) (h3 : 0 ≤ h ∧ h < 6) (h4 : 0 ≤ r ∧ r ≤ 255) : ∃ a' b', fX7_keep (z32 t) (z32 l) (z32 h) (z32 r) a = some a' ∧ fX11_writesDown (z32 t) (z32 l) (z32 h) b = some b' ∧ rowK (gNow a') b' 0 ∧ fr keU a a' ∧ fr wdU b b' := by
  obtain ⟨k1, k2, k3⟩ := rowK_0.1 hk
  obtain ⟨e, he⟩ : ∃ e, e = hI a 5 1 := ⟨_, rfl⟩
  have ge : gNow a 1 = e := by rw [he]; rfl
  rw [ge] at k1 k2 k3
  obtain ⟨a', a1, a2, a3, a4⟩ := keep_c (a := a) (e := e) (h := h) he.symm k1.1 k1.2 h1 h2 (by omega) h4
  have ez : iG b 90 0 = iG b 90 0 := rfl
  by_cases g : e < 48
  · have zm : zmin 48 e = e := by unfold zmin; split <;> omega
    rw [zm] at k2 k3
    obtain ⟨b', b1, b2, b3, b4⟩ := w101_z (a := b) k2 k1.1 g h96 h1 h2 h3 h4
    refine ⟨a', b', a1, ?_, rowK_0.2 ?_, a2, b2⟩
    · unfold fX11_writesDown
      rw [show (0 : Int32) = z32 0 from z32_litn 0, aI_h (by omega) (by omega) (by omega), k2, if_neg (by rw [z32_litn, z32_eq (by omega) (by omega) (by omega) (by omega)]; omega), b1]
    · have g1 : gNow a' 1 = e + 1 := by
        show hI a' 5 1 = e + 1
        rw [a3, if_neg (by omega)]
      have zm' : zmin 48 (e + 1) = e + 1 := by unfold zmin; split <;> omega
      rw [g1, zm']
      refine ⟨by omega, b3, fun k g2 g3 => ?_⟩
      obtain ⟨c1, c2, c3, c4⟩ := b4 k g2
      have gi : gNow a' (2 + (e + 1 - (e + 1) + k) % 48) = if k = e then t * 16777216 + l * 65536 + h * 256 + r else hI a 5 (2 + (e - e + k) % 48) := by
        show hI a' 5 (2 + (e + 1 - (e + 1) + k) % 48) = _
        rw [a4 _ (by omega) (by omega)]
        by_cases gk : k = e
        · rw [if_pos (by omega), if_pos gk]
        · rw [if_neg (by omega), if_neg gk, show e + 1 - (e + 1) + k = e - e + k by omega]
      rw [gi, c1, c2, c3, c4]
      by_cases gk : k = e
      · rw [if_pos gk, if_pos gk, if_pos gk, if_pos gk, if_pos gk]
        exact ⟨rfl, h1, h2, by omega, h4⟩
      · rw [if_neg gk, if_neg gk, if_neg gk, if_neg gk, if_neg gk]
        exact k3 k g2 (by omega)
  · have zm : zmin 48 e = 48 := by unfold zmin; split <;> omega
    rw [zm] at k2 k3
    obtain ⟨τ, t1, t2, t3, t4⟩ := w14_z (b := b) k2 (x1 := z32 t) (x2 := z32 l) (x3 := z32 h)
    obtain ⟨b', b1, b2, b3, b4⟩ := w101_z (a := τ) (m := 47) (r := r) t3 (by omega) (by omega) (by rw [(t2.2 96 h (by omega) (by unfold wdU; omega)).1, h96]) h1 h2 h3 h4
    refine ⟨a', b', a1, ?_, rowK_0.2 ?_, a2, fr_t t2 b2⟩
    · unfold fX11_writesDown
      rw [show (0 : Int32) = z32 0 from z32_litn 0, aI_h (by omega) (by omega) (by omega), k2, if_pos (by rw [z32_litn]), t1, b1]
    · obtain ⟨e', he'⟩ : ∃ e', e' = if e = 95 then 48 else e + 1 := ⟨_, rfl⟩
      have be' : 48 ≤ e' ∧ e' < 96 ∧ (e' - 48) % 48 = (e + 1) % 48 := by rw [he']; split <;> omega
      have g1 : gNow a' 1 = e' := by
        show hI a' 5 1 = e'
        rw [a3, he']
      have zm' : zmin 48 e' = 48 := by unfold zmin; split <;> omega
      rw [g1, zm']
      refine ⟨by omega, b3, fun k g2 g3 => ?_⟩
      obtain ⟨c1, c2, c3, c4⟩ := b4 k g2
      have gi : gNow a' (2 + (e' - 48 + k) % 48) = if k = 47 then t * 16777216 + l * 65536 + h * 256 + r else hI a 5 (2 + (e - 48 + (k + 1)) % 48) := by
        show hI a' 5 (2 + (e' - 48 + k) % 48) = _
        rw [a4 _ (by omega) (by omega)]
        by_cases gk : k = 47
        · rw [if_pos (by omega), if_pos gk]
        · rw [if_neg (by omega), if_neg gk, show (e' - 48 + k) % 48 = (e - 48 + (k + 1)) % 48 by omega]
      rw [gi, c1, c2, c3, c4]
      by_cases gk : k = 47
      · rw [if_pos gk, if_pos gk, if_pos gk, if_pos gk, if_pos gk]
        exact ⟨rfl, h1, h2, by omega, h4⟩
      · rw [if_neg gk, if_neg gk, if_neg gk, if_neg gk, if_neg gk, t4 91 k (by omega) (by omega) g2 (by omega), t4 92 k (by omega) (by omega) g2 (by omega), t4 93 k (by omega) (by omega) g2 (by omega), t4 94 k (by omega) (by omega) g2 (by omega)]
        exact k3 (k + 1) (by omega) (by omega)
end KE

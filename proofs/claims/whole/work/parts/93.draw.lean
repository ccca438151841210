/-! MY OWN: draws, lengths drawn, laughs, both sides -/
def dr (x : Int) : Int := (1103515245 * x + 12345) % 2147483648
def pkN (A : zS) (t : Int) : Nat → Int → Int → Int
  | 0, k, _ => k
  | d + 1, k, l => if l < vWt A t k then k else pkN A t d (k + 1) (l - vWt A t k)
def sdR (A b : zS) (x : Int) : Prop := hI A 1 10 = x ∧ hL b 56 59 = x ∧ 0 ≤ x
def laU (p : Nat) (k : Int) : Prop := p = 1 ∧ k = 10
def lbU (p : Nat) (k : Int) : Prop := p = 56 ∧ k = 59
def hcU (p : Nat) (k : Int) : Prop := (p = 1 ∧ k = 10) ∨ p = 25
def hmU (p : Nat) (k : Int) : Prop := (p = 56 ∧ k = 59) ∨ p = 96
section DW
variable {A B a b σ τ : zS} {t l x m k s w h y : Int}
theorem dr_b (x : Int) : 0 ≤ dr x ∧ dr x < 2147483648 := by unfold dr; omega
theorem draw_c (hx : hI A 1 10 = x) (h0 : 0 ≤ x) (h1 : 1 ≤ m) (h2 : m ≤ 1000) : fX10_draw (z32 m) A = some (z32 (dr x / 64 % m), jS A 1 10 (dr x)) := by
  have db := dr_b x
  have ed : dr x = (1103515245 * x + 12345) % 2147483648 := rfl
  have hb := hI_hi A 1 10
  rw [hx] at hb
  have e : ((((1103515245 * (((iG A 1 10) : Int32).toInt64)) + 12345) &&& 2147483647) : Int64).toInt32 = z32 (dr x) := by
    rw [show iG A 1 10 = z32 (hI A 1 10) from iG_h A 1 10, hx, z32_64 (by omega) (by omega), show (1103515245 : Int64) = z64 1103515245 from z64_litn 1103515245, z64_mul, show (12345 : Int64) = z64 12345 from z64_litn 12345, z64_add, z64_and (by omega) (by omega) 2147483647 31 (by decide), z64_32, show ((2 ^ 31 : Nat) : Int) = 2147483648 by rfl, ← ed]
  have eG : iG (jS A 1 10 (dr x)) 1 10 = z32 (dr x) := by
    rw [show iG (jS A 1 10 (dr x)) 1 10 = z32 (hI (jS A 1 10 (dr x)) 1 10) from iG_h _ 1 10, hI_jS (by omega) (by omega) (by omega) (by omega), if_pos rfl]
  unfold fX10_draw
  rw [e, iS_q, bnd_q, if_neg (by rw [z32_litn, z32_le (by omega) (by omega) (by omega) (by omega)]; omega), gd_pos (by rw [z32_litn, z32_eq (by omega) (by omega) (by omega) (by omega)]; omega), eG, show (64 : Int32) = z32 64 from z32_litn 64, z32_div (by omega) (by omega) (by omega) (by omega), z32_rem (by omega) (by omega) (by omega) (by omega)]
theorem draw_m (hx : hL b 56 59 = x) (h0 : 0 ≤ x) (h3 : x < 2147483648) (h1 : 1 ≤ m) (h2 : m ≤ 1000) : fX11_draw (z32 m) b = some (z32 (dr x / 64 % m), kS b 56 59 (dr x)) := by
  have db := dr_b x
  have ed : dr x = (1103515245 * x + 12345) % 2147483648 := rfl
  have eG : lG (kS b 56 59 (dr x)) 56 59 = z64 (dr x) := by
    rw [show lG (kS b 56 59 (dr x)) 56 59 = z64 (hL (kS b 56 59 (dr x)) 56 59) from lG_h _ 56 59, hL_kS (by omega) (by omega) (by omega) (by omega), if_pos rfl]
  unfold fX11_draw
  rw [show lG b 56 59 = z64 (hL b 56 59) from lG_h b 56 59, hx, show (1103515245 : Int64) = z64 1103515245 from z64_litn 1103515245, z64_mul, show (12345 : Int64) = z64 12345 from z64_litn 12345, z64_add, show (2147483648 : Int64) = z64 2147483648 from z64_litn 2147483648, z64_rem (by omega) (by omega) (by omega) (by omega), ← ed, bnd_q, lS_q, bnd_q, z32_64 (by omega) (by omega), gd_pos (by rw [z64_litn, z64_eq (by omega) (by omega) (by omega) (by omega)]; omega), eG, show (64 : Int64) = z64 64 from z64_litn 64, z64_div (by omega) (by omega) (by omega) (by omega), z64_rem (by omega) (by omega) (by omega) (by omega), bnd_q, z64_32]
theorem pkN_b (d : Nat) : ∀ (k l : Int), k ≤ pkN A t d k l ∧ pkN A t d k l ≤ k + d := by
  induction d with
  | zero => intro k l; show k ≤ k ∧ k ≤ k + ((0 : Nat) : Int); omega
  | succ d ih =>
    intro k l
    have := ih (k + 1) (l - vWt A t k)
    show k ≤ (if l < vWt A t k then k else pkN A t d (k + 1) (l - vWt A t k)) ∧ (if l < vWt A t k then k else pkN A t d (k + 1) (l - vWt A t k)) ≤ k + ((d + 1 : Nat) : Int)
    split <;> omega
theorem pick_c (hR : okR A) (j : jE A B) (h0 : 0 ≤ t) (h1 : t < vT A) : ∀ (d : Nat) (k l : Int) (f : Nat), k + d = vCnt A t - 1 → 0 ≤ k → 0 ≤ l → l ≤ 36 → d < f → fX10_drawLength_31 f (z32 t) A.2.2.2.1 (z32 l) (z32 (vCnt A t - 1)) (z32 k) B = some (z32 (vLen A t (pkN A t d k l)), B) := by
  have hc := (hR.2.2.2.2.1 t h0 h1).2.1
  have hR' := j_okR j hR
  have efl := j_fl j
  have eL : ∀ i, 0 ≤ i → i < vCnt A t → fX6_lengthAt A.2.2.2.1 B (z32 t) (z32 i) = some (z32 (vLen A t i)) := fun i g0 g1 => by
    have := cLen_z (A := B) (t := t) (k := i) hR' h0 (by rw [j_T j]; exact h1) g0 (by rw [j_Cnt j h0]; exact g1)
    rw [j_Len j h0 g0, efl] at this
    exact this
  have eW : ∀ i, 0 ≤ i → i < vCnt A t → fX6_weightAt A.2.2.2.1 B (z32 t) (z32 i) = some (z32 (vWt A t i)) := fun i g0 g1 => by
    have := cWt_z (A := B) (t := t) (k := i) hR' h0 (by rw [j_T j]; exact h1) g0 (by rw [j_Cnt j h0]; exact g1)
    rw [j_Wt j h0 g0, efl] at this
    exact this
  intro d
  induction d with
  | zero =>
    intro k l f hk h2 h3 h4 hf
    obtain ⟨f', rfl⟩ : ∃ f', f = f' + 1 := ⟨f - 1, by omega⟩
    rw [fX10_drawLength_31, if_pos (by rw [z32_le (by omega) (by omega) (by omega) (by omega)]; omega), eL _ (by omega) (by omega), bnr_q]
    show some (z32 (vLen A t (vCnt A t - 1)), B) = some (z32 (vLen A t k), B)
    rw [show vCnt A t - 1 = k by omega]
  | succ d ih =>
    intro k l f hk h2 h3 h4 hf
    obtain ⟨f', rfl⟩ : ∃ f', f = f' + 1 := ⟨f - 1, by omega⟩
    have hw := ((hR.2.2.2.2.1 t h0 h1).2.2 k h2 (by omega)).2
    rw [fX10_drawLength_31, if_neg (by rw [z32_le (by omega) (by omega) (by omega) (by omega)]; omega), eW k h2 (by omega), bnr_q, z32_sub]
    by_cases g : l < vWt A t k
    · rw [if_neg (by rw [z32_litn, z32_le (by omega) (by omega) (by omega) (by omega)]; omega), eL k h2 (by omega), bnr_q]
      show some (z32 (vLen A t k), B) = some (z32 (vLen A t (if l < vWt A t k then k else pkN A t d (k + 1) (l - vWt A t k))), B)
      rw [if_pos g]
    · rw [if_pos (by rw [z32_litn, z32_le (by omega) (by omega) (by omega) (by omega)]; omega), z1p, ih (k + 1) (l - vWt A t k) f' (by omega) (by omega) (by omega) (by omega) (by omega)]
      show some (z32 (vLen A t (pkN A t d (k + 1) (l - vWt A t k))), B) = some (z32 (vLen A t (if l < vWt A t k then k else pkN A t d (k + 1) (l - vWt A t k))), B)
      rw [if_neg g]
theorem pick_m (hR : okR A) (hm : rlR A b) (h0 : 0 ≤ t) (h1 : t < vT A) : ∀ (d : Nat) (k l : Int) (f : Nat), k + d = vCnt A t - 1 → 0 ≤ k → 0 ≤ l → l ≤ 36 → l < sW A t - zs (vWt A t) k → d < f → fX11_driven_19 f (z32 t) (z32 l) (z32 k) b = bnr (fX11_allHold (z32 t) (z32 (vLen A t (pkN A t d k l))) b) fun σ11 => fX11_driven_65 zF (z32 t) (z32 (vLen A t (pkN A t d k l))) 0 0 σ11 := by
  have hc := (hR.2.2.2.2.1 t h0 h1).2.1
  intro d
  induction d with
  | zero =>
    intro k l f hk h2 h3 h4 h5 hf
    obtain ⟨f', rfl⟩ : ∃ f', f = f' + 1 := ⟨f - 1, by omega⟩
    have hw := ((hR.2.2.2.2.1 t h0 h1).2.2 k h2 (by omega)).2
    have es : sW A t = zs (vWt A t) k + vWt A t k := by
      unfold sW
      rw [show vCnt A t = k + 1 by omega, zs_s h2]
    rw [fX11_driven_19, mWt_z hR hm h0 h1 h2 (by omega), bnr_q, if_pos (by rw [z32_lt (by omega) (by omega) (by omega) (by omega)]; omega), mLen_z hR hm h0 h1 h2 (by omega), bnr_q]
    rfl
  | succ d ih =>
    intro k l f hk h2 h3 h4 h5 hf
    obtain ⟨f', rfl⟩ : ∃ f', f = f' + 1 := ⟨f - 1, by omega⟩
    have hw := ((hR.2.2.2.2.1 t h0 h1).2.2 k h2 (by omega)).2
    rw [fX11_driven_19, mWt_z hR hm h0 h1 h2 (by omega), bnr_q]
    by_cases g : l < vWt A t k
    · rw [if_pos (by rw [z32_lt (by omega) (by omega) (by omega) (by omega)]; omega), mLen_z hR hm h0 h1 h2 (by omega), bnr_q]
      have e : pkN A t (d + 1) k l = k := by
        show (if l < vWt A t k then k else pkN A t d (k + 1) (l - vWt A t k)) = k
        rw [if_pos g]
      rw [e]
    · rw [if_neg (by rw [z32_lt (by omega) (by omega) (by omega) (by omega)]; omega), bnr_q, z32_sub, z1p, ih (k + 1) (l - vWt A t k) f' (by omega) (by omega) (by omega) (by omega) (by rw [zs_s h2]; omega) (by omega)]
      have e : pkN A t (d + 1) k l = pkN A t d (k + 1) (l - vWt A t k) := by
        show (if l < vWt A t k then k else pkN A t d (k + 1) (l - vWt A t k)) = _
        rw [if_neg g]
      rw [e]
-- laughs
theorem sd_x (h : sdR A b x) : x < 2147483648 := by have := hI_hi A 1 10; have := h.1; omega
theorem lau_j (hw : 1 ≤ w ∧ w ≤ 50) (hm : 0 ≤ m ∧ m ≤ 60) : ∀ (d : Nat) (s x : Int) (A b : zS) (f f' : Nat), s + d = m + 1 → 1 ≤ s → sdR A b x → d < f → d < f' → ∃ r x' A' b', fX10_drawHeld_8 f (z32 w) (z32 m) (z32 s) A = some (z32 r, A') ∧ fX11_laughing_24 f' (z32 m) (z32 w) (z32 s) b = some (z32 r, b') ∧ (0 ≤ r ∧ r ≤ m) ∧ sdR A' b' x' ∧ fr laU A A' ∧ fr lbU b b' := by
  intro d
  induction d with
  | zero =>
    intro s x A b f f' hs h1 hd hf hf'
    obtain ⟨g, rfl⟩ : ∃ g, f = g + 1 := ⟨f - 1, by omega⟩
    obtain ⟨g', rfl⟩ : ∃ g', f' = g' + 1 := ⟨f' - 1, by omega⟩
    refine ⟨m, x, A, b, ?_, ?_, by omega, hd, fr_r, fr_r⟩
    · rw [fX10_drawHeld_8, if_pos (by rw [z32_lt (by omega) (by omega) (by omega) (by omega)]; omega)]
    · rw [fX11_laughing_24, if_pos (by rw [z32_lt (by omega) (by omega) (by omega) (by omega)]; omega)]
  | succ d ih =>
    intro s x A b f f' hs h1 hd hf hf'
    obtain ⟨g, rfl⟩ : ∃ g, f = g + 1 := ⟨f - 1, by omega⟩
    obtain ⟨g', rfl⟩ : ∃ g', f' = g' + 1 := ⟨f' - 1, by omega⟩
    have db := dr_b x
    have d1 := draw_c (A := A) (m := 100) hd.1 hd.2.2 (by omega) (by omega)
    have d2 := draw_m (b := b) (m := 100) hd.2.1 hd.2.2 (sd_x hd) (by omega) (by omega)
    have hd' : sdR (jS A 1 10 (dr x)) (kS b 56 59 (dr x)) (dr x) := ⟨by rw [hI_jS (by omega) (by omega) (by omega) (by omega), if_pos rfl], by rw [hL_kS (by omega) (by omega) (by omega) (by omega), if_pos rfl], db.1⟩
    have fa : fr laU A (jS A 1 10 (dr x)) := fr_j (by omega) ⟨rfl, rfl⟩
    have fb : fr lbU b (kS b 56 59 (dr x)) := fr_k (by omega) ⟨rfl, rfl⟩
    by_cases gv : w ≤ dr x / 64 % 100
    · obtain ⟨r, x', A', b', r1, r2, r3, r4, r5, r6⟩ := ih (s + 1) (dr x) (jS A 1 10 (dr x)) (kS b 56 59 (dr x)) g g' (by omega) (by omega) hd' (by omega) (by omega)
      refine ⟨r, x', A', b', ?_, ?_, r3, r4, fr_t fa r5, fr_t fb r6⟩
      · rw [fX10_drawHeld_8, if_neg (by rw [z32_lt (by omega) (by omega) (by omega) (by omega)]; omega), show (100 : Int32) = z32 100 from z32_litn 100, d1, bnc_q]
        show (if z32 w ≤ z32 (dr x / 64 % 100) then _ else _) = _
        rw [if_pos (by rw [z32_le (by omega) (by omega) (by omega) (by omega)]; exact gv), z1p, r1]
      · rw [fX11_laughing_24, if_neg (by rw [z32_lt (by omega) (by omega) (by omega) (by omega)]; omega), show (100 : Int32) = z32 100 from z32_litn 100, d2, bnc_q]
        show (if z32 w ≤ z32 (dr x / 64 % 100) then _ else _) = _
        rw [if_pos (by rw [z32_le (by omega) (by omega) (by omega) (by omega)]; exact gv), z1p, r2]
    · refine ⟨s - 1, dr x, jS A 1 10 (dr x), kS b 56 59 (dr x), ?_, ?_, by omega, hd', fa, fb⟩
      · rw [fX10_drawHeld_8, if_neg (by rw [z32_lt (by omega) (by omega) (by omega) (by omega)]; omega), show (100 : Int32) = z32 100 from z32_litn 100, d1, bnc_q]
        show (if z32 w ≤ z32 (dr x / 64 % 100) then _ else _) = _
        rw [if_neg (by rw [z32_le (by omega) (by omega) (by omega) (by omega)]; exact gv), show (1 : Int32) = z32 1 from z32_litn 1, z32_sub]
      · rw [fX11_laughing_24, if_neg (by rw [z32_lt (by omega) (by omega) (by omega) (by omega)]; omega), show (100 : Int32) = z32 100 from z32_litn 100, d2, bnc_q]
        show (if z32 w ≤ z32 (dr x / 64 % 100) then _ else _) = _
        rw [if_neg (by rw [z32_le (by omega) (by omega) (by omega) (by omega)]; exact gv), show (1 : Int32) = z32 1 from z32_litn 1, z32_sub]
theorem held_j (hw : 0 ≤ w ∧ w ≤ 50) (hm : 0 ≤ m ∧ m ≤ 60) (hb : 0 ≤ hI b 56 13 ∧ hI b 56 13 ≤ 1) (hh : 0 ≤ h ∧ h < 6) (e65 : hI b 65 (6 * hI b 56 13 + h) = w) (hd : sdR A b x) : ∃ r x' A' b', fX10_drawHeld (z32 w) (z32 m) A = some (z32 r, A') ∧ fX11_laughing (z32 h) (z32 m) b = some (z32 r, b') ∧ (0 ≤ r ∧ r ≤ m) ∧ sdR A' b' x' ∧ fr laU A A' ∧ fr lbU b b' := by
  have e13 : iG b 56 13 = z32 (hI b 56 13) := iG_h b 56 13
  by_cases g : w = 0
  · refine ⟨m, x, A, b, ?_, ?_, by omega, hd, fr_r, fr_r⟩
    · unfold fX10_drawHeld
      rw [if_pos (by rw [g, z32_litn])]
    · unfold fX11_laughing
      rw [e13, show (6 : Int32) = z32 6 from z32_litn 6, z32_mul, z32_add, aI_h (by omega) (by omega) (by omega), e65, if_pos (by rw [g, z32_litn])]
  · obtain ⟨d, hdd⟩ : ∃ d : Nat, (1 : Int) + d = m + 1 := ⟨m.toNat, by omega⟩
    obtain ⟨r, x', A', b', r1, r2, r3, r4, r5, r6⟩ := lau_j (w := w) (m := m) (by omega) hm d 1 x A b zF zF hdd (by omega) hd (by unfold zF; omega) (by unfold zF; omega)
    refine ⟨r, x', A', b', ?_, ?_, r3, r4, r5, r6⟩
    · unfold fX10_drawHeld
      rw [if_neg (by rw [z32_litn, z32_eq (by omega) (by omega) (by omega) (by omega)]; exact g), show (1 : Int32) = z32 1 from z32_litn 1, r1]
    · unfold fX11_laughing
      rw [e13, show (6 : Int32) = z32 6 from z32_litn 6, z32_mul, z32_add, aI_h (by omega) (by omega) (by omega), e65, if_neg (by rw [z32_litn, z32_eq (by omega) (by omega) (by omega) (by omega)]; exact g), show (1 : Int32) = z32 1 from z32_litn 1, r2]
theorem n_ok (j : jE A a) (e5 : ∀ k, 0 ≤ k → hI a 5 k = hI A 5 k) (hN : okN A) : okN a := by
  refine ⟨?_, fun h g0 g1 => ?_⟩
  · have := hN.1
    unfold vNext at this ⊢
    rw [e5 0 (by omega), j_T j]
    exact this
  · rw [j_H j] at g1
    obtain ⟨q1, q2, q3, q4⟩ := hN.2 h g0 g1
    unfold vBr at q1 ⊢
    unfold vGv at q2 ⊢
    unfold vSc at q3 ⊢
    rw [e5 _ (by omega), e5 _ (by omega), e5 _ (by omega)]
    refine ⟨q1, q2, q3, fun t g2 g3 => ?_⟩
    rw [j_T j] at g3
    have := q4 t g2 g3
    unfold vTh at this ⊢
    rw [e5 _ (by omega)]
    exact this
theorem s_hold (e5 : ∀ k, 0 ≤ k → hI a 5 k = hI A 5 k) (h0 : 0 ≤ h) (h1 : 0 ≤ t) : sHold a h t l = sHold A h t l := by
  unfold sHold vTh vBr vGv
  rw [e5 _ (by omega), e5 _ (by omega), e5 _ (by omega)]
theorem hc_jE (f : fr hcU A a) : jE A a := by
  have hrp := rp_or A.2.2.2.1
  exact jE_f f (fun p k g w u => by unfold fpC at w; unfold hcU at u; omega)
/-- who holds how long, with laughs -/
theorem hold_j (hR : okR A) (hN : okN A) (h0 : 0 ≤ t) (h1 : t < vT A) (hl : 0 ≤ l ∧ l ≤ 60) : ∀ (d : Nat) (x s y : Int) (a b : zS) (f f' : Nat), x + d = vH A → 0 ≤ x → d < f → d < f' → fr hcU A a → rlR A b → sdR a b y → (∀ i, 0 ≤ i → i < x → hI a 25 i = hI b 96 i ∧ 0 ≤ hI b 96 i ∧ hI b 96 i ≤ 60) → (∀ i, x ≤ i → i < vH A → hI b 96 i = sHold A i t l) → ∃ s' y' a' b', fX10_driveThrough_28 f A.2.2.2.1 (z32 t) (z32 l) (z32 s) (z32 x) a = fX10_driveThrough_93 zF A.2.2.2.1 (z32 t) (z32 l) (z32 s') (z32 0) a' ∧ fX11_driven_65 f' (z32 t) (z32 l) (z32 s) (z32 x) b = fX11_driven_120 zF (z32 t) (z32 l) (z32 s') (z32 0) b' ∧ fr hcU a a' ∧ fr hmU b b' ∧ sdR a' b' y' ∧ ∀ i, 0 ≤ i → i < vH A → hI a' 25 i = hI b' 96 i ∧ 0 ≤ hI b' 96 i ∧ hI b' 96 i ≤ 60 := by
  have hH := hR.2.1
  have hrp := rp_or A.2.2.2.1
  intro d
  induction d with
  | zero =>
    intro x s y a b f f' hx hx0 hf hf' fa hm hd p1 p2
    obtain ⟨g, rfl⟩ : ∃ g, f = g + 1 := ⟨f - 1, by omega⟩
    obtain ⟨g', rfl⟩ : ∃ g', f' = g' + 1 := ⟨f' - 1, by omega⟩
    have eH : hI a (rp A.2.2.2.1 + 0) 2 = vH A := (fa.2 _ 2 (by omega) (by unfold hcU; omega)).1
    have e63 : hI b 63 (hI b 56 13) = vH A := hm.2.2.1
    have b13 := hm.1
    refine ⟨s, y, a, b, ?_, ?_, fr_r, fr_r, hd, fun i g0 g1 => p1 i g0 (by omega)⟩
    · simp (disch := omega) only [fX10_driveThrough_28, z32_add, z32_sub, z32_mul, z32_neg, z32_litn, z32_lt, z32_le, z32_eq, iG_h, lG_h, iS_q, lS_q, aI_h, wI_h, aL_h, wL_h, ↓bnd_q, bnr_q, bnc_q, ↓reduceIte, ieqT, ieqF, iltT, iltF, ileT, ileF, not_true, not_false_iff, eH]
    · simp (disch := omega) only [fX11_driven_65, z32_add, z32_sub, z32_mul, z32_neg, z32_litn, z32_lt, z32_le, z32_eq, iG_h, lG_h, iS_q, lS_q, aI_h, wI_h, aL_h, wL_h, ↓bnd_q, bnr_q, bnc_q, ↓reduceIte, ieqT, ieqF, iltT, iltF, ileT, ileF, not_true, not_false_iff, e63]
  | succ d ih =>
    intro x s y a b f f' hx hx0 hf hf' fa hm hd p1 p2
    obtain ⟨g, rfl⟩ : ∃ g, f = g + 1 := ⟨f - 1, by omega⟩
    obtain ⟨g', rfl⟩ : ∃ g', f' = g' + 1 := ⟨f' - 1, by omega⟩
    have hx1 : x < vH A := by omega
    have eH : hI a (rp A.2.2.2.1 + 0) 2 = vH A := (fa.2 _ 2 (by omega) (by unfold hcU; omega)).1
    have e8 : hI a (rp A.2.2.2.1 + 8) x = vLau A x := (fa.2 _ x (by omega) (by unfold hcU; omega)).1
    have e63 : hI b 63 (hI b 56 13) = vH A := hm.2.2.1
    have b13 := hm.1
    have e5 : ∀ k, 0 ≤ k → hI a 5 k = hI A 5 k := fun k g => (fa.2 5 k g (by unfold hcU; omega)).1
    have j := hc_jE fa
    have eh := cHold_z (A := a) (h := x) (t := t) (l := l) (j_okR j hR) (n_ok j e5 hN) hx0 (by rw [j_H j]; exact hx1) h0 (by rw [j_T j]; exact h1) hl.1 hl.2
    rw [s_hold e5 hx0 h0] at eh
    have hsb := sHold_b (t := t) hN hx0 hx1 hl.1 hl.2
    have e96 := p2 x (by omega) hx1
    have hlau := (hR.2.2.2.2.2 x hx0 hx1).2
    obtain ⟨r, y1, A1, b1, r1, r2, r3, r4, r5, r6⟩ := held_j (h := x) (w := vLau A x) (m := sHold A x t l) (A := a) (b := b) hlau (by omega) b13 (by omega) (hm.2.2.2.2.2.2 x hx0 hx1).2 hd
    have fa1 : fr hcU a (jS A1 25 x r) := fr_t (fr_m r5 (fun p k _ u => Or.inl u)) (fr_j hx0 (Or.inr rfl))
    have fb1 : fr hmU b (jS b1 96 x r) := fr_t (fr_m r6 (fun p k _ u => Or.inl u)) (fr_j hx0 (Or.inr rfl))
    have hm1 : rlR A (jS b1 96 x r) := iv_rlR jE_r (sm_f fb1 (fun p k _ w u => by unfold fpM at w; unfold hmU at u; omega)) hR hm
    have hd1 : sdR (jS A1 25 x r) (jS b1 96 x r) y1 := ⟨by rw [hI_jS_ne (by omega)]; exact r4.1, by rw [hL_jS]; exact r4.2.1, r4.2.2⟩
    obtain ⟨s', y', a', b', t1, t2, t3, t4, t5, t6⟩ := ih (x + 1) (s + r) y1 (jS A1 25 x r) (jS b1 96 x r) g g' (by omega) (by omega) (by omega) (by omega) (fr_t fa fa1) hm1 hd1 (fun i g0 g1 => by
      rw [hI_jS hx0 g0 (by omega) (by omega), hI_jS hx0 g0 (by omega) (by omega)]
      by_cases gi : i = x
      · rw [if_pos gi, if_pos gi]; omega
      · rw [if_neg gi, if_neg gi, (r5.2 25 i g0 (by unfold laU; omega)).1, (r6.2 96 i g0 (by unfold lbU; omega)).1]
        exact p1 i g0 (by omega)) (fun i g0 g1 => by
      rw [hI_jS hx0 (by omega) (by omega) (by omega), if_neg (by omega), (r6.2 96 i (by omega) (by unfold lbU; omega)).1]
      exact p2 i (by omega) g1)
    refine ⟨s', y', a', b', ?_, ?_, fr_t fa1 t3, fr_t fb1 t4, t5, t6⟩
    · have er : hI (jS A1 25 x r) 25 x = r := by rw [hI_jS hx0 hx0 (by omega) (by omega), if_pos rfl]
      rw [← t1]
      simp (disch := omega) only [fX10_driveThrough_28, z32_add, z32_sub, z32_mul, z32_neg, z32_litn, z32_lt, z32_le, z32_eq, iG_h, lG_h, iS_q, lS_q, aI_h, wI_h, aL_h, wL_h, ↓bnd_q, bnr_q, bnc_q, ↓reduceIte, ieqT, ieqF, iltT, iltF, ileT, ileF, not_true, not_false_iff, eH, e8, eh, r1, er]
    · have er : hI (jS b1 96 x r) 96 x = r := by rw [hI_jS hx0 hx0 (by omega) (by omega), if_pos rfl]
      rw [← t2]
      simp (disch := omega) only [fX11_driven_65, z32_add, z32_sub, z32_mul, z32_neg, z32_litn, z32_lt, z32_le, z32_eq, iG_h, lG_h, iS_q, lS_q, aI_h, wI_h, aL_h, wL_h, ↓bnd_q, bnr_q, bnc_q, ↓reduceIte, ieqT, ieqF, iltT, iltF, ileT, ileF, not_true, not_false_iff, e63, e96, r2, er]
end DW

/-! MY OWN: statements: tunnel: its lengths -/
section TU
variable {A B σ τ υ : zS} {c : Int → Int} {N b q a t v i k p w kd cnt u n K j : Int} {d : Bool} {f : Nat}
theorem t100 (hd : A.2.2.2.2 = d) : fX5_readTunnel_100 A = some (jS A (rp d + 0) 1 (hI A (rp d + 0) 1 + 1)) := by
  unfold fX5_readTunnel_100
  rw [hd, bnd_q, show iG A (rp d + 0) 1 = z32 (hI A (rp d + 0) 1) from iG_h A _ 1, z1p]
  rfl
theorem t76_k (h : cBk A k p) (hd : A.2.2.2.2 = d) (x1 x2 : Int32) : ∃ B, fX5_readTunnel_76 (f + 1) x1 x2 A = some B ∧ fr (cR (rp d)) A B ∧ cBk B k p := by
  have hrp := rp_or d
  refine ⟨jS A (rp d + 0) 1 (hI A (rp d + 0) 1 + 1), ?_, fr_j (by omega) (by unfold cR; omega), cBk_j (by omega) h⟩
  rw [fX5_readTunnel_76]
  split
  · exact t100 hd
  · rw [if_neg (b6 (s := 2) h (z32_litn 2) (by omega) (by omega))]
    exact t100 hd
theorem ix4 (hn : 0 ≤ n ∧ n < 6) (hj : 0 ≤ j ∧ j < 4) : (z32 n * 4) + z32 j = z32 (n * 4 + j) := by rw [show (4 : Int32) = z32 4 from z32_litn 4, z32_mul, z32_add]
theorem BE_63 (hn : 0 ≤ n ∧ n < 6) (hj : 0 ≤ j ∧ j < 4) : BE d (fX5_readLength_63 (z32 n) (z32 j)) := by
  have hrp := rp_or d
  have kE : BE d (fun σ13 => wI σ13 (rp σ13.2.2.2.2 + 3) 6 (z32 n) (z32 j + 1) fun σ14 => some σ14) := fun A k p h1 h2 => by
    refine ⟨jS A (rp d + 3) n (j + 1), ?_, fr_j (by omega) (by unfold cR; omega), cBk_j (by omega) h1⟩
    show (wI A (rp A.2.2.2.2 + 3) 6 (z32 n) (z32 j + 1) fun σ14 => some σ14) = _
    rw [h2.1, z1p, wI_h (by omega) (by omega) (by omega)]
  have k3 : BE d (fun σ8 => bnc (fX5_takeNumber 1 9 σ8) fun v12 σ10 => wI σ10 (rp σ8.2.2.2.2 + 5) 24 ((z32 n * 4) + z32 j) v12 fun σ13 => wI σ13 (rp σ13.2.2.2.2 + 3) 6 (z32 n) (z32 j + 1) fun σ14 => some σ14) := BE_d (fun A w => by rw [w, ix4 hn hj]) (BE_p (fun A k p h => num_k h _ _) (fun r => BE_w (x := r) (by omega) (by omega) (by omega) (by omega) kE))
  have k2 : BE d (fun σ7 => bnr (fX5_takeWord 3 σ7) fun σ8 => bnc (fX5_takeNumber 1 9 σ8) fun v12 σ10 => wI σ10 (rp σ8.2.2.2.2 + 5) 24 ((z32 n * 4) + z32 j) v12 fun σ13 => wI σ13 (rp σ13.2.2.2.2 + 3) 6 (z32 n) (z32 j + 1) fun σ14 => some σ14) := BE_b (BS_word (i := 3) (z32_litn 3) (by omega) (by omega)) k3
  exact BE_d (g := fun σ => bnc (fX5_takeNumber 1 60 σ) fun v6 σ4 => wI σ4 (rp d + 4) 24 (z32 (n * 4 + j)) v6 fun σ7 => bnr (fX5_takeWord 3 σ7) fun σ8 => bnc (fX5_takeNumber 1 9 σ8) fun v12 σ10 => wI σ10 (rp σ8.2.2.2.2 + 5) 24 ((z32 n * 4) + z32 j) v12 fun σ13 => wI σ13 (rp σ13.2.2.2.2 + 3) 6 (z32 n) (z32 j + 1) fun σ14 => some σ14) (fun A w => by unfold fX5_readLength_63; rw [w, ix4 hn hj]) (BE_p (fun A k p h => num_k h _ _) (fun r => BE_w (x := r) (by omega) (by omega) (by omega) (by omega) k2))
/-- a length, behind its at, and the rest of the lengths -/
def rdLn (d : Bool) (n j : Int) (B : zS) : Option zS := if (iG B 54 5) = 3 then bnr (fX6_hasLength d B (z32 n) (iG B 54 8)) fun v15 => if v15 = 0 then fX5_readLength_63 (z32 n) (z32 j) B else bnr (fX5_fail 4 (iG B 54 4) B) fun σ17 => fX5_readLength_63 (z32 n) (z32 j) σ17 else fX5_readLength_63 (z32 n) (z32 j) B
theorem BE_rdLn (hn : 0 ≤ n ∧ n < 6) (hj : 0 ≤ j ∧ j < 4) : BE d (rdLn d n j) := fun A k p h1 h2 => by
  unfold rdLn
  rw [if_neg (b5 (s := 3) h1 (z32_litn 3) (by omega) (by omega) (by omega))]
  exact BE_63 hn hj A k p h1 h2
theorem rl_e (hd : A.2.2.2.2 = d) (hc : hI A (rp d + 3) n = j) (hn : 0 ≤ n ∧ n < 6) (hj : 0 ≤ j ∧ j < 4) : fX5_readLength (z32 n) A = bnr (fX5_takeWord 2 A) fun σ2 => if σ2.2.2.2.2 = d then rdLn d n j σ2 else (if (iG σ2 54 5) = 3 then bnr (fX6_hasLength σ2.2.2.2.2 σ2 (z32 n) (iG σ2 54 8)) fun v15 => if v15 = 0 then fX5_readLength_63 (z32 n) (z32 j) σ2 else bnr (fX5_fail 4 (iG σ2 54 4) σ2) fun σ17 => fX5_readLength_63 (z32 n) (z32 j) σ17 else fX5_readLength_63 (z32 n) (z32 j) σ2) := by
  unfold fX5_readLength
  rw [hd, aI_h (by omega) (by omega) (by omega), hc, if_pos (by rw [z32_litn, z32_lt (by omega) (by omega) (by omega) (by omega)]; omega)]
  congr 1
  funext σ2
  by_cases w : σ2.2.2.2.2 = d
  · rw [if_pos w, w]; rfl
  · rw [if_neg w]
-- the other side behind a fault
theorem l102_0 (h : mFt σ k p) (x : Int32) : fX11_tunnelling_102 (f + 1) x 0 σ = some σ := by
  rw [fX11_tunnelling_102, if_pos rfl, if_neg (c8e h)]
theorem l237_k (h : mFt σ k p) (x : Int32) : fX11_tunnelling_237 (fX11_tunnelling_102 (f + 1)) x σ = some σ := by
  obtain ⟨υ, u1, u2, u3⟩ := mF_l (mt_b h)
  have e : υ = σ := by
    have l := hI_hi σ 56 8
    obtain ⟨h1, h2, h3⟩ := h
    unfold fX11_lex at u1
    split at u1
    · simpa using u1.symm
    · rw [bl5 ⟨h1, h2, h3⟩, bnr_q] at u1
      simpa using u1.symm
  unfold fX11_tunnelling_237
  rw [u1, bnr_q, e, if_neg (c8e h)]
  unfold fX11_tunnelling_262 fX11_tunnelling_263
  rw [if_pos rfl]
  unfold fX11_tunnelling_288
  exact l102_0 h x
theorem MS_180 (x x3 x4 : Int32) : MS b (fX11_tunnelling_180 (fX11_tunnelling_102 (f + 1)) x x3 x4) := fun τ k p h1 h2 => by
  obtain ⟨υ, u1, u2, u3⟩ := mm_word (i := 3) (y := 131277443786867) ((z64_litn 131277443786867).trans (congrArg z64 (by decide))) (by omega) (by omega) h1
  obtain ⟨φ, v1, v2, v3⟩ := mm_num (x := 1) (y := 9) (mt_b u3)
  refine ⟨φ, ?_, mt_b v3, fr_t (oM_d u2) (oM_d v2)⟩
  unfold fX11_tunnelling_180
  rw [u1, bnr_q, v1, bnc_q, if_neg (c8e v3)]
  exact l237_k v3 x
theorem l169_k (h : mFt σ k p) (h2 : hI σ 56 35 = b) (x x3 x4 : Int32) : ∃ υ, fX11_tunnelling_169 (fX11_tunnelling_102 (f + 1)) x x3 x4 σ = some υ ∧ mFb υ k p ∧ fr (mRd b) σ υ := by
  unfold fX11_tunnelling_169
  rw [if_neg (c8e h)]
  exact MS_180 x x3 x4 σ k p (mt_b h) h2
theorem l125_k {g : Nat} (h : mFt σ k p) (h2 : hI σ 56 35 = b) (x x3 x4 x5 : Int32) : ∃ υ, fX11_tunnelling_125 (fX11_tunnelling_102 (f + 1)) (g + 1) x x3 x4 x5 σ = some υ ∧ mFb υ k p ∧ fr (mRd b) σ υ := by
  rw [fX11_tunnelling_125]
  split
  · exact l169_k h h2 x x3 x4
  · rw [if_neg (c8e h)]
    exact l169_k h h2 x x3 x4
theorem MS_102 (hK : 0 ≤ K ∧ K < 12) : MS b (fX11_tunnelling_102 (f + 1 + 1) (z32 K) (z32 1)) := fun τ k p h1 h2 => by
  obtain ⟨υ, u1, u2, u3⟩ := mm_look (x := 1) (y := 60) h1
  obtain ⟨g, hg⟩ := zF_ex
  obtain ⟨φ, v1, v2, v3⟩ := l125_k (f := f) (g := g) u3 (e35 u2 h2) (z32 K) (z32 (hI τ 60 K)) (z32 0) 0
  refine ⟨φ, ?_, v2, fr_t (oM_d u2) v3⟩
  rw [fX11_tunnelling_102, if_neg i32_10, aI_h (by omega) (by omega) (by omega), u1, bnc_q, hg]
  exact v1
-- both sides
def tC (d : Bool) (n : Int) (p : Nat) (k : Int) : Prop := p = 54 ∨ ((p = rp d + 1 ∨ p = rp d + 2 ∨ p = rp d + 3) ∧ k = n) ∨ ((p = rp d + 4 ∨ p = rp d + 5) ∧ n * 4 ≤ k ∧ k < n * 4 + 4)
def tM (b n : Int) (p : Nat) (k : Int) : Prop := oQ p k ∨ ((p = 76 ∨ p = 59 ∨ p = 60) ∧ k = 6 * b + n) ∨ ((p = 61 ∨ p = 62) ∧ 4 * (6 * b + n) ≤ k ∧ k < 4 * (6 * b + n) + 4)
def TJ (A B σ τ : zS) (d : Bool) (b n pn wn gp j : Int) : Prop := fr (tC d n) A B ∧ fr (tM b n) σ τ ∧ hI B (rp d + 1) n = pn ∧ hL τ 76 (6 * b + n) = wn ∧ hI B (rp d + 2) n = gp ∧ hI τ 59 (6 * b + n) = gp ∧ hI B (rp d + 3) n = j ∧ hI τ 60 (6 * b + n) = j ∧ ∀ k, 0 ≤ k → k < j → (hI τ 61 (4 * (6 * b + n) + k) = hI B (rp d + 4) (n * 4 + k) ∧ 1 ≤ hI B (rp d + 4) (n * 4 + k) ∧ hI B (rp d + 4) (n * 4 + k) ≤ 60) ∧ (hI τ 62 (4 * (6 * b + n) + k) = hI B (rp d + 5) (n * 4 + k) ∧ 1 ≤ hI B (rp d + 5) (n * 4 + k) ∧ hI B (rp d + 5) (n * 4 + k) ≤ 9)
theorem TJ_o {B' τ' : zS} {pn wn gp : Int} (h : TJ A B σ τ d b n pn wn gp j) (o1 : oR B B') (o2 : oM τ τ') : TJ A B' σ τ' d b n pn wn gp j := by
  have hrp := rp_or d
  obtain ⟨h1, h2, h3, h4, h5, h6, h7, h8, h9⟩ := h
  refine ⟨fr_t h1 (fr_R o1 (fun k _ => by unfold tC; omega)), fr_t h2 (fr_m (oM_Q o2) (fun p k _ w => Or.inl w)), ?_, ?_, ?_, ?_, ?_, ?_, fun k g0 g1 => ?_⟩
  · rw [o1.2.2 _ _ (by omega)]; exact h3
  · rw [(o2.2.1 _ _ (by omega)).2]; exact h4
  · rw [o1.2.2 _ _ (by omega)]; exact h5
  · rw [(o2.2.1 _ _ (by omega)).1]; exact h6
  · rw [o1.2.2 _ _ (by omega)]; exact h7
  · rw [(o2.2.1 _ _ (by omega)).1]; exact h8
  · rw [o1.2.2 _ _ (by omega), o1.2.2 _ _ (by omega), (o2.2.1 _ _ (by omega)).1, (o2.2.1 _ _ (by omega)).1]; exact h9 k g0 g1
theorem tC_R (p : Nat) (k : Int) (_ : 0 ≤ k) (h : tC d n p k) : cR (rp d) p k := by unfold tC at h; unfold cR; omega
theorem tM_R (hb : 0 ≤ b ∧ b ≤ 1) (hn : 0 ≤ n ∧ n < 6) (p : Nat) (k : Int) (_ : 0 ≤ k) (h : tM b n p k) : mRd b p k := by unfold tM oQ at h; unfold mRd; omega
/-- has a length been told already: both ask alike -/
theorem hasl_z {v : Int} (hd : 0 ≤ j ∧ j ≤ 4) (hn : 0 ≤ n ∧ n < 6) (hc : hI B (rp d + 3) n = j) (hv : 0 ≤ v ∧ v < 10000) : (∃ i, 0 ≤ i ∧ i < j ∧ hI B (rp d + 4) (n * 4 + i) = v ∧ fX6_hasLength d B (z32 n) (z32 v) = some 1) ∨ ((∀ i, 0 ≤ i → i < j → hI B (rp d + 4) (n * 4 + i) ≠ v) ∧ fX6_hasLength d B (z32 n) (z32 v) = some 0) := by
  have hrp := rp_or d
  have key : ∀ (e : Nat) (k : Int) (f : Nat), k + e = j → 0 ≤ k → e < f → (∀ i, 0 ≤ i → i < k → hI B (rp d + 4) (n * 4 + i) ≠ v) → (∃ i, 0 ≤ i ∧ i < j ∧ hI B (rp d + 4) (n * 4 + i) = v ∧ fX6_hasLength_2 d B f (z32 n) (z32 v) (z32 k) = some 1) ∨ ((∀ i, 0 ≤ i → i < j → hI B (rp d + 4) (n * 4 + i) ≠ v) ∧ fX6_hasLength_2 d B f (z32 n) (z32 v) (z32 k) = some 0) := by
    intro e
    induction e with
    | zero =>
      intro k f hk hk0 hf hi
      obtain ⟨g, rfl⟩ : ∃ g, f = g + 1 := ⟨f - 1, by omega⟩
      have : k = j := by omega
      subst this
      right
      refine ⟨hi, ?_⟩
      rw [fX6_hasLength_2, aI_h (by omega) (by omega) (by omega), hc, if_pos (by rw [z32_le (by omega) (by omega) (by omega) (by omega)]; omega)]
    | succ e ih =>
      intro k f hk hk0 hf hi
      obtain ⟨g, rfl⟩ : ∃ g, f = g + 1 := ⟨f - 1, by omega⟩
      have b1 := hI_lo B (rp d + 4) (n * 4 + k)
      have b2 := hI_hi B (rp d + 4) (n * 4 + k)
      have st : fX6_hasLength_2 d B (g + 1) (z32 n) (z32 v) (z32 k) = if z32 (hI B (rp d + 4) (n * 4 + k)) = z32 v then some 1 else fX6_hasLength_2 d B g (z32 n) (z32 v) (z32 k + 1) := by
        rw [fX6_hasLength_2, aI_h (by omega) (by omega) (by omega), hc, if_neg (by rw [z32_le (by omega) (by omega) (by omega) (by omega)]; omega)]
        unfold fX6_lengthAt
        rw [ix4 hn (by omega), aI_h (by omega) (by omega) (by omega), bnr_q]
      by_cases he : hI B (rp d + 4) (n * 4 + k) = v
      · left
        refine ⟨k, hk0, by omega, he, ?_⟩
        rw [st, if_pos (by rw [he])]
      · have := ih (k + 1) g (by omega) (by omega) (by omega) (fun i g0 g1 => by
          by_cases g2 : i = k
          · rw [g2]; exact he
          · exact hi i g0 (by omega))
        rw [st, if_neg (by rw [z32_eq (by omega) (by omega) (by omega) (by omega)]; exact he), z1p]
        exact this
  have := key j.toNat 0 zF (by omega) (by omega) (by unfold zF; omega) (fun i g0 g1 => by omega)
  unfold fX6_hasLength
  rw [show (0 : Int32) = z32 0 from z32_litn 0] at this ⊢
  exact this
theorem dupl_z {v : Int} {r : Int32 → Int32 → zS → Option zS} (hb : 0 ≤ K ∧ K < 12) (hj : 0 ≤ j ∧ j ≤ 4) (hv : 0 ≤ v ∧ v < 10000) (h8 : hI τ 56 8 = 0) (h4 : hI τ 56 4 = q) : ((∀ i, 0 ≤ i → i < j → hI τ 61 (4 * K + i) ≠ v) → fX11_tunnelling_125 r zF (z32 K) (z32 j) (z32 v) 0 τ = fX11_tunnelling_169 r (z32 K) (z32 j) (z32 v) τ) ∧ ((∃ i, 0 ≤ i ∧ i < j ∧ hI τ 61 (4 * K + i) = v) → ∃ g x, fX11_tunnelling_125 r zF (z32 K) (z32 j) (z32 v) 0 τ = fX11_tunnelling_125 r (g + 1) (z32 K) (z32 j) (z32 v) x (jS (jS τ 56 8 4) 56 9 q)) := by
  have st : ∀ (g : Nat) (k : Int), 0 ≤ k → k < j → fX11_tunnelling_125 r (g + 1) (z32 K) (z32 j) (z32 v) (z32 k) τ = if z32 (hI τ 61 (4 * K + k)) = z32 v then fX11_tunnelling_125 r g (z32 K) (z32 j) (z32 v) (z32 (k + 1)) (jS (jS τ 56 8 4) 56 9 q) else fX11_tunnelling_125 r g (z32 K) (z32 j) (z32 v) (z32 (k + 1)) τ := fun g k hk0 hk => by
    rw [fX11_tunnelling_125, if_neg (by rw [z32_le (by omega) (by omega) (by omega) (by omega)]; omega), if_pos (c8q h8), show (4 : Int32) * z32 K + z32 k = z32 (4 * K + k) by rw [z32_litn, z32_mul, z32_add], aI_h (by omega) (by omega) (by omega)]
    unfold fX11_tunnelling_163
    rw [bl4 (z32_litn 4) h8 h4, bnr_q, z1p]
  constructor
  · intro hno
    have key : ∀ (e : Nat) (k : Int) (f : Nat), k + e = j → 0 ≤ k → e < f → fX11_tunnelling_125 r f (z32 K) (z32 j) (z32 v) (z32 k) τ = fX11_tunnelling_169 r (z32 K) (z32 j) (z32 v) τ := by
      intro e
      induction e with
      | zero =>
        intro k f hk hk0 hf
        obtain ⟨g, rfl⟩ : ∃ g, f = g + 1 := ⟨f - 1, by omega⟩
        rw [fX11_tunnelling_125, if_pos (by rw [z32_le (by omega) (by omega) (by omega) (by omega)]; omega)]
      | succ e ih =>
        intro k f hk hk0 hf
        obtain ⟨g, rfl⟩ : ∃ g, f = g + 1 := ⟨f - 1, by omega⟩
        have b1 := hI_lo τ 61 (4 * K + k)
        have b2 := hI_hi τ 61 (4 * K + k)
        rw [st g k hk0 (by omega), if_neg (by rw [z32_eq (by omega) (by omega) (by omega) (by omega)]; exact hno k hk0 (by omega))]
        exact ih (k + 1) g (by omega) (by omega) (by omega)
    have := key j.toNat 0 zF (by omega) (by omega) (by unfold zF; omega)
    rw [show (0 : Int32) = z32 0 from z32_litn 0]
    exact this
  · rintro ⟨i, i0, i1, i2⟩
    have key : ∀ (e : Nat) (k : Int) (f : Nat), k + e = i → 0 ≤ k → e + 1 < f → ∃ g x, fX11_tunnelling_125 r f (z32 K) (z32 j) (z32 v) (z32 k) τ = fX11_tunnelling_125 r (g + 1) (z32 K) (z32 j) (z32 v) x (jS (jS τ 56 8 4) 56 9 q) := by
      intro e
      induction e with
      | zero =>
        intro k f hk hk0 hf
        obtain ⟨g, rfl⟩ : ∃ g, f = g + 1 + 1 := ⟨f - 2, by omega⟩
        have : k = i := by omega
        subst this
        refine ⟨g, z32 (k + 1), ?_⟩
        rw [st (g + 1) k hk0 i1, if_pos (by rw [i2])]
      | succ e ih =>
        intro k f hk hk0 hf
        obtain ⟨g, rfl⟩ : ∃ g, f = g + 1 + 1 := ⟨f - 2, by omega⟩
        rw [st (g + 1) k hk0 (by omega)]
        split
        · exact ⟨g, z32 (k + 1), rfl⟩
        · exact ih (k + 1) (g + 1) (by omega) (by omega) (by omega)
    have := key i.toNat 0 zF (by omega) (by omega) (by unfold zF; omega)
    rw [show (0 : Int32) = z32 0 from z32_litn 0]
    exact this
end TU

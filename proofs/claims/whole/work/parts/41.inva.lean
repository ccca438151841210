/-! MY OWN: all that the two sides have alike between calls -/
def tx (A : zS) (k : Int) : Int := ((A.1 3 k.toNat) &&& 255).toInt
theorem tx_b (A : zS) (k : Int) : 0 ≤ tx A k ∧ tx A k ≤ 255 := by
  obtain ⟨j, hj, e⟩ := pk_andE (A.1 3 k.toNat) (m := 255) 8 (by decide)
  unfold tx
  rw [e]
  have : (nI j).toInt = (j : Int) := by
    rw [show nI j = z32 (j : Int) from (z32_ofNat j)]
    exact z32_int (by omega) (by omega)
  omega
def rlT (A σ : zS) : Prop := hI σ 56 1 = hI A 2 1 ∧ (0 ≤ hI A 2 1 ∧ hI A 2 1 ≤ 1600) ∧ ∀ k, 0 ≤ k → k < 1600 → hI σ 57 k = tx A k
def rlS (A σ : zS) : Prop := hL σ 56 59 = hI A 1 10 ∧ 0 ≤ hI A 1 10
def rlF (A σ : zS) : Prop := ∀ k, 0 ≤ k → k < 5 → hI σ 84 k = hI A 37 k
def rlU (A σ : zS) : Prop := hI σ 56 10 = hI A 54 9 ∧ hI σ 56 11 = hI A 54 10
def rlP (A σ : zS) : Prop := hI σ 56 78 = hI A 35 1 ∧ (0 ≤ hI A 35 1 ∧ hI A 35 1 ≤ 68) ∧ ∀ k, 0 ≤ k → k < hI A 35 1 → hI σ 102 k = hI A 36 k
def rlC (A σ : zS) : Prop := hI σ 56 72 = hI A 32 3 ∧ (0 ≤ hI A 32 3 ∧ hI A 32 3 ≤ 12) ∧ (0 < hI A 32 3 → hI σ 56 73 = hI A 32 2 ∧ 0 ≤ hI A 32 2 ∧ hI A 32 2 < vT A) ∧ ∀ k, 0 ≤ k → k < hI A 32 3 → hI σ 99 k = hI A 33 k ∧ hI σ 100 k = hI A 34 k ∧ (0 ≤ hI A 33 k ∧ hI A 33 k < vH A) ∧ (0 ≤ hI A 34 k ∧ hI A 34 k ≤ 60)
/-- a row of the one side, g, and the other side's slot s -/
def rowS (H T : Int) (g : Int → Int) (σ : zS) (s : Int) : Prop := hI σ 85 s = g 0 ∧ (0 ≤ g 0 ∧ (g 0 < T ∨ g 0 = 0)) ∧ ∀ h, 0 ≤ h → h < H → (hI σ 86 (6 * s + h) = g (50 + h) ∧ 0 ≤ g (50 + h) ∧ g (50 + h) ≤ 60) ∧ (hI σ 87 (6 * s + h) = g (56 + h) ∧ 0 ≤ g (56 + h) ∧ g (56 + h) ≤ 60) ∧ (hI σ 88 (6 * s + h) = g (62 + h) ∧ -99999 ≤ g (62 + h) ∧ g (62 + h) ≤ 99999) ∧ ∀ t, 0 ≤ t → t < T → hI σ 89 (36 * s + 6 * h + t) = g (68 + h * 6 + t) ∧ 0 ≤ g (68 + h * 6 + t) ∧ g (68 + h * 6 + t) ≤ 60
def rowK (g : Int → Int) (σ : zS) (s : Int) : Prop := (0 ≤ g 1 ∧ g 1 < 96) ∧ hI σ 90 s = zmin 48 (g 1) ∧ ∀ k, 0 ≤ k → k < zmin 48 (g 1) → g (2 + (g 1 - zmin 48 (g 1) + k) % 48) = hI σ 91 (48 * s + k) * 16777216 + hI σ 92 (48 * s + k) * 65536 + hI σ 93 (48 * s + k) * 256 + hI σ 94 (48 * s + k) ∧ (0 ≤ hI σ 91 (48 * s + k) ∧ hI σ 91 (48 * s + k) ≤ 127) ∧ (0 ≤ hI σ 92 (48 * s + k) ∧ hI σ 92 (48 * s + k) ≤ 255) ∧ (0 ≤ hI σ 93 (48 * s + k) ∧ hI σ 93 (48 * s + k) ≤ 255) ∧ (0 ≤ hI σ 94 (48 * s + k) ∧ hI σ 94 (48 * s + k) ≤ 255)
def gNow (A : zS) : Int → Int := fun i => hI A 5 i
def gHis (A : zS) (j : Int) : Int → Int := fun i => hI A 7 (((hI A 6 1 + 20 - hI A 6 2 + j) % 20) * 104 + i)
def rlH (A σ : zS) : Prop := (0 ≤ hI A 6 1 ∧ hI A 6 1 < 20) ∧ (0 ≤ hI A 6 2 ∧ hI A 6 2 ≤ 20) ∧ hI σ 56 58 = hI A 6 2 ∧ (0 ≤ hI σ 56 57 ∧ hI σ 56 57 < 20) ∧ ∀ j, 0 ≤ j → j < hI A 6 2 → rowS (vH A) (vT A) (gHis A j) σ (2 + (hI σ 56 57 + j) % 20) ∧ rowK (gHis A j) σ (2 + (hI σ 56 57 + j) % 20)
/-- letters c 0, c 1, .. (1 to 26) as the one side and the other pack them -/
def pk5 (c : Nat → Int) : Nat → Int
  | 0 => 0
  | n + 1 => pk5 c n + c n * 32 ^ (5 - n)
def pk8 (c : Nat → Int) : Nat → Int
  | 0 => 0
  | n + 1 => pk8 c n * 256 + (c n + 96)
def nmR (p w : Int) : Prop := ∃ (m : Nat) (c : Nat → Int), 1 ≤ m ∧ m ≤ 6 ∧ (∀ i, i < m → 1 ≤ c i ∧ c i ≤ 26) ∧ p = pk5 c m ∧ w = pk8 c m
def rlM (A σ : zS) : Prop := (∀ t, 0 ≤ t → t < vT A → nmR (hI A (rp A.2.2.2.1 + 1) t) (hL σ 76 (6 * hI σ 56 13 + t))) ∧ (∀ h, 0 ≤ h → h < vH A → nmR (hI A (rp A.2.2.2.1 + 6) h) (hL σ 77 (6 * hI σ 56 13 + h)))
theorem row_N {A σ : zS} (h : rowS (vH A) (vT A) (gNow A) σ 0) : rlN A σ ∧ okN A := by
  obtain ⟨h1, h2, h3⟩ := h
  refine ⟨⟨h1, fun h g0 g1 => ?_⟩, h2, fun h g0 g1 => ?_⟩
  · obtain ⟨a, b, c, d⟩ := h3 h g0 g1
    simp only [Int.mul_zero, Int.zero_add] at a b c d
    exact ⟨a.1, b.1, c.1, fun t w0 w1 => (d t w0 w1).1⟩
  · obtain ⟨a, b, c, d⟩ := h3 h g0 g1
    exact ⟨a.2, b.2, c.2, fun t w0 w1 => (d t w0 w1).2⟩
section Y
variable {A B σ τ : zS}
theorem rowS_c {H T s s' : Int} {g g' : Int → Int} (h : rowS H T g σ s) (hH : H ≤ 6) (hT : T ≤ 6) (hs : 0 ≤ s) (hg : ∀ i, 0 ≤ i → i < 104 → g' i = g i) (e85 : hI τ 85 s' = hI σ 85 s) (e6 : ∀ p i, 86 ≤ p → p ≤ 88 → 0 ≤ i → i < 6 → hI τ p (6 * s' + i) = hI σ p (6 * s + i)) (e36 : ∀ i, 0 ≤ i → i < 36 → hI τ 89 (36 * s' + i) = hI σ 89 (36 * s + i)) : rowS H T g' τ s' := by
  obtain ⟨h1, h2, h3⟩ := h
  refine ⟨by rw [e85, hg 0 (by omega) (by omega)]; exact h1, by rw [hg 0 (by omega) (by omega)]; exact h2, fun h g0 g1 => ?_⟩
  obtain ⟨a, b, c, d⟩ := h3 h g0 g1
  rw [hg _ (by omega) (by omega), hg _ (by omega) (by omega), hg _ (by omega) (by omega), e6 _ _ (by omega) (by omega) (by omega) (by omega), e6 _ _ (by omega) (by omega) (by omega) (by omega), e6 _ _ (by omega) (by omega) (by omega) (by omega)]
  refine ⟨a, b, c, fun t w0 w1 => ?_⟩
  have := d t w0 w1
  rw [hg _ (by omega) (by omega), Int.add_assoc, e36 (6 * h + t) (by omega) (by omega), ← Int.add_assoc]
  exact this
theorem rowK_c {s s' : Int} {g g' : Int → Int} (h : rowK g σ s) (hs : 0 ≤ s) (hg : ∀ i, 0 ≤ i → i < 104 → g' i = g i) (e90 : hI τ 90 s' = hI σ 90 s) (e48 : ∀ p i, 91 ≤ p → p ≤ 94 → 0 ≤ i → i < 48 → hI τ p (48 * s' + i) = hI σ p (48 * s + i)) : rowK g' τ s' := by
  obtain ⟨h1, h2, h3⟩ := h
  have hz : 0 ≤ zmin 48 (g 1) ∧ zmin 48 (g 1) ≤ 48 ∧ zmin 48 (g 1) ≤ g 1 := by unfold zmin; split <;> omega
  unfold rowK
  rw [hg 1 (by omega) (by omega), e90]
  refine ⟨h1, h2, fun k g0 g1 => ?_⟩
  have := h3 k g0 g1
  rw [hg _ (by omega) (by omega), e48 _ _ (by omega) (by omega) (by omega) (by omega), e48 _ _ (by omega) (by omega) (by omega) (by omega), e48 _ _ (by omega) (by omega) (by omega) (by omega), e48 _ _ (by omega) (by omega) (by omega) (by omega)]
  exact this
theorem kC_p (q : kC A B) {p : Nat} {k : Int} (h : p ≤ 8 ∨ 32 ≤ p ∧ p ≤ 37 ∨ 54 ≤ p ∧ p ≤ 55) (hk : 0 ≤ k) : hI B p k = hI A p k := by
  have hrp := rp_or A.2.2.2.1
  exact q.2 p k (by omega) hk (by omega) (by omega) (by omega)
theorem kC_tx (q : kC A B) {k : Int} (hk : 0 ≤ k) : tx B k = tx A k := by
  have h := kC_p q (p := 3) (k := k) (by omega) hk
  have : B.1 3 k.toNat = A.1 3 k.toNat := Int32.toInt_inj.1 h
  unfold tx
  rw [this]
theorem kM_p (q : kM σ τ) {p : Nat} {k : Int} (h : 57 ≤ p ∧ p ≤ 94 ∨ 99 ≤ p ∧ p ≤ 100 ∨ p = 102) (hk : 0 ≤ k) : hI τ p k = hI σ p k := q.1 p k (by omega) hk (by omega) (by omega) (by omega) (by omega)
theorem kM_f (q : kM σ τ) {k : Int} (hk : 0 ≤ k) (h : k < 61 ∨ 68 < k) : hI τ 56 k = hI σ 56 k := q.1 56 k (by omega) hk (by omega) (by omega) (by omega) (fun _ => h)
theorem q_T (q : kC A B) (m : kM σ τ) (h : rlT A σ) : rlT B τ := by
  obtain ⟨h1, h2, h3⟩ := h
  refine ⟨by rw [kM_f m (by omega) (by omega), kC_p q (by omega) (by omega)]; exact h1, by rw [kC_p q (by omega) (by omega)]; exact h2, fun k g0 g1 => ?_⟩
  rw [kM_p m (by omega) g0, kC_tx q g0]; exact h3 k g0 g1
theorem q_S (q : kC A B) (m : kM σ τ) (h : rlS A σ) : rlS B τ := by
  obtain ⟨h1, h2⟩ := h
  exact ⟨by rw [m.2 56 59 (by omega) (by omega) (by omega) (by omega) (by omega), kC_p q (by omega) (by omega)]; exact h1, by rw [kC_p q (by omega) (by omega)]; exact h2⟩
theorem q_F (q : kC A B) (m : kM σ τ) (h : rlF A σ) : rlF B τ := fun k g0 g1 => by
  rw [kM_p m (by omega) g0, kC_p q (by omega) g0]; exact h k g0 g1
theorem q_U (q : kC A B) (m : kM σ τ) (h : rlU A σ) : rlU B τ :=
  ⟨by rw [kM_f m (by omega) (by omega), kC_p q (by omega) (by omega)]; exact h.1, by rw [kM_f m (by omega) (by omega), kC_p q (by omega) (by omega)]; exact h.2⟩
theorem q_P (q : kC A B) (m : kM σ τ) (h : rlP A σ) : rlP B τ := by
  obtain ⟨h1, h2, h3⟩ := h
  unfold rlP
  rw [kM_f m (by omega) (by omega), kC_p q (by omega) (by omega)]
  exact ⟨h1, h2, fun k g0 g1 => by rw [kM_p m (by omega) g0, kC_p q (by omega) g0]; exact h3 k g0 g1⟩
theorem q_C (q : kC A B) (m : kM σ τ) (h : rlC A σ) : rlC B τ := by
  obtain ⟨h1, h2, h3, h4⟩ := h
  unfold rlC
  rw [kM_f m (by omega) (by omega), kM_f m (by omega) (by omega), kC_p q (by omega) (by omega), kC_p q (by omega) (by omega), e_T q, e_H q]
  refine ⟨h1, h2, h3, fun k g0 g1 => ?_⟩
  rw [kM_p m (by omega) g0, kM_p m (by omega) g0, kC_p q (by omega) g0, kC_p q (by omega) g0]
  exact h4 k g0 g1
theorem q_H (q : kC A B) (m : kM σ τ) (hR : okR A) (h : rlH A σ) : rlH B τ := by
  obtain ⟨h1, h2, h3, h4, h5⟩ := h
  unfold rlH
  have e1 := kC_p q (p := 6) (k := 1) (by omega) (by omega)
  have e2 := kC_p q (p := 6) (k := 2) (by omega) (by omega)
  rw [kM_f m (by omega) (by omega), kM_f m (by omega) (by omega), e1, e2, e_T q, e_H q]
  refine ⟨h1, h2, h3, h4, fun j g0 g1 => ?_⟩
  obtain ⟨a, b⟩ := h5 j g0 g1
  have hg : ∀ i, 0 ≤ i → i < 104 → gHis B j i = gHis A j i := fun i w0 w1 => by
    unfold gHis
    rw [e1, e2]
    exact kC_p q (by omega) (by omega)
  exact ⟨rowS_c a hR.2.1.2 hR.1.2 (by omega) hg (kM_p m (by omega) (by omega)) (fun p i w0 w1 w2 w3 => kM_p m (by omega) (by omega)) (fun i w0 w1 => kM_p m (by omega) (by omega)), rowK_c b (by omega) hg (kM_p m (by omega) (by omega)) (fun p i w0 w1 w2 w3 => kM_p m (by omega) (by omega))⟩
theorem q_N (q : kC A B) (m : kM σ τ) (hR : okR A) (h : rowS (vH A) (vT A) (gNow A) σ 0) : rowS (vH B) (vT B) (gNow B) τ 0 := by
  rw [e_H q, e_T q]
  exact rowS_c h hR.2.1.2 hR.1.2 (by omega) (fun i w0 w1 => kC_p q (by omega) w0) (kM_p m (by omega) (by omega)) (fun p i w0 w1 w2 w3 => kM_p m (by omega) (by omega)) (fun i w0 w1 => kM_p m (by omega) (by omega))
theorem q_K (q : kC A B) (m : kM σ τ) (h : rowK (gNow A) σ 0) : rowK (gNow B) τ 0 :=
  rowK_c h (by omega) (fun i w0 w1 => kC_p q (by omega) w0) (kM_p m (by omega) (by omega)) (fun p i w0 w1 w2 w3 => kM_p m (by omega) (by omega))
theorem q_M (q : kC A B) (m : kM σ τ) (hb : 0 ≤ hI σ 56 13) (h : rlM A σ) : rlM B τ := by
  unfold rlM
  rw [e_T q, e_H q, m_bank m, e_fl q]
  refine ⟨fun t g0 g1 => ?_, fun t g0 g1 => ?_⟩
  · rw [e_road q (by omega) g0, m.2 _ _ (by omega) (by omega) (by omega) (by omega) (by omega)]; exact h.1 t g0 g1
  · rw [e_road q (by omega) g0, m.2 _ _ (by omega) (by omega) (by omega) (by omega) (by omega)]; exact h.2 t g0 g1
end Y

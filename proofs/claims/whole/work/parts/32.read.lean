/-! MY OWN: what the state tells (A: the one side's state), and the readers of both sides -/
def vT (A : zS) : Int := hI A (rp A.2.2.2.1 + 0) 1
def vH (A : zS) : Int := hI A (rp A.2.2.2.1 + 0) 2
def vSeen (A : zS) : Int := hI A (rp A.2.2.2.1 + 0) 3
def vFine (A : zS) : Int := hI A (rp A.2.2.2.1 + 0) 4
def vGap (A : zS) (t : Int) : Int := hI A (rp A.2.2.2.1 + 2) t
def vCnt (A : zS) (t : Int) : Int := hI A (rp A.2.2.2.1 + 3) t
def vLen (A : zS) (t k : Int) : Int := hI A (rp A.2.2.2.1 + 4) (t * 4 + k)
def vWt (A : zS) (t k : Int) : Int := hI A (rp A.2.2.2.1 + 5) (t * 4 + k)
def vBr0 (A : zS) (h : Int) : Int := hI A (rp A.2.2.2.1 + 7) h
def vLau (A : zS) (h : Int) : Int := hI A (rp A.2.2.2.1 + 8) h
def vNext (A : zS) : Int := hI A 5 0
def vBr (A : zS) (h : Int) : Int := hI A 5 (50 + h)
def vGv (A : zS) (h : Int) : Int := hI A 5 (56 + h)
def vSc (A : zS) (h : Int) : Int := hI A 5 (62 + h)
def vTh (A : zS) (h t : Int) : Int := hI A 5 (68 + h * 6 + t)
/-- the road and the state are what they may be -/
def okR (A : zS) : Prop := (0 ≤ vT A ∧ vT A ≤ 6) ∧ (0 ≤ vH A ∧ vH A ≤ 6) ∧ (0 ≤ vSeen A ∧ vSeen A ≤ 100) ∧ (0 ≤ vFine A ∧ vFine A ≤ 999) ∧ (∀ t, 0 ≤ t → t < vT A → (0 ≤ vGap A t ∧ vGap A t ≤ 99) ∧ (1 ≤ vCnt A t ∧ vCnt A t ≤ 4) ∧ ∀ k, 0 ≤ k → k < vCnt A t → (1 ≤ vLen A t k ∧ vLen A t k ≤ 60) ∧ (1 ≤ vWt A t k ∧ vWt A t k ≤ 9)) ∧ (∀ h, 0 ≤ h → h < vH A → (1 ≤ vBr0 A h ∧ vBr0 A h ≤ 60) ∧ (0 ≤ vLau A h ∧ vLau A h ≤ 50))
def okN (A : zS) : Prop := (0 ≤ vNext A ∧ (vNext A < vT A ∨ vNext A = 0)) ∧ (∀ h, 0 ≤ h → h < vH A → (0 ≤ vBr A h ∧ vBr A h ≤ 60) ∧ (0 ≤ vGv A h ∧ vGv A h ≤ 60) ∧ (-99999 ≤ vSc A h ∧ vSc A h ≤ 99999) ∧ ∀ t, 0 ≤ t → t < vT A → 0 ≤ vTh A h t ∧ vTh A h t ≤ 60)
/-- the other side's road (in σ) is A's -/
def rlR (A σ : zS) : Prop := (0 ≤ hI σ 56 13 ∧ hI σ 56 13 ≤ 1) ∧ hI σ 58 (hI σ 56 13) = vT A ∧ hI σ 63 (hI σ 56 13) = vH A ∧ hI σ 72 (hI σ 56 13) = vSeen A ∧ hI σ 73 (hI σ 56 13) = vFine A ∧ (∀ t, 0 ≤ t → t < vT A → hI σ 59 (6 * hI σ 56 13 + t) = vGap A t ∧ hI σ 60 (6 * hI σ 56 13 + t) = vCnt A t ∧ ∀ k, 0 ≤ k → k < vCnt A t → hI σ 61 (4 * (6 * hI σ 56 13 + t) + k) = vLen A t k ∧ hI σ 62 (4 * (6 * hI σ 56 13 + t) + k) = vWt A t k) ∧ (∀ h, 0 ≤ h → h < vH A → hI σ 64 (6 * hI σ 56 13 + h) = vBr0 A h ∧ hI σ 65 (6 * hI σ 56 13 + h) = vLau A h)
def rlN (A σ : zS) : Prop := hI σ 85 0 = vNext A ∧ (∀ h, 0 ≤ h → h < vH A → hI σ 86 h = vBr A h ∧ hI σ 87 h = vGv A h ∧ hI σ 88 h = vSc A h ∧ ∀ t, 0 ≤ t → t < vT A → hI σ 89 (6 * h + t) = vTh A h t)
def sW (A : zS) (t : Int) : Int := zs (vWt A t) (vCnt A t)
def zmin (a b : Int) : Int := if b ≤ a then b else a
def zmax (a b : Int) : Int := if a ≤ b then b else a
def sHold (A : zS) (h t l : Int) : Int := if vTh A h t ≤ zmin (vBr A h) (vGv A h) then zmin l (zmin (vBr A h) (vGv A h)) else 0
theorem sW_b {A : zS} {t : Int} (hR : okR A) (h0 : 0 ≤ t) (h1 : t < vT A) : 1 ≤ sW A t ∧ sW A t ≤ 36 := by
  obtain ⟨-, -, -, -, h5, -⟩ := hR
  obtain ⟨-, ⟨hc, hc'⟩, h7⟩ := h5 t h0 h1
  have := zs_b (g := vWt A t) (a := 1) (b := 9) (k := vCnt A t) (by omega) (fun i hi hi' => (h7 i hi hi').2)
  unfold sW
  omega
theorem jmin_z {a b : Int} (h1 : -2147483648 ≤ a) (h2 : a < 2147483648) (h3 : -2147483648 ≤ b) (h4 : b < 2147483648) : fJ9_min_7cf53 (z32 a) (z32 b) = z32 (zmin a b) := by
  simp (disch := omega) only [fJ9_min_7cf53, z32_lt, zmin]
  by_cases h : b < a
  · rw [if_pos h, if_pos (by omega)]
  · rw [if_neg h]
    by_cases h' : b ≤ a
    · rw [if_pos h', show a = b by omega]
    · rw [if_neg h']
theorem jmax_z {a b : Int} (h1 : -2147483648 ≤ a) (h2 : a < 2147483648) (h3 : -2147483648 ≤ b) (h4 : b < 2147483648) : fJ9_max_7cf53 (z32 a) (z32 b) = z32 (zmax a b) := by
  simp (disch := omega) only [fJ9_max_7cf53, z32_lt, zmax]
  by_cases h : a < b
  · rw [if_pos h, if_pos (by omega)]
  · rw [if_neg h]
    by_cases h' : a ≤ b
    · rw [if_pos h', show a = b by omega]
    · rw [if_neg h']
theorem mles_z {a b : Int} (h1 : -2147483648 ≤ a) (h2 : a < 2147483648) (h3 : -2147483648 ≤ b) (h4 : b < 2147483648) : fX11_lesser (z32 a) (z32 b) = z32 (zmin a b) := by
  simp (disch := omega) only [fX11_lesser, z32_le, zmin]
  split <;> rfl
theorem cW_z {A : zS} {t : Int} (hR : okR A) (h0 : 0 ≤ t) (h1 : t < vT A) : fX6_allWeights A.2.2.2.1 A (z32 t) = some (z32 (sW A t)) := by
  obtain ⟨h2, -, -, -, h5, -⟩ := hR
  obtain ⟨-, ⟨hc, hc'⟩, h7⟩ := h5 t h0 h1
  refine zup0 (L := fun f k a => fX6_allWeights_4 A.2.2.2.1 A f (z32 t) (z32 a) (z32 k)) (n := vCnt A t) (zs (vWt A t)) (by omega) (by omega) ?_ ?_
  · intro f k hk hk'
    have e : hI A (rp A.2.2.2.1 + 3) t = vCnt A t := rfl
    have e' : hI A (rp A.2.2.2.1 + 5) (t * 4 + k) = vWt A t k := rfl
    simp (disch := omega) only [fX6_allWeights_4, fX6_weightAt, aI_h, z32_add, z32_sub, z32_mul, z32_neg, z32_litn, z32_lt, z32_le, z32_eq, e, e', if_neg, bnr_s, zs_s]
  · intro f
    have e : hI A (rp A.2.2.2.1 + 3) t = vCnt A t := rfl
    simp (disch := omega) only [fX6_allWeights_4, aI_h, z32_add, z32_sub, z32_mul, z32_neg, z32_litn, z32_lt, z32_le, z32_eq, e, if_pos, sW]
theorem mW_z {A σ : zS} {t : Int} (hR : okR A) (hr : rlR A σ) (h0 : 0 ≤ t) (h1 : t < vT A) : fX11_weights σ (z32 t) = some (z32 (sW A t)) := by
  obtain ⟨h2, -, -, -, h5, -⟩ := hR
  obtain ⟨-, ⟨hc, hc'⟩, h7⟩ := h5 t h0 h1
  obtain ⟨r1, -, -, -, -, r6, -⟩ := hr
  obtain ⟨-, r8, r9⟩ := r6 t h0 h1
  refine zup0 (L := fun f k a => fX11_weights_4 σ f (z32 t) (z32 a) (z32 k)) (n := vCnt A t) (zs (vWt A t)) (by omega) (by omega) ?_ ?_
  · intro f k hk hk'
    obtain ⟨-, e'⟩ := r9 k hk hk'
    simp (disch := omega) only [fX11_weights_4, fX11_lengthsOf, fX11_weightAt, iG_h, aI_h, z32_add, z32_sub, z32_mul, z32_neg, z32_litn, z32_lt, z32_le, z32_eq, r8, e', if_neg, bnr_s, zs_s]
  · intro f
    simp (disch := omega) only [fX11_weights_4, fX11_lengthsOf, iG_h, aI_h, z32_add, z32_sub, z32_mul, z32_neg, z32_litn, z32_lt, z32_le, z32_eq, r8, if_pos, bnr_s, sW]

/-! MY OWN: what stays over a question; what holding is worth, both sides -/
def kC (A A' : zS) : Prop := A'.2.2 = A.2.2 ∧ ∀ p k, p < 56 → 0 ≤ k → ¬ (25 ≤ p ∧ p ≤ 31) → p ≠ rp A.2.2.2.1 + 13 → (p = rp A.2.2.2.1 + 11 → k ≠ 2) → hI A' p k = hI A p k
def kM (σ σ' : zS) : Prop := (∀ p k, 56 ≤ p → 0 ≤ k → p ≠ 96 → p ≠ 98 → p ≠ 101 → (p = 56 → k < 61 ∨ 68 < k) → hI σ' p k = hI σ p k) ∧ (∀ p k, 56 ≤ p → 0 ≤ k → p ≠ 95 → p ≠ 97 → (p = 56 → k ≠ 69) → hL σ' p k = hL σ p k)
def kO (A A' : zS) : Prop := ∀ p k, 27 ≤ p → p ≤ 31 → 0 ≤ k → hI A' p k = hI A p k ∧ hL A' p k = hL A p k
/-- a question of the one side (the other's cells as they were), of the other side -/
def qC (A A' : zS) : Prop := kC A A' ∧ (∀ p k, 56 ≤ p → 0 ≤ k → hI A' p k = hI A p k ∧ hL A' p k = hL A p k)
def qM (σ σ' : zS) : Prop := kM σ σ' ∧ σ'.2.2 = σ.2.2 ∧ (∀ p k, p < 56 → 0 ≤ k → hI σ' p k = hI σ p k ∧ hL σ' p k = hL σ p k)
theorem kC_r (A : zS) : kC A A := ⟨rfl, fun _ _ _ _ _ _ _ => rfl⟩
theorem kC_t {A B C : zS} (h1 : kC A B) (h2 : kC B C) : kC A C := by
  refine ⟨h2.1.trans h1.1, fun p k a b c d e => ?_⟩
  have e1 : B.2.2.2.1 = A.2.2.2.1 := by rw [h1.1]
  rw [h2.2 p k a b c (by rw [e1]; exact d) (by rw [e1]; exact e), h1.2 p k a b c d e]
theorem kM_r (A : zS) : kM A A := ⟨fun _ _ _ _ _ _ _ _ => rfl, fun _ _ _ _ _ _ _ => rfl⟩
theorem kM_t {A B C : zS} (h1 : kM A B) (h2 : kM B C) : kM A C :=
  ⟨fun p k a b c d e f => (h2.1 p k a b c d e f).trans (h1.1 p k a b c d e f), fun p k a b c d e => (h2.2 p k a b c d e).trans (h1.2 p k a b c d e)⟩
theorem qC_r (A : zS) : qC A A := ⟨kC_r A, fun _ _ _ _ => ⟨rfl, rfl⟩⟩
theorem qC_t {A B C : zS} (h1 : qC A B) (h2 : qC B C) : qC A C :=
  ⟨kC_t h1.1 h2.1, fun p k a b => ⟨(h2.2 p k a b).1.trans (h1.2 p k a b).1, (h2.2 p k a b).2.trans (h1.2 p k a b).2⟩⟩
theorem qM_r (A : zS) : qM A A := ⟨kM_r A, rfl, fun _ _ _ _ => ⟨rfl, rfl⟩⟩
theorem qM_t {A B C : zS} (h1 : qM A B) (h2 : qM B C) : qM A C :=
  ⟨kM_t h1.1 h2.1, h2.2.1.trans h1.2.1, fun p k a b => ⟨(h2.2.2 p k a b).1.trans (h1.2.2 p k a b).1, (h2.2.2 p k a b).2.trans (h1.2.2 p k a b).2⟩⟩
theorem kO_r (A : zS) : kO A A := fun _ _ _ _ _ => ⟨rfl, rfl⟩
theorem kO_t {A B C : zS} (h1 : kO A B) (h2 : kO B C) : kO A C :=
  fun p k a b c => ⟨(h2 p k a b c).1.trans (h1 p k a b c).1, (h2 p k a b c).2.trans (h1 p k a b c).2⟩
theorem qC_M {A B : zS} (h : qC A B) : kM A B := ⟨fun p k a b _ _ _ _ => (h.2 p k a b).1, fun p k a b _ _ _ => (h.2 p k a b).2⟩
theorem qM_C {A B : zS} (h : qM A B) : kC A B := ⟨h.2.1, fun p k a b _ _ _ => (h.2.2 p k a b).1⟩
theorem qM_O {A B : zS} (h : qM A B) : kO A B := fun p k _ b c => h.2.2 p k (by omega) c
/-- only the two rows of holding and of facts differ -/
def oH (A B : zS) : Prop := B.2.2 = A.2.2 ∧ (∀ p k, hL B p k = hL A p k) ∧ ∀ p k, p ≠ 25 → p ≠ 26 → hI B p k = hI A p k
theorem oH_r (A : zS) : oH A A := ⟨rfl, fun _ _ => rfl, fun _ _ _ _ => rfl⟩
theorem oH_t {A B C : zS} (h1 : oH A B) (h2 : oH B C) : oH A C := ⟨h2.1.trans h1.1, fun p k => (h2.2.1 p k).trans (h1.2.1 p k), fun p k a b => (h2.2.2 p k a b).trans (h1.2.2 p k a b)⟩
theorem oH_25 {A : zS} {i v : Int} : oH A (jS A 25 i v) := ⟨rfl, fun _ _ => rfl, fun p k a _ => hI_jS_ne a⟩
theorem oH_26 {A : zS} {i v : Int} : oH A (jS A 26 i v) := ⟨rfl, fun _ _ => rfl, fun p k _ a => hI_jS_ne a⟩
theorem oH_q {A B : zS} (h : oH A B) : qC A B ∧ kO A B := ⟨⟨⟨h.1, fun p k _ _ c _ _ => h.2.2 p k (by omega) (by omega)⟩, fun p k a _ => ⟨h.2.2 p k (by omega) (by omega), h.2.1 p k⟩⟩, fun p k a b _ => ⟨h.2.2 p k (by omega) (by omega), h.2.1 p k⟩⟩
theorem sX_q {A B : zS} (h : sameX A.2.2.2.1 A B) : qC A B ∧ kO A B := by
  have hrp := rp_or A.2.2.2.1
  exact ⟨⟨⟨h.1, fun p k _ b _ d e => h.2.2 p k d e b⟩, fun p k a b => ⟨h.2.2 p k (by omega) (by omega) b, h.2.1 p k⟩⟩, fun p k a b c => ⟨h.2.2 p k (by omega) (by omega) c, h.2.1 p k⟩⟩
section K
variable {A B σ τ : zS} {t h k : Int}
theorem e_fl (q : kC A B) : B.2.2.2.1 = A.2.2.2.1 := by rw [q.1]
theorem e_road (q : kC A B) {n : Nat} (hn : n ≤ 10) (hk : 0 ≤ k) : hI B (rp A.2.2.2.1 + n) k = hI A (rp A.2.2.2.1 + n) k := by
  have hrp := rp_or A.2.2.2.1
  exact q.2 _ _ (by omega) hk (by omega) (by omega) (by omega)
theorem e_T (q : kC A B) : vT B = vT A := by unfold vT; rw [e_fl q, e_road q (by omega) (by omega)]
theorem e_H (q : kC A B) : vH B = vH A := by unfold vH; rw [e_fl q, e_road q (by omega) (by omega)]
theorem e_Seen (q : kC A B) : vSeen B = vSeen A := by unfold vSeen; rw [e_fl q, e_road q (by omega) (by omega)]
theorem e_Fine (q : kC A B) : vFine B = vFine A := by unfold vFine; rw [e_fl q, e_road q (by omega) (by omega)]
theorem e_Gap (q : kC A B) (h0 : 0 ≤ t) : vGap B t = vGap A t := by unfold vGap; rw [e_fl q, e_road q (by omega) (by omega)]
theorem e_Cnt (q : kC A B) (h0 : 0 ≤ t) : vCnt B t = vCnt A t := by unfold vCnt; rw [e_fl q, e_road q (by omega) (by omega)]
theorem e_Len (q : kC A B) (h0 : 0 ≤ t) (h1 : 0 ≤ k) : vLen B t k = vLen A t k := by unfold vLen; rw [e_fl q, e_road q (by omega) (by omega)]
theorem e_Wt (q : kC A B) (h0 : 0 ≤ t) (h1 : 0 ≤ k) : vWt B t k = vWt A t k := by unfold vWt; rw [e_fl q, e_road q (by omega) (by omega)]
theorem e_Br0 (q : kC A B) (h0 : 0 ≤ h) : vBr0 B h = vBr0 A h := by unfold vBr0; rw [e_fl q, e_road q (by omega) (by omega)]
theorem e_Lau (q : kC A B) (h0 : 0 ≤ h) : vLau B h = vLau A h := by unfold vLau; rw [e_fl q, e_road q (by omega) (by omega)]
theorem e_row (q : kC A B) (hk : 0 ≤ k) : hI B 5 k = hI A 5 k := by
  have hrp := rp_or A.2.2.2.1
  exact q.2 _ _ (by omega) hk (by omega) (by omega) (by omega)
theorem e_Next (q : kC A B) : vNext B = vNext A := by unfold vNext; rw [e_row q (by omega)]
theorem e_Br (q : kC A B) (h0 : 0 ≤ h) : vBr B h = vBr A h := by unfold vBr; rw [e_row q (by omega)]
theorem e_Gv (q : kC A B) (h0 : 0 ≤ h) : vGv B h = vGv A h := by unfold vGv; rw [e_row q (by omega)]
theorem e_Sc (q : kC A B) (h0 : 0 ≤ h) : vSc B h = vSc A h := by unfold vSc; rw [e_row q (by omega)]
theorem e_Th (q : kC A B) (h0 : 0 ≤ h) (h1 : 0 ≤ t) : vTh B h t = vTh A h t := by unfold vTh; rw [e_row q (by omega)]
theorem e_hold {l : Int} (q : kC A B) (h0 : 0 ≤ h) (h1 : 0 ≤ t) : sHold B h t l = sHold A h t l := by
  unfold sHold; rw [e_Br q h0, e_Gv q h0, e_Th q h0 h1]
theorem e_W (q : kC A B) (h0 : 0 ≤ t) : sW B t = sW A t := by
  unfold sW; rw [e_Cnt q h0]; exact zs_c (fun i g _ => e_Wt q h0 g)
theorem e_okR (q : kC A B) (hR : okR A) : okR B := by
  obtain ⟨h1, h2, h3, h4, h5, h6⟩ := hR
  refine ⟨by rw [e_T q]; exact h1, by rw [e_H q]; exact h2, by rw [e_Seen q]; exact h3, by rw [e_Fine q]; exact h4, fun t g0 g1 => ?_, fun h g0 g1 => ?_⟩
  · rw [e_T q] at g1
    rw [e_Gap q g0, e_Cnt q g0]
    obtain ⟨j1, j2, j3⟩ := h5 t g0 g1
    exact ⟨j1, j2, fun k w1 w2 => by rw [e_Len q g0 w1, e_Wt q g0 w1]; exact j3 k w1 w2⟩
  · rw [e_H q] at g1
    rw [e_Br0 q g0, e_Lau q g0]
    exact h6 h g0 g1
theorem e_okN (q : kC A B) (hN : okN A) : okN B := by
  obtain ⟨h1, h2⟩ := hN
  refine ⟨by rw [e_T q, e_Next q]; exact h1, fun h g0 g1 => ?_⟩
  rw [e_H q] at g1
  obtain ⟨j1, j2, j3, j4⟩ := h2 h g0 g1
  refine ⟨by rw [e_Br q g0]; exact j1, by rw [e_Gv q g0]; exact j2, by rw [e_Sc q g0]; exact j3, fun t w1 w2 => ?_⟩
  rw [e_T q] at w2
  rw [e_Th q g0 w1]
  exact j4 t w1 w2
theorem e_sum {w : Int} {o : Option ((Int → Int) → Int)} (q : kC A B) (hw : 0 ≤ w) (hs : cSum A w o) : cSum B w o := by
  have hrp := rp_or A.2.2.2.1
  have e1 : hI B (rp B.2.2.2.1 + 14) w = hI A (rp A.2.2.2.1 + 14) w := by
    rw [e_fl q]; exact q.2 _ _ (by omega) hw (by omega) (by omega) (by omega)
  have e2 : hI B (rp B.2.2.2.1 + 15) w = hI A (rp A.2.2.2.1 + 15) w := by
    rw [e_fl q]; exact q.2 _ _ (by omega) hw (by omega) (by omega) (by omega)
  cases o with
  | none =>
    obtain ⟨h1, h2⟩ := hs
    exact ⟨e1.trans h1, e2.trans h2⟩
  | some F =>
    obtain ⟨h1, h2, h3⟩ := hs
    refine ⟨?_, by rw [e2]; exact h2, h3⟩
    rw [e1, e2, e_fl q]
    refine cSeg_cong h1 (fun i g1 g2 => ?_)
    have := h1.1
    exact q.2 _ _ (by omega) (by omega) (by omega) (by omega) (by omega)
theorem m_bank (q : kM σ τ) : hI τ 56 13 = hI σ 56 13 := q.1 _ _ (by omega) (by omega) (by omega) (by omega) (by omega) (by omega)
theorem m_rlR (q : kM σ τ) (hr : rlR A σ) (hR : okR A) : rlR A τ := by
  obtain ⟨h1, h2, h3, h4, h5, h6, h7⟩ := hr
  have eb := m_bank q
  have ge : ∀ p k, 57 ≤ p → p ≤ 94 → 0 ≤ k → hI τ p k = hI σ p k := fun p k a b c => q.1 p k (by omega) c (by omega) (by omega) (by omega) (by omega)
  unfold rlR
  rw [eb]
  refine ⟨h1, by rw [ge _ _ (by omega) (by omega) (by omega)]; exact h2, by rw [ge _ _ (by omega) (by omega) (by omega)]; exact h3, by rw [ge _ _ (by omega) (by omega) (by omega)]; exact h4, by rw [ge _ _ (by omega) (by omega) (by omega)]; exact h5, fun t g0 g1 => ?_, fun h g0 g1 => ?_⟩
  · obtain ⟨j1, j2, j3⟩ := h6 t g0 g1
    refine ⟨by rw [ge _ _ (by omega) (by omega) (by omega)]; exact j1, by rw [ge _ _ (by omega) (by omega) (by omega)]; exact j2, fun k w0 w1 => ?_⟩
    obtain ⟨j4, j5⟩ := j3 k w0 w1
    exact ⟨by rw [ge _ _ (by omega) (by omega) (by omega)]; exact j4, by rw [ge _ _ (by omega) (by omega) (by omega)]; exact j5⟩
  · obtain ⟨j1, j2⟩ := h7 h g0 g1
    exact ⟨by rw [ge _ _ (by omega) (by omega) (by omega)]; exact j1, by rw [ge _ _ (by omega) (by omega) (by omega)]; exact j2⟩
theorem m_rlN (q : kM σ τ) (hn : rlN A σ) : rlN A τ := by
  obtain ⟨h1, h2⟩ := hn
  have ge : ∀ p k, 57 ≤ p → p ≤ 94 → 0 ≤ k → hI τ p k = hI σ p k := fun p k a b c => q.1 p k (by omega) c (by omega) (by omega) (by omega) (by omega)
  refine ⟨by rw [ge _ _ (by omega) (by omega) (by omega)]; exact h1, fun h g0 g1 => ?_⟩
  obtain ⟨j1, j2, j3, j4⟩ := h2 h g0 g1
  refine ⟨by rw [ge _ _ (by omega) (by omega) (by omega)]; exact j1, by rw [ge _ _ (by omega) (by omega) (by omega)]; exact j2, by rw [ge _ _ (by omega) (by omega) (by omega)]; exact j3, fun t w0 w1 => ?_⟩
  rw [ge _ _ (by omega) (by omega) (by omega)]
  exact j4 t w0 w1
theorem m_sum {p q' : Nat} {o : Option ((Int → Int) → Int)} (q : kM σ τ) (h0 : 0 ≤ hI σ 56 13) (hp : 57 ≤ p) (hp' : p ≤ 94) (hq : 57 ≤ q') (hq' : q' ≤ 94) (hs : mSum σ p q' o) : mSum τ p q' o := by
  have ge : ∀ p k, 57 ≤ p → p ≤ 94 → 0 ≤ k → hI τ p k = hI σ p k := fun p k a b c => q.1 p k (by omega) c (by omega) (by omega) (by omega) (by omega)
  have eb := m_bank q
  cases o with
  | none =>
    show hI τ p (hI τ 56 13) = -1
    rw [eb, ge _ _ hp hp' h0]; exact hs
  | some F =>
    obtain ⟨h1, h2, h3, h4⟩ := hs
    refine ⟨?_, by rw [eb, ge _ _ hp hp' h0]; exact h2, by rw [eb, ge _ _ hq hq' h0]; exact h3, h4⟩
    rw [eb, ge _ _ hp hp' h0, ge _ _ hq hq' h0]
    refine mSeg_cong h1 (fun i g1 g2 => ?_)
    exact ⟨ge _ _ (by omega) (by omega) (by omega), ge _ _ (by omega) (by omega) (by omega)⟩
end K

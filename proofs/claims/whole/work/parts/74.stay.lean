/-! MY OWN: what holds between calls, part by part, and when it stays -/
def sm (P : Nat → Int → Prop) (σ τ : zS) : Prop := ∀ p k, 0 ≤ k → P p k → hI τ p k = hI σ p k ∧ (56 ≤ p → hL τ p k = hL σ p k)
def fpC (d : Bool) (p : Nat) (_ : Int) : Prop := (rp d ≤ p ∧ p ≤ rp d + 10) ∨ p = rp d + 12 ∨ p = rp d + 14 ∨ p = rp d + 15
def fpM (b : Int) (p : Nat) (k : Int) : Prop := (p = 56 ∧ k = 13) ∨ ((p = 58 ∨ p = 63 ∨ (68 ≤ p ∧ p ≤ 73)) ∧ k = b) ∨ ((p = 59 ∨ p = 60 ∨ p = 64 ∨ p = 65 ∨ p = 76 ∨ p = 77) ∧ 6 * b ≤ k ∧ k < 6 * b + 6) ∨ ((p = 61 ∨ p = 62) ∧ 24 * b ≤ k ∧ k < 24 * b + 24) ∨ ((p = 74 ∨ p = 75) ∧ 1600 * b ≤ k ∧ k < 1600 * b + 1600)
def jE (σ τ : zS) : Prop := τ.2.2.2.1 = σ.2.2.2.1 ∧ sm (fpC σ.2.2.2.1) σ τ
section IV
variable {A B σ τ υ : zS} {P Q : Nat → Int → Prop} {oW oT : Option ((Int → Int) → Int)} {t h k : Int}
theorem sm_r : sm P σ σ := fun _ _ _ _ => ⟨rfl, fun _ => rfl⟩
theorem sm_t (h1 : sm P σ τ) (h2 : sm P τ υ) : sm P σ υ := fun p k a b => ⟨(h2 p k a b).1.trans (h1 p k a b).1, fun g => ((h2 p k a b).2 g).trans ((h1 p k a b).2 g)⟩
theorem sm_f (h : fr Q σ τ) (hp : ∀ p k, 0 ≤ k → P p k → ¬ Q p k) : sm P σ τ := fun p k a b => ⟨(h.2 p k a (hp p k a b)).1, fun _ => (h.2 p k a (hp p k a b)).2⟩
theorem sm_m (h : sm Q σ τ) (hp : ∀ p k, 0 ≤ k → P p k → Q p k) : sm P σ τ := fun p k a b => h p k a (hp p k a b)
theorem jE_r : jE σ σ := ⟨rfl, sm_r⟩
theorem jE_t (h1 : jE σ τ) (h2 : jE τ υ) : jE σ υ := ⟨h2.1.trans h1.1, sm_t h1.2 (by have := h2.2; rw [h1.1] at this; exact this)⟩
theorem jE_f (h : fr Q σ τ) (hp : ∀ p k, 0 ≤ k → fpC σ.2.2.2.1 p k → ¬ Q p k) : jE σ τ := ⟨by rw [h.1], sm_f h hp⟩
theorem j_fl (q : jE A B) : B.2.2.2.1 = A.2.2.2.1 := q.1
theorem j_road (q : jE A B) {n : Nat} (hn : n ≤ 10) (hk : 0 ≤ k) : hI B (rp A.2.2.2.1 + n) k = hI A (rp A.2.2.2.1 + n) k := (q.2 _ _ hk (by unfold fpC; omega)).1
theorem j_T (q : jE A B) : vT B = vT A := by unfold vT; rw [j_fl q, j_road q (by omega) (by omega)]
theorem j_H (q : jE A B) : vH B = vH A := by unfold vH; rw [j_fl q, j_road q (by omega) (by omega)]
theorem j_Seen (q : jE A B) : vSeen B = vSeen A := by unfold vSeen; rw [j_fl q, j_road q (by omega) (by omega)]
theorem j_Fine (q : jE A B) : vFine B = vFine A := by unfold vFine; rw [j_fl q, j_road q (by omega) (by omega)]
theorem j_Gap (q : jE A B) (h0 : 0 ≤ t) : vGap B t = vGap A t := by unfold vGap; rw [j_fl q, j_road q (by omega) (by omega)]
theorem j_Cnt (q : jE A B) (h0 : 0 ≤ t) : vCnt B t = vCnt A t := by unfold vCnt; rw [j_fl q, j_road q (by omega) (by omega)]
theorem j_Len (q : jE A B) (h0 : 0 ≤ t) (h1 : 0 ≤ k) : vLen B t k = vLen A t k := by unfold vLen; rw [j_fl q, j_road q (by omega) (by omega)]
theorem j_Wt (q : jE A B) (h0 : 0 ≤ t) (h1 : 0 ≤ k) : vWt B t k = vWt A t k := by unfold vWt; rw [j_fl q, j_road q (by omega) (by omega)]
theorem j_Br0 (q : jE A B) (h0 : 0 ≤ h) : vBr0 B h = vBr0 A h := by unfold vBr0; rw [j_fl q, j_road q (by omega) (by omega)]
theorem j_Lau (q : jE A B) (h0 : 0 ≤ h) : vLau B h = vLau A h := by unfold vLau; rw [j_fl q, j_road q (by omega) (by omega)]
theorem j_W (q : jE A B) (h0 : 0 ≤ t) : sW B t = sW A t := by
  unfold sW; rw [j_Cnt q h0]; exact zs_c (fun i g _ => j_Wt q h0 g)
theorem j_okR (q : jE A B) (hR : okR A) : okR B := by
  obtain ⟨h1, h2, h3, h4, h5, h6⟩ := hR
  refine ⟨by rw [j_T q]; exact h1, by rw [j_H q]; exact h2, by rw [j_Seen q]; exact h3, by rw [j_Fine q]; exact h4, fun t g0 g1 => ?_, fun h g0 g1 => ?_⟩
  · rw [j_T q] at g1
    rw [j_Gap q g0, j_Cnt q g0]
    obtain ⟨j1, j2, j3⟩ := h5 t g0 g1
    exact ⟨j1, j2, fun k w1 w2 => by rw [j_Len q g0 w1, j_Wt q g0 w1]; exact j3 k w1 w2⟩
  · rw [j_H q] at g1
    rw [j_Br0 q g0, j_Lau q g0]
    exact h6 h g0 g1
theorem j_sum {w : Int} {o : Option ((Int → Int) → Int)} (q : jE A B) (hw : 0 ≤ w) (hs : cSum A w o) : cSum B w o := by
  have e1 : hI B (rp B.2.2.2.1 + 14) w = hI A (rp A.2.2.2.1 + 14) w := by
    rw [j_fl q]; exact (q.2 _ _ hw (by unfold fpC; omega)).1
  have e2 : hI B (rp B.2.2.2.1 + 15) w = hI A (rp A.2.2.2.1 + 15) w := by
    rw [j_fl q]; exact (q.2 _ _ hw (by unfold fpC; omega)).1
  cases o with
  | none =>
    obtain ⟨h1, h2⟩ := hs
    exact ⟨e1.trans h1, e2.trans h2⟩
  | some F =>
    obtain ⟨h1, h2, h3⟩ := hs
    refine ⟨?_, by rw [e2]; exact h2, h3⟩
    rw [e1, e2, j_fl q]
    refine cSeg_cong h1 (fun i g1 g2 => ?_)
    have := h1.1
    exact (q.2 _ _ (by omega) (by unfold fpC; omega)).1
theorem iv_rlR (q : jE A B) (m : sm (fpM (hI σ 56 13)) σ τ) (hR : okR A) (hr : rlR A σ) : rlR B τ := by
  obtain ⟨h1, h2, h3, h4, h5, h6, h7⟩ := hr
  have hT := hR.1
  have hH := hR.2.1
  have eb : hI τ 56 13 = hI σ 56 13 := (m _ _ (by omega) (by unfold fpM; omega)).1
  unfold rlR
  rw [eb, j_T q, j_H q, j_Seen q, j_Fine q]
  refine ⟨h1, by rw [(m _ _ (by omega) (by unfold fpM; omega)).1]; exact h2, by rw [(m _ _ (by omega) (by unfold fpM; omega)).1]; exact h3, by rw [(m _ _ (by omega) (by unfold fpM; omega)).1]; exact h4, by rw [(m _ _ (by omega) (by unfold fpM; omega)).1]; exact h5, fun t g0 g1 => ?_, fun h g0 g1 => ?_⟩
  · obtain ⟨j1, j2, j3⟩ := h6 t g0 g1
    have hc := (hR.2.2.2.2.1 t g0 g1).2.1
    rw [j_Gap q g0, j_Cnt q g0]
    refine ⟨by rw [(m _ _ (by omega) (by unfold fpM; omega)).1]; exact j1, by rw [(m _ _ (by omega) (by unfold fpM; omega)).1]; exact j2, fun k w0 w1 => ?_⟩
    obtain ⟨j4, j5⟩ := j3 k w0 w1
    rw [j_Len q g0 w0, j_Wt q g0 w0]
    exact ⟨by rw [(m _ _ (by omega) (by unfold fpM; omega)).1]; exact j4, by rw [(m _ _ (by omega) (by unfold fpM; omega)).1]; exact j5⟩
  · obtain ⟨j1, j2⟩ := h7 h g0 g1
    rw [j_Br0 q g0, j_Lau q g0]
    exact ⟨by rw [(m _ _ (by omega) (by unfold fpM; omega)).1]; exact j1, by rw [(m _ _ (by omega) (by unfold fpM; omega)).1]; exact j2⟩
theorem iv_mSum {p q' : Nat} {o : Option ((Int → Int) → Int)} (m : sm (fpM (hI σ 56 13)) σ τ) (h0 : 0 ≤ hI σ 56 13) (hp : 68 ≤ p) (hp' : p ≤ 73) (hq : 68 ≤ q') (hq' : q' ≤ 73) (hs : mSum σ p q' o) : mSum τ p q' o := by
  have eb : hI τ 56 13 = hI σ 56 13 := (m _ _ (by omega) (by unfold fpM; omega)).1
  have ep : hI τ p (hI σ 56 13) = hI σ p (hI σ 56 13) := (m _ _ h0 (by unfold fpM; omega)).1
  have eq : hI τ q' (hI σ 56 13) = hI σ q' (hI σ 56 13) := (m _ _ h0 (by unfold fpM; omega)).1
  cases o with
  | none =>
    show hI τ p (hI τ 56 13) = -1
    rw [eb, ep]; exact hs
  | some F =>
    obtain ⟨h1, h2, h3, h4⟩ := hs
    refine ⟨?_, by rw [eb, ep]; exact h2, by rw [eb, eq]; exact h3, h4⟩
    rw [eb, ep, eq]
    refine mSeg_cong h1 (fun i g1 g2 => ?_)
    exact ⟨(m _ _ (by omega) (by unfold fpM; omega)).1, (m _ _ (by omega) (by unfold fpM; omega)).1⟩
theorem iv_rlM (q : jE A B) (m : sm (fpM (hI σ 56 13)) σ τ) (hR : okR A) (hb : 0 ≤ hI σ 56 13) (h : rlM A σ) : rlM B τ := by
  have hT := hR.1
  have hH := hR.2.1
  have eb : hI τ 56 13 = hI σ 56 13 := (m _ _ (by omega) (by unfold fpM; omega)).1
  unfold rlM
  rw [j_T q, j_H q, eb, j_fl q]
  refine ⟨fun t g0 g1 => ?_, fun t g0 g1 => ?_⟩
  · rw [j_road q (by omega) g0, (m _ _ (by omega) (by unfold fpM; omega)).2 (by omega)]; exact h.1 t g0 g1
  · rw [j_road q (by omega) g0, (m _ _ (by omega) (by unfold fpM; omega)).2 (by omega)]; exact h.2 t g0 g1
def IR (oW oT : Option ((Int → Int) → Int)) (σ : zS) : Prop := okR σ ∧ rlR σ σ ∧ cSum σ 0 oW ∧ cSum σ 1 oT ∧ mSum σ 68 69 oW ∧ mSum σ 70 71 oT ∧ rlM σ σ
theorem iv_R (q : jE σ τ) (m : sm (fpM (hI σ 56 13)) σ τ) (h : IR oW oT σ) : IR oW oT τ := by
  obtain ⟨h1, h2, h3, h4, h5, h6, h7⟩ := h
  have hb := h2.1.1
  exact ⟨j_okR q h1, iv_rlR q m h1 h2, j_sum q (by omega) h3, j_sum q (by omega) h4, iv_mSum m hb (by omega) (by omega) (by omega) (by omega) h5, iv_mSum m hb (by omega) (by omega) (by omega) (by omega) h6, iv_rlM q m h1 hb h7⟩
-- the row
def fpN (p : Nat) (k : Int) : Prop := p = 5 ∨ ((p = 85 ∨ p = 90) ∧ k = 0) ∨ ((86 ≤ p ∧ p ≤ 88) ∧ k < 6) ∨ (p = 89 ∧ k < 36) ∨ ((91 ≤ p ∧ p ≤ 94) ∧ k < 48)
def IN (σ : zS) : Prop := rowS (vH σ) (vT σ) (gNow σ) σ 0 ∧ rowK (gNow σ) σ 0
theorem iv_N (q : jE σ τ) (m : sm fpN σ τ) (hR : okR σ) (h : IN σ) : IN τ := by
  have hT := hR.1
  have hH := hR.2.1
  have eg : ∀ i, 0 ≤ i → i < 104 → gNow τ i = gNow σ i := fun i g0 g1 => (m 5 i g0 (by unfold fpN; omega)).1
  refine ⟨?_, rowK_c h.2 (by omega) eg (m _ _ (by omega) (by unfold fpN; omega)).1 (fun p i w0 w1 w2 w3 => (m _ _ (by omega) (by unfold fpN; omega)).1)⟩
  rw [j_H q, j_T q]
  exact rowS_c h.1 hH.2 hT.2 (by omega) eg (m _ _ (by omega) (by unfold fpN; omega)).1 (fun p i w0 w1 w2 w3 => (m _ _ (by omega) (by unfold fpN; omega)).1) (fun i w0 w1 => (m _ _ (by omega) (by unfold fpN; omega)).1)
-- the rest
def fpT (p : Nat) (k : Int) : Prop := p = 2 ∨ p = 3 ∨ p = 57 ∨ (p = 56 ∧ k = 1)
theorem iv_T (m : sm fpT σ τ) (h : rlT σ σ) : rlT τ τ := by
  obtain ⟨h1, h2, h3⟩ := h
  have e2 := (m 2 1 (by omega) (by unfold fpT; omega)).1
  refine ⟨by rw [(m 56 1 (by omega) (by unfold fpT; omega)).1, e2]; exact h1, by rw [e2]; exact h2, fun k g0 g1 => ?_⟩
  rw [(m 57 k g0 (by unfold fpT; omega)).1, tx_c (m 3 k g0 (by unfold fpT; omega)).1]; exact h3 k g0 g1
def fpS (p : Nat) (k : Int) : Prop := (p = 1 ∧ k = 10) ∨ (p = 56 ∧ k = 59)
theorem iv_S (m : sm fpS σ τ) (h : rlS σ σ) : rlS τ τ := by
  have e := (m 1 10 (by omega) (by unfold fpS; omega)).1
  exact ⟨by rw [(m 56 59 (by omega) (by unfold fpS; omega)).2 (by omega), e]; exact h.1, by rw [e]; exact h.2⟩
def fpF (p : Nat) (_ : Int) : Prop := p = 37 ∨ p = 84
theorem iv_F (m : sm fpF σ τ) (h : rlF σ σ) : rlF τ τ := fun k g0 g1 => by
  rw [(m 84 k g0 (by unfold fpF; omega)).1, (m 37 k g0 (by unfold fpF; omega)).1]; exact h k g0 g1
def fpU (p : Nat) (k : Int) : Prop := (p = 54 ∧ (k = 9 ∨ k = 10)) ∨ (p = 56 ∧ (k = 10 ∨ k = 11))
theorem iv_U (m : sm fpU σ τ) (h : rlU σ σ) : rlU τ τ :=
  ⟨by rw [(m 56 10 (by omega) (by unfold fpU; omega)).1, (m 54 9 (by omega) (by unfold fpU; omega)).1]; exact h.1, by rw [(m 56 11 (by omega) (by unfold fpU; omega)).1, (m 54 10 (by omega) (by unfold fpU; omega)).1]; exact h.2⟩
def fpP (p : Nat) (k : Int) : Prop := p = 35 ∨ p = 36 ∨ p = 102 ∨ (p = 56 ∧ k = 78)
theorem iv_P (m : sm fpP σ τ) (h : rlP σ σ) : rlP τ τ := by
  obtain ⟨h1, h2, h3⟩ := h
  have e := (m 35 1 (by omega) (by unfold fpP; omega)).1
  unfold rlP
  rw [(m 56 78 (by omega) (by unfold fpP; omega)).1, e]
  exact ⟨h1, h2, fun k g0 g1 => by rw [(m 102 k g0 (by unfold fpP; omega)).1, (m 36 k g0 (by unfold fpP; omega)).1]; exact h3 k g0 g1⟩
def fpQ (p : Nat) (k : Int) : Prop := (32 ≤ p ∧ p ≤ 34) ∨ p = 99 ∨ p = 100 ∨ (p = 56 ∧ (k = 72 ∨ k = 73))
theorem iv_C (q : jE σ τ) (m : sm fpQ σ τ) (h : rlC σ σ) : rlC τ τ := by
  obtain ⟨h1, h2, h3, h4⟩ := h
  unfold rlC
  rw [(m 56 72 (by omega) (by unfold fpQ; omega)).1, (m 56 73 (by omega) (by unfold fpQ; omega)).1, (m 32 3 (by omega) (by unfold fpQ; omega)).1, (m 32 2 (by omega) (by unfold fpQ; omega)).1, j_T q, j_H q]
  refine ⟨h1, h2, h3, fun k g0 g1 => ?_⟩
  rw [(m 99 k g0 (by unfold fpQ; omega)).1, (m 100 k g0 (by unfold fpQ; omega)).1, (m 33 k g0 (by unfold fpQ; omega)).1, (m 34 k g0 (by unfold fpQ; omega)).1]
  exact h4 k g0 g1
def fpH (p : Nat) (k : Int) : Prop := p = 6 ∨ p = 7 ∨ (p = 56 ∧ (k = 57 ∨ k = 58)) ∨ ((p = 85 ∨ p = 90) ∧ 2 ≤ k) ∨ ((86 ≤ p ∧ p ≤ 88) ∧ 12 ≤ k) ∨ (p = 89 ∧ 72 ≤ k) ∨ ((91 ≤ p ∧ p ≤ 94) ∧ 96 ≤ k)
theorem iv_H (q : jE σ τ) (m : sm fpH σ τ) (hR : okR σ) (h : rlH σ σ) : rlH τ τ := by
  obtain ⟨h1, h2, h3, h4, h5⟩ := h
  have e1 := (m 6 1 (by omega) (by unfold fpH; omega)).1
  have e2 := (m 6 2 (by omega) (by unfold fpH; omega)).1
  unfold rlH
  rw [(m 56 57 (by omega) (by unfold fpH; omega)).1, (m 56 58 (by omega) (by unfold fpH; omega)).1, e1, e2, j_T q, j_H q]
  refine ⟨h1, h2, h3, h4, fun j g0 g1 => ?_⟩
  obtain ⟨a, b⟩ := h5 j g0 g1
  have hg : ∀ i, 0 ≤ i → i < 104 → gHis τ j i = gHis σ j i := fun i w0 w1 => by
    unfold gHis
    rw [e1, e2]
    exact (m _ _ (by omega) (by unfold fpH; omega)).1
  exact ⟨rowS_c a hR.2.1.2 hR.1.2 (by omega) hg (m _ _ (by omega) (by unfold fpH; omega)).1 (fun p i w0 w1 w2 w3 => (m _ _ (by omega) (by unfold fpH; omega)).1) (fun i w0 w1 => (m _ _ (by omega) (by unfold fpH; omega)).1), rowK_c b (by omega) hg (m _ _ (by omega) (by unfold fpH; omega)).1 (fun p i w0 w1 w2 w3 => (m _ _ (by omega) (by unfold fpH; omega)).1)⟩
def IW (σ : zS) : Prop := OWN σ ∧ σ.2.2.1 ≠ σ.2.2.2.1
theorem iv_O (e : τ.2.2.1 ≠ τ.2.2.2.1) (m : sm (fun p _ => p = 55) σ τ) (h : IW σ) : IW τ := ⟨fun i g0 g1 => by rw [(m 55 i g0 rfl).1]; exact h.1 i g0 g1, e⟩
end IV

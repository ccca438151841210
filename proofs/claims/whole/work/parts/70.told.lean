/-! MY OWN: statements: worth, tires -/
def tP (d : Bool) (w sz : Int) (p : Nat) (k : Int) : Prop := p = 54 ∨ ((p = rp d + 14 ∨ p = rp d + 15) ∧ k = w) ∨ (p = rp d + 11 ∧ k = 3) ∨ (p = rp d + 12 ∧ sz ≤ k)
def tQ (b e : Int) (P Q : Nat) (p : Nat) (k : Int) : Prop := (p = 56 ∧ ((3 ≤ k ∧ k ≤ 9) ∨ k = 12 ∨ k = 34 ∨ k = 41 ∨ k = 42 ∨ k = 44 ∨ k = 45)) ∨ ((p = P ∨ p = Q) ∧ k = b) ∨ ((p = 74 ∨ p = 75) ∧ 1600 * b + e ≤ k ∧ k < 1600 * b + 1600) ∨ (78 ≤ p ∧ p ≤ 83)
def opn (τ : zS) : zS := jS (jS (jS (jS (jS (jS (jS (jS (jS τ 56 41 0) 56 42 0) 56 44 0) 56 45 0) 78 0 0) 79 0 0) 80 0 1) 82 0 0) 56 41 1
def TW (w : Int) (P Q : Nat) : Prop := (w = 0 ∧ P = 68 ∧ Q = 69) ∨ (w = 1 ∧ P = 70 ∧ Q = 71)
section TO
variable {A B C σ τ υ : zS} {c : Int → Int} {N b q q' q1 a t v i k p w w' sz e : Int} {d : Bool} {P Q P' Q' : Nat} {G : (Int → Int) → Int} {o : Option ((Int → Int) → Int)}
theorem SMo_g (hb : 0 ≤ b) (hw : 0 ≤ w') (hne : w' ≠ w) (hPP : (68 ≤ P ∧ P ≤ 70) ∧ Q = P + 1) (m1 : hI τ P' b = hI σ P' b) (m2 : hI τ Q' b = hI σ Q' b) (hsz : hI A (rp d + 11) 3 = sz) (he : hI σ 56 34 = e) (f1 : fr (tP d w sz) A B) (f2 : fr (tQ b e P Q) σ τ) (z1 : sz ≤ hI B (rp d + 11) 3) (z2 : e ≤ hI τ 56 34) (h : SMo A σ d b w' P' Q' o) : SMo B τ d b w' P' Q' o := by
  have hrp := rp_or d
  have e14 : hI B (rp d + 14) w' = hI A (rp d + 14) w' := (f1.2 _ _ hw (by unfold tP; omega)).1
  have e15 : hI B (rp d + 15) w' = hI A (rp d + 15) w' := (f1.2 _ _ hw (by unfold tP; omega)).1
  cases o with
  | none =>
    obtain ⟨h1, h2, h3⟩ := h
    exact ⟨e14.trans h1, e15.trans h2, m1.trans h3⟩
  | some F =>
    obtain ⟨h1, h2, h3, h4, h5, h6⟩ := h
    have c1 := h1.1
    have c3 := h3.1
    refine ⟨?_, by rw [e15]; omega, ?_, by rw [m1]; exact h4, by rw [m2]; omega, h6⟩
    · rw [e14, e15]
      exact cSeg_cong h1 (fun i g0 g1 => (f1.2 _ _ (by omega) (by unfold tP; omega)).1)
    · rw [m1, m2]
      exact mSeg_cong h3 (fun i g0 g1 => ⟨(f2.2 _ _ (by omega) (by unfold tQ; omega)).1, (f2.2 _ _ (by omega) (by unfold tQ; omega)).1⟩)
theorem RR_told (hR : RR A σ d b q) (hw : TW w P Q) (hsz : hI A (rp d + 11) 3 = sz) (he : hI σ 56 34 = e) (f1 : fr (tP d w sz) A B) (f2 : fr (tQ b e P Q) σ τ) (hS : SMt B τ d b w P Q G) (z1 : sz ≤ hI B (rp d + 11) 3) (z2 : e ≤ hI τ 56 34) (hZ : RZ B τ d q') : RR B τ d b q' := by
  have hrp := rp_or d
  have hPP : (68 ≤ P ∧ P ≤ 70) ∧ Q = P + 1 := by unfold TW at hw; omega
  obtain ⟨R1, R2, R3, R4, R5, ⟨oW, oT, R6, R6'⟩, R7⟩ := hR
  have hb := R2.1.2
  refine ⟨by rw [f1.1]; exact R1, NR_f R2 f1 f2 (fun p k w => by unfold tP at w; omega) (fun p k w => by unfold tQ at w; omega), RL_f hb.1 R2.2.1.2.1 R3 f1 f2 (fun p k w => by unfold tP at w; omega) (fun p k w => by unfold tQ at w; omega), RH_f hb.1 R2.2.2.1.2.1 R4 f1 f2 (fun p k w => by unfold tP at w; omega) (fun p k w => by unfold tQ at w; omega), RF_f hb.1 R5 f1 f2 (fun p k w => by unfold tP at w; omega) (fun p k w => by unfold tQ at w; omega), ?_, hZ⟩
  rcases hw with ⟨hw, hP, hQ⟩ | ⟨hw, hP, hQ⟩
  · subst hw hP hQ
    exact ⟨some G, oT, hS, SMo_g hb.1 (by omega) (by omega) (by omega) (f2.2 70 b hb.1 (by unfold tQ; omega)).1 (f2.2 71 b hb.1 (by unfold tQ; omega)).1 hsz he f1 f2 z1 z2 R6'⟩
  · subst hw hP hQ
    exact ⟨oW, some G, SMo_g hb.1 (by omega) (by omega) (by omega) (f2.2 68 b hb.1 (by unfold tQ; omega)).1 (f2.2 69 b hb.1 (by unfold tQ; omega)).1 hsz he f1 f2 z1 z2 R6, hS⟩
theorem rd_0 (h8 : hI τ 56 8 = 0) : fX11_reads 0 τ = fX11_reads_43 zF (z32 1) (opn τ) := by
  have e41 : hI (jS (jS (jS (jS τ 56 41 0) 56 42 0) 56 44 0) 56 45 0) 56 41 = 0 := by
    rw [hI_j0 (by omega) (by omega) (by omega), hI_j0 (by omega) (by omega) (by omega), hI_j0 (by omega) (by omega) (by omega), hI_jS (by omega) (by omega) (by omega) (by omega), if_pos rfl]
  have e44 : hI (jS (jS (jS (jS τ 56 41 0) 56 42 0) 56 44 0) 56 45 0) 56 44 = 0 := by
    rw [hI_j0 (by omega) (by omega) (by omega), hI_jS (by omega) (by omega) (by omega) (by omega), if_pos rfl]
  have em := mps_z (x := 0) e41 e44 (by omega) (by omega)
  unfold fX11_reads fX11_reads_38
  rw [if_pos (c8z h8)]
  simp (disch := omega) only [z32_add, z32_sub, z32_mul, z32_neg, z32_litn, z32_lt, z32_le, z32_eq, iG_h, lG_h, iS_q, lS_q, aI_h, wI_h, aL_h, wL_h, ↓bnd_q, bnr_q, bnc_q, ↓reduceIte, ieqT, ieqF, iltT, iltF, ileT, ileF, not_true, not_false_iff, gdT, true_or]
  rw [em, bnr_q]
  rfl
theorem opn_v (h34 : hI τ 56 34 = e ∧ 0 ≤ e ∧ e ≤ 1600) (h35 : hI τ 56 35 = b ∧ 0 ≤ b ∧ b ≤ 1) : NM (opn τ) b e 0 1 0 0 0 0 1 ∧ hI (opn τ) 56 45 = 0 := by
  unfold opn
  refine ⟨⟨⟨?_, h34.2.1⟩, ⟨?_, by omega, by omega⟩, by omega, ⟨?_, by omega, by omega⟩, ⟨?_, h35.2⟩, ⟨?_, by omega, by omega⟩, ⟨?_, by omega, by omega⟩, ⟨?_, by omega, by omega⟩, ⟨?_, by omega, by omega⟩, ⟨?_, by omega, by omega⟩⟩, ?_⟩ <;> simp (disch := omega) only [hI_jS, hI_jS_ne, ↓reduceIte, ieqT, ieqF, iltT, iltF, ileT, ileF, not_true, not_false_iff, h34.1, h35.1]
theorem opn_d (hb : 0 ≤ b) : fr (mRd b) τ (opn τ) := by
  unfold opn
  exact fr_t (fr_t (fr_t (fr_t (fr_t (fr_t (fr_t (fr_t (fr_j (by omega) (by unfold mRd; omega)) (fr_j (by omega) (by unfold mRd; omega))) (fr_j (by omega) (by unfold mRd; omega))) (fr_j (by omega) (by unfold mRd; omega))) (fr_j (by omega) (by unfold mRd; omega))) (fr_j (by omega) (by unfold mRd; omega))) (fr_j (by omega) (by unfold mRd; omega))) (fr_j (by omega) (by unfold mRd; omega))) (fr_j (by omega) (by unfold mRd; omega))
theorem opn_q : fr (tQ b e P Q) τ (opn τ) := by
  unfold opn
  exact fr_t (fr_t (fr_t (fr_t (fr_t (fr_t (fr_t (fr_t (fr_j (by omega) (by unfold tQ; omega)) (fr_j (by omega) (by unfold tQ; omega))) (fr_j (by omega) (by unfold tQ; omega))) (fr_j (by omega) (by unfold tQ; omega))) (fr_j (by omega) (by unfold tQ; omega))) (fr_j (by omega) (by unfold tQ; omega))) (fr_j (by omega) (by unfold tQ; omega))) (fr_j (by omega) (by unfold tQ; omega))) (fr_j (by omega) (by unfold tQ; omega))
theorem opn_w (k : Int) (h0 : 0 ≤ k) (h : k ≤ 35) : hI (opn τ) 56 k = hI τ 56 k := by
  unfold opn
  rw [hI_j0 (by omega) (by omega) (by omega), hI_j0 (by omega) (by omega) (by omega), hI_j0 (by omega) (by omega) (by omega), hI_j0 (by omega) (by omega) (by omega), hI_j0 (by omega) (by omega) (by omega), hI_j0 (by omega) (by omega) (by omega), hI_j0 (by omega) (by omega) (by omega), hI_j0 (by omega) (by omega) (by omega), hI_j0 (by omega) (by omega) (by omega)]
theorem mRd_b (hP : 68 ≤ P ∧ P ≤ 73) : mRd b P b := by unfold mRd; omega
theorem tQ_P : tQ b e P Q P b := by unfold tQ; omega
theorem tQ_Q : tQ b e P Q Q b := by unfold tQ; omega
theorem tQ_d (hP : (68 ≤ P ∧ P ≤ 70) ∧ Q = P + 1) (he : 0 ≤ e) (p : Nat) (k : Int) (_ : 0 ≤ k) (h : tQ b e P Q p k) : mRd b p k := by unfold tQ at h; unfold mRd; omega
theorem oQ_t (p : Nat) (k : Int) (_ : 0 ≤ k) (h : oQ p k) : tQ b e P Q p k := by unfold oQ at h; unfold tQ; omega
theorem jP_t {e3 : Int} (he : e ≤ e3) (p : Nat) (k : Int) (_ : 0 ≤ k) (h : jP b e3 p k) : tQ b e P Q p k := by unfold jP at h; unfold tQ; omega
theorem cS_t (p : Nat) (k : Int) (_ : 0 ≤ k) (h : cS (rp d) sz p k) : tP d w sz p k := by unfold cS at h; unfold tP; omega
theorem tP_c (p : Nat) (k : Int) (_ : 0 ≤ k) (h : tP d w sz p k) : cR (rp d) p k := by unfold tP at h; unfold cR; omega
theorem cSB_c (p : Nat) (k : Int) (_ : 0 ≤ k) (h : cSB (rp d) p k) : cR (rp d) p k := by unfold cSB at h; unfold cR; omega
theorem opn_a : fr (fun p k => (p = 56 ∧ 41 ≤ k) ∨ (78 ≤ p ∧ p ≤ 83)) τ (opn τ) := by
  unfold opn
  exact fr_t (fr_t (fr_t (fr_t (fr_t (fr_t (fr_t (fr_t (fr_j (by omega) (by omega)) (fr_j (by omega) (by omega))) (fr_j (by omega) (by omega))) (fr_j (by omega) (by omega))) (fr_j (by omega) (by omega))) (fr_j (by omega) (by omega))) (fr_j (by omega) (by omega))) (fr_j (by omega) (by omega))) (fr_j (by omega) (by omega))
theorem sP_d (he : 0 ≤ e) (p : Nat) (k : Int) (_ : 0 ≤ k) (h : sP b e 0 1 p k) : mRd b p k := by unfold sP at h; unfold mRd; omega
theorem sP_q (p : Nat) (k : Int) (_ : 0 ≤ k) (h : sP b e 0 1 p k) : tQ b e P Q p k := by unfold sP at h; unfold tQ; omega
/-- the other side behind a fault -/
theorem wt_k (hQ : 68 ≤ Q ∧ Q ≤ 73) (h : mFb τ k p) (h34 : hI τ 56 34 = e ∧ 0 ≤ e ∧ e ≤ 1600) (h35 : hI τ 56 35 = b ∧ 0 ≤ b ∧ b ≤ 1) : ∃ υ, (bnr (fX11_reads 0 τ) fun σ6 => wI σ6 Q 2 (iG σ6 56 35) (iG σ6 56 34) fun σ8 => some σ8) = some υ ∧ mFb υ k p ∧ fr (mRd b) τ υ := by
  have key : ∃ υ, fX11_reads 0 τ = some υ ∧ mFb υ k p ∧ fr (mRd b) τ υ := by
    rcases h with h | ⟨hk, h⟩
    · refine ⟨τ, ?_, Or.inl h, fr_r⟩
      unfold fX11_reads
      rw [if_neg (c8p h)]
    · subst hk
      obtain ⟨n1, n2⟩ := opn_v h34 h35
      obtain ⟨υ, u1, u2, u3⟩ := bad_end (mBd_c h (fun k g0 g1 => opn_w k g0 (by omega))) n1 (Or.inl n2)
      obtain ⟨f, hf⟩ : ∃ f, zF = f + 2 := ⟨zF - 2, by unfold zF; omega⟩
      refine ⟨υ, ?_, u2, fr_t (opn_d h35.2.1) (fr_m u3 (sP_d h34.2.1))⟩
      rw [rd_0 h.1, hf]
      exact u1 f
  obtain ⟨υ, u1, u2, u3⟩ := key
  have e35 : hI υ 56 35 = b := by rw [(u3.2 56 35 (by omega) (by unfold mRd; omega)).1]; exact h35.1
  rw [u1, bnr_q, show iG υ 56 35 = z32 (hI υ 56 35) from iG_h υ 56 35, e35]
  obtain ⟨φ, v1, v2, v3⟩ := MS_w (b := b) (P := Q) (n := 2) (i := b) (x := iG υ 56 34) (by omega) (mRd_b (by omega)) h35.2.1 (by omega) (by omega) MS_s υ k p u2 e35
  exact ⟨φ, v1, v2, fr_t u3 v3⟩
theorem zD_3 : ∃ n, zD = n + 3 := ⟨zD - 3, by unfold zD; omega⟩
/-- the one side behind a fault -/
theorem td_k (hw : w = 0 ∨ w = 1) (h : cBk A k p) (hd : A.2.2.2.2 = d) : ∃ B, (wI A (rp A.2.2.2.2 + 15) 2 (z32 w) (iG A (rp A.2.2.2.2 + 11) 3) fun σ8 => some σ8) = some B ∧ fr (cR (rp d)) A B ∧ cBk B k p := by
  have hrp := rp_or d
  rw [hd]
  obtain ⟨v, v1, v2⟩ := wI_x (A := A) (P := rp d + 15) (n := 2) (i := w) (x := iG A (rp d + 11) 3) (F := fun σ8 => some σ8) (by omega) (by omega) (by omega)
  exact ⟨_, v1, fr_j (by omega) (by unfold cR; omega), cBk_j (by omega) h⟩
theorem td_b (hw : w = 0 ∨ w = 1) (h : cBk A k p) (ok : okB d A) : ∃ B, (wI A (rp A.2.2.2.2 + 14) 2 (z32 w) (iG A (rp A.2.2.2.2 + 11) 3) fun σ5 => bnr (fX5_readSum zD 0 σ5) fun σ6 => wI σ6 (rp σ6.2.2.2.2 + 15) 2 (z32 w) (iG σ6 (rp σ6.2.2.2.2 + 11) 3) fun σ8 => some σ8) = some B ∧ fr (cR (rp d)) A B ∧ cBk B k p := by
  have hrp := rp_or d
  rw [ok.1]
  obtain ⟨v, v1, v2⟩ := wI_x (A := A) (P := rp d + 14) (n := 2) (i := w) (x := iG A (rp d + 11) 3) (F := fun σ5 => bnr (fX5_readSum zD 0 σ5) fun σ6 => wI σ6 (rp σ6.2.2.2.2 + 15) 2 (z32 w) (iG σ6 (rp σ6.2.2.2.2 + 11) 3) fun σ8 => some σ8) (by omega) (by omega) (by omega)
  rw [v1]
  obtain ⟨n, hn⟩ := zD_3
  have ok1 := okB_j (d := d) (P := rp d + 14) (i := w) (v := v) (by omega) (by omega) (by omega) ok
  obtain ⟨C, c1, c2, c3, c4⟩ := BK_sum (n := n) (o := 0) (jS A (rp d + 14) w v) k p (cBk_j (by omega) h) (by unfold szK; rw [ok1.1]; exact ok1.2.1)
  rw [ok1.1] at c2
  obtain ⟨E, e1, e2, e3⟩ := td_k (d := d) hw c3 (by rw [c2.1]; exact ok1.1)
  refine ⟨E, ?_, fr_t (fr_t (fr_j (by omega) (by unfold cR; omega)) (fr_m c2 (fun p k _ w => by unfold cSB at w; unfold cR; omega))) e2, e3⟩
  rw [hn, c1, bnr_q]
  exact e1
theorem told_in (hw : TW w P Q) (hPP : (68 ≤ P ∧ P ≤ 70) ∧ Q = P + 1) (hw1 : 0 ≤ w ∧ w ≤ 1) (hR : RR A σ d b q) (hsz : hI A (rp d + 11) 3 = sz) (he : hI σ 56 34 = e) (hz : 0 ≤ sz ∧ sz ≤ q) (hz2 : 0 ≤ e ∧ e ≤ q) (hq1 : q < q1) (hqq : q ≤ 1600) {B2 τ2 : zS} {a1 t1 v1 : Int} (fP2 : fr (tP d w sz) A B2) (fQ2 : fr (tQ b e P Q) σ τ2) (al2 : AL B2 τ2 c N q1 a1 t1 v1) (d2 : B2.2.2.2.2 = d) (s2 : hI B2 (rp d + 11) 3 = sz) (v14 : hI B2 (rp d + 14) w = sz) (vP : hI τ2 P b = e) (v34 : hI τ2 56 34 = e ∧ 0 ≤ e ∧ e ≤ 1600) (v35 : hI τ2 56 35 = b ∧ 0 ≤ b ∧ b ≤ 1) : ∃ B τ, (bnr (fX5_readSum zD 0 B2) fun σ6 => wI σ6 (rp σ6.2.2.2.2 + 15) 2 (z32 w) (iG σ6 (rp σ6.2.2.2.2 + 11) 3) fun σ8 => some σ8) = some B ∧ (bnr (fX11_reads 0 τ2) fun σ6 => wI σ6 Q 2 (iG σ6 56 35) (iG σ6 56 34) fun σ8 => some σ8) = some τ ∧ STA A B σ τ c N d b q := by
  have hrp := rp_or d
  obtain ⟨g1, g2, g3, g4, g5, g6, g7, g8⟩ := al2.2.2.1
  have hb0 : 0 ≤ b := v35.2.1
  have h28 : hI τ2 56 8 = 0 := al2.2.1.2.2.2.1
  obtain ⟨n1, n2⟩ := opn_v v34 v35
  have fO := opn_q (τ := τ2) (b := b) (e := e) (P := P) (Q := Q)
  have al3 : AL B2 (opn τ2) c N q1 a1 t1 v1 := AL_f al2 (fun _ _ _ _ => rfl) opn_a (fun p k w => by omega)
  have vP3 : hI (opn τ2) P b = e := by rw [(opn_a.2 P b hb0 (by omega)).1]; exact vP
  have hJC : JC B2 (opn τ2) c N b q1 a1 t1 v1 sz e 0 1 0 0 0 0 1 0 := ⟨al3, ⟨by rw [d2]; exact s2, by omega, by omega⟩, n1, by omega, by omega, n2⟩
  obtain ⟨B3, r1, r2⟩ := sp_top B2 (opn τ2) c N b q1 a1 t1 v1 sz e 0 1 0 0 0 1 hJC (by omega) (Or.inl rfl) ⟨by omega, Or.inl (by unfold fsZ isTst; omega)⟩
  rw [show (0 : Int32) = z32 0 from z32_litn 0, r1, bnr_q, ← show (0 : Int32) = z32 0 from z32_litn 0, rd_0 h28]
  rcases r2 with ⟨τ3, q3, a3, t3, v3, sz3, e3, om3, o3, ph3, s, L, F, G, kk, hj3, ⟨y1, y2, y3⟩, y4, y5, ⟨y6, y7, y8⟩, y9, y10, y11, y12, y13, ⟨y14, y15⟩⟩ | ⟨k, p, τ3, K, y1, y2, y3, y4, y5, y6, y7⟩
  case inr =>
    rw [d2] at y3
    obtain ⟨E, l1, l2, l3⟩ := td_k (w := w) (d := d) (by omega) y1 (by rw [y3.1]; exact d2)
    obtain ⟨f, hf⟩ : ∃ f, zF = f + K := ⟨zF - K, by have : zF = 1000000 := rfl; omega⟩
    have mR3 := fr_t (fr_m fQ2 (tQ_d hPP v34.2.1)) (fr_t (opn_d hb0) (fr_m y7 (sP_d v34.2.1)))
    have z35 : hI τ3 56 35 = b := by rw [(y7.2 56 35 (by omega) (by unfold sP; omega)).1, opn_w 35 (by omega) (by omega)]; exact v35.1
    obtain ⟨φ, x1, x2, x3⟩ := MS_w (b := b) (P := Q) (n := 2) (i := b) (x := iG τ3 56 34) (by omega) (mRd_b (by omega)) hb0 (by omega) (by omega) MS_s τ3 k p y6 z35
    refine ⟨E, φ, l1, ?_, fr_t (fr_t (fr_m fP2 tP_c) (fr_m y3 cSB_c)) l2, fr_t mR3 x3, Or.inr ⟨k, p, l3, x2⟩⟩
    rw [hf, y4 f, bnr_q, show iG τ3 56 35 = z32 (hI τ3 56 35) from iG_h τ3 56 35, z35]
    exact x1
  rw [d2] at y4 y9
  have hj3' := hj3
  obtain ⟨j1, j2, j3, j4, j5, j6⟩ := hj3'
  obtain ⟨hr3, hA3⟩ := AL_x j1
  obtain ⟨υ, u1, u2, u3, u4, u5, u6⟩ := jn_j (ls := 1) (o0 := 0) hj3 y11 y12 y8 (by omega) (by omega) (Or.inl rfl) (by omega) (by omega) y13 (by omega)
  have eg : fX11_goesOn τ3 = some (z32 0, υ) := by
    rw [go_422 j3 hr3 (Or.inr y15) (Or.inl (by unfold isTst; omega))]
    exact g4_0 hr3 (by omega) (by omega) u1
  have en := end_g j6 eg
  have hq3 := j1.2.2.1.2
  obtain ⟨f, hf⟩ : ∃ f, zF = f + 2 + kk := ⟨zF - 2 - kk, by
    have : zF = 1000000 := rfl
    omega⟩
  have dp2 : DP 0 + 2 = 38 := rfl
  rw [dp2] at y9 u6
  have hCb := (CH_b _ _ _ _ y11).2.2
  have hms := y12.1
  have hee : e ≤ e3 := by omega
  have hcs := y9.1
  have d3 : B3.2.2.2.2 = d := by rw [y4.1]; exact d2
  rw [d3] at j2
  have w34 : hI υ 56 34 = e3 + (om3 - 0) := u4.1.1
  have w35 : hI υ 56 35 = b := u4.2.2.2.2.1.1
  have hom := j3.2.1.2.1
  have n34 : 0 ≤ e3 + (om3 - 0) ∧ e3 + (om3 - 0) ≤ 1600 := by
    have := u4.1.2
    have := u4.2.2.1
    omega
  have a14 : hI B3 (rp d + 14) w = sz := by rw [(y4.2 _ _ (by omega) (by unfold cS; omega)).1]; exact v14
  have mP : hI υ P b = e := by rw [(u2.2 _ _ hb0 (by unfold jP; omega)).1, (y5.2 _ _ hb0 (by unfold sP; omega)).1]; exact vP3
  have fC : fr (tP d w sz) A (jS B3 (rp d + 15) w sz3) := fr_t fP2 (fr_t (fr_m y4 cS_t) (fr_j (by omega) (by unfold tP; omega)))
  have fM : fr (tQ b e P Q) σ (jS υ Q b (e3 + (om3 - 0))) := fr_t fQ2 (fr_t fO (fr_t (fr_m y5 sP_q) (fr_t (fr_m u2 (jP_t hee)) (fr_j hb0 tQ_Q))))
  refine ⟨jS B3 (rp d + 15) w sz3, jS υ Q b (e3 + (om3 - 0)), ?_, ?_, ?_, ?_, Or.inl ⟨q3, a3, t3, v3, ?_, by omega, ?_⟩⟩
  · rw [d3, show iG B3 (rp d + 11) 3 = z32 (hI B3 (rp d + 11) 3) from iG_h B3 _ 3, j2.1, wI_h (by omega) (by omega) (by omega)]
  · rw [hf, y3 (f + 2), en f, bnr_q, show iG υ 56 35 = z32 (hI υ 56 35) from iG_h υ 56 35, w35, show iG υ 56 34 = z32 (hI υ 56 34) from iG_h υ 56 34, w34, wI_h hb0 (by omega) (by omega)]
  · exact fr_m fC tP_c
  · exact fr_m fM (tQ_d hPP v34.2.1)
  · exact AL_f u3 (fun p k g w => hI_jS_ne (by omega)) (fr_j (P := fun p k => p = Q) hb0 rfl) (fun p k w => by omega)
  · refine RR_told (G := G) hR hw hsz he fC fM ⟨?_, ?_, ?_, ?_, ?_, y10⟩ ?_ ?_ ⟨⟨?_, ?_⟩, ?_, ?_⟩
    · rw [hI_jS_ne (by omega), a14, hI_jS (by omega) (by omega) (by omega) (by omega), if_pos rfl]
      exact cSeg_cong y9 (fun i g0 g1 => hI_jS_ne (by omega))
    · rw [hI_jS (by omega) (by omega) (by omega) (by omega), if_pos rfl, hI_jS_ne (by omega), j2.1]; omega
    · rw [hI_jS_ne (by omega), mP, hI_jS (by omega) (by omega) (by omega) (by omega), if_pos rfl]
      exact mSeg_cong u6 (fun i g0 g1 => ⟨hI_jS_ne (by omega), hI_jS_ne (by omega)⟩)
    · rw [hI_jS_ne (by omega), mP]; omega
    · rw [hI_jS (by omega) (by omega) (by omega) (by omega), if_pos rfl, hI_jS_ne (by omega), w34]; omega
    · rw [hI_jS_ne (by omega), j2.1]; omega
    · rw [hI_jS_ne (by omega), w34]; omega
    · rw [hI_jS_ne (by omega), j2.1]; omega
    · rw [hI_jS_ne (by omega), j2.1]; omega
    · rw [hI_jS_ne (by omega), w34]; omega
    · rw [hI_jS_ne (by omega), w34]; omega
theorem st_told (hw : TW w P Q) (h : AL A σ c N q a t v) (ht : t ≠ 1) (hR : RR A σ d b q) : ∃ B τ, fX5_readTold (z32 w) A = some B ∧ (if w = 0 then fX11_worthing σ else fX11_tiring σ) = some τ ∧ STA A B σ τ c N d b q := by
  have hrp := rp_or d
  obtain ⟨hr, hA⟩ := AL_x h
  obtain ⟨p1, p2, p3, p4, p5, p6, p7, p8⟩ := h.2.2.1
  have hb := hR.2.1.1
  have hw1 : w = 0 ∨ w = 1 := by unfold TW at hw; omega
  have hPP : (68 ≤ P ∧ P ≤ 70) ∧ Q = P + 1 := by unfold TW at hw; omega
  have ok0 := RR_ok hR (by omega)
  have hsm : ∃ o, SMo A σ d b w P Q o := by
    obtain ⟨oW, oT, s1, s2⟩ := hR.2.2.2.2.2.1
    rcases hw with ⟨h1, h2, h3⟩ | ⟨h1, h2, h3⟩ <;> subst h1 h2 h3
    · exact ⟨_, s1⟩
    · exact ⟨_, s2⟩
  have eM : (if w = 0 then fX11_worthing σ else fX11_tiring σ) = aI σ P 2 (iG σ 56 35) fun v1 => if v1 = ((-1)) then (bnc (fX11_counts 0 σ) fun v4 σ2 => if v4 = 0 then some σ2 else wI σ2 P 2 (iG σ2 56 35) (iG σ2 56 34) fun σ5 => bnr (fX11_reads 0 σ5) fun σ6 => wI σ6 Q 2 (iG σ6 56 35) (iG σ6 56 34) fun σ8 => some σ8) else (bnc (fX11_counts 1 σ) fun v4 σ2 => if v4 = 0 then some σ2 else wI σ2 P 2 (iG σ2 56 35) (iG σ2 56 34) fun σ5 => bnr (fX11_reads 0 σ5) fun σ6 => wI σ6 Q 2 (iG σ6 56 35) (iG σ6 56 34) fun σ8 => some σ8) := by
    rcases hw with ⟨h1, h2, h3⟩ | ⟨h1, h2, h3⟩ <;> subst h1 h2 h3
    · rw [if_pos rfl]; rfl
    · rw [if_neg (by omega)]; rfl
  rw [eM, show iG σ 56 35 = z32 (hI σ 56 35) from iG_h σ 56 35, hb.1, aI_h hb.2.1 (by omega) (by omega)]
  unfold fX5_readTold fX8_isTold
  rw [hR.1, aI_h (by omega) (by omega) (by omega), aI_h (by omega) (by omega) (by omega)]
  obtain ⟨o, hsm⟩ := hsm
  cases o with
  | some F =>
    obtain ⟨s1, s2, s3, s4, s5, s6⟩ := hsm
    have c1 := s1.1
    have l1 := hI_hi A (rp d + 15) w
    have l2 := hI_hi σ P b
    obtain ⟨B, b1, b2, b3⟩ := fl_j (k := 6) (z32_litn 6) h (by omega)
    obtain ⟨f1, f2⟩ := flt (k := 6) (p := q) hr.1 (by omega) (by omega)
    refine ⟨B, jS (jS σ 56 8 6) 56 9 q, ?_, ?_, oR_cR b2, oM_d f2, Or.inr ⟨6, q, b3, mt_b f1⟩⟩
    · rw [if_neg (by rw [z32_le (by omega) (by omega) (by omega) (by omega)]; omega), bnr_q, if_neg i10, b1, bnr_q]
    · rw [if_neg (by rw [show ((-1) : Int32) = z32 (-1) from rfl, z32_eq (by omega) (by omega) (by omega) (by omega)]; omega), cnt_1 hr (by omega), bnc_q, if_pos rfl]
  | none =>
  obtain ⟨s1, s2, s3⟩ := hsm
  rw [s1, s2, s3, if_pos (by rw [z32_le (by omega) (by omega) (by omega) (by omega)]; omega), bnr_q, if_pos rfl, if_pos (show (z32 (-1) : Int32) = (-1) from rfl)]
  obtain ⟨B1, τ1, b1, b2, t1, t2, hres⟩ := kw h ht
  have ok1 := okB_R b2 ok0
  have e34 : hI τ1 56 34 = hI σ 56 34 := ((oM_Q t2).2 56 34 (by omega) (by unfold oQ; omega)).1
  have z7 := hR.2.2.2.2.2.2
  have hz := z7.1
  have hz2 := z7.2
  have x35 : hI τ1 56 35 = b := e35 t2 hb.1
  obtain ⟨e, he⟩ : ∃ e, hI σ 56 34 = e := ⟨_, rfl⟩
  obtain ⟨sz, hsz⟩ : ∃ sz, hI A (rp d + 11) 3 = sz := ⟨_, rfl⟩
  rw [he] at hz2 e34
  rw [hsz] at hz
  have hszB : hI B1 (rp d + 11) 3 = sz := by rw [b2.2.2 _ _ (by omega)]; exact hsz
  rw [b1, bnr_q, t1, bnc_q, if_neg i10, show iG τ1 56 35 = z32 (hI τ1 56 35) from iG_h τ1 56 35, x35, show iG τ1 56 34 = z32 (hI τ1 56 34) from iG_h τ1 56 34, e34, wI_h hb.2.1 (by omega) (by omega)]
  have v34 : hI (jS τ1 P b e) 56 34 = e ∧ 0 ≤ e ∧ e ≤ 1600 := ⟨by rw [hI_jS_ne (by omega)]; exact e34, by omega, by omega⟩
  have v35 : hI (jS τ1 P b e) 56 35 = b ∧ 0 ≤ b ∧ b ≤ 1 := ⟨by rw [hI_jS_ne (by omega)]; exact x35, hb.2⟩
  have mR2 : fr (mRd b) σ (jS τ1 P b e) := fr_t (oM_d t2) (fr_j hb.2.1 (mRd_b (by omega)))
  have fQ2 : fr (tQ b e P Q) σ (jS τ1 P b e) := fr_t (fr_m (oM_Q t2) oQ_t) (fr_j hb.2.1 tQ_P)
  have vP : hI (jS τ1 P b e) P b = e := by rw [hI_jS (by omega) (by omega) (by omega) (by omega), if_pos rfl]
  rcases hres with ⟨q1, a1, t1', v1, h1, hq1⟩ | ⟨k, p, h1, h2⟩
  case inr =>
    obtain ⟨B, c1, c2, c3⟩ := td_b hw1 h1 ok1
    obtain ⟨τ, x1, x2, x3⟩ := wt_k (Q := Q) (by omega) (mFb_c h2 (fun k w0 w1 => hI_jS_ne (by omega)) : mFb (jS τ1 P b e) k p) v34 v35
    exact ⟨B, τ, c1, x1, fr_t (oR_cR b2) c2, fr_t mR2 x3, Or.inr ⟨k, p, c3, x2⟩⟩
  have al2 : AL (jS B1 (rp d + 14) w sz) (jS τ1 P b e) c N q1 a1 t1' v1 := AL_f h1 (fun p k g w => hI_jS_ne (by omega)) (fr_j (P := fun p k => p = P) hb.2.1 rfl) (fun p k w => by omega)
  obtain ⟨g1, g2, g3, g4, g5, g6, g7, g8⟩ := h1.2.2.1
  rw [ok1.1, show iG B1 (rp d + 11) 3 = z32 (hI B1 (rp d + 11) 3) from iG_h B1 _ 3, hszB, wI_h (by omega) (by omega) (by omega)]
  have fP2 : fr (tP d w sz) A (jS B1 (rp d + 14) w sz) := fr_t (fr_R b2 (fun k _ => Or.inl rfl)) (fr_j (by omega) (by unfold tP; omega))
  have v14 : hI (jS B1 (rp d + 14) w sz) (rp d + 14) w = sz := by rw [hI_jS (by omega) (by omega) (by omega) (by omega), if_pos rfl]
  exact told_in hw hPP (by omega) hR hsz he hz hz2 hq1 (by omega) fP2 fQ2 al2 ok1.1 (by rw [hI_jS_ne (by omega)]; exact hszB) v14 vP v34 v35
end TO

/-! MY OWN: reading sums: what holds between both sides, and the steps at its joints -/
def cS (rb : Nat) (sz : Int) (p : Nat) (k : Int) : Prop := p = 54 ∨ (p = rb + 11 ∧ k = 3) ∨ (p = rb + 12 ∧ sz ≤ k)
def JC (A σ : zS) (c : Int → Int) (N b q a t v sz e om dp ba o kd ph bg od : Int) : Prop := AL A σ c N q a t v ∧ (hI A (rp A.2.2.2.2 + 11) 3 = sz ∧ 0 ≤ sz ∧ sz ≤ q) ∧ NM σ b e om dp ba o kd ph bg ∧ e + om ≤ q ∧ dp ≤ o + 1 ∧ hI σ 56 45 = od
def OKP (A B σ : zS) (c : Int → Int) (N b q sz e om dp ba o kd r D : Int) (po : Int → Int → ((Int → Int) → Int) → Prop) : Prop :=
  ∃ (τ : zS) (q' a' t' v' sz' e' om' o' ph' s : Int) (L : List (Int × Int × ((Int → Int) → Int))) (F G : (Int → Int) → Int) (k : Nat), JC B τ c N b q' a' t' v' sz' e' om' dp ba o' kd ph' 0 1 ∧ (q < q' ∧ (k : Int) ≤ q' - q ∧ stp σ k τ) ∧ fr (cS (rp A.2.2.2.2) sz) A B ∧ fr (sP b e om dp) σ τ ∧ (sz' ≤ sz + (q' - q) ∧ e' + om' ≤ e + om + (q' - q) ∧ 1 ≤ D - nbL L) ∧ cSeg A.2.2.2.2 (hI B (rp A.2.2.2.2 + 12)) sz sz' G D ∧ bF G ∧ CH (hI τ 74) (hI τ 75) (hI τ 83) D om (1600 * b + e) r L om' s F G ∧ mSeg (hI τ 74) (hI τ 75) s (1600 * b + e') F (D - nbL L) ∧ o' = o + nnL L ∧ po t' ph' G
def BADP (A B σ : zS) (b q e om dp : Int) : Prop := ∃ (kd p : Int) (τ : zS) (K : Nat), cBk B kd p ∧ szK B ∧ fr (cSB (rp A.2.2.2.2)) A B ∧ endd σ K τ ∧ (K : Int) ≤ 1700 - q ∧ mFb τ kd p ∧ fr (sP b e om dp) σ τ
theorem cS_B {rb : Nat} {sz : Int} {A B : zS} (h : fr (cS rb sz) A B) : fr (cSB rb) A B := fr_m h (fun p k _ w => by unfold cS at w; unfold cSB; omega)
theorem cS_m {rb : Nat} {sz sz' : Int} {A B : zS} (h : fr (cS rb sz') A B) (hs : sz ≤ sz') : fr (cS rb sz) A B := fr_m h (fun p k _ w => by unfold cS at w ⊢; omega)
theorem oR_S {rb : Nat} {sz : Int} {A B : zS} (h : oR A B) : fr (cS rb sz) A B := fr_R h (fun k _ => by unfold cS; omega)
section SP
variable {A A1 B C σ σ1 τ υ : zS} {c : Int → Int} {N b q a t v sz e om dp ba o kd ph bg od q' e' om' dp' : Int} {P Q : Nat → Int → Prop}
theorem BAD_pre {k : Nat} (f1 : fr (cSB (rp A.2.2.2.2)) A B) (hs : stp σ k τ) (f2 : fr (sP b e om dp) σ τ) (hk : (k : Int) ≤ q' - q) (he : e ≤ e') (ho : om ≤ om') (hd : dp ≤ dp') (h : BADP B C τ b q' e' om' dp') : BADP A C σ b q e om dp := by
  obtain ⟨kd, p, υ, K, h1, h2, h3, h4, h5, h6, h7⟩ := h
  have ef : B.2.2.2.2 = A.2.2.2.2 := by rw [f1.1]
  rw [ef] at h3
  exact ⟨kd, p, υ, K + k, h1, h2, fr_t f1 h3, stp_e hs h4, by omega, h6, fr_t f2 (fr_m h7 (sP_m he ho hd))⟩
theorem BAD_post {f : zS → Option zS} (h : BADP A B σ b q e om dp) (hf : BK f) : ∃ C, f B = some C ∧ BADP A C σ b q e om dp := by
  obtain ⟨kd, p, υ, K, h1, h2, h3, h4, h5, h6, h7⟩ := h
  obtain ⟨C, c1, c2, c3, c4⟩ := hf B kd p h1 h2
  have ef : B.2.2.2.2 = A.2.2.2.2 := by rw [h3.1]
  rw [ef] at c2
  exact ⟨C, c1, kd, p, υ, K, c3, c4, fr_t h3 c2, h4, h5, h6, h7⟩
theorem AL_f (h : AL A σ c N q a t v) (e1 : ∀ p k, 0 ≤ k → (p = 54 ∨ p = 2 ∨ p = 3 ∨ p = 55) → hI A1 p k = hI A p k) (f2 : fr Q σ σ1) (hQ : ∀ p k, Q p k → p ≠ 57 ∧ (p = 56 → 12 < k)) : AL A1 σ1 c N q a t v := by
  obtain ⟨⟨c1, c2, c3, c4, c5, c6, c7, c8, c9⟩, ⟨m1, m2, m3, m4, m5, m6, m7⟩, hp, hw⟩ := h
  have e2 : ∀ k, 0 ≤ k → k ≤ 12 → hI σ1 56 k = hI σ 56 k ∧ hL σ1 56 k = hL σ 56 k := fun k g w => f2.2 56 k g (fun x => by have := (hQ 56 k x).2 rfl; omega)
  have e3 : ∀ k, 0 ≤ k → hI σ1 57 k = hI σ 57 k := fun k g => (f2.2 57 k g (fun x => (hQ 57 k x).1 rfl)).1
  refine ⟨⟨⟨?_, c1.2.1, fun k g0 g1 => ?_⟩, fun i g0 g1 => ?_, ?_, ?_, ?_, ?_, ?_, ?_, ?_⟩, ⟨⟨?_, m1.2.1, fun k g0 g1 => ?_⟩, ?_, ?_, ?_, ?_, ?_, ?_⟩, hp, ?_⟩
  · rw [e1 _ _ (by omega) (by omega)]; exact c1.1
  · rw [tx_c (e1 3 k g0 (by omega))]; exact c1.2.2 k g0 g1
  · rw [e1 _ _ g0 (by omega)]; exact c2 i g0 g1
  · rw [e1 _ _ (by omega) (by omega)]; exact c3
  · rw [e1 _ _ (by omega) (by omega)]; exact c4
  · rw [e1 _ _ (by omega) (by omega)]; exact c5
  · rw [e1 _ _ (by omega) (by omega)]; exact c6
  · rw [e1 _ _ (by omega) (by omega)]; exact c7
  · rw [e1 _ _ (by omega) (by omega)]; exact c8
  · rw [e1 _ _ (by omega) (by omega)]; exact c9
  · rw [(e2 _ (by omega) (by omega)).1]; exact m1.1
  · rw [e3 k g0]; exact m1.2.2 k g0 g1
  · rw [(e2 _ (by omega) (by omega)).1]; exact m2
  · rw [(e2 _ (by omega) (by omega)).1]; exact m3
  · rw [(e2 _ (by omega) (by omega)).1]; exact m4
  · rw [(e2 _ (by omega) (by omega)).1]; exact m5
  · rw [(e2 _ (by omega) (by omega)).1]; exact m6
  · unfold tkM
    rw [(e2 3 (by omega) (by omega)).1, (e2 6 (by omega) (by omega)).1, (e2 7 (by omega) (by omega)).2]
    exact m7
  · rw [e1 _ _ (by omega) (by omega), (e2 7 (by omega) (by omega)).2]; exact hw
theorem AL_x (h : AL A σ c N q a t v) : RD σ q t v ∧ tkA A t := by
  obtain ⟨⟨c1, c2, c3, c4, c5, c6, c7, c8, c9⟩, ⟨m1, m2, m3, m4, m5, m6, m7⟩, hp, hw⟩ := h
  have tb := tk_b hp.1
  exact ⟨⟨m4, m6, m2, Or.inl hp.1, m7, fun g => by omega⟩, hp.1, c5, c6⟩
theorem NM_f (h : NM σ b e om dp ba o kd ph bg) (f : fr Q σ τ) (hQ : ∀ p k, Q p k → p ≠ 78 ∧ p ≠ 79 ∧ p ≠ 80 ∧ p ≠ 82 ∧ (p = 56 → k ≠ 34 ∧ k ≠ 35 ∧ k ≠ 41 ∧ k ≠ 42 ∧ k ≠ 44)) : NM τ b e om dp ba o kd ph bg := by
  obtain ⟨n1, n2, n3, n4, n5, n6, n7, n8, n9, n10⟩ := h
  have e1 : ∀ p k, 0 ≤ k → (p = 78 ∨ p = 79 ∨ p = 80 ∨ p = 82) → hI τ p k = hI σ p k := fun p k g w => (f.2 p k g (fun x => by have := hQ p k x; omega)).1
  have e2 : ∀ k, 0 ≤ k → (k = 34 ∨ k = 35 ∨ k = 41 ∨ k = 42 ∨ k = 44) → hI τ 56 k = hI σ 56 k := fun k g w => (f.2 56 k g (fun x => by have := (hQ 56 k x).2.2.2.2 rfl; omega)).1
  refine ⟨?_, ?_, n3, ?_, ?_, ?_, ?_, ?_, ?_, ?_⟩
  · rw [e2 _ (by omega) (by omega)]; exact n1
  · rw [e2 _ (by omega) (by omega)]; exact n2
  · rw [e2 _ (by omega) (by omega)]; exact n4
  · rw [e2 _ (by omega) (by omega)]; exact n5
  · rw [e1 _ _ (by omega) (by omega)]; exact n6
  · rw [e2 _ (by omega) (by omega)]; exact n7
  · rw [e1 _ _ (by omega) (by omega)]; exact n8
  · rw [e1 _ _ (by omega) (by omega)]; exact n9
  · rw [e1 _ _ (by omega) (by omega)]; exact n10
def oQ (p : Nat) (k : Int) : Prop := p = 56 ∧ ((3 ≤ k ∧ k ≤ 9) ∨ k = 12 ∨ k = 45)
theorem oM_Q (o : oM σ τ) : fr oQ σ τ := fr_M o (fun k h => by unfold oQ; omega)
theorem oQ_s (p : Nat) (k : Int) (_ : 0 ≤ k) (h : oQ p k) : sP b e om dp p k := by unfold oQ at h; unfold sP; omega
theorem NM_Q (h : NM σ b e om dp ba o kd ph bg) (f : fr oQ σ τ) : NM τ b e om dp ba o kd ph bg := NM_f h f (fun p k w => by unfold oQ at w; omega)
def q45 (p : Nat) (k : Int) : Prop := p = 56 ∧ k = 45
theorem j45 {x : Int} : fr q45 σ (jS σ 56 45 x) := fr_j (by omega) ⟨rfl, rfl⟩
theorem AL_45 {x : Int} (h : AL A σ c N q a t v) : AL A (jS σ 56 45 x) c N q a t v := AL_f h (fun _ _ _ _ => rfl) j45 (fun p k w => by unfold q45 at w; omega)
theorem mBd_c {p : Int} (h : mBd σ p) (e : ∀ k, 0 ≤ k → k ≤ 12 → hI τ 56 k = hI σ 56 k) : mBd τ p := by
  unfold mBd
  rw [e 8 (by omega) (by omega), e 9 (by omega) (by omega), e 12 (by omega) (by omega), e 3 (by omega) (by omega), e 5 (by omega) (by omega), e 6 (by omega) (by omega), e 4 (by omega) (by omega)]
  exact h
theorem oR_sz (h : oR A B) : hI B (rp B.2.2.2.2 + 11) 3 = hI A (rp A.2.2.2.2 + 11) 3 := by
  have hrp := rp_or A.2.2.2.2
  rw [show B.2.2.2.2 = A.2.2.2.2 by rw [h.1]]
  exact h.2.2 _ _ (by omega)
/-- a code is added on both sides, and the next word, number or sign is looked at -/
def lQ (b e dp : Int) (p : Nat) (k : Int) : Prop := ((p = 80 ∨ p = 79) ∧ k = dp - 1) ∨ ((p = 74 ∨ p = 75) ∧ k = 1600 * b + e) ∨ (p = 56 ∧ k = 34)
theorem fin_leaf {D r ph' : Int} {G : (Int → Int) → Int} {po : Int → Int → ((Int → Int) → Int) → Prop} (hj : JC A σ c N b q a t v sz e om dp ba o kd ph bg 0) (ht : t ≠ 1) (fA : fr (cS (rp A.2.2.2.2) sz) A A1) (hA1 : ∀ p k, 0 ≤ k → (p = 54 ∨ p = 2 ∨ p = 3 ∨ p = 55) → hI A1 p k = hI A p k) (hsz : hI A1 (rp A.2.2.2.2 + 11) 3 = sz + 1) (fσ : fr (lQ b e dp) σ σ1) (e34 : hI σ1 56 34 = e + 1) (e80 : hI σ1 80 (dp - 1) = 0) (e79 : hI σ1 79 (dp - 1) = ph') (hph : 0 ≤ ph' ∧ ph' ≤ 2) (hop : fX11_operand σ = bnr (fX11_ahead σ1) fun υ => some (z32 1, υ)) (hcs : cSeg A.2.2.2.2 (hI A1 (rp A.2.2.2.2 + 12)) sz (sz + 1) G D) (hms : mSeg (hI σ1 74) (hI σ1 75) (1600 * b + e) (1600 * b + e + 1) G D) (hG : bF G) (hD : 1 ≤ D) (hpo : ∀ t', po t' ph' G) : ∃ B, (bnr (fX5_advance A1) fun B => some B) = some B ∧ (OKP A B σ c N b q sz e om dp ba o kd r D po ∨ BADP A B σ b q e om dp) := by
  obtain ⟨hal, ⟨j1, j2, j3⟩, hn, j4, j5, j6⟩ := hj
  have hp := hal.2.2.1
  obtain ⟨p1, p2, p3, p4, p5, p6, p7, p8⟩ := hp
  have qa := p6 ht
  have hrp := rp_or A.2.2.2.2
  obtain ⟨n1, n2, n3, n4, n5, n6, n7, n8, n9, n10⟩ := hn
  have hal1 : AL A1 σ1 c N q a t v := AL_f hal hA1 fσ (fun p k w => by unfold lQ at w; omega)
  have eA : A1.2.2.2.2 = A.2.2.2.2 := by rw [fA.1]
  have fs1 : fr (sP b e om dp) σ σ1 := fr_m fσ (fun p k _ w => by unfold lQ at w; unfold sP; omega)
  have v56 : ∀ k, 0 ≤ k → k ≠ 34 → hI σ1 56 k = hI σ 56 k := fun k g w => (fσ.2 56 k g (by unfold lQ; omega)).1
  have hn1 : NM σ1 b (e + 1) om dp ba o kd ph' 0 := by
    refine ⟨⟨e34, by omega⟩, ?_, by omega, ?_, ?_, ?_, ?_, ?_, ⟨e79, hph⟩, ⟨e80, by omega⟩⟩
    · rw [v56 _ (by omega) (by omega)]; exact n2
    · rw [v56 _ (by omega) (by omega)]; exact n4
    · rw [v56 _ (by omega) (by omega)]; exact n5
    · rw [(fσ.2 82 _ (by omega) (by unfold lQ; omega)).1]; exact n6
    · rw [v56 _ (by omega) (by omega)]; exact n7
    · rw [(fσ.2 78 _ (by omega) (by unfold lQ; omega)).1]; exact n8
  obtain ⟨B, τ, b1, b2, t1, t2, hres⟩ := adv_j hal1 ht
  have hop2 : fX11_operand σ = some (z32 1, τ) := by rw [hop, t1, bnr_q]
  have tQ := oM_Q t2
  have t45 : hI (jS τ 56 45 1) 56 45 = 1 := by rw [hI_jS (by omega) (by omega) (by omega) (by omega), if_pos rfl]
  have fQ : fr oQ σ1 (jS τ 56 45 1) := fr_t tQ (fr_j (by omega) (by unfold oQ; omega))
  have f2 : fr (sP b e om dp) σ (jS τ 56 45 1) := fr_t fs1 (fr_m fQ oQ_s)
  have hn2 : NM (jS τ 56 45 1) b (e + 1) om dp ba o kd ph' 0 := NM_Q hn1 fQ
  have fB : fr (cS (rp A.2.2.2.2) sz) A B := fr_t fA (oR_S b2)
  have eB : B.2.2.2.2 = A.2.2.2.2 := by rw [fB.1]
  have szB : hI B (rp B.2.2.2.2 + 11) 3 = sz + 1 := by rw [oR_sz b2, eA]; exact hsz
  refine ⟨B, by rw [b1, bnr_q], ?_⟩
  rcases hres with ⟨q', a', t', v', hal2, hq⟩ | ⟨p, hc, hm⟩
  · left
    have h8 : hI τ 56 8 = 0 := hal2.2.1.2.2.2.1
    have c74 : ∀ i, 0 ≤ i → hI (jS τ 56 45 1) 74 i = hI σ1 74 i ∧ hI (jS τ 56 45 1) 75 i = hI σ1 75 i := fun i g => ⟨(fQ.2 74 i g (by unfold oQ; omega)).1, (fQ.2 75 i g (by unfold oQ; omega)).1⟩
    refine ⟨jS τ 56 45 1, q', a', t', v', sz + 1, e + 1, om, o, ph', 1600 * b + e, [], G, G, 1, ⟨AL_45 hal2, ⟨szB, by omega, by omega⟩, hn2, by omega, j5, t45⟩, ⟨by omega, by omega, stp_o j6 hop2 (Or.inr rfl) h8⟩, fB, f2, ⟨by omega, by omega, by simp only [nbL]; omega⟩, ?_, hG, ⟨rfl, rfl, rfl⟩, ?_, by simp [nnL], hpo t'⟩
    · refine cSeg_cong hcs (fun i g0 g1 => ?_)
      exact b2.2.2 _ _ (by omega)
    · simp only [nbL, Int.sub_zero]
      rw [show 1600 * b + (e + 1) = 1600 * b + e + 1 by omega]
      exact mSeg_cong hms (fun i g0 g1 => c74 i (by omega))
  · right
    have h8 : hI τ 56 8 = 0 := hm.1
    obtain ⟨υ, u1, u2, u3⟩ := bad_end (mBd_c hm (fun k g w => by rw [hI_j0 (by omega) g (by omega)]) : mBd (jS τ 56 45 1) p) hn2 (Or.inr t45)
    exact ⟨1, p, υ, 2 + 1, hc, ⟨by rw [szB]; omega, by rw [szB]; omega⟩, cS_B fB, stp_e (stp_o j6 hop2 (Or.inr rfl) h8) u1, by omega, u2, fr_t f2 (fr_m u3 (sP_m (by omega) (by omega) (by omega)))⟩
/-- an opening bracket, both sides: σ0 is where the other side stands in its step -/
def pQ (dp : Int) (p : Nat) (k : Int) : Prop := (p = 56 ∧ ((3 ≤ k ∧ k ≤ 9) ∨ k = 12 ∨ k = 41 ∨ k = 42)) ∨ ((p = 78 ∨ p = 79 ∨ p = 80 ∨ p = 82) ∧ k = dp)
theorem open_j {kd2 : Int} (hal : AL A σ c N q a t v) (ht : t ≠ 1) (hn : NM σ b e om dp ba o kd ph bg) (hk : 0 ≤ kd2 ∧ kd2 ≤ 6) (ho : o < 7) (hd : dp ≤ o + 1) (hs : hI A (rp A.2.2.2.2 + 11) 3 = sz ∧ 0 ≤ sz ∧ sz ≤ q) (he : e + om ≤ q) : ∃ B τ, fX5_advance A = some B ∧ oR A B ∧ fX11_opens (z32 kd2) σ = some τ ∧ hI τ 56 8 = 0 ∧ fr (pQ dp) σ τ ∧ NM (jS τ 56 45 0) b e om (dp + 1) om (o + 1) kd2 0 1 ∧ ((∃ q' a' t' v', JC B (jS τ 56 45 0) c N b q' a' t' v' sz e om (dp + 1) om (o + 1) kd2 0 1 0 ∧ a ≤ q' ∧ AL B τ c N q' a' t' v') ∨ (∃ p, cBk B 1 p ∧ mBd τ p)) := by
  obtain ⟨n1, n2, n3, n4, n5, n6, n7, n8, n9, n10⟩ := hn
  have h8 : hI σ 56 8 = 0 := hal.2.1.2.2.2.1
  have hal1 : AL A (jS σ 56 42 (o + 1)) c N q a t v := AL_f hal (fun _ _ _ _ => rfl) (fr_j (P := fun p k => p = 56 ∧ k = 42) (by omega) ⟨rfl, rfl⟩) (fun p k w => by omega)
  obtain ⟨B, τ, b1, b2, t1, t2, hres⟩ := adv_j hal1 ht
  have tQ := oM_Q t2
  have e41 : hI τ 56 41 = dp := by rw [(tQ.2 56 41 (by omega) (by unfold oQ; omega)).1, hI_j0 (by omega) (by omega) (by omega)]; exact n4.1
  have e44 : hI τ 56 44 = om := by rw [(tQ.2 56 44 (by omega) (by unfold oQ; omega)).1, hI_j0 (by omega) (by omega) (by omega)]; exact n2.1
  have mp := mps_z (x := kd2) e41 e44 (by omega) (by omega)
  have f1 : fr (pQ dp) σ τ := fr_t (fr_j (by omega) (by unfold pQ; omega)) (fr_M t2 (fun k h => by unfold pQ; omega))
  have f2 : fr (pQ dp) τ (jS (jS (jS (jS (jS τ 78 dp kd2) 79 dp 0) 80 dp 1) 82 dp om) 56 41 (dp + 1)) := fr_t (fr_t (fr_t (fr_t (fr_j (by omega) (by unfold pQ; omega)) (fr_j (by omega) (by unfold pQ; omega))) (fr_j (by omega) (by unfold pQ; omega))) (fr_j (by omega) (by unfold pQ; omega))) (fr_j (by omega) (by unfold pQ; omega))
  have f3 : fr (fun p k => (p = 78 ∨ p = 79 ∨ p = 80 ∨ p = 82) ∨ (p = 56 ∧ k = 41)) τ (jS (jS (jS (jS (jS τ 78 dp kd2) 79 dp 0) 80 dp 1) 82 dp om) 56 41 (dp + 1)) := fr_t (fr_t (fr_t (fr_t (fr_j (by omega) (by omega)) (fr_j (by omega) (by omega))) (fr_j (by omega) (by omega))) (fr_j (by omega) (by omega))) (fr_j (by omega) (by omega))
  have f42 : hI τ 56 42 = o + 1 := by rw [(tQ.2 56 42 (by omega) (by unfold oQ; omega)).1, hI_jS (by omega) (by omega) (by omega) (by omega), if_pos rfl]
  have x78 : hI (jS (jS (jS (jS (jS τ 78 dp kd2) 79 dp 0) 80 dp 1) 82 dp om) 56 41 (dp + 1)) 78 dp = kd2 := by
    rw [hI_jS_ne (by omega), hI_jS_ne (by omega), hI_jS_ne (by omega), hI_jS_ne (by omega), hI_jS (by omega) (by omega) (by omega) (by omega), if_pos rfl]
  have x79 : hI (jS (jS (jS (jS (jS τ 78 dp kd2) 79 dp 0) 80 dp 1) 82 dp om) 56 41 (dp + 1)) 79 dp = 0 := by
    rw [hI_jS_ne (by omega), hI_jS_ne (by omega), hI_jS_ne (by omega), hI_jS (by omega) (by omega) (by omega) (by omega), if_pos rfl]
  have x80 : hI (jS (jS (jS (jS (jS τ 78 dp kd2) 79 dp 0) 80 dp 1) 82 dp om) 56 41 (dp + 1)) 80 dp = 1 := by
    rw [hI_jS_ne (by omega), hI_jS_ne (by omega), hI_jS (by omega) (by omega) (by omega) (by omega), if_pos rfl]
  have x82 : hI (jS (jS (jS (jS (jS τ 78 dp kd2) 79 dp 0) 80 dp 1) 82 dp om) 56 41 (dp + 1)) 82 dp = om := by
    rw [hI_jS_ne (by omega), hI_jS (by omega) (by omega) (by omega) (by omega), if_pos rfl]
  have x41 : hI (jS (jS (jS (jS (jS τ 78 dp kd2) 79 dp 0) 80 dp 1) 82 dp om) 56 41 (dp + 1)) 56 41 = dp + 1 := by
    rw [hI_jS (by omega) (by omega) (by omega) (by omega), if_pos rfl]
  have hop := opn_z (s := kd2) n7.1 h8 n7.2.1 ho
  rw [t1, bnr_q, mp, bnr_q] at hop
  generalize hυ : jS (jS (jS (jS (jS τ 78 dp kd2) 79 dp 0) 80 dp 1) 82 dp om) 56 41 (dp + 1) = υ at *
  have u56 : ∀ k, 0 ≤ k → k ≠ 41 → hI υ 56 k = hI τ 56 k ∧ hL υ 56 k = hL τ 56 k := fun k g w => f3.2 56 k g (by omega)
  have hnu : NM (jS υ 56 45 0) b e om (dp + 1) om (o + 1) kd2 0 1 := by
    refine NM_f (σ := υ) ?_ j45 (fun p k w => by unfold q45 at w; omega)
    refine ⟨⟨?_, n1.2⟩, ⟨?_, n2.2⟩, n3, ⟨x41, by omega, by omega⟩, ⟨?_, n5.2⟩, ⟨?_, by omega, by omega⟩, ⟨?_, by omega, by omega⟩, ⟨?_, hk⟩, ⟨?_, by omega⟩, ⟨?_, by omega⟩⟩
    · rw [(u56 _ (by omega) (by omega)).1, (tQ.2 56 34 (by omega) (by unfold oQ; omega)).1, hI_j0 (by omega) (by omega) (by omega)]; exact n1.1
    · rw [(u56 _ (by omega) (by omega)).1]; exact e44
    · rw [(u56 _ (by omega) (by omega)).1, (tQ.2 56 35 (by omega) (by unfold oQ; omega)).1, hI_j0 (by omega) (by omega) (by omega)]; exact n5.1
    · rw [show dp + 1 - 1 = dp by omega]; exact x82
    · rw [(u56 _ (by omega) (by omega)).1]; exact f42
    · rw [show dp + 1 - 1 = dp by omega]; exact x78
    · rw [show dp + 1 - 1 = dp by omega]; exact x79
    · rw [show dp + 1 - 1 = dp by omega]; exact x80
  have f8 : hI τ 56 8 = 0 := by
    rcases hres with ⟨q', a', t', v', hal2, hq⟩ | ⟨p, hc, hm⟩
    · exact hal2.2.1.2.2.2.1
    · exact hm.1
  refine ⟨B, υ, b1, b2, hop, by rw [(u56 _ (by omega) (by omega)).1]; exact f8, fr_t f1 f2, hnu, ?_⟩
  rcases hres with ⟨q', a', t', v', hal2, hq⟩ | ⟨p, hc, hm⟩
  · left
    have hp := hal.2.2.1
    obtain ⟨p1, p2, p3, p4, p5, p6, p7, p8⟩ := hp
    have qa := p6 ht
    have halu : AL B υ c N q' a' t' v' := AL_f hal2 (fun _ _ _ _ => rfl) f3 (fun p k w => by omega)
    refine ⟨q', a', t', v', ⟨AL_45 halu, ⟨by rw [oR_sz b2]; exact hs.1, hs.2.1, by omega⟩, hnu, by omega, by omega, by rw [hI_jS (by omega) (by omega) (by omega) (by omega), if_pos rfl]⟩, hq, halu⟩
  · exact Or.inr ⟨p, hc, mBd_c hm (fun k g w => (u56 k g (by omega)).1)⟩
end SP

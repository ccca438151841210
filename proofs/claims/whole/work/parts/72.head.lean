/-! MY OWN: the loop over statements, both sides -/
def LH (A τ : zS) (c : Int → Int) (N : Int) (d : Bool) (b a q n : Int) : Prop := (TX A c N ∧ OWN A ∧ MX τ c N) ∧ (hI A 54 3 = a ∧ hI A 54 9 = 0 ∧ hI A 54 10 = -1 ∧ hI A (rp d + 0) 0 = n) ∧ (0 ≤ a ∧ ¬ sdP c a ∧ skT c N a q ∧ (n < 80 ∨ q = N) ∧ 0 ≤ n ∧ n ≤ 80) ∧ RR A τ d b a ∧ ((∃ a' t v p w, TKo c N q a' t v p w ∧ mvT τ N q a' (-1) t v w) ∨ ∃ p, TKb c N q p ∧ mBd τ p)
def cRa (rb : Nat) (p : Nat) (_ : Int) : Prop := p = 54 ∨ (rb ≤ p ∧ p ≤ rb + 15)
def L6 (B φ : zS) (c : Int → Int) (N : Int) (d : Bool) : Prop := TX B c N ∧ ∃ a q, hI B 54 3 = a ∧ 0 ≤ a ∧ skT c N a q ∧ q < N ∧ hI B 54 9 = 0 ∧ hI B 54 10 = -1 ∧ hI B (rp d + 0) 0 = 80 ∧ B.2.2.2.2 = d ∧ mFt φ 6 q
def AFT (B φ : zS) (c : Int → Int) (N : Int) (d : Bool) (b n : Int) : Prop := (∃ a q, LH B φ c N d b a q n) ∨ (n = 80 ∧ L6 B φ c N d) ∨ (TX B c N ∧ ∃ k p, cBk B k p ∧ mFt φ k p)
section HD
variable {A B C σ τ υ φ : zS} {c : Int → Int} {N b q q' a t v i k p w n sg sa va wd la : Int} {d : Bool}
theorem hd_m (hT : MX σ c N) (h : mv σ N sg sa a va wd 0 (-1) la) (h0 : 0 ≤ a) (h1 : a ≤ N) : ∃ τ q, fX11_ahead σ = some τ ∧ oM σ τ ∧ skT c N a q ∧ ((∃ a' t v p w, TKo c N q a' t v p w ∧ mvT τ N q a' (-1) t v w) ∨ ∃ p, TKb c N q p ∧ mBd τ p) := by
  obtain ⟨q, hq⟩ := sk_ex c h1
  rcases tk_ex c hq.2.1 with ⟨a', t, v, p, w, hk⟩ | ⟨p, hk⟩
  · obtain ⟨τ, t1, t2, t3⟩ := tok_m hT h h0 hq hk
    exact ⟨τ, q, t1, t2, hq, Or.inl ⟨a', t, v, p, w, hk, t3⟩⟩
  · obtain ⟨τ, t1, t2, t3⟩ := tok_mb hT h h0 hq hk
    exact ⟨τ, q, t1, t2, hq, Or.inr ⟨p, hk, t3⟩⟩
theorem TX_fr (h : TX A c N) (e : ∀ p k, 0 ≤ k → (p = 2 ∨ p = 3) → hI B p k = hI A p k) : TX B c N := ⟨(e 2 1 (by omega) (by omega)).trans h.1, h.2.1, fun k g0 g1 => (tx_c (e 3 k g0 (by omega))).trans (h.2.2 k g0 g1)⟩
theorem MX_fr (h : MX σ c N) (f : fr (mRd b) σ τ) : MX τ c N := ⟨by rw [(f.2 56 2 (by omega) (by unfold mRd; omega)).1]; exact h.1, h.2.1, fun k g0 g1 => ⟨by rw [(f.2 57 k g0 (by unfold mRd; omega)).1]; exact (h.2.2 k g0 g1).1, (h.2.2 k g0 g1).2⟩⟩
theorem cR_a (p : Nat) (k : Int) (_ : 0 ≤ k) (h : cR (rp d) p k) : cRa (rp d) p k := by unfold cR at h; unfold cRa; omega
theorem TX_cRa (h : TX A c N) (f : fr (cRa (rp d)) A B) : TX B c N := TX_fr h (fun p k g w => by
  have hrp := rp_or d
  exact (f.2 p k g (by unfold cRa; omega)).1)
theorem OWN_cRa (h : OWN A) (f : fr (cRa (rp d)) A B) : OWN B := fun i g0 g1 => by
  have hrp := rp_or d
  rw [(f.2 55 i g0 (by unfold cRa; omega)).1]; exact h i g0 g1
theorem comes_y (hT : TX A c N) (e3 : hI A 54 3 = a) (e9 : hI A 54 9 = 0) (h0 : 0 ≤ a) (hq : skT c N a q) : ∃ B, fX5_comesToStatement A = some (z32 (if q < N then 1 else 0), B) ∧ oR A B ∧ lv B q (hI A 54 4) (hI A 54 5) (hI A 54 6) (hI A 54 7) (hI A 54 8) 0 (hI A 54 10) := by
  obtain ⟨B, b1, b2, b3⟩ := cSkip_z hT (⟨e3, rfl, rfl, rfl, rfl, rfl, e9, rfl⟩ : lv A a (hI A 54 4) (hI A 54 5) (hI A 54 6) (hI A 54 7) (hI A 54 8) 0 (hI A 54 10)) h0 hq
  have hs := (TX_o hT b2).1
  have hN := hT.2.1
  have q1 := hq.1
  have q2 := hq.2.1
  have d3 := b3.1
  have d9 := b3.2.2.2.2.2.2.1
  refine ⟨B, ?_, b2, b3⟩
  by_cases g : q < N
  · rw [if_pos g]
    simp (disch := omega) only [fX5_comesToStatement, b1, z32_add, z32_sub, z32_mul, z32_neg, z32_litn, z32_lt, z32_le, z32_eq, iG_h, lG_h, iS_q, lS_q, aI_h, wI_h, aL_h, wL_h, ↓bnd_q, bnr_q, bnc_q, ↓reduceIte, ieqT, ieqF, iltT, iltF, ileT, ileF, not_true, not_false_iff, d9, d3, hs]
  · rw [if_neg g]
    simp (disch := omega) only [fX5_comesToStatement, b1, z32_add, z32_sub, z32_mul, z32_neg, z32_litn, z32_lt, z32_le, z32_eq, iG_h, lG_h, iS_q, lS_q, aI_h, wI_h, aL_h, wL_h, ↓bnd_q, bnr_q, bnc_q, ↓reduceIte, ieqT, ieqF, iltT, iltF, ileT, ileF, not_true, not_false_iff, d9, d3, hs]
theorem comes_k (hT : TX A c N) (h : cBk A k p) : ∃ B, fX5_comesToStatement A = some (z32 0, B) ∧ oR A B ∧ cBk B k p := by
  obtain ⟨e5, e6, e9, e10, hk, h3⟩ := h
  have l1 := hI_lo A 54 9
  have l2 := hI_hi A 54 9
  have l3 := hI_hi A 54 3
  by_cases g : hI A 54 3 ≤ N
  · obtain ⟨q, hq⟩ := sk_ex c g
    have q1 := hq.1
    obtain ⟨B, b1, b2, b3⟩ := cSkip_z hT (⟨rfl, rfl, e5, e6, rfl, rfl, e9, e10⟩ : lv A (hI A 54 3) (hI A 54 4) 4 (-1) (hI A 54 7) (hI A 54 8) k p) h3 hq
    refine ⟨B, ?_, b2, lv_bk b3 hk (by omega)⟩
    have d9 := b3.2.2.2.2.2.2.1
    simp (disch := omega) only [fX5_comesToStatement, b1, z32_add, z32_sub, z32_mul, z32_neg, z32_litn, z32_lt, z32_le, z32_eq, iG_h, lG_h, iS_q, lS_q, aI_h, wI_h, aL_h, wL_h, ↓bnd_q, bnr_q, bnc_q, ↓reduceIte, ieqT, ieqF, iltT, iltF, ileT, ileF, not_true, not_false_iff, d9]
  · refine ⟨A, ?_, oR_r A, e5, e6, e9, e10, hk, h3⟩
    have hs := hT.1
    have hN := hT.2.1
    have e : fX5_skipBlanks A = some A := by
      obtain ⟨g', hg⟩ := zF_ex
      unfold fX5_skipBlanks
      rw [hg]
      simp (disch := omega) only [fX5_skipBlanks_0, z32_add, z32_sub, z32_mul, z32_neg, z32_litn, z32_lt, z32_le, z32_eq, iG_h, lG_h, iS_q, lS_q, aI_h, wI_h, aL_h, wL_h, ↓bnd_q, bnr_q, bnc_q, ↓reduceIte, ieqT, ieqF, iltT, iltF, ileT, ileF, not_true, not_false_iff, hs]
    simp (disch := omega) only [fX5_comesToStatement, e, z32_add, z32_sub, z32_mul, z32_neg, z32_litn, z32_lt, z32_le, z32_eq, iG_h, lG_h, iS_q, lS_q, aI_h, wI_h, aL_h, wL_h, ↓bnd_q, bnr_q, bnc_q, ↓reduceIte, ieqT, ieqF, iltT, iltF, ileT, ileF, not_true, not_false_iff, e9]
theorem rs218 (hd : A.2.2.2.2 = d) (e0 : hI A (rp d + 0) 0 = n) : fX5_readStatement_218 A = some (jS A (rp d + 0) 0 (n + 1)) := by
  unfold fX5_readStatement_218
  rw [hd, show iG A (rp d + 0) 0 = z32 (hI A (rp d + 0) 0) from iG_h A (rp d + 0) 0, e0, z1p, bnd_q]
  rfl
theorem RR_0 {x : Int} (h : RR A σ d b q) : RR (jS A (rp d + 0) 0 x) σ d b q := by
  have hrp := rp_or d
  have f1 : fr (fun p k => p = rp d + 0 ∧ k = 0) A (jS A (rp d + 0) 0 x) := fr_j (by omega) ⟨rfl, rfl⟩
  have f2 : fr (fun _ _ => False) σ σ := fr_r
  obtain ⟨h1, h2, h3, h4, h5, h6, h7⟩ := h
  have hb := h2.1.2.1
  exact ⟨h1, NR_f h2 f1 f2 (fun p k w => by omega) (fun p k w => w.elim), RL_f hb h2.2.1.2.1 h3 f1 f2 (fun p k w => by omega) (fun p k w => w.elim), RH_f hb h2.2.2.1.2.1 h4 f1 f2 (fun p k w => by omega) (fun p k w => w.elim), RF_f hb h5 f1 f2 (fun p k w => by omega) (fun p k w => w.elim), RSm_f hb h6 f1 f2 (fun p k w => by omega) (fun p k w => w.elim), RZ_f h7 (Int.le_refl _) f1 f2 (fun p k w => by omega) (fun p k w => w.elim)⟩
theorem fin_sk {x : Int32} (hT : MX σ c N) (h0 : 0 ≤ a) (hq : skT c N a q) : fX11_finishes_17 zF x (z32 a) σ = fX11_finishes_53 x (z32 q) σ := by
  have hN := hT.2.1
  have hs := hT.1
  have hq1 := hq.1
  have hq2 := hq.2.1
  have key : ∀ (d : Nat) (f : Nat) (p : Int), a ≤ p → q - p = d → d < f → fX11_finishes_17 f x (z32 p) σ = fX11_finishes_53 x (z32 q) σ := by
    intro d
    induction d with
    | zero =>
      intro f p hp hd hf
      obtain ⟨g, rfl⟩ : ∃ g, f = g + 1 := ⟨f - 1, by omega⟩
      have : p = q := by omega
      subst this
      by_cases g2 : p = N
      · simp (disch := omega) only [fX11_finishes_17, z32_add, z32_sub, z32_mul, z32_neg, z32_litn, z32_lt, z32_le, z32_eq, iG_h, lG_h, iS_q, lS_q, aI_h, wI_h, aL_h, wL_h, ↓bnd_q, bnr_q, bnc_q, ↓reduceIte, ieqT, ieqF, iltT, iltF, ileT, ileF, not_true, not_false_iff, hs]
      · obtain ⟨b1, b2, b3⟩ := hT.2.2 p (by omega) (by omega)
        have g3 : ¬ isB (c p) := by rcases hq.2.2.2 with g | g; exact absurd g g2; exact g
        unfold isB at g3
        simp (disch := omega) only [fX11_finishes_17, z32_add, z32_sub, z32_mul, z32_neg, z32_litn, z32_lt, z32_le, z32_eq, iG_h, lG_h, iS_q, lS_q, aI_h, wI_h, aL_h, wL_h, ↓bnd_q, bnr_q, bnc_q, ↓reduceIte, ieqT, ieqF, iltT, iltF, ileT, ileF, not_true, not_false_iff, hs, b1]
    | succ d ih =>
      intro f p hp hd hf
      obtain ⟨g, rfl⟩ : ∃ g, f = g + 1 := ⟨f - 1, by omega⟩
      have h1 := ih g (p + 1) (by omega) (by omega) (by omega)
      obtain ⟨b1, b2, b3⟩ := hT.2.2 p (by omega) (by omega)
      have g3 := hq.2.2.1 p hp (by omega)
      rcases g3 with g3 | g3
      · simp (disch := omega) only [fX11_finishes_17, fX11_finishes_47, z32_add, z32_sub, z32_mul, z32_neg, z32_litn, z32_lt, z32_le, z32_eq, iG_h, lG_h, iS_q, lS_q, aI_h, wI_h, aL_h, wL_h, ↓bnd_q, bnr_q, bnc_q, ↓reduceIte, ieqT, ieqF, iltT, iltF, ileT, ileF, not_true, not_false_iff, hs, b1, g3]
        exact h1
      · simp (disch := omega) only [fX11_finishes_17, fX11_finishes_47, z32_add, z32_sub, z32_mul, z32_neg, z32_litn, z32_lt, z32_le, z32_eq, iG_h, lG_h, iS_q, lS_q, aI_h, wI_h, aL_h, wL_h, ↓bnd_q, bnr_q, bnc_q, ↓reduceIte, ieqT, ieqF, iltT, iltF, ileT, ileF, not_true, not_false_iff, hs, b1, g3]
        exact h1
  exact key (q - a).toNat zF a (by omega) (by omega) (by unfold zF; omega)
theorem fin_any {x : Int32} (hT : MX σ c N) (h0 : 0 ≤ a) (h1 : a < 2147483648) : ∃ y, fX11_finishes_17 zF x (z32 a) σ = fX11_finishes_53 x y σ := by
  by_cases g : a ≤ N
  · obtain ⟨q, hq⟩ := sk_ex c g
    exact ⟨_, fin_sk hT h0 hq⟩
  · refine ⟨z32 a, ?_⟩
    have hN := hT.2.1
    have hs := hT.1
    obtain ⟨g', hg⟩ := zF_ex
    rw [hg]
    simp (disch := omega) only [fX11_finishes_17, z32_add, z32_sub, z32_mul, z32_neg, z32_litn, z32_lt, z32_le, z32_eq, iG_h, lG_h, iS_q, lS_q, aI_h, wI_h, aL_h, wL_h, ↓bnd_q, bnr_q, bnc_q, ↓reduceIte, ieqT, ieqF, iltT, iltF, ileT, ileF, not_true, not_false_iff, hs]
theorem must_y (hr : RD σ q 59 v) : fX11_must 59 σ = bnr (fX11_ahead σ) fun s => some s := by
  unfold fX11_must fX11_must_21
  rw [lex_n hr.2.1, bnr_q, if_neg (by rw [sg59 hr.2.2.2]; simp), if_pos (c8q hr.1)]
theorem must_n (hr : RD σ q t v) (ht : t ≠ 59) (hq : 0 ≤ q ∧ q < 1700) : fX11_finishes_83 σ = some (jS (jS σ 56 8 1) 56 9 q) := by
  obtain ⟨f1, f2⟩ := flt (k := 1) (p := q) hr.1 (by omega) (by omega)
  unfold fX11_finishes_83 fX11_must fX11_must_21
  rw [lex_n hr.2.1, bnr_q, if_pos (by rw [sg59 hr.2.2.2]; exact ht), bl4 (z32_litn 1) hr.1 hr.2.2.1, bnr_q, if_neg (c8e f1), bnr_q]
theorem fin_n {x y : Int32} (hr : RD σ q t v) (ht : t ≠ 59) (hq : 0 ≤ q ∧ q < 1700) : fX11_finishes_53 x y σ = some (jS (jS σ 56 8 1) 56 9 q) := by
  unfold fX11_finishes_53
  rw [if_pos (by rw [sg59 hr.2.2.2]; exact ht), must_n hr ht hq]
theorem fin_e {x : Int32} (hT : MX σ c N) (hr : RD σ q t v) (h5 : 0 ≤ hI σ 56 5) : ∃ y, fX11_finishes x σ = fX11_finishes_53 x y σ := by
  obtain ⟨y, hy⟩ := fin_any (x := x) hT h5 (hI_hi σ 56 5)
  refine ⟨y, ?_⟩
  unfold fX11_finishes
  rw [lex_n hr.2.1, bnr_q, if_pos (c8z hr.1), show iG σ 56 5 = z32 (hI σ 56 5) from iG_h σ 56 5]
  exact hy
theorem fin_6 (hr : RD σ q 59 v) (hT : MX σ c N) (hq : 0 ≤ q') (hq' : q' < N) : fX11_finishes_53 (z32 80) (z32 q') σ = some (jS (jS σ 56 8 6) 56 9 q') := by
  have hN := hT.2.1
  obtain ⟨f1, f2⟩ := flt (k := 6) (p := q') hr.1 (by omega) (by omega)
  have x1 : hI (jS (jS σ 56 8 6) 56 9 q') 56 12 = -1 := by
    rw [hI_jS (by omega) (by omega) (by omega) (by omega), if_neg (by omega), hI_jS (by omega) (by omega) (by omega) (by omega), if_neg (by omega)]; exact hr.2.1
  unfold fX11_finishes_53
  rw [if_neg (by rw [sg59 hr.2.2.2]; simp), if_pos (by rw [z32_litn]), if_neg (by rw [show iG σ 56 2 = z32 (hI σ 56 2) from iG_h σ 56 2, hT.1, z32_le (by omega) (by omega) (by omega) (by omega)]; omega), z32_litn 6, blm_0 hr.1, bnr_q]
  unfold fX11_finishes_83 fX11_must fX11_must_21
  rw [lex_n x1, bnr_q]
  split
  · rw [bl5 f1, bnr_q, if_neg (c8e f1), bnr_q]
  · rw [if_neg (c8e f1), bnr_q]
theorem fin_8 (hr : RD σ q 59 v) (hT : MX σ c N) (hn : 0 ≤ n) (hn' : n < 80) (hq : 0 ≤ q') (hq' : q' ≤ N) (h8 : ¬ (n + 1 = 80 ∧ q' < N)) : fX11_finishes_53 (z32 (n + 1)) (z32 q') σ = bnr (fX11_ahead σ) fun s => some s := by
  have hN := hT.2.1
  have e83 : fX11_finishes_83 σ = bnr (fX11_ahead σ) fun s => some s := by
    unfold fX11_finishes_83
    rw [must_y hr]
    cases fX11_ahead σ <;> rfl
  unfold fX11_finishes_53
  rw [if_neg (by rw [sg59 hr.2.2.2]; simp)]
  by_cases g1 : n + 1 = 80
  · rw [if_pos (by rw [g1, z32_litn]), if_pos (by rw [show iG σ 56 2 = z32 (hI σ 56 2) from iG_h σ 56 2, hT.1, z32_le (by omega) (by omega) (by omega) (by omega)]; omega), e83]
  · rw [if_neg (by rw [z32_litn, z32_eq (by omega) (by omega) (by omega) (by omega)]; exact g1), e83]
end HD

/-! MY OWN: the other step of the other side's loop; the end of the loop at a fault -/
def sP (b e om dp : Int) (p : Nat) (k : Int) : Prop := (p = 56 ∧ ((3 ≤ k ∧ k ≤ 9) ∨ k = 12 ∨ k = 34 ∨ k = 41 ∨ k = 42 ∨ k = 44 ∨ k = 45)) ∨ ((p = 74 ∨ p = 75) ∧ 1600 * b + e ≤ k ∧ k < 1600 * b + 1600) ∨ (p = 83 ∧ om ≤ k) ∨ ((p = 78 ∨ p = 81 ∨ p = 82) ∧ dp ≤ k) ∨ ((p = 79 ∨ p = 80) ∧ dp - 1 ≤ k)
theorem sP_m {b e om dp e' om' dp' : Int} (h1 : e ≤ e') (h2 : om ≤ om') (h3 : dp ≤ dp') (p : Nat) (k : Int) (_ : 0 ≤ k) (hp : sP b e' om' dp' p k) : sP b e om dp p k := by
  unfold sP at hp ⊢
  omega
theorem jP_s {b e om dp e' : Int} (h1 : e ≤ e') (p : Nat) (k : Int) (_ : 0 ≤ k) (hp : jP b e' p k) : sP b e om dp p k := by
  unfold jP at hp
  unfold sP
  omega
theorem oM_s {σ τ : zS} {b e om dp : Int} (o : oM σ τ) : fr (sP b e om dp) σ τ := fr_M o (fun k h => by unfold sP; omega)
def mFb (τ : zS) (kd p : Int) : Prop := (hI τ 56 8 = kd ∧ hI τ 56 9 = p ∧ 0 < kd) ∨ (kd = 1 ∧ mBd τ p)
section GO
variable {σ τ υ : zS} {b e om dp ba o od t v q a x k p kd ph bg m ls o2 e2 pr : Int} {c : Int → Int} {N : Int}
def arT (t : Int) : Prop := t = 43 ∨ t = 45 ∨ t = 42 ∨ t = 47 ∨ t = 37
theorem go_h1 (hn : NM σ b e om dp ba o kd ph bg) (hr : RD σ q t v) (hp : ph < 2) (ht : arT t) : fX11_goesOn σ = fX11_goesOn_87 σ := by
  obtain ⟨n1, n2, n3, n4, n5, n6, n7, n8, n9, n10⟩ := hn
  obtain ⟨r1, r2, r3, hx⟩ := hr
  unfold arT at ht
  rcases ht with h | h | h | h | h <;> simp (disch := omega) only [fX11_goesOn, z32_add, z32_sub, z32_mul, z32_neg, z32_litn, z32_lt, z32_le, z32_eq, iG_h, lG_h, iS_q, lS_q, aI_h, wI_h, aL_h, wL_h, ↓bnd_q, bnr_q, bnc_q, ↓reduceIte, ieqT, ieqF, iltT, iltF, ileT, ileF, not_true, not_false_iff, lex_n r2, r1, n4.1, n8.1, n9.1, sgz43 hx, sgz45 hx, sgz42 hx, sgz47 hx, sgz37 hx, ne_eq, not_false_iff]
theorem go_h2 (hn : NM σ b e om dp ba o kd ph bg) (hr : RD σ q t v) (h1 : ph = 2 ∨ ¬ arT t) : fX11_goesOn σ = fX11_goesOn_188 (z32 (dp - 1)) (z32 kd) (fX11_isTest (z32 kd)) σ := by
  obtain ⟨n1, n2, n3, n4, n5, n6, n7, n8, n9, n10⟩ := hn
  obtain ⟨r1, r2, r3, hx⟩ := hr
  unfold arT at h1
  by_cases g : ph = 2
  · simp (disch := omega) only [fX11_goesOn, z32_add, z32_sub, z32_mul, z32_neg, z32_litn, z32_lt, z32_le, z32_eq, iG_h, lG_h, iS_q, lS_q, aI_h, wI_h, aL_h, wL_h, ↓bnd_q, bnr_q, bnc_q, ↓reduceIte, ieqT, ieqF, iltT, iltF, ileT, ileF, not_true, not_false_iff, lex_n r2, r1, n4.1, n8.1, n9.1]
  · simp (disch := omega) only [fX11_goesOn, z32_add, z32_sub, z32_mul, z32_neg, z32_litn, z32_lt, z32_le, z32_eq, iG_h, lG_h, iS_q, lS_q, aI_h, wI_h, aL_h, wL_h, ↓bnd_q, bnr_q, bnc_q, ↓reduceIte, ieqT, ieqF, iltT, iltF, ileT, ileF, not_true, not_false_iff, lex_n r2, r1, n4.1, n8.1, n9.1, sgz43 hx, sgz45 hx, sgz42 hx, sgz47 hx, sgz37 hx, ne_eq, not_false_iff]
theorem go_ar (hn : NM σ b e om dp ba o kd ph bg) (hr : RD σ q t v) (hp : ph < 2) (ht : (t = 43 ∧ m = 10 ∧ ls = 5) ∨ (t = 45 ∧ m = 11 ∧ ls = 5) ∨ (t = 42 ∧ m = 12 ∧ ls = 6) ∨ (t = 47 ∧ m = 13 ∧ ls = 6) ∨ (t = 37 ∧ m = 14 ∧ ls = 6)) (hj : fX11_joins (z32 ls) σ = some υ) (hu : RD υ q t v) : fX11_goesOn σ = bnr (fX11_holdsBack (z32 m) υ) fun τ1 => bnr (fX11_ahead τ1) fun τ2 => some (z32 1, jS τ2 56 45 0) := by
  have h0 := go_h1 hn hr hp (by unfold arT; omega)
  rw [h0]
  have hx := hr.2.2.2
  have hy := hu.2.2.2
  have h1 : fX11_goesOn_87 σ = fX11_goesOn_112 (z32 ls) σ := by
    rcases ht with ⟨h1, h2, h3⟩ | ⟨h1, h2, h3⟩ | ⟨h1, h2, h3⟩ | ⟨h1, h2, h3⟩ | ⟨h1, h2, h3⟩ <;> subst h3 <;> simp (disch := omega) only [fX11_goesOn_87, fX11_goesOn_106, z32_add, z32_sub, z32_mul, z32_neg, z32_litn, z32_lt, z32_le, z32_eq, iG_h, lG_h, iS_q, lS_q, aI_h, wI_h, aL_h, wL_h, ↓bnd_q, bnr_q, bnc_q, ↓reduceIte, ieqT, ieqF, iltT, iltF, ileT, ileF, not_true, not_false_iff, sgz43 hx, sgz45 hx, ne_eq, not_false_iff]
  have h2 : fX11_goesOn_112 (z32 ls) σ = fX11_goesOn_174 (z32 m) υ := by
    rcases ht with ⟨h1, h2, h3⟩ | ⟨h1, h2, h3⟩ | ⟨h1, h2, h3⟩ | ⟨h1, h2, h3⟩ | ⟨h1, h2, h3⟩ <;> subst h2 h3 <;> simp (disch := omega) only [fX11_goesOn_112, z32_add, z32_sub, z32_mul, z32_neg, z32_litn, z32_lt, z32_le, z32_eq, iG_h, lG_h, iS_q, lS_q, aI_h, wI_h, aL_h, wL_h, ↓bnd_q, bnr_q, bnc_q, ↓reduceIte, ieqT, ieqF, iltT, iltF, ileT, ileF, not_true, not_false_iff, hj, sgz43 hy, sgz45 hy, sgz42 hy, sgz47 hy, ne_eq, not_false_iff]
  rw [h1, h2]
  simp (disch := omega) only [fX11_goesOn_174, z32_add, z32_sub, z32_mul, z32_neg, z32_litn, z32_lt, z32_le, z32_eq, iG_h, lG_h, iS_q, lS_q, aI_h, wI_h, aL_h, wL_h, ↓bnd_q, bnr_q, bnc_q, ↓reduceIte, ieqT, ieqF, iltT, iltF, ileT, ileF, not_true, not_false_iff, gdT, true_or]
theorem go_cmp (hn : NM σ b e om dp ba o kd ph bg) (hr : RD σ q t v) (hk : isTst kd) (hp : ph = 0) (ht : (t = 60 ∧ m = 17) ∨ (t = 62 ∧ m = 18) ∨ (t = 61 ∧ m = 19)) (hj : fX11_joins (z32 5) σ = some υ) (hu : RD υ q t v) (h79 : hI υ 56 41 = dp) : fX11_goesOn σ = bnr (fX11_holdsBack (z32 m) υ) fun τ1 => bnr (fX11_ahead (jS τ1 79 (dp - 1) 1)) fun τ2 => some (z32 1, jS τ2 56 45 0) := by
  have h0 := go_h2 hn hr (Or.inr (by unfold arT; omega))
  rw [h0, tst_t hk]
  obtain ⟨n1, n2, n3, n4, n5, n6, n7, n8, n9, n10⟩ := hn
  have hx := hr.2.2.2
  have hy := hu.2.2.2
  have h1 : fX11_goesOn_188 (z32 (dp - 1)) (z32 kd) (z32 1) σ = fX11_goesOn_228 (z32 (dp - 1)) σ := by
    rcases ht with ⟨h1, h2⟩ | ⟨h1, h2⟩ | ⟨h1, h2⟩ <;> simp (disch := omega) only [fX11_goesOn_188, z32_add, z32_sub, z32_mul, z32_neg, z32_litn, z32_lt, z32_le, z32_eq, iG_h, lG_h, iS_q, lS_q, aI_h, wI_h, aL_h, wL_h, ↓bnd_q, bnr_q, bnc_q, ↓reduceIte, ieqT, ieqF, iltT, iltF, ileT, ileF, not_true, not_false_iff, n9.1, hp, sgz60 hx, sgz62 hx, sgz61 hx, ne_eq, not_false_iff]
  have h2 : fX11_goesOn_228 (z32 (dp - 1)) σ = fX11_goesOn_264 (z32 (dp - 1)) (z32 m) υ := by
    rcases ht with ⟨h1, h2⟩ | ⟨h1, h2⟩ | ⟨h1, h2⟩ <;> subst h2 <;> simp (disch := omega) only [fX11_goesOn_228, z32_add, z32_sub, z32_mul, z32_neg, z32_litn, z32_lt, z32_le, z32_eq, iG_h, lG_h, iS_q, lS_q, aI_h, wI_h, aL_h, wL_h, ↓bnd_q, bnr_q, bnc_q, ↓reduceIte, ieqT, ieqF, iltT, iltF, ileT, ileF, not_true, not_false_iff, hj, sgz60 hy, sgz62 hy, ne_eq, not_false_iff]
  rw [h1, h2]
  simp (disch := omega) only [fX11_goesOn_264, z32_add, z32_sub, z32_mul, z32_neg, z32_litn, z32_lt, z32_le, z32_eq, iG_h, lG_h, iS_q, lS_q, aI_h, wI_h, aL_h, wL_h, ↓bnd_q, bnr_q, bnc_q, ↓reduceIte, ieqT, ieqF, iltT, iltF, ileT, ileF, not_true, not_false_iff, gdT, true_or]
theorem go_ao (hn : NM σ b e om dp ba o kd ph bg) (hr : RD σ q t v) (hk : isTst kd) (hp : 1 ≤ ph) (ht : (t = 120 ∧ m = 20 ∧ ls = 2) ∨ (t = 119 ∧ m = 21 ∧ ls = 1)) (hj : fX11_joins (z32 ls) σ = some υ) : fX11_goesOn σ = bnr (fX11_holdsBack (z32 m) υ) fun τ1 => bnr (fX11_ahead (jS (jS τ1 79 (dp - 1) 0) 80 (dp - 1) 1)) fun τ2 => some (z32 1, jS τ2 56 45 0) := by
  have h0 := go_h2 hn hr (Or.inr (by unfold arT; omega))
  rw [h0, tst_t hk]
  obtain ⟨n1, n2, n3, n4, n5, n6, n7, n8, n9, n10⟩ := hn
  have hx := hr.2.2.2
  have h1 : fX11_goesOn_188 (z32 (dp - 1)) (z32 kd) (z32 1) σ = fX11_goesOn_309 (z32 (dp - 1)) σ := by
    rcases ht with ⟨h1, h2, h3⟩ | ⟨h1, h2, h3⟩ <;> simp (disch := omega) only [fX11_goesOn_188, fX11_goesOn_285, z32_add, z32_sub, z32_mul, z32_neg, z32_litn, z32_lt, z32_le, z32_eq, iG_h, lG_h, iS_q, lS_q, aI_h, wI_h, aL_h, wL_h, ↓bnd_q, bnr_q, bnc_q, ↓reduceIte, ieqT, ieqF, iltT, iltF, ileT, ileF, not_true, not_false_iff, n9.1, iwz20 hx, iwz19 hx, ne_eq, not_false_iff]
  have h2 : fX11_goesOn_309 (z32 (dp - 1)) σ = fX11_goesOn_327 (z32 (dp - 1)) σ := by
    simp (disch := omega) only [fX11_goesOn_309, z32_add, z32_sub, z32_mul, z32_neg, z32_litn, z32_lt, z32_le, z32_eq, iG_h, lG_h, iS_q, lS_q, aI_h, wI_h, aL_h, wL_h, ↓bnd_q, bnr_q, bnc_q, ↓reduceIte, ieqT, ieqF, iltT, iltF, ileT, ileF, not_true, not_false_iff, n9.1]
  have h3 : fX11_goesOn_327 (z32 (dp - 1)) σ = fX11_goesOn_372 (z32 (dp - 1)) (z32 m) υ := by
    rcases ht with ⟨h1, h2, h3⟩ | ⟨h1, h2, h3⟩ <;> subst h2 h3 <;> simp (disch := omega) only [fX11_goesOn_327, fX11_goesOn_356, z32_add, z32_sub, z32_mul, z32_neg, z32_litn, z32_lt, z32_le, z32_eq, iG_h, lG_h, iS_q, lS_q, aI_h, wI_h, aL_h, wL_h, ↓bnd_q, bnr_q, bnc_q, ↓reduceIte, ieqT, ieqF, iltT, iltF, ileT, ileF, not_true, not_false_iff, hr.1, iwz20 hx, ne_eq, not_false_iff, hj]
  rw [h1, h2, h3]
  simp (disch := omega) only [fX11_goesOn_372, nar1, z32_add, z32_sub, z32_mul, z32_neg, z32_litn, z32_lt, z32_le, z32_eq, iG_h, lG_h, iS_q, lS_q, aI_h, wI_h, aL_h, wL_h, ↓bnd_q, bnr_q, bnc_q, ↓reduceIte, ieqT, ieqF, iltT, iltF, ileT, ileF, not_true, not_false_iff, gdT, true_or]
theorem go_ao0 (hn : NM σ b e om dp ba o kd ph bg) (hr : RD σ q t v) (hk : isTst kd) (hp : ph = 0) (ht : t = 120 ∨ t = 119) : fX11_goesOn σ = some (z32 0, jS (jS σ 56 8 1) 56 9 q) := by
  have h0 := go_h2 hn hr (Or.inr (by unfold arT; omega))
  rw [h0, tst_t hk]
  obtain ⟨n1, n2, n3, n4, n5, n6, n7, n8, n9, n10⟩ := hn
  obtain ⟨r1, r2, r3, hx⟩ := hr
  have h1 : fX11_goesOn_188 (z32 (dp - 1)) (z32 kd) (z32 1) σ = fX11_goesOn_309 (z32 (dp - 1)) σ := by
    rcases ht with h1 | h1 <;> simp (disch := omega) only [fX11_goesOn_188, fX11_goesOn_285, z32_add, z32_sub, z32_mul, z32_neg, z32_litn, z32_lt, z32_le, z32_eq, iG_h, lG_h, iS_q, lS_q, aI_h, wI_h, aL_h, wL_h, ↓bnd_q, bnr_q, bnc_q, ↓reduceIte, ieqT, ieqF, iltT, iltF, ileT, ileF, not_true, not_false_iff, n9.1, sgz60 hx, sgz62 hx, sgz61 hx, hp, iwz20 hx, iwz19 hx, ne_eq, not_false_iff]
  have h2 : fX11_goesOn_309 (z32 (dp - 1)) σ = fX11_goesOn_327 (z32 (dp - 1)) (jS (jS σ 56 8 1) 56 9 q) := by
    simp (disch := omega) only [fX11_goesOn_309, z32_add, z32_sub, z32_mul, z32_neg, z32_litn, z32_lt, z32_le, z32_eq, iG_h, lG_h, iS_q, lS_q, aI_h, wI_h, aL_h, wL_h, ↓bnd_q, bnr_q, bnc_q, ↓reduceIte, ieqT, ieqF, iltT, iltF, ileT, ileF, not_true, not_false_iff, n9.1, hp, r3, blm_0 r1]
  rw [h1, h2]
  simp (disch := omega) only [fX11_goesOn_327, z32_add, z32_sub, z32_mul, z32_neg, z32_litn, z32_lt, z32_le, z32_eq, iG_h, lG_h, iS_q, lS_q, aI_h, wI_h, aL_h, wL_h, ↓bnd_q, bnr_q, bnc_q, ↓reduceIte, ieqT, ieqF, iltT, iltF, ileT, ileF, not_true, not_false_iff, fk8]
theorem go_t0 (hn : NM σ b e om dp ba o kd ph bg) (hr : RD σ q t v) (hk : isTst kd) (hp : ph = 0) (ht : ¬ arT t ∧ t ≠ 60 ∧ t ≠ 62 ∧ t ≠ 61 ∧ t ≠ 119 ∧ t ≠ 120) : fX11_goesOn σ = some (z32 0, jS (jS σ 56 8 1) 56 9 q) := by
  have h0 := go_h2 hn hr (Or.inr ht.1)
  rw [h0, tst_t hk]
  obtain ⟨n1, n2, n3, n4, n5, n6, n7, n8, n9, n10⟩ := hn
  obtain ⟨r1, r2, r3, hx⟩ := hr
  obtain ⟨t1, t2, t3, t4, t5, t6⟩ := ht
  have f8 : hI (jS (jS σ 56 8 1) 56 9 q) 56 8 = 1 := fk8 (by omega) (by omega)
  have hx2 : tkX (jS (jS σ 56 8 1) 56 9 q) t v := tkX_c hx (by rw [hI_j0 (by omega) (by omega) (by omega), hI_j0 (by omega) (by omega) (by omega)]) (by rw [hI_j0 (by omega) (by omega) (by omega), hI_j0 (by omega) (by omega) (by omega)]) rfl
  have h1 : fX11_goesOn_188 (z32 (dp - 1)) (z32 kd) (z32 1) σ = fX11_goesOn_400 (z32 (dp - 1)) (z32 kd) (z32 1) σ := by
    simp (disch := omega) only [fX11_goesOn_188, fX11_goesOn_285, z32_add, z32_sub, z32_mul, z32_neg, z32_litn, z32_lt, z32_le, z32_eq, iG_h, lG_h, iS_q, lS_q, aI_h, wI_h, aL_h, wL_h, ↓bnd_q, bnr_q, bnc_q, ↓reduceIte, ieqT, ieqF, iltT, iltF, ileT, ileF, not_true, not_false_iff, n9.1, sgz60 hx, sgz62 hx, sgz61 hx, hp, iwz20 hx, iwz19 hx, ne_eq, not_false_iff]
  have h2 : fX11_goesOn_400 (z32 (dp - 1)) (z32 kd) (z32 1) σ = fX11_goesOn_422 (z32 (dp - 1)) (z32 kd) (jS (jS σ 56 8 1) 56 9 q) := by
    simp (disch := omega) only [fX11_goesOn_400, z32_add, z32_sub, z32_mul, z32_neg, z32_litn, z32_lt, z32_le, z32_eq, iG_h, lG_h, iS_q, lS_q, aI_h, wI_h, aL_h, wL_h, ↓bnd_q, bnr_q, bnc_q, ↓reduceIte, ieqT, ieqF, iltT, iltF, ileT, ileF, not_true, not_false_iff, n9.1, hp, r3, blm_0 r1]
  rw [h1, h2]
  have bl : fX11_blame (z32 1) (z32 (hI (jS (jS σ 56 8 1) 56 9 q) 56 4)) (jS (jS σ 56 8 1) 56 9 q) = some (jS (jS σ 56 8 1) 56 9 q) := blm_1 (by omega)
  have h546 : ∀ i j, fX11_goesOn_546 i j (jS (jS σ 56 8 1) 56 9 q) = some (z32 0, jS (jS σ 56 8 1) 56 9 q) := fun i j => by
    simp (disch := omega) only [fX11_goesOn_546, iG_h, z32_litn, f8, z32_le, ↓reduceIte, ieqT, ieqF, iltT, iltF, ileT, ileF, not_true, not_false_iff]
  have h470 : ∀ i j, fX11_goesOn_470 i j (jS (jS σ 56 8 1) 56 9 q) = some (z32 0, jS (jS σ 56 8 1) 56 9 q) := fun i j => by
    simp (disch := omega) only [fX11_goesOn_470, iG_h, z32_litn, f8, z32_le, ↓reduceIte, ieqT, ieqF, iltT, iltF, ileT, ileF, not_true, not_false_iff]
  unfold isTst at hk
  rcases hk with g | g | g
  · simp (disch := omega) only [fX11_goesOn_422, z32_add, z32_sub, z32_mul, z32_neg, z32_litn, z32_lt, z32_le, z32_eq, iG_h, lG_h, iS_q, lS_q, aI_h, wI_h, aL_h, wL_h, ↓bnd_q, bnr_q, bnc_q, ↓reduceIte, ieqT, ieqF, iltT, iltF, ileT, ileF, not_true, not_false_iff, f8, g]
  · by_cases g2 : t = 93
    · simp (disch := omega) only [fX11_goesOn_422, fX11_goesOn_531, h546, z32_add, z32_sub, z32_mul, z32_neg, z32_litn, z32_lt, z32_le, z32_eq, iG_h, lG_h, iS_q, lS_q, aI_h, wI_h, aL_h, wL_h, ↓bnd_q, bnr_q, bnc_q, ↓reduceIte, ieqT, ieqF, iltT, iltF, ileT, ileF, not_true, not_false_iff, g, sgz93 hx2, ne_eq, not_false_iff]
    · simp (disch := omega) only [fX11_goesOn_422, fX11_goesOn_531, h546, z32_add, z32_sub, z32_mul, z32_neg, z32_litn, z32_lt, z32_le, z32_eq, iG_h, lG_h, iS_q, lS_q, aI_h, wI_h, aL_h, wL_h, ↓bnd_q, bnr_q, bnc_q, ↓reduceIte, ieqT, ieqF, iltT, iltF, ileT, ileF, not_true, not_false_iff, g, sgz93 hx2, ne_eq, not_false_iff, bl]
  · by_cases g2 : t = 44
    · simp (disch := omega) only [fX11_goesOn_422, fX11_goesOn_452, h470, z32_add, z32_sub, z32_mul, z32_neg, z32_litn, z32_lt, z32_le, z32_eq, iG_h, lG_h, iS_q, lS_q, aI_h, wI_h, aL_h, wL_h, ↓bnd_q, bnr_q, bnc_q, ↓reduceIte, ieqT, ieqF, iltT, iltF, ileT, ileF, not_true, not_false_iff, g, sgz44 hx2, ne_eq, not_false_iff]
    · simp (disch := omega) only [fX11_goesOn_422, fX11_goesOn_452, h470, z32_add, z32_sub, z32_mul, z32_neg, z32_litn, z32_lt, z32_le, z32_eq, iG_h, lG_h, iS_q, lS_q, aI_h, wI_h, aL_h, wL_h, ↓bnd_q, bnr_q, bnc_q, ↓reduceIte, ieqT, ieqF, iltT, iltF, ileT, ileF, not_true, not_false_iff, g, sgz44 hx2, ne_eq, not_false_iff, bl]
theorem go_422 (hn : NM σ b e om dp ba o kd ph bg) (hr : RD σ q t v) (h1 : ph = 2 ∨ ¬ arT t) (h2 : ¬ isTst kd ∨ (1 ≤ ph ∧ t ≠ 119 ∧ t ≠ 120)) : fX11_goesOn σ = fX11_goesOn_422 (z32 (dp - 1)) (z32 kd) σ := by
  have h0 := go_h2 hn hr h1
  rw [h0]
  obtain ⟨n1, n2, n3, n4, n5, n6, n7, n8, n9, n10⟩ := hn
  obtain ⟨r1, r2, r3, hx⟩ := hr
  by_cases hk : isTst kd
  · have h3 : 1 ≤ ph ∧ t ≠ 119 ∧ t ≠ 120 := by rcases h2 with h | h; exact absurd hk h; exact h
    rw [tst_t hk]
    simp (disch := omega) only [fX11_goesOn_188, fX11_goesOn_285, fX11_goesOn_400, z32_add, z32_sub, z32_mul, z32_neg, z32_litn, z32_lt, z32_le, z32_eq, iG_h, lG_h, iS_q, lS_q, aI_h, wI_h, aL_h, wL_h, ↓bnd_q, bnr_q, bnc_q, ↓reduceIte, ieqT, ieqF, iltT, iltF, ileT, ileF, not_true, not_false_iff, n9.1, iwz20 hx, iwz19 hx, ne_eq, not_false_iff]
  · rw [tst_f hk n8.2.1 n8.2.2]
    simp (disch := omega) only [fX11_goesOn_188, fX11_goesOn_285, fX11_goesOn_400, z32_add, z32_sub, z32_mul, z32_neg, z32_litn, z32_lt, z32_le, z32_eq, iG_h, lG_h, iS_q, lS_q, aI_h, wI_h, aL_h, wL_h, ↓bnd_q, bnr_q, bnc_q, ↓reduceIte, ieqT, ieqF, iltT, iltF, ileT, ileF, not_true, not_false_iff]
theorem g4_0 (hr : RD σ q t v) (hk : kd < 2) (hk0 : 0 ≤ kd) (hj : fX11_joins (z32 1) σ = some υ) : fX11_goesOn_422 (z32 (dp - 1)) (z32 kd) σ = some (z32 0, υ) := by
  simp (disch := omega) only [fX11_goesOn_422, z32_add, z32_sub, z32_mul, z32_neg, z32_litn, z32_lt, z32_le, z32_eq, iG_h, lG_h, iS_q, lS_q, aI_h, wI_h, aL_h, wL_h, ↓bnd_q, bnr_q, bnc_q, ↓reduceIte, ieqT, ieqF, iltT, iltF, ileT, ileF, not_true, not_false_iff, hr.1, hj]
theorem g4_c {kd' : Int} (hr : RD σ q t v) (hd : 1 ≤ dp ∧ dp ≤ 8) (hk : (kd = 3 ∧ kd' = 4) ∨ (kd = 6 ∧ kd' = 3)) (ht : t = 44) (hj : fX11_joins (z32 1) σ = some υ) : fX11_goesOn_422 (z32 (dp - 1)) (z32 kd) σ = bnr (fX11_ahead (jS (jS υ 78 (dp - 1) kd') 79 (dp - 1) 0)) fun τ => some (z32 1, jS τ 56 45 0) := by
  have hx := hr.2.2.2
  rcases hk with ⟨h1, h2⟩ | ⟨h1, h2⟩ <;> subst h1 h2 <;> simp (disch := omega) only [fX11_goesOn_422, fX11_goesOn_452, fX11_goesOn_470, fX11_goesOn_499, z32_add, z32_sub, z32_mul, z32_neg, z32_litn, z32_lt, z32_le, z32_eq, iG_h, lG_h, iS_q, lS_q, aI_h, wI_h, aL_h, wL_h, ↓bnd_q, bnr_q, bnc_q, ↓reduceIte, ieqT, ieqF, iltT, iltF, ileT, ileF, not_true, not_false_iff, hr.1, hj, sgz44 hx, ne_eq, ht, gdT, true_or]
theorem g4_2 (hr : RD σ q t v) (hd : 1 ≤ dp ∧ dp ≤ 8) (hk : kd = 2) (ht : t = 41) (hj : fX11_joins (z32 1) σ = some υ) (h41 : hI υ 56 41 = dp) (h42 : hI υ 56 42 = o2) : fX11_goesOn_422 (z32 (dp - 1)) (z32 kd) σ = bnr (fX11_ahead (jS (jS υ 56 41 (dp - 1)) 56 42 (o2 - 1))) fun τ => some (z32 1, τ) := by
  have hx := hr.2.2.2
  have e : hI (jS υ 56 41 (dp - 1)) 56 42 = o2 := by rw [hI_j0 (by omega) (by omega) (by omega)]; exact h42
  subst hk
  simp (disch := omega) only [fX11_goesOn_422, fX11_goesOn_531, fX11_goesOn_546, fX11_goesOn_596, fX11_goesOn_613, z32_add, z32_sub, z32_mul, z32_neg, z32_litn, z32_lt, z32_le, z32_eq, iG_h, lG_h, iS_q, lS_q, aI_h, wI_h, aL_h, wL_h, ↓bnd_q, bnr_q, bnc_q, ↓reduceIte, ieqT, ieqF, iltT, iltF, ileT, ileF, not_true, not_false_iff, hr.1, hj, sgz41 hx, ne_eq, ht, h41, e]
theorem g4_4 (hr : RD σ q t v) (hd : 1 ≤ dp ∧ dp ≤ 8) (hk : kd = 4) (ht : t = 41) (hj : fX11_joins (z32 1) σ = some υ) (h41 : hI υ 56 41 = dp) (h42 : hI υ 56 42 = o2) (h81 : hI υ 81 (dp - 1) = pr) (h34 : hI υ 56 34 = e2) (h35 : hI υ 56 35 = b) (hb : 0 ≤ b ∧ b ≤ 1) (he : 0 ≤ e2) (he' : e2 < 1600) : fX11_goesOn_422 (z32 (dp - 1)) (z32 kd) σ = bnr (fX11_ahead (jS (jS (jS (jS (jS υ 56 41 (dp - 1)) 56 42 (o2 - 1)) 74 (1600 * b + e2) pr) 75 (1600 * b + e2) 0) 56 34 (e2 + 1))) fun τ => some (z32 1, τ) := by
  have hx := hr.2.2.2
  have e : hI (jS υ 56 41 (dp - 1)) 56 42 = o2 := by rw [hI_j0 (by omega) (by omega) (by omega)]; exact h42
  have e81 : hI (jS (jS υ 56 41 (dp - 1)) 56 42 (o2 - 1)) 81 (dp - 1) = pr := by rw [hI_jS_ne (by omega), hI_jS_ne (by omega)]; exact h81
  have ma := madd_z (σ := jS (jS υ 56 41 (dp - 1)) 56 42 (o2 - 1)) (s := pr) (v := 0) (e := e2) (b := b) (by rw [hI_j0 (by omega) (by omega) (by omega), hI_j0 (by omega) (by omega) (by omega)]; exact h34) (by rw [hI_j0 (by omega) (by omega) (by omega), hI_j0 (by omega) (by omega) (by omega)]; exact h35) hb.1 hb.2 he he'
  subst hk
  simp (disch := omega) only [fX11_goesOn_422, fX11_goesOn_531, fX11_goesOn_546, fX11_goesOn_596, fX11_goesOn_613, z32_add, z32_sub, z32_mul, z32_neg, z32_litn, z32_lt, z32_le, z32_eq, iG_h, lG_h, iS_q, lS_q, aI_h, wI_h, aL_h, wL_h, ↓bnd_q, bnr_q, bnc_q, ↓reduceIte, ieqT, ieqF, iltT, iltF, ileT, ileF, not_true, not_false_iff, hr.1, hj, sgz41 hx, ne_eq, ht, h41, e, e81, ma]
theorem g4_5 (hr : RD σ q t v) (hd : 2 ≤ dp ∧ dp ≤ 8) (hk : kd = 5) (ht : t = 93) (hj : fX11_joins (z32 1) σ = some υ) (h41 : hI υ 56 41 = dp) (h42 : hI υ 56 42 = o2) : fX11_goesOn_422 (z32 (dp - 1)) (z32 kd) σ = bnr (fX11_ahead (jS (jS (jS υ 56 41 (dp - 1)) 56 42 (o2 - 1)) 79 (dp - 2) 2)) fun τ => some (z32 1, τ) := by
  have hx := hr.2.2.2
  have e : hI (jS υ 56 41 (dp - 1)) 56 42 = o2 := by rw [hI_j0 (by omega) (by omega) (by omega)]; exact h42
  have e2 : hI (jS (jS υ 56 41 (dp - 1)) 56 42 (o2 - 1)) 56 41 = dp - 1 := by rw [hI_j0 (by omega) (by omega) (by omega), hI_jS (by omega) (by omega) (by omega) (by omega), if_pos rfl]
  have x1 : dp - 1 - 1 = dp - 2 := by omega
  subst hk
  simp (disch := omega) only [fX11_goesOn_422, fX11_goesOn_531, fX11_goesOn_546, fX11_goesOn_596, fX11_goesOn_613, z32_add, z32_sub, z32_mul, z32_neg, z32_litn, z32_lt, z32_le, z32_eq, iG_h, lG_h, iS_q, lS_q, aI_h, wI_h, aL_h, wL_h, ↓bnd_q, bnr_q, bnc_q, ↓reduceIte, ieqT, ieqF, iltT, iltF, ileT, ileF, not_true, not_false_iff, hr.1, hj, sgz93 hx, ne_eq, ht, h41, e, e2, x1]
theorem g4_b (hr : RD σ q t v) (hk : 2 ≤ kd) (hk6 : kd ≤ 6) (ht : (kd = 3 ∨ kd = 6 → t ≠ 44) ∧ (kd = 5 → t ≠ 93) ∧ (kd = 2 ∨ kd = 4 → t ≠ 41)) : fX11_goesOn_422 (z32 (dp - 1)) (z32 kd) σ = some (z32 0, jS (jS σ 56 8 1) 56 9 q) := by
  have hx := hr.2.2.2
  rcases (by omega : kd = 2 ∨ kd = 3 ∨ kd = 4 ∨ kd = 5 ∨ kd = 6) with g | g | g | g | g <;> subst g <;> simp (disch := omega) only [fX11_goesOn_422, fX11_goesOn_531, fX11_goesOn_546, fX11_goesOn_452, fX11_goesOn_470, z32_add, z32_sub, z32_mul, z32_neg, z32_litn, z32_lt, z32_le, z32_eq, iG_h, lG_h, iS_q, lS_q, aI_h, wI_h, aL_h, wL_h, ↓bnd_q, bnr_q, bnc_q, ↓reduceIte, ieqT, ieqF, iltT, iltF, ileT, ileF, not_true, not_false_iff, hr.1, hr.2.2.1, sgz41 hx, sgz44 hx, sgz93 hx, ne_eq, not_false_iff, blm_0 hr.1, fk8]
/-- about to blame: the loop ends -/
theorem bad_end (hm : mBd σ p) (hn : NM σ b e om dp ba o kd ph bg) (hod : hI σ 56 45 = 0 ∨ hI σ 56 45 = 1) : ∃ τ, endd σ 2 τ ∧ mFb τ 1 p ∧ fr (sP b e om dp) σ τ := by
  obtain ⟨m1, m2, m3, m4⟩ := hm
  have n4 := hn.2.2.2.1
  have n8 := hn.2.2.2.2.2.2.2.1
  rcases m4 with m4 | ⟨m4, m5, m6, m7⟩
  · have f8 : hI (jS (jS σ 56 8 1) 56 9 p) 56 8 = 1 := fk8 (by omega) (by omega)
    have f9 : hI (jS (jS σ 56 8 1) 56 9 p) 56 9 = p := fk9 (by omega) (by omega)
    have fr1 : fr (sP b e om dp) σ (jS (jS σ 56 8 1) 56 9 p) := fr_t (fr_j (by omega) (by unfold sP; omega)) (fr_j (by omega) (by unfold sP; omega))
    have hl := lex_b m4 m3.1 m1
    rcases hod with hod | hod
    · have ho : fX11_operand σ = some (z32 1, jS (jS σ 56 8 1) 56 9 p) := by
        simp (disch := omega) only [fX11_operand, z32_add, z32_sub, z32_mul, z32_neg, z32_litn, z32_lt, z32_le, z32_eq, iG_h, lG_h, iS_q, lS_q, aI_h, wI_h, aL_h, wL_h, ↓bnd_q, bnr_q, bnc_q, ↓reduceIte, ieqT, ieqF, iltT, iltF, ileT, ileF, not_true, not_false_iff, hl, f8]
      refine ⟨_, end_o hod ho (Or.inr rfl) (by omega), Or.inl ⟨?_, ?_, by omega⟩, fr_t fr1 (fr_j (by omega) (by unfold sP; omega))⟩
      · rw [hI_j0 (by omega) (by omega) (by omega)]; exact f8
      · rw [hI_j0 (by omega) (by omega) (by omega)]; exact f9
    · have ho : fX11_goesOn σ = some (z32 0, jS (jS σ 56 8 1) 56 9 p) := by
        simp (disch := omega) only [fX11_goesOn, z32_add, z32_sub, z32_mul, z32_neg, z32_litn, z32_lt, z32_le, z32_eq, iG_h, lG_h, iS_q, lS_q, aI_h, wI_h, aL_h, wL_h, ↓bnd_q, bnr_q, bnc_q, ↓reduceIte, ieqT, ieqF, iltT, iltF, ileT, ileF, not_true, not_false_iff, hl, f8]
      exact ⟨_, end_g hod ho, Or.inl ⟨f8, f9, by omega⟩, fr1⟩
  · have nS : ¬ isS 0 := by unfold isS; omega
    have hr : RD σ p 0 0 := ⟨m1, m4, m7, Or.inr rfl, ⟨fun g => by omega, fun g => by omega, fun g => absurd g nS, fun g => by omega, fun g => by omega⟩, fun _ => ⟨m5, m6⟩⟩
    have f8 : ∀ σ : zS, hI (jS (jS σ 56 8 1) 56 9 p) 56 8 = 1 := fun σ => fk8 (by omega) (by omega)
    have f9 : ∀ σ : zS, hI (jS (jS σ 56 8 1) 56 9 p) 56 9 = p := fun σ => fk9 (by omega) (by omega)
    rcases hod with hod | hod
    · obtain ⟨h1, h2⟩ := op_171 hn hr (Or.inr (by omega))
      have ho := h1.trans (o171_b h2 ⟨by omega, by omega, by omega, by omega, by decide⟩)
      refine ⟨_, end_o hod ho (Or.inr rfl) (by rw [f8]; omega), Or.inl ⟨?_, ?_, by omega⟩, fr_t (fr_t (fr_t (fr_j (by omega) (by unfold sP; omega)) (fr_j (by omega) (by unfold sP; omega))) (fr_j (by omega) (by unfold sP; omega))) (fr_j (by omega) (by unfold sP; omega))⟩
      · rw [hI_j0 (by omega) (by omega) (by omega)]; exact f8 _
      · rw [hI_j0 (by omega) (by omega) (by omega)]; exact f9 _
    · have fr1 : fr (sP b e om dp) σ (jS (jS σ 56 8 1) 56 9 p) := fr_t (fr_j (by omega) (by unfold sP; omega)) (fr_j (by omega) (by unfold sP; omega))
      have nA : ¬ arT 0 := by unfold arT; omega
      by_cases g1 : isTst kd ∧ ph = 0
      · have ho := go_t0 hn hr g1.1 g1.2 ⟨nA, by omega, by omega, by omega, by omega, by omega⟩
        exact ⟨_, end_g hod ho, Or.inl ⟨f8 _, f9 _, by omega⟩, fr1⟩
      · have n9 := hn.2.2.2.2.2.2.2.2.1
        have h1 := go_422 hn hr (Or.inr nA) (by
          by_cases g2 : isTst kd
          · exact Or.inr ⟨by have : ph ≠ 0 := fun w => g1 ⟨g2, w⟩; omega, by omega, by omega⟩
          · exact Or.inl g2)
        by_cases g3 : kd < 2
        · obtain ⟨n1, n2, n3, n4, n5, n6, n7, n8, n9, n10⟩ := hn
          obtain ⟨υ, u1, u2⟩ := jn_any (ls := 1) (ba := ba) n5.2 ⟨n4.2.1, by omega⟩ n6.2.1 (by omega) (om - ba).toNat σ e om zF n1.1 n2.1 n4.1 n5.1 n6.1 n6.2.2 (by omega) n1.2 n3 (by omega) (by omega) (by unfold zF; omega)
          have ho := h1.trans (g4_0 (dp := dp) hr g3 n8.2.1 u1)
          have ue : ∀ k, (k = 8 ∨ k = 9 ∨ k = 12 ∨ k = 3 ∨ k = 6 ∨ k = 4 ∨ k = 5) → hI υ 56 k = hI σ 56 k := fun k w => (u2.2 56 k (by omega) (by unfold jP; omega)).1
          refine ⟨υ, end_g hod ho, Or.inr ⟨rfl, ?_, ?_, ⟨m3.1, m3.2.1, by rw [ue 3 (by omega)]; exact m3.2.2.1, by rw [ue 5 (by omega)]; exact m3.2.2.2⟩, Or.inr ⟨?_, ?_, ?_, ?_⟩⟩, fr_m u2 (jP_s (by omega))⟩
          · rw [ue _ (by omega)]; exact m1
          · rw [ue _ (by omega)]; exact m2
          · rw [ue _ (by omega)]; exact m4
          · rw [ue _ (by omega)]; exact m5
          · rw [ue _ (by omega)]; exact m6
          · rw [ue _ (by omega)]; exact m7
        · have ho := h1.trans (g4_b (dp := dp) hr (by omega) n8.2.2 ⟨fun _ => by omega, fun _ => by omega, fun _ => by omega⟩)
          exact ⟨_, end_g hod ho, Or.inl ⟨f8 _, f9 _, by omega⟩, fr1⟩
end GO

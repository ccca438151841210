/-! MY OWN: statements: words, numbers and names that must stand there, both sides -/
def mFt (τ : zS) (k p : Int) : Prop := hI τ 56 8 = k ∧ hI τ 56 9 = p ∧ 0 < k
section TW
variable {A B σ τ υ : zS} {c : Int → Int} {N b q a t v i k p lo hi : Int} {d : Bool}
theorem mF_l (h : mFb σ k p) : ∃ υ, fX11_lex σ = some υ ∧ oM σ υ ∧ ((mFt υ k p) ∨ (k = 1 ∧ υ = σ ∧ RD σ p 0 0 ∧ (0 ≤ p ∧ p < 1700))) := by
  rcases h with ⟨h1, h2, h3⟩ | ⟨hk, m1, m2, m3, m4⟩
  · have l := hI_hi σ 56 8
    refine ⟨σ, ?_, oM_r σ, Or.inl ⟨h1, h2, h3⟩⟩
    by_cases g : hI σ 56 12 = -1
    · exact lex_n g
    · have l1 := hI_lo σ 56 12
      have l2 := hI_hi σ 56 12
      unfold fX11_lex
      rw [if_neg (by rw [show iG σ 56 12 = z32 (hI σ 56 12) from iG_h σ 56 12, z32_litn, z32_neg, z32_eq (by omega) (by omega) (by omega) (by omega)]; exact g), show iG σ 56 12 = z32 (hI σ 56 12) from iG_h σ 56 12, z32_litn, blm_1 (by omega), bnr_q]
  · subst hk
    rcases m4 with m4 | ⟨m4, m5, m6, m7⟩
    · refine ⟨_, lex_b m4 m3.1 m1, oM_t (oM_j (by omega) (by omega) (by omega)) (oM_j (by omega) (by omega) (by omega)), Or.inl ⟨fk8 (by omega) (by omega), fk9 (by omega) (by omega), by omega⟩⟩
    · have nS : ¬ isS 0 := by unfold isS; omega
      exact ⟨σ, lex_n m4, oM_r σ, Or.inr ⟨rfl, rfl, ⟨m1, m4, m7, Or.inr rfl, ⟨fun g => by omega, fun g => by omega, fun g => absurd g nS, fun g => by omega, fun g => by omega⟩, fun _ => ⟨m5, m6⟩⟩, m3.1, m3.2.1⟩⟩
theorem mt_b (h : mFt σ k p) : mFb σ k p := Or.inl h
theorem flt (h8 : hI σ 56 8 = 0) (hk : 0 < k ∧ k < 10) (hp : -1 ≤ p ∧ p ≤ 1800) : mFt (jS (jS σ 56 8 k) 56 9 p) k p ∧ oM σ (jS (jS σ 56 8 k) 56 9 p) := ⟨⟨fk8 (by omega) (by omega), fk9 (by omega) (by omega), hk.1⟩, oM_t (oM_j (by omega) (by omega) (by omega)) (oM_j (by omega) (by omega) (by omega))⟩
theorem c8p (h : mFt σ k p) : ¬ (iG σ 56 8 ≤ 0) := by
  have := hI_hi σ 56 8
  obtain ⟨h1, h2, h3⟩ := h
  rw [show iG σ 56 8 = z32 (hI σ 56 8) from iG_h σ 56 8, z32_litn, z32_le (by omega) (by omega) (by omega) (by omega)]
  omega
theorem c8e (h : mFt σ k p) : ¬ (iG σ 56 8 = 0) := by
  have := hI_hi σ 56 8
  obtain ⟨h1, h2, h3⟩ := h
  rw [show iG σ 56 8 = z32 (hI σ 56 8) from iG_h σ 56 8, z32_litn, z32_eq (by omega) (by omega) (by omega) (by omega)]
  omega
theorem c8z (h : hI σ 56 8 = 0) : iG σ 56 8 ≤ 0 := by
  rw [show iG σ 56 8 = z32 (hI σ 56 8) from iG_h σ 56 8, h, z32_litn, z32_le (by omega) (by omega) (by omega) (by omega)]
  omega
theorem c8q (h : hI σ 56 8 = 0) : iG σ 56 8 = 0 := by
  rw [show iG σ 56 8 = z32 (hI σ 56 8) from iG_h σ 56 8, h, z32_litn]
theorem bl4 {x : Int32} (hx : x = z32 k) (h8 : hI σ 56 8 = 0) (h4 : hI σ 56 4 = q) : fX11_blame x (iG σ 56 4) σ = some (jS (jS σ 56 8 k) 56 9 q) := by
  rw [hx, show iG σ 56 4 = z32 (hI σ 56 4) from iG_h σ 56 4, h4]
  exact blm_0 h8
theorem bl5 {x y : Int32} (h : mFt σ k p) : fX11_blame x y σ = some σ := by
  unfold fX11_blame
  rw [if_neg (c8p h)]
-- the other side behind a fault, or about to blame
theorem mm_word {y : Int64} (hy : y = z64 (ow8 i)) (h0 : 0 ≤ i) (h1 : i < 25) (h : mFb σ k p) : ∃ τ, fX11_must_ y σ = some τ ∧ oM σ τ ∧ mFt τ k p := by
  obtain ⟨υ, u1, u2, u3⟩ := mF_l h
  unfold fX11_must_
  rw [u1, bnr_q]
  rcases u3 with u3 | ⟨hk, he, hr, hp⟩
  · rw [if_neg (c8p u3)]
    exact ⟨υ, rfl, u2, u3⟩
  · subst he hk
    rw [if_pos (c8z hr.1), if_pos (by rw [iw_g hr.2.2.2 hy h0 h1]; omega), bl4 (z32_litn 1) hr.1 hr.2.2.1, bnr_q]
    obtain ⟨f1, f2⟩ := flt (k := 1) (p := p) hr.1 (by omega) (by omega)
    unfold fX11_must__29
    rw [if_neg (c8e f1)]
    exact ⟨_, rfl, oM_t u2 f2, f1⟩
theorem mm_look {x y : Int32} (h : mFb σ k p) : ∃ τ, fX11_lookedAt x y σ = some (z32 0, τ) ∧ oM σ τ ∧ mFt τ k p := by
  obtain ⟨υ, u1, u2, u3⟩ := mF_l h
  unfold fX11_lookedAt
  rw [u1, bnr_q]
  rcases u3 with u3 | ⟨hk, he, hr, hp⟩
  · rw [if_neg (c8p u3), z32_litn]
    exact ⟨υ, rfl, u2, u3⟩
  · subst he hk
    rw [if_pos (c8z hr.1), if_neg (by rw [mk_2 hr.2.2.2]; omega), bl4 (z32_litn 1) hr.1 hr.2.2.1, bnr_q]
    obtain ⟨f1, f2⟩ := flt (k := 1) (p := p) hr.1 (by omega) (by omega)
    unfold fX11_lookedAt_30 fX11_lookedAt_58
    rw [if_neg (c8e f1), if_neg (c8p f1), z32_litn]
    exact ⟨_, rfl, oM_t u2 f2, f1⟩
theorem mm_num {x y : Int32} (h : mFb σ k p) : ∃ τ, fX11_number x y σ = some (z32 0, τ) ∧ oM σ τ ∧ mFt τ k p := by
  obtain ⟨τ, t1, t2, t3⟩ := mm_look (x := x) (y := y) h
  unfold fX11_number
  rw [t1, bnc_q, if_neg (c8e t3)]
  exact ⟨τ, rfl, t2, t3⟩
-- both sides
theorem jt_word {x : Int32} {y : Int64} (hx : x = z32 i) (hy : y = z64 (ow8 i)) (h0 : 0 ≤ i) (h1 : i < 25) (h : AL A σ c N q a t v) : ∃ B τ, fX5_takeWord x A = some B ∧ oR A B ∧ fX11_must_ y σ = some τ ∧ oM σ τ ∧ ((∃ q' a' t' v', AL B τ c N q' a' t' v' ∧ q < q') ∨ ∃ k p, cBk B k p ∧ mFb τ k p) := by
  obtain ⟨hr, hA⟩ := AL_x h
  obtain ⟨p1, p2, p3, p4, p5, p6, p7, p8⟩ := h.2.2.1
  unfold fX5_takeWord fX11_must_
  rw [lex_n hr.2.1, bnr_q, if_pos (c8z hr.1)]
  by_cases ht : t = 100 + i
  · rw [if_pos (by rw [cb_g hA hx h0 h1]; exact ht), if_neg (by rw [iw_g hr.2.2.2 hy h0 h1]; omega)]
    obtain ⟨B, τ, b1, b2, t1, t2, hres⟩ := adv_j h (by omega)
    unfold fX11_must__29
    rw [if_pos (c8q hr.1), t1, bnr_q, b1, bnr_q]
    have qa := p6 (by omega)
    refine ⟨B, τ, rfl, b2, rfl, t2, ?_⟩
    rcases hres with ⟨q', a', t', v', h3, h4⟩ | ⟨p, h3, h4⟩
    · exact Or.inl ⟨q', a', t', v', h3, by omega⟩
    · exact Or.inr ⟨1, p, h3, Or.inr ⟨rfl, h4⟩⟩
  · rw [if_neg (by rw [cb_g hA hx h0 h1]; exact ht), if_pos (by rw [iw_g hr.2.2.2 hy h0 h1]; exact ht), bl4 (z32_litn 1) hr.1 hr.2.2.1, bnr_q]
    obtain ⟨f1, f2⟩ := flt (k := 1) (p := q) hr.1 (by omega) (by omega)
    obtain ⟨B, b1, b2, b3⟩ := fl_j (k := 1) (z32_litn 1) h (by omega)
    unfold fX11_must__29
    rw [if_neg (c8e f1), b1, bnr_q]
    exact ⟨B, _, rfl, b2, rfl, f2, Or.inr ⟨1, q, b3, mt_b f1⟩⟩
theorem lk_ok {x y : Int32} (hx : x = z32 lo) (hy : y = z32 hi) (hb : 0 ≤ lo ∧ hi < 10000) (h : AL A σ c N q a t v) (ht : t = 3) (hv : lo ≤ v ∧ v ≤ hi) : fX11_lookedAt x y σ = some (z32 v, σ) := by
  obtain ⟨hr, hA⟩ := AL_x h
  obtain ⟨m1, m2, m3⟩ := h.2.1.2.2.2.2.2.2.2.1 ht
  unfold fX11_lookedAt fX11_lookedAt_30 fX11_lookedAt_58
  rw [lex_n hr.2.1, bnr_q, if_pos (c8z hr.1), if_pos (by rw [mk_2 hr.2.2.2]; exact ht), if_pos (c8q hr.1), show iG σ 56 6 = z32 (hI σ 56 6) from iG_h σ 56 6, m2, hx, hy, is_p hv.1 hv.2 (by omega) (by omega), if_neg (by decide), if_pos (c8z hr.1)]
theorem lk_no {x y : Int32} (hx : x = z32 lo) (hy : y = z32 hi) (hb : 0 ≤ lo ∧ lo < 10000 ∧ 0 ≤ hi ∧ hi < 10000) (h : AL A σ c N q a t v) (hv : ¬ (t = 3 ∧ lo ≤ v ∧ v ≤ hi)) : ∃ k, (if t = 3 then k = 4 else k = 1) ∧ fX11_lookedAt x y σ = some (z32 0, jS (jS σ 56 8 k) 56 9 q) := by
  obtain ⟨hr, hA⟩ := AL_x h
  obtain ⟨p1, p2, p3, p4, p5, p6, p7, p8⟩ := h.2.2.1
  unfold fX11_lookedAt fX11_lookedAt_30 fX11_lookedAt_58
  rw [lex_n hr.2.1, bnr_q, if_pos (c8z hr.1)]
  by_cases ht : t = 3
  · obtain ⟨m1, m2, m3⟩ := h.2.1.2.2.2.2.2.2.2.1 ht
    obtain ⟨f1, f2⟩ := flt (k := 4) (p := q) hr.1 (by omega) (by omega)
    refine ⟨4, by rw [if_pos ht], ?_⟩
    rw [if_pos (by rw [mk_2 hr.2.2.2]; exact ht), if_pos (c8q hr.1), show iG σ 56 6 = z32 (hI σ 56 6) from iG_h σ 56 6, m2, hx, hy, is_n (by omega) (by omega) (by omega) (by omega) (by omega) (by omega) (fun w => hv ⟨ht, w⟩), if_pos (show z32 0 = 0 by decide), bl4 (z32_litn 4) hr.1 hr.2.2.1, bnr_q, if_neg (c8p f1), z32_litn]
  · obtain ⟨f1, f2⟩ := flt (k := 1) (p := q) hr.1 (by omega) (by omega)
    refine ⟨1, by rw [if_neg ht], ?_⟩
    rw [if_neg (by rw [mk_2 hr.2.2.2]; exact ht), bl4 (z32_litn 1) hr.1 hr.2.2.1, bnr_q, if_neg (c8e f1), if_neg (c8p f1), z32_litn]
theorem tn_ok {x y : Int32} (hx : x = z32 lo) (hy : y = z32 hi) (hb : 0 ≤ lo ∧ hi < 10000) (h : AL A σ c N q a t v) (ht : t = 3) (hv : lo ≤ v ∧ v ≤ hi) : fX5_takeNumber x y A = bnr (fX5_advance A) fun B => some (z32 v, B) := by
  obtain ⟨hr, hA⟩ := AL_x h
  have e8 := h.1.2.2.2.2.2.2.2.2 ht
  unfold fX5_takeNumber fX5_takeNumber_50
  rw [if_pos (by rw [ca3 hA]; exact ht), show iG A 54 8 = z32 (hI A 54 8) from iG_h A 54 8, e8, hx, hy, if_neg (by rw [z32_lt (by omega) (by omega) (by omega) (by omega)]; omega), if_pos (by rw [z32_le (by omega) (by omega) (by omega) (by omega)]; omega)]
theorem adv_k (h : cBk B k p) : fX5_advance B = some B := by
  have e := h.1
  simp (disch := omega) only [fX5_advance, z32_add, z32_sub, z32_mul, z32_neg, z32_litn, z32_lt, z32_le, z32_eq, iG_h, lG_h, iS_q, lS_q, aI_h, wI_h, aL_h, wL_h, ↓bnd_q, bnr_q, bnc_q, ↓reduceIte, ieqT, ieqF, iltT, iltF, ileT, ileF, not_true, not_false_iff, e]
theorem tn_no {x y : Int32} (hx : x = z32 lo) (hy : y = z32 hi) (hb : 0 ≤ lo ∧ lo < 10000 ∧ 0 ≤ hi ∧ hi < 10000) (h : AL A σ c N q a t v) (hv : ¬ (t = 3 ∧ lo ≤ v ∧ v ≤ hi)) (hk : if t = 3 then k = 4 else k = 1) : ∃ B r, fX5_takeNumber x y A = some (r, B) ∧ oR A B ∧ cBk B k q := by
  obtain ⟨hr, hA⟩ := AL_x h
  unfold fX5_takeNumber fX5_takeNumber_41 fX5_takeNumber_50
  by_cases ht : t = 3
  · rw [if_pos ht] at hk
    subst hk
    have e8 := h.1.2.2.2.2.2.2.2.2 ht
    obtain ⟨m1, m2, m3⟩ := h.2.1.2.2.2.2.2.2.2.1 ht
    obtain ⟨B, b1, b2, b3⟩ := fl_j (k := 4) (z32_litn 4) h (by omega)
    refine ⟨B, iG A 54 8, ?_, b2, b3⟩
    rw [if_pos (by rw [ca3 hA]; exact ht)]
    by_cases g : v < lo
    · rw [if_pos (by rw [show iG A 54 8 = z32 (hI A 54 8) from iG_h A 54 8, e8, hx, z32_lt (by omega) (by omega) (by omega) (by omega)]; exact g), b1, bnr_q, adv_k b3, bnr_q]
    · rw [if_neg (by rw [show iG A 54 8 = z32 (hI A 54 8) from iG_h A 54 8, e8, hx, z32_lt (by omega) (by omega) (by omega) (by omega)]; exact g), if_neg (by rw [show iG A 54 8 = z32 (hI A 54 8) from iG_h A 54 8, e8, hy, z32_le (by omega) (by omega) (by omega) (by omega)]; omega), b1, bnr_q, adv_k b3, bnr_q]
  · rw [if_neg ht] at hk
    subst hk
    obtain ⟨B, b1, b2, b3⟩ := fl_j (k := 1) (z32_litn 1) h (by omega)
    refine ⟨B, iG A 54 8, ?_, b2, b3⟩
    rw [if_neg (by rw [ca3 hA]; exact ht), b1, bnr_q, adv_k b3, bnr_q]
theorem jt_num {x y : Int32} (hx : x = z32 lo) (hy : y = z32 hi) (hb : 0 ≤ lo ∧ lo < 10000 ∧ 0 ≤ hi ∧ hi < 10000) (h : AL A σ c N q a t v) : ∃ B τ r1 r2, fX5_takeNumber x y A = some (r1, B) ∧ oR A B ∧ fX11_number x y σ = some (r2, τ) ∧ oM σ τ ∧ ((∃ u, r1 = z32 u ∧ r2 = z32 u ∧ (lo ≤ u ∧ u ≤ hi) ∧ ∃ q' a' t' v', AL B τ c N q' a' t' v' ∧ q < q') ∨ ∃ k p, cBk B k p ∧ mFb τ k p) := by
  obtain ⟨hr, hA⟩ := AL_x h
  obtain ⟨p1, p2, p3, p4, p5, p6, p7, p8⟩ := h.2.2.1
  by_cases hv : t = 3 ∧ lo ≤ v ∧ v ≤ hi
  · obtain ⟨B, τ, b1, b2, t1, t2, hres⟩ := adv_j h (by omega)
    have qa := p6 (by omega)
    refine ⟨B, τ, z32 v, z32 v, ?_, b2, ?_, t2, ?_⟩
    · rw [tn_ok hx hy ⟨hb.1, hb.2.2.2⟩ h hv.1 hv.2, b1, bnr_q]
    · unfold fX11_number
      rw [lk_ok hx hy ⟨hb.1, hb.2.2.2⟩ h hv.1 hv.2, bnc_q, if_pos (c8q hr.1), t1, bnr_q]
    · rcases hres with ⟨q', a', t', v', h3, h4⟩ | ⟨p, h3, h4⟩
      · exact Or.inl ⟨v, rfl, rfl, hv.2, q', a', t', v', h3, by omega⟩
      · exact Or.inr ⟨1, p, h3, Or.inr ⟨rfl, h4⟩⟩
  · obtain ⟨k, k1, k2⟩ := lk_no hx hy hb h hv
    have hk : 0 < k ∧ k < 10 := by split at k1 <;> omega
    obtain ⟨f1, f2⟩ := flt (k := k) (p := q) hr.1 hk (by omega)
    obtain ⟨B, r, b1, b2, b3⟩ := tn_no hx hy hb h hv k1
    refine ⟨B, _, r, z32 0, b1, b2, ?_, f2, Or.inr ⟨k, q, b3, mt_b f1⟩⟩
    unfold fX11_number
    rw [k2, bnc_q, if_neg (c8e f1)]
end TW

/-! MY OWN: feed -/
section TP
variable {A B σ τ φ : zS} {x x2 x3 x4 x5 : Int32} {s n : Int}
theorem tx_h (A : zS) (k : Int) : tx A k = (z32 (hI A 3 k) &&& 255).toInt := by
  unfold tx hI
  rw [z32_of]
def uC (p : Nat) (_ : Int) : Prop := p = 2 ∨ p = 3
def uM (p : Nat) (k : Int) : Prop := p = 57 ∨ (p = 56 ∧ k = 1)
theorem by_j (h : rlT A σ) (hn : hI A 2 1 = n) (hn' : n < 1600) (hs : 0 ≤ s ∧ s ≤ 24) : ∃ A' σ', (∀ f, fX9_addNumber_3 (f + 1) x (z32 s) A = fX9_addNumber_3 f x (z32 (s - 8)) A') ∧ (∀ f, fX11_put_3 (f + 1) x (z32 s) σ = fX11_put_3 f x (z32 (s - 8)) σ') ∧ rlT A' σ' ∧ hI A' 2 1 = n + 1 ∧ fr uC A A' ∧ fr uM σ σ' := by
  obtain ⟨t1, t2, t3⟩ := h
  rw [hn] at t1 t2
  obtain ⟨y, hy⟩ : ∃ y : Int32, y = x >>> (z32 s &&& 31) := ⟨_, rfl⟩
  obtain ⟨b, hb⟩ : ∃ b : Int, b = (vp_nar .byte (y.toInt8.toInt32)).toInt := ⟨_, rfl⟩
  obtain ⟨c, hc⟩ : ∃ c : Int, c = (y &&& 255).toInt := ⟨_, rfl⟩
  have eb : vp_nar .byte (y.toInt8.toInt32) = z32 b := by rw [hb, z32_of]
  have ec : y &&& 255 = z32 c := by rw [hc, z32_of]
  have bb := z32_b (vp_nar .byte (y.toInt8.toInt32))
  have cb := z32_b (y &&& 255)
  rw [← hb] at bb
  rw [← hc] at cb
  have ebc : (z32 b &&& 255).toInt = c := by rw [← eb, pk_vb, bp_b, ← hc]
  have e8 : (-8 : Int32) = z32 (-8) := by rw [z32_litn, z32_neg]
  refine ⟨jS (jS A 3 n b) 2 1 (n + 1), jS (jS σ 57 n c) 56 1 (n + 1), fun f => ?_, fun f => ?_, ⟨?_, ?_, fun k g0 g1 => ?_⟩, ?_, fr_t (fr_j (by omega) (by unfold uC; omega)) (fr_j (by omega) (by unfold uC; omega)), fr_t (fr_j (by omega) (by unfold uM; omega)) (fr_j (by omega) (by unfold uM; omega))⟩
  · rw [fX9_addNumber_3, if_neg (by rw [z32_litn, z32_lt (by omega) (by omega) (by omega) (by omega)]; omega), show iG A 2 1 = z32 (hI A 2 1) from iG_h A 2 1, hn, if_neg (by rw [z32_litn, z32_le (by omega) (by omega) (by omega) (by omega)]; omega), ← hy, eb, wI_h (by omega) (by omega) (by omega)]
    unfold fX9_addNumber_42
    rw [show iG (jS A 3 n b) 2 1 = z32 (hI (jS A 3 n b) 2 1) from iG_h _ 2 1, hI_jS_ne (by omega), hn, z1p, iS_q, bnd_q, e8, z32_add]
    rfl
  · rw [fX11_put_3, if_neg (by rw [z32_litn, z32_lt (by omega) (by omega) (by omega) (by omega)]; omega), show iG σ 56 1 = z32 (hI σ 56 1) from iG_h σ 56 1, t1, ← hy, ec, wI_h (by omega) (by omega) (by omega), show iG (jS σ 57 n c) 56 1 = z32 (hI (jS σ 57 n c) 56 1) from iG_h _ 56 1, hI_jS_ne (by omega), t1, z1p, iS_q, bnd_q, e8, z32_add]
    rfl
  · rw [hI_jS (by omega) (by omega) (by omega) (by omega), if_pos rfl, hI_jS (by omega) (by omega) (by omega) (by omega), if_pos rfl]
  · rw [hI_jS (by omega) (by omega) (by omega) (by omega), if_pos rfl]; omega
  · rw [hI_jS_ne (by omega), hI_jS (by omega) g0 cb.1 cb.2, tx_h, hI_jS_ne (by omega), hI_jS (by omega) g0 bb.1 bb.2]
    by_cases g : k = n
    · rw [if_pos g, if_pos g, ebc]
    · rw [if_neg g, if_neg g, ← tx_h]; exact t3 k g0 g1
  · rw [hI_jS (by omega) (by omega) (by omega) (by omega), if_pos rfl]
theorem add_j (h : rlT A σ) (hn : hI A 2 1 = n) (hn' : n + 4 ≤ 1600) : ∃ A' σ', fX9_addNumber x A = some A' ∧ fX11_put x σ = some σ' ∧ rlT A' σ' ∧ hI A' 2 1 = n + 4 ∧ fr uC A A' ∧ fr uM σ σ' := by
  obtain ⟨g, hg⟩ : ∃ g, zF = g + 5 := ⟨999995, rfl⟩
  obtain ⟨A1, σ1, a1, a2, a3, a4, a5, a6⟩ := by_j (x := x) (s := 24) h hn (by omega) (by omega)
  obtain ⟨A2, σ2, b1, b2, b3, b4, b5, b6⟩ := by_j (x := x) (s := 16) a3 a4 (by have := h.2.1; omega) (by omega)
  obtain ⟨A3, σ3, c1, c2, c3, c4, c5, c6⟩ := by_j (x := x) (s := 8) b3 b4 (by have := h.2.1; omega) (by omega)
  obtain ⟨A4, σ4, d1, d2, d3, d4, d5, d6⟩ := by_j (x := x) (s := 0) c3 c4 (by have := h.2.1; omega) (by omega)
  refine ⟨A4, σ4, ?_, ?_, d3, by omega, fr_t (fr_t (fr_t a5 b5) c5) d5, fr_t (fr_t (fr_t a6 b6) c6) d6⟩
  · rw [fX9_addNumber, show (24 : Int32) = z32 24 from z32_litn 24, hg, a1, show (24 : Int) - 8 = 16 by omega, b1, show (16 : Int) - 8 = 8 by omega, c1, show (8 : Int) - 8 = 0 by omega, d1, fX9_addNumber_3, if_pos (by rw [z32_litn, z32_lt (by omega) (by omega) (by omega) (by omega)]; omega)]
  · rw [fX11_put, show (24 : Int32) = z32 24 from z32_litn 24, hg, a2, show (24 : Int) - 8 = 16 by omega, b2, show (16 : Int) - 8 = 8 by omega, c2, show (8 : Int) - 8 = 0 by omega, d2, fX11_put_3, if_pos (by rw [z32_litn, z32_lt (by omega) (by omega) (by omega) (by omega)]; omega)]
theorem feed_j (h : rlT A σ) (hn : hI A 2 1 + 20 ≤ 1600) : ∃ r A' σ', fX10_feed x x2 x3 x4 x5 A = some (r, A') ∧ fX11_feed x x2 x3 x4 x5 σ = some (r, σ') ∧ rlT A' σ' ∧ fr uC A A' ∧ fr uM σ σ' := by
  have hb := h.2.1
  obtain ⟨A1, σ1, a1, a2, a3, a4, a5, a6⟩ := add_j (x := x) h rfl (by omega)
  obtain ⟨A2, σ2, b1, b2, b3, b4, b5, b6⟩ := add_j (x := x2) a3 a4 (by omega)
  obtain ⟨A3, σ3, c1, c2, c3, c4, c5, c6⟩ := add_j (x := x3) b3 b4 (by omega)
  obtain ⟨A4, σ4, d1, d2, d3, d4, d5, d6⟩ := add_j (x := x4) c3 c4 (by omega)
  obtain ⟨A5, σ5, e1, e2, e3, e4, e5, e6⟩ := add_j (x := x5) d3 d4 (by omega)
  refine ⟨z32 (hI A5 2 1), A5, σ5, ?_, ?_, e3, fr_t (fr_t (fr_t (fr_t a5 b5) c5) d5) e5, fr_t (fr_t (fr_t (fr_t a6 b6) c6) d6) e6⟩
  · rw [fX10_feed, if_pos (by rw [show iG A 2 1 = z32 (hI A 2 1) from iG_h A 2 1, show (20 : Int32) = z32 20 from z32_litn 20, z32_add, z32_litn, z32_le (by omega) (by omega) (by omega) (by omega)]; omega), a1, bnr_q, b1, bnr_q, c1, bnr_q, d1, bnr_q, e1, bnr_q, show iG A5 2 1 = z32 (hI A5 2 1) from iG_h A5 2 1]
  · rw [fX11_feed, if_pos (by rw [show iG σ 56 1 = z32 (hI σ 56 1) from iG_h σ 56 1, h.1, show (20 : Int32) = z32 20 from z32_litn 20, z32_add, z32_litn, z32_le (by omega) (by omega) (by omega) (by omega)]; omega), a2, bnr_q, b2, bnr_q, c2, bnr_q, d2, bnr_q, e2, bnr_q, show iG σ5 56 1 = z32 (hI σ5 56 1) from iG_h σ5 56 1, e3.1]
theorem C_feed (h : INV σ) : CA (fX10_feed x x2 x3 x4 x5) (fX11_feed x x2 x3 x4 x5) σ := by
  have hrp := rp_or σ.2.2.2.1
  have hT : rlT σ σ := by obtain ⟨_, _, _, _, g, _⟩ := h; exact g
  have hb := hT.2.1
  by_cases g : hI σ 2 1 + 20 ≤ 1600
  · obtain ⟨r, B, _, b1, -, -, b4, -⟩ := feed_j (x := x) (x2 := x2) (x3 := x3) (x4 := x4) (x5 := x5) hT g
    have hT' : rlT σ B := ⟨by rw [(b4.2 56 1 (by omega) (by unfold uC; omega)).1]; exact hT.1, hb, fun k g0 g1 => by rw [(b4.2 57 k g0 (by unfold uC; omega)).1]; exact hT.2.2 k g0 g1⟩
    obtain ⟨r', B', φ, c1, c2, c3, c4, c5⟩ := feed_j (x := x) (x2 := x2) (x3 := x3) (x4 := x4) (x5 := x5) hT' g
    rw [b1] at c1
    simp only [Option.some.injEq, Prod.mk.injEq] at c1
    obtain ⟨rfl, rfl⟩ := c1
    have f : fr (fun p k => uC p k ∨ uM p k) σ φ := fr_t (fr_m b4 (fun p k _ w => Or.inl w)) (fr_m c5 (fun p k _ w => Or.inr w))
    refine ⟨r, B, φ, b1, c2, inv_l h f (fun p i g u => ?_) (fun _ => ?_) (iv_S (sm_f f (fun p i g w u => by unfold fpS at w; unfold uC uM at u; omega))) (iv_F (sm_f f (fun p i g w u => by unfold fpF at w; unfold uC uM at u; omega))) (iv_U (sm_f f (fun p i g w u => by unfold fpU at w; unfold uC uM at u; omega))) (iv_P (sm_f f (fun p i g w u => by unfold fpP at w; unfold uC uM at u; omega))) (fun hc j => iv_C j (sm_f f (fun p i g w u => by unfold fpQ at w; unfold uC uM at u; omega)) hc)⟩
    · unfold uC uM at u
      unfold sfR fpC fpM fpN fpH
      omega
    · refine ⟨by rw [(c5.2 2 1 (by omega) (by unfold uM; omega)).1]; exact c3.1, by rw [(c5.2 2 1 (by omega) (by unfold uM; omega)).1]; exact c3.2.1, fun k g0 g1 => ?_⟩
      rw [tx_c (c5.2 3 k g0 (by unfold uM; omega)).1]
      exact c3.2.2 k g0 g1
  · refine ⟨z32 (-1), jS σ 37 0 (z32 (hI σ 37 0 + 1)).toInt, jS (jS σ 37 0 (z32 (hI σ 37 0 + 1)).toInt) 84 0 (z32 (hI (jS σ 37 0 (z32 (hI σ 37 0 + 1)).toInt) 84 0 + 1)).toInt, ?_, ?_, inv_F h (by omega) (by omega)⟩
    · rw [fX10_feed, if_neg (by rw [show iG σ 2 1 = z32 (hI σ 2 1) from iG_h σ 2 1, show (20 : Int32) = z32 20 from z32_litn 20, z32_add, z32_litn, z32_le (by omega) (by omega) (by omega) (by omega)]; omega), ref_z (k := 0) (z32_litn 0) (by omega) (by omega), bnc_q]
    · rw [fX11_feed, if_neg (by rw [show iG (jS σ 37 0 (z32 (hI σ 37 0 + 1)).toInt) 56 1 = z32 (hI (jS σ 37 0 (z32 (hI σ 37 0 + 1)).toInt) 56 1) from iG_h _ 56 1, hI_jS_ne (by omega), hT.1, show (20 : Int32) = z32 20 from z32_litn 20, z32_add, z32_litn, z32_le (by omega) (by omega) (by omega) (by omega)]; omega), mref_z (k := 0) (z32_litn 0) (by omega) (by omega), bnc_q]
end TP

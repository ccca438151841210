/-! MY OWN: all that holds between calls; questions -/
def INV (σ : zS) : Prop := ∃ oW oT, IR oW oT σ ∧ IN σ ∧ rlT σ σ ∧ rlS σ σ ∧ rlF σ σ ∧ rlU σ σ ∧ rlP σ σ ∧ rlC σ σ ∧ rlH σ σ ∧ IW σ ∧ KK oW oT σ σ
/-- one pair of calls at σ -/
def CA (f g : zS → Option (Int32 × zS)) (σ : zS) : Prop := ∃ r σ1 σ2, f σ = some (r, σ1) ∧ g σ1 = some (r, σ2) ∧ INV σ2
def CR (f g : zS → Option Int32) (σ : zS) : Prop := ∃ r, f σ = some r ∧ g σ = some r
section IC
variable {σ B τ : zS} {oW oT : Option ((Int → Int) → Int)} {P : Nat → Int → Prop}
theorem IR_C (h : IR oW oT σ) (hn : IN σ) : RC oW oT σ := ⟨h.1, (row_N hn.1).2, h.2.2.1, h.2.2.2.1⟩
theorem IR_M (h : IR oW oT σ) (hn : IN σ) : RM oW oT σ σ := ⟨h.2.1, (row_N hn.1).1, h.2.2.2.2.1, h.2.2.2.2.2.1⟩
theorem q_sm (q : qC σ B) (m : qM B τ) (hP : ∀ p k, P p k → ¬ (25 ≤ p ∧ p ≤ 31) ∧ p ≠ rp σ.2.2.2.1 + 13 ∧ (p = rp σ.2.2.2.1 + 11 → k ≠ 2) ∧ (p < 95 ∨ 99 ≤ p) ∧ p ≠ 101 ∧ (p = 56 → k < 61 ∨ 69 < k)) : sm P σ τ := fun p k a b => by
  obtain ⟨h1, h2, h3, h4, h5, h6⟩ := hP p k b
  by_cases g : p < 56
  · refine ⟨?_, fun w => by omega⟩
    rw [(m.2.2 p k g a).1]
    exact q.1.2 p k g a h1 h2 h3
  · refine ⟨?_, fun _ => ?_⟩
    · rw [m.1.1 p k (by omega) a (by omega) (by omega) h5 (fun w => by have := h6 w; omega)]
      exact (q.2 p k (by omega) a).1
    · rw [m.1.2 p k (by omega) a (by omega) (by omega) (fun w => by have := h6 w; omega)]
      exact (q.2 p k (by omega) a).2
theorem CA_Z {f g : zS → Option (Int32 × zS)} (h : INV σ) (hq : ∀ oW oT, RC oW oT σ → KK oW oT σ σ → QZ oW oT f g σ) : CA f g σ := by
  have h' := h
  obtain ⟨oW, oT, h1, h2, -, -, -, -, -, -, -, -, h11⟩ := h
  have hC := IR_C h1 h2
  obtain ⟨r, B, b1, b2, b3, b4⟩ := hq oW oT hC h11
  obtain ⟨τ, t1, t2⟩ := b4 B (m_RM (qC_M b2) h1.1 (IR_M h1 h2))
  refine ⟨r, B, τ, b1, t1, ?_⟩
  have efl : τ.2.2 = σ.2.2 := t2.2.1.trans b2.1.1
  obtain ⟨oW', oT', g1, g2, g3, g4, g5, g6, g7, g8, g9, g10, g11⟩ := h'
  have hrp := rp_or σ.2.2.2.1
  have j : jE σ τ := ⟨by rw [efl], q_sm b2 t2 (fun p k w => by unfold fpC at w; omega)⟩
  have hkt : KK oW oT σ τ := KK_o b3 (qM_O t2)
  refine ⟨oW, oT, iv_R j (q_sm b2 t2 (fun p k w => by unfold fpM at w; omega)) h1, iv_N j (q_sm b2 t2 (fun p k w => by unfold fpN at w; omega)) h1.1 h2, iv_T (q_sm b2 t2 (fun p k w => by unfold fpT at w; omega)) g3, iv_S (q_sm b2 t2 (fun p k w => by unfold fpS at w; omega)) g4, iv_F (q_sm b2 t2 (fun p k w => by unfold fpF at w; omega)) g5, iv_U (q_sm b2 t2 (fun p k w => by unfold fpU at w; omega)) g6, iv_P (q_sm b2 t2 (fun p k w => by unfold fpP at w; omega)) g7, iv_C j (q_sm b2 t2 (fun p k w => by unfold fpQ at w; omega)) g8, iv_H j (q_sm b2 t2 (fun p k w => by unfold fpH at w; omega)) h1.1 g9, iv_O (by rw [efl]; exact g10.2) (q_sm b2 t2 (fun p k w => by omega)) g10, c_KPp (jE_vE j) hkt.1, c_KPs (jE_vE j) (fun h g => ?_) hkt.2⟩
  unfold vBr
  exact ((q_sm b2 t2 (P := fun p _ => p = 5) (fun p k w => by omega)) 5 (50 + h) (by omega) rfl).1
theorem CR_P {f g : zS → Option Int32} (h : INV σ) (hq : ∀ oW oT, RC oW oT σ → QP oW oT f g σ) : CR f g σ := by
  obtain ⟨oW, oT, h1, h2, -⟩ := h
  obtain ⟨r, r1, r2⟩ := hq oW oT (IR_C h1 h2)
  exact ⟨r, r1, r2 σ (IR_M h1 h2)⟩
end IC

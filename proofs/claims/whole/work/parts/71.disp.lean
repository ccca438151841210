/-! MY OWN: statements: which one it is -/
def rsD (σ2 : zS) : Option zS := if (iG σ2 54 6) = 0 then bnr (fX5_readTunnel σ2) fun σ4 => fX5_readStatement_200 σ4 else if (iG σ2 54 6) = 4 then bnr (fX5_readHolder σ2) fun σ9 => fX5_readStatement_200 σ9 else if (iG σ2 54 6) = 7 then bnr (fX5_readThinks σ2) fun σ11 => fX5_readStatement_200 σ11 else if (iG σ2 54 6) = 8 then bnr (fX5_readGives σ2) fun σ13 => fX5_readStatement_200 σ13 else if (iG σ2 54 6) = 9 then bnr (fX5_readTold 0 σ2) fun σ15 => fX5_readStatement_200 σ15 else if (iG σ2 54 6) = 10 then bnr (fX5_readTold 1 σ2) fun σ17 => fX5_readStatement_200 σ17 else if (iG σ2 54 6) = 11 then bnr (fX5_advance σ2) fun σ19 => bnc (fX5_takeNumber 0 100 σ19) fun v23 σ21 => bnd (iS σ21 (rp σ19.2.2.2.2 + 0) 3 v23) fun σ24 => fX5_readStatement_200 σ24 else if (iG σ2 54 6) = 12 then bnr (fX5_advance σ2) fun σ25 => bnc (fX5_takeNumber 0 999 σ25) fun v29 σ27 => bnd (iS σ27 (rp σ25.2.2.2.2 + 0) 4 v29) fun σ30 => fX5_readStatement_200 σ30 else bnr (fX5_fail 1 (iG σ2 54 4) σ2) fun σ31 => fX5_readStatement_200 σ31
section DI
variable {A B C σ τ υ : zS} {c : Int → Int} {N b q q' a t v i k p w : Int} {d : Bool} {P Q : Nat}
theorem rs_e (h : iG A (rp A.2.2.2.2 + 0) 0 < 80) : fX5_readStatement A = bnr (fX5_advance (iS A 54 5 0)) rsD := by
  unfold fX5_readStatement
  rw [if_pos h, bnd_q]
  rfl
theorem tell_x {x : Int32} {j : Nat} (h : AL A σ c N q a t v) (ht : t ≠ 1) (hd : A.2.2.2.2 = d) (e : (bnr (fX5_advance A) fun σ19 => bnc (fX5_takeNumber 0 x σ19) fun v23 σ21 => some (iS σ21 (rp d + 0) j v23)) = some B) : (bnr (fX5_advance A) fun σ19 => bnc (fX5_takeNumber 0 x σ19) fun v23 σ21 => bnd (iS σ21 (rp σ19.2.2.2.2 + 0) j v23) fun σ24 => fX5_readStatement_200 σ24) = fX5_readStatement_200 B := by
  obtain ⟨B1, τ1, b1, b2, -⟩ := kw h ht
  rw [b1, bnr_q] at e ⊢
  have d1 : B1.2.2.2.2 = d := by rw [b2.1]; exact hd
  rw [d1]
  cases hx : fX5_takeNumber 0 x B1 with
  | none => rw [hx] at e; exact absurd e (by simp [bnc])
  | some r =>
    obtain ⟨r, B2⟩ := r
    rw [hx, bnc_q] at e
    rw [bnc_q, bnd_q]
    simp only [Option.some.injEq] at e
    rw [e]
theorem st_one (h : AL A σ c N q a t v) (ht : t ≠ 1) (hR : RR A σ d b q) : ∃ B τ, rsD A = fX5_readStatement_200 B ∧ fX11_statement σ = some τ ∧ STA A B σ τ c N d b q := by
  obtain ⟨hr, hA⟩ := AL_x h
  obtain ⟨p1, p2, p3, p4, p5, p6, p7, p8⟩ := h.2.2.1
  have hx := hr.2.2.2
  unfold rsD fX11_statement
  rw [lex_n hr.2.1, bnr_q, if_pos (c8z hr.1)]
  simp only [cb0 hA, cb4 hA, cb7 hA, cb8 hA, cb9 hA, cb10 hA, cb11 hA, cb12 hA, iw0 hx, iw4 hx, iw7 hx, iw8 hx, iw9 hx, iw10 hx, iw11 hx, iw12 hx]
  by_cases g0 : t = 100
  · obtain ⟨B, τ, e1, e2, e3⟩ := st_tunnel h ht hR
    exact ⟨B, τ, by rw [if_pos g0, e1, bnr_q], by rw [if_neg (fun w => w g0), e2, bnr_q], e3⟩
  rw [if_neg g0, if_pos g0]
  by_cases g1 : t = 104
  · obtain ⟨B, τ, e1, e2, e3⟩ := st_holder h ht hR
    exact ⟨B, τ, by rw [if_pos g1, e1, bnr_q], by rw [if_neg (fun w => w g1), e2, bnr_q], e3⟩
  rw [if_neg g1, if_pos g1]
  by_cases g2 : t = 107
  · obtain ⟨B, τ, e1, e2, e3⟩ := st_thinks h ht hR
    exact ⟨B, τ, by rw [if_pos g2, e1, bnr_q], by rw [if_neg (fun w => w g2), e2, bnr_q], e3⟩
  rw [if_neg g2, if_pos g2]
  by_cases g3 : t = 108
  · obtain ⟨B, τ, e1, e2, e3⟩ := st_gives h ht hR
    exact ⟨B, τ, by rw [if_pos g3, e1, bnr_q], by rw [if_neg (fun w => w g3), e2, bnr_q], e3⟩
  rw [if_neg g3, if_pos g3]
  by_cases g4 : t = 109
  · obtain ⟨B, τ, e1, e2, e3⟩ := st_told (w := 0) (P := 68) (Q := 69) (Or.inl ⟨rfl, rfl, rfl⟩) h ht hR
    rw [if_pos rfl] at e2
    exact ⟨B, τ, by rw [if_pos g4, show (0 : Int32) = z32 0 from z32_litn 0, e1, bnr_q], by rw [if_neg (fun w => w g4), e2, bnr_q], e3⟩
  rw [if_neg g4, if_pos g4]
  by_cases g5 : t = 110
  · obtain ⟨B, τ, e1, e2, e3⟩ := st_told (w := 1) (P := 70) (Q := 71) (Or.inr ⟨rfl, rfl, rfl⟩) h ht hR
    rw [if_neg (by omega)] at e2
    exact ⟨B, τ, by rw [if_pos g5, show (1 : Int32) = z32 1 from z32_litn 1, e1, bnr_q], by rw [if_neg (fun w => w g5), e2, bnr_q], e3⟩
  rw [if_neg g5, if_pos g5]
  by_cases g6 : t = 111
  · obtain ⟨B, τ, e1, e2, e3⟩ := st_tell (kd := 1) (i := 3) (w := 100) (Or.inl ⟨rfl, rfl, rfl⟩) h ht hR
    exact ⟨B, τ, by rw [if_pos g6]; exact tell_x h ht hR.1 e1, by rw [if_neg (fun w => w g6), show (1 : Int32) = z32 1 from z32_litn 1, e2, bnr_q], e3⟩
  rw [if_neg g6, if_pos g6]
  by_cases g7 : t = 112
  · obtain ⟨B, τ, e1, e2, e3⟩ := st_tell (kd := 0) (i := 4) (w := 999) (Or.inr ⟨rfl, rfl, rfl⟩) h ht hR
    exact ⟨B, τ, by rw [if_pos g7]; exact tell_x h ht hR.1 e1, by rw [if_neg (fun w => w g7), show (0 : Int32) = z32 0 from z32_litn 0, e2, bnr_q], e3⟩
  rw [if_neg g7, if_pos g7]
  obtain ⟨B, b1, b2, b3⟩ := fl_j (k := 1) (z32_litn 1) h (by omega)
  obtain ⟨f1, f2⟩ := flt (k := 1) (p := q) hr.1 (by omega) (by omega)
  exact ⟨B, _, by rw [b1, bnr_q], by rw [bl4 (z32_litn 1) hr.1 hr.2.2.1, bnr_q], oR_cR b2, oM_d f2, Or.inr ⟨1, q, b3, mt_b f1⟩⟩
end DI

/-! MY OWN: plans and rests of two states that tell the same road -/
def vE (A B : zS) : Prop := vT B = vT A ∧ vH B = vH A ∧ ∀ t, 0 ≤ t → vGap B t = vGap A t ∧ vCnt B t = vCnt A t ∧ ∀ k, 0 ≤ k → vLen B t k = vLen A t k ∧ vWt B t k = vWt A t k
section CG
variable {A B σ τ υ : zS} {oW oT : Option ((Int → Int) → Int)} {t br s k l t0 h W : Int} {R : Int → Int} {T : Nat → Int} {n m : Nat}
theorem vE_s (e : vE A B) : vE B A := ⟨e.1.symm, e.2.1.symm, fun t g => ⟨(e.2.2 t g).1.symm, (e.2.2 t g).2.1.symm, fun k g2 => ⟨((e.2.2 t g).2.2 k g2).1.symm, ((e.2.2 t g).2.2 k g2).2.symm⟩⟩⟩
theorem kC_vE (q : kC A B) : vE A B := ⟨e_T q, e_H q, fun t g => ⟨e_Gap q g, e_Cnt q g, fun k g2 => ⟨e_Len q g g2, e_Wt q g g2⟩⟩⟩
theorem jE_vE (q : jE A B) : vE A B := ⟨j_T q, j_H q, fun t g => ⟨j_Gap q g, j_Cnt q g, fun k g2 => ⟨j_Len q g g2, j_Wt q g g2⟩⟩⟩
theorem c_WA (e : vE A B) (h0 : 0 ≤ t) : sWA oW B t l s br = sWA oW A t l s br := by
  unfold sWA; rw [(e.2.2 t h0).1]
theorem c_TA (e : vE A B) (h0 : 0 ≤ t) : sTA oT B t l s br = sTA oT A t l s br := by
  cases oT with
  | none => rfl
  | some F => show clp 0 60 (F (fct s l 1 0 br (vGap B t))) = clp 0 60 (F (fct s l 1 0 br (vGap A t))); rw [(e.2.2 t h0).1]
theorem c_W (e : vE A B) (h0 : 0 ≤ t) : sW B t = sW A t := by
  unfold sW
  rw [(e.2.2 t h0).2.1]
  exact zs_c (fun i g _ => ((e.2.2 t h0).2.2 i g).2)
theorem c_S (e : vE A B) (h0 : 0 ≤ t) : sS oW oT B W R t br s = sS oW oT A W R t br s := by
  unfold sS
  rw [(e.2.2 t h0).2.1]
  refine zs_c (fun i g _ => ?_)
  rw [((e.2.2 t h0).2.2 i g).2, ((e.2.2 t h0).2.2 i g).1, c_WA e h0, c_TA e h0]
theorem c_TT (e : vE A B) : TT B t0 n = TT A t0 n := by
  funext m
  unfold TT
  rw [e.1]
theorem c_wR (e : vE A B) (hT : ∀ m, 0 ≤ T m) (m : Nat) : wR B T m = wR A T m := by
  induction m with
  | zero => rfl
  | succ m ih =>
    show wR B T m * sW B (T m) = wR A T m * sW A (T m)
    rw [ih, c_W e (hT m)]
theorem c_vR (e : vE A B) (hT : ∀ m, 0 ≤ T m) (m : Nat) : vR oW oT B T m = vR oW oT A T m := by
  induction m with
  | zero => rfl
  | succ m ih =>
    funext br
    have es : sS oW oT B (wR B T m) (vR oW oT B T m) (T m) br = sS oW oT A (wR A T m) (vR oW oT A T m) (T m) br := by
      funext s
      rw [ih, c_wR e hT m]
      exact c_S e (hT m)
    show sS oW oT B (wR B T m) (vR oW oT B T m) (T m) br (am (sS oW oT B (wR B T m) (vR oW oT B T m) (T m) br) br) = sS oW oT A (wR A T m) (vR oW oT A T m) (T m) br (am (sS oW oT A (wR A T m) (vR oW oT A T m) (T m) br) br)
    rw [es]
theorem TT_0 (h1 : 0 < vT A) (m : Nat) : 0 ≤ TT A t0 n m := Int.emod_nonneg _ (by omega)
theorem c_PLD (e : vE A B) (h0 : 0 ≤ t0) (h1 : t0 < vT A) (h : PLD oW oT A σ t0 n br) : PLD oW oT B σ t0 n br := by
  obtain ⟨p1, p2, p3, p4, p5, p6⟩ := h
  have hT : ∀ m, 0 ≤ TT A t0 n m := TT_0 (by omega)
  refine ⟨p1, p2, p3, ?_, ?_, ?_⟩
  · rw [p4]
    unfold pS
    rw [c_TT e, c_wR e hT, c_vR e hT]
    congr 1
    funext s
    exact (c_S e (hT _)).symm
  · rw [p5, c_TT e, c_vR e hT]
  · rw [p6, c_TT e, c_wR e hT]
theorem c_KPp (e : vE A B) (h : KPp oW oT A σ) : KPp oW oT B σ := by
  rcases h with h | ⟨t0, n, br, h1, h2, h3, h4⟩
  · exact Or.inl h
  · exact Or.inr ⟨t0, n, br, by rw [e.1]; exact h1, h2, h3, c_PLD e h1.1 h1.2 h4⟩
theorem c_AW {hr : Int → Int} (e : vE A B) (eb : ∀ h, 0 ≤ h → vBr B h = vBr A h) (h0 : 0 ≤ h) (h1 : 0 ≤ t) : sAW oW B hr h t l = sAW oW A hr h t l := by
  unfold sAW fctA; rw [e.2.1, eb h h0, (e.2.2 t h1).1]
theorem c_wB (e : vE A B) (eb : ∀ h, 0 ≤ h → vBr B h = vBr A h) (h0 : 0 ≤ h) (h1 : 0 ≤ t) : wB oW B t R h = wB oW A t R h := by
  funext s
  unfold wB
  rw [(e.2.2 t h1).2.1]
  refine zs_c (fun i g _ => ?_)
  rw [((e.2.2 t h1).2.2 i g).2, ((e.2.2 t h1).2.2 i g).1, c_AW e eb h0 h1]
theorem c_rnR (e : vE A B) (eb : ∀ h, 0 ≤ h → vBr B h = vBr A h) (h1 : 0 ≤ t) (n : Nat) : rnR oW B t R n = rnR oW A t R n := by
  induction n with
  | zero => rfl
  | succ n ih =>
    have h0 : (0 : Int) ≤ n := by omega
    show (stR oW B t (rnR oW B t R n).1 n, if mvR oW B t (rnR oW B t R n).1 n = 0 then (rnR oW B t R n).2 else 1) = (stR oW A t (rnR oW A t R n).1 n, if mvR oW A t (rnR oW A t R n).1 n = 0 then (rnR oW A t R n).2 else 1)
    rw [ih]
    unfold stR mvR
    rw [c_wB e eb h0 h1, eb n h0]
theorem c_resR (e : vE A B) (eb : ∀ h, 0 ≤ h → vBr B h = vBr A h) (h1 : 0 ≤ t) : ∀ (d : Nat) (R : Int → Int) (r : Int), resR oW B t d R r = resR oW A t d R r := by
  intro d
  induction d with
  | zero => intro R r; rfl
  | succ d ih =>
    intro R r
    unfold resR
    rw [e.2.1, c_rnR e eb h1, ih]
theorem c_KPs (e : vE A B) (eb : ∀ h, 0 ≤ h → vBr B h = vBr A h) (h : KPs oW A σ) : KPs oW B σ := by
  rcases h with h | ⟨t, h1, h2, h3, h4⟩
  · exact Or.inl h
  · have ev : vB0 B = vB0 A := by
      funext h
      unfold vB0
      split
      · rename_i g
        exact eb h g
      · rfl
    refine Or.inr ⟨t, by rw [e.1]; exact h1, h2, ?_, fun h g0 g1 => ?_⟩
    · rw [ev, c_resR e eb h1.1]; exact h3
    · rw [ev, c_resR e eb h1.1]; exact h4 h g0 (by rw [← e.2.1]; exact g1)
end CG

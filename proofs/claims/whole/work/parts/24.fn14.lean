/-! MY OWN (by program): X11_canBe, X11_holds, X11_made, X11_worth, X11_tired, X11_thousandths, X11_findsAlone, X11_alone, X11_findsOn, X11_on, X11_worthBy, X11_takes, X11_rest -/
theorem dX11_canBe_0 : decode cX11_canBe 0 = .ok (.aload_n 0, 1) := by decide +kernel
theorem dX11_canBe_1 : decode cX11_canBe 1 = .ok (.iload_n 1, 1) := by decide +kernel
theorem dX11_canBe_2 : decode cX11_canBe 2 = .ok (.invokevirtual 506, 3) := by decide +kernel
theorem dX11_canBe_5 : decode cX11_canBe 5 = .ok (.ifCond .eq 25, 3) := by decide +kernel
theorem dX11_canBe_8 : decode cX11_canBe 8 = .ok (.aload_n 0, 1) := by decide +kernel
theorem dX11_canBe_9 : decode cX11_canBe 9 = .ok (.iload_n 2, 1) := by decide +kernel
theorem dX11_canBe_10 : decode cX11_canBe 10 = .ok (.invokevirtual 497, 3) := by decide +kernel
theorem dX11_canBe_13 : decode cX11_canBe 13 = .ok (.ifCond .eq 17, 3) := by decide +kernel
theorem dX11_canBe_16 : decode cX11_canBe 16 = .ok (.iload_n 3, 1) := by decide +kernel
theorem dX11_canBe_17 : decode cX11_canBe 17 = .ok (.iconst 1, 1) := by decide +kernel
theorem dX11_canBe_18 : decode cX11_canBe 18 = .ok (.bipush 60, 2) := by decide +kernel
theorem dX11_canBe_20 : decode cX11_canBe 20 = .ok (.invokestatic 338, 3) := by decide +kernel
theorem dX11_canBe_23 : decode cX11_canBe 23 = .ok (.ifCond .eq 7, 3) := by decide +kernel
theorem dX11_canBe_26 : decode cX11_canBe 26 = .ok (.iconst 1, 1) := by decide +kernel
theorem dX11_canBe_27 : decode cX11_canBe 27 = .ok (.goto 4, 3) := by decide +kernel
theorem dX11_canBe_30 : decode cX11_canBe 30 = .ok (.iconst 0, 1) := by decide +kernel
theorem dX11_canBe_31 : decode cX11_canBe 31 = .ok (.ireturn, 1) := by decide +kernel
def fX11_canBe (σ : zS) (p1 : Int32) (p2 : Int32) (p3 : Int32) : Option Int32 := bnr (fX11_isHolder σ p1) fun v1 => if v1 = 0 then some 0 else bnr (fX11_isTunnel σ p2) fun v3 => if v3 = 0 then some 0 else if (fX11_is p3 1 60) = 0 then some 0 else some 1
theorem eX11_canBe {sc : Nat × (Nat → Int32)} (σ : zS) (p1 : Int32) (p2 : Int32) (p3 : Int32) (w : Int32) (h : fX11_canBe σ p1 p2 p3 = some w) : zR (zY0 sc) 2 0 0 mX11_canBe 0 [(0, .ref 56), (1, .int p1), (2, .int p2), (3, .int p3)] [] (zE σ) (some (.int w), zE σ) := by
  unfold fX11_canBe at h
  refine kR.aload_n dX11_canBe_0 0 rfl ?_
  refine kR.iload_n dX11_canBe_1 1 rfl ?_
  obtain ⟨v1, e2, h⟩ := bnr_some h
  refine kR.cVi [.int p1] dX11_canBe_2 rfl (by decide) mwX11_506 zp56 (by decide) rfl rfl (Nat.le_of_ble_eq_true rfl) (lX11_isHolder σ p1 _ e2) ?_
  refine kR.if_eq (tgt := 30) dX11_canBe_5 (by decide) h (fun h => ?_) (fun h => ?_)
  · refine zR.iconst (v := 0) dX11_canBe_30 (by decide) ?_
    exact kR.iretO dX11_canBe_31 (nzZ rfl (Or.inl rfl)) h
  · refine kR.aload_n dX11_canBe_8 0 rfl ?_
    refine kR.iload_n dX11_canBe_9 2 rfl ?_
    obtain ⟨v3, e4, h⟩ := bnr_some h
    refine kR.cVi [.int p2] dX11_canBe_10 rfl (by decide) mwX11_497 zp56 (by decide) rfl rfl (Nat.le_of_ble_eq_true rfl) (lX11_isTunnel σ p2 _ e4) ?_
    refine kR.if_eq (tgt := 30) dX11_canBe_13 (by decide) h (fun h => ?_) (fun h => ?_)
    · refine zR.iconst (v := 0) dX11_canBe_30 (by decide) ?_
      exact kR.iretO dX11_canBe_31 (nzZ rfl (Or.inl rfl)) h
    · refine kR.iload_n dX11_canBe_16 3 rfl ?_
      refine zR.iconst (v := 1) dX11_canBe_17 (by decide) ?_
      refine zR.bipush (v := 60) dX11_canBe_18 (by decide) ?_
      refine kR.cSi [.int p3, .int 1, .int 60] dX11_canBe_20 rfl (by decide) (Or.inl mwX11_338) rfl (Nat.le_of_ble_eq_true rfl) (lX11_is p3 1 60) ?_
      refine kR.if_eq (tgt := 30) dX11_canBe_23 (by decide) h (fun h => ?_) (fun h => ?_)
      · refine zR.iconst (v := 0) dX11_canBe_30 (by decide) ?_
        exact kR.iretO dX11_canBe_31 (nzZ rfl (Or.inl rfl)) h
      · refine zR.iconst (v := 1) dX11_canBe_26 (by decide) ?_
        refine zR.goto (tgt := 31) dX11_canBe_27 (by decide) ?_
        exact kR.iretO dX11_canBe_31 (nzZ rfl (Or.inr rfl)) h
theorem lX11_canBe {sc : Nat × (Nat → Int32)} (σ : zS) (p1 : Int32) (p2 : Int32) (p3 : Int32) (w : Int32) (h : fX11_canBe σ p1 p2 p3 = some w) : zC (zY0 sc) 2 0 0 mX11_canBe [.ref 56, .int p1, .int p2, .int p3] (zE σ) (some (.int w), zE σ) := zC.of (by decide +kernel) (Nat.le_of_ble_eq_true rfl) ⟨_, rfl⟩ (eX11_canBe σ p1 p2 p3 w h)
theorem dX11_holds_0 : decode cX11_holds 0 = .ok (.aload_n 0, 1) := by decide +kernel
theorem dX11_holds_1 : decode cX11_holds 1 = .ok (.iload_n 1, 1) := by decide +kernel
theorem dX11_holds_2 : decode cX11_holds 2 = .ok (.iload_n 2, 1) := by decide +kernel
theorem dX11_holds_3 : decode cX11_holds 3 = .ok (.iload_n 3, 1) := by decide +kernel
theorem dX11_holds_4 : decode cX11_holds 4 = .ok (.invokevirtual 510, 3) := by decide +kernel
theorem dX11_holds_7 : decode cX11_holds 7 = .ok (.ifCond .eq 13, 3) := by decide +kernel
theorem dX11_holds_10 : decode cX11_holds 10 = .ok (.aload_n 0, 1) := by decide +kernel
theorem dX11_holds_11 : decode cX11_holds 11 = .ok (.iload_n 1, 1) := by decide +kernel
theorem dX11_holds_12 : decode cX11_holds 12 = .ok (.iload_n 2, 1) := by decide +kernel
theorem dX11_holds_13 : decode cX11_holds 13 = .ok (.iload_n 3, 1) := by decide +kernel
theorem dX11_holds_14 : decode cX11_holds 14 = .ok (.invokevirtual 487, 3) := by decide +kernel
theorem dX11_holds_17 : decode cX11_holds 17 = .ok (.goto 4, 3) := by decide +kernel
theorem dX11_holds_20 : decode cX11_holds 20 = .ok (.iconst (-1), 1) := by decide +kernel
theorem dX11_holds_21 : decode cX11_holds 21 = .ok (.ireturn, 1) := by decide +kernel
def fX11_holds (σ : zS) (p1 : Int32) (p2 : Int32) (p3 : Int32) : Option Int32 := bnr (fX11_canBe σ p1 p2 p3) fun v1 => if v1 = 0 then some ((-1)) else bnr (fX11_holdOf σ p1 p2 p3) fun v3 => some v3
theorem eX11_holds {sc : Nat × (Nat → Int32)} (σ : zS) (p1 : Int32) (p2 : Int32) (p3 : Int32) (w : Int32) (h : fX11_holds σ p1 p2 p3 = some w) : zR (zY0 sc) 3 0 0 mX11_holds 0 [(0, .ref 56), (1, .int p1), (2, .int p2), (3, .int p3)] [] (zE σ) (some (.int w), zE σ) := by
  unfold fX11_holds at h
  refine kR.aload_n dX11_holds_0 0 rfl ?_
  refine kR.iload_n dX11_holds_1 1 rfl ?_
  refine kR.iload_n dX11_holds_2 2 rfl ?_
  refine kR.iload_n dX11_holds_3 3 rfl ?_
  obtain ⟨v1, e2, h⟩ := bnr_some h
  refine kR.cVi [.int p1, .int p2, .int p3] dX11_holds_4 rfl (by decide) mwX11_510 zp56 (by decide) rfl rfl (Nat.le_of_ble_eq_true rfl) (lX11_canBe σ p1 p2 p3 _ e2) ?_
  refine kR.if_eq (tgt := 20) dX11_holds_7 (by decide) h (fun h => ?_) (fun h => ?_)
  · refine zR.iconst (v := (-1)) dX11_holds_20 (by decide) ?_
    exact kR.iretO dX11_holds_21 (nzI rfl _) h
  · refine kR.aload_n dX11_holds_10 0 rfl ?_
    refine kR.iload_n dX11_holds_11 1 rfl ?_
    refine kR.iload_n dX11_holds_12 2 rfl ?_
    refine kR.iload_n dX11_holds_13 3 rfl ?_
    obtain ⟨v3, e4, h⟩ := bnr_some h
    refine kR.cVi [.int p1, .int p2, .int p3] dX11_holds_14 rfl (by decide) mwX11_487 zp56 (by decide) rfl rfl (Nat.le_of_ble_eq_true rfl) (lX11_holdOf σ p1 p2 p3 _ e4) ?_
    refine zR.goto (tgt := 21) dX11_holds_17 (by decide) ?_
    exact kR.iretO dX11_holds_21 (nzI rfl _) h
theorem lX11_holds {sc : Nat × (Nat → Int32)} (σ : zS) (p1 : Int32) (p2 : Int32) (p3 : Int32) (w : Int32) (h : fX11_holds σ p1 p2 p3 = some w) : zC (zY0 sc) 3 0 0 mX11_holds [.ref 56, .int p1, .int p2, .int p3] (zE σ) (some (.int w), zE σ) := zC.of (by decide +kernel) (Nat.le_of_ble_eq_true rfl) ⟨_, rfl⟩ (eX11_holds σ p1 p2 p3 w h)
theorem dX11_made_0 : decode cX11_made 0 = .ok (.aload_n 0, 1) := by decide +kernel
theorem dX11_made_1 : decode cX11_made 1 = .ok (.iload_n 1, 1) := by decide +kernel
theorem dX11_made_2 : decode cX11_made 2 = .ok (.invokevirtual 506, 3) := by decide +kernel
theorem dX11_made_5 : decode cX11_made 5 = .ok (.ifCond .eq 11, 3) := by decide +kernel
theorem dX11_made_8 : decode cX11_made 8 = .ok (.aload_n 0, 1) := by decide +kernel
theorem dX11_made_9 : decode cX11_made 9 = .ok (.iload_n 2, 1) := by decide +kernel
theorem dX11_made_10 : decode cX11_made 10 = .ok (.invokevirtual 497, 3) := by decide +kernel
theorem dX11_made_13 : decode cX11_made 13 = .ok (.ifCond .ne 5, 3) := by decide +kernel
theorem dX11_made_16 : decode cX11_made 16 = .ok (.iconst (-1), 1) := by decide +kernel
theorem dX11_made_17 : decode cX11_made 17 = .ok (.ireturn, 1) := by decide +kernel
theorem dX11_made_18 : decode cX11_made 18 = .ok (.iconst 0, 1) := by decide +kernel
theorem dX11_made_19 : decode cX11_made 19 = .ok (.istore_n 3, 1) := by decide +kernel
theorem dX11_made_20 : decode cX11_made 20 = .ok (.iconst 0, 1) := by decide +kernel
theorem dX11_made_21 : decode cX11_made 21 = .ok (.istore 4, 2) := by decide +kernel
theorem dX11_made_23 : decode cX11_made 23 = .ok (.iload 4, 2) := by decide +kernel
theorem dX11_made_25 : decode cX11_made 25 = .ok (.aload_n 0, 1) := by decide +kernel
theorem dX11_made_26 : decode cX11_made 26 = .ok (.iload_n 2, 1) := by decide +kernel
theorem dX11_made_27 : decode cX11_made 27 = .ok (.invokevirtual 437, 3) := by decide +kernel
theorem dX11_made_30 : decode cX11_made 30 = .ok (.if_icmp .ge 46, 3) := by decide +kernel
theorem dX11_made_33 : decode cX11_made 33 = .ok (.iload_n 3, 1) := by decide +kernel
theorem dX11_made_34 : decode cX11_made 34 = .ok (.aload_n 0, 1) := by decide +kernel
theorem dX11_made_35 : decode cX11_made 35 = .ok (.iload_n 1, 1) := by decide +kernel
theorem dX11_made_36 : decode cX11_made 36 = .ok (.iload_n 2, 1) := by decide +kernel
theorem dX11_made_37 : decode cX11_made 37 = .ok (.aload_n 0, 1) := by decide +kernel
theorem dX11_made_38 : decode cX11_made 38 = .ok (.iload_n 2, 1) := by decide +kernel
theorem dX11_made_39 : decode cX11_made 39 = .ok (.iload 4, 2) := by decide +kernel
theorem dX11_made_41 : decode cX11_made 41 = .ok (.invokevirtual 503, 3) := by decide +kernel
theorem dX11_made_44 : decode cX11_made 44 = .ok (.invokevirtual 487, 3) := by decide +kernel
theorem dX11_made_47 : decode cX11_made 47 = .ok (.aload_n 0, 1) := by decide +kernel
theorem dX11_made_48 : decode cX11_made 48 = .ok (.iload_n 2, 1) := by decide +kernel
theorem dX11_made_49 : decode cX11_made 49 = .ok (.iload 4, 2) := by decide +kernel
theorem dX11_made_51 : decode cX11_made 51 = .ok (.invokevirtual 503, 3) := by decide +kernel
theorem dX11_made_54 : decode cX11_made 54 = .ok (.if_icmp .ne 13, 3) := by decide +kernel
theorem dX11_made_57 : decode cX11_made 57 = .ok (.aload_n 0, 1) := by decide +kernel
theorem dX11_made_58 : decode cX11_made 58 = .ok (.iload_n 2, 1) := by decide +kernel
theorem dX11_made_59 : decode cX11_made 59 = .ok (.iload 4, 2) := by decide +kernel
theorem dX11_made_61 : decode cX11_made 61 = .ok (.invokevirtual 440, 3) := by decide +kernel
theorem dX11_made_64 : decode cX11_made 64 = .ok (.goto 4, 3) := by decide +kernel
theorem dX11_made_67 : decode cX11_made 67 = .ok (.iconst 0, 1) := by decide +kernel
theorem dX11_made_68 : decode cX11_made 68 = .ok (.iadd, 1) := by decide +kernel
theorem dX11_made_69 : decode cX11_made 69 = .ok (.istore_n 3, 1) := by decide +kernel
theorem dX11_made_70 : decode cX11_made 70 = .ok (.iinc 4 1, 3) := by decide +kernel
theorem dX11_made_73 : decode cX11_made 73 = .ok (.goto (-50), 3) := by decide +kernel
theorem dX11_made_76 : decode cX11_made 76 = .ok (.sipush 1000, 3) := by decide +kernel
theorem dX11_made_79 : decode cX11_made 79 = .ok (.iload_n 3, 1) := by decide +kernel
theorem dX11_made_80 : decode cX11_made 80 = .ok (.imul, 1) := by decide +kernel
theorem dX11_made_81 : decode cX11_made 81 = .ok (.aload_n 0, 1) := by decide +kernel
theorem dX11_made_82 : decode cX11_made 82 = .ok (.iload_n 2, 1) := by decide +kernel
theorem dX11_made_83 : decode cX11_made 83 = .ok (.invokevirtual 500, 3) := by decide +kernel
theorem dX11_made_86 : decode cX11_made 86 = .ok (.idiv, 1) := by decide +kernel
theorem dX11_made_87 : decode cX11_made 87 = .ok (.ireturn, 1) := by decide +kernel
def fX11_made_68 (σ : zS) (r23 : Int32 → Int32 → Int32 → Int32 → Option Int32) (x1 : Int32) (x2 : Int32) (x4 : Int32) (s0 : Int32) (s1 : Int32) : Option Int32 := r23 x1 x2 (s1 + s0) (x4 + 1)
theorem kX11_made_68 {sc : Nat × (Nat → Int32)} (σ : zS) (r23 : Int32 → Int32 → Int32 → Int32 → Option Int32) (hr23 : ∀ (x1 : Int32) (x2 : Int32) (x3 : Int32) (x4 : Int32) (w : Int32), r23 x1 x2 x3 x4 = some w → zR (zY0 sc) 3 0 0 mX11_made 23 [(0, .ref 56), (1, .int x1), (2, .int x2), (3, .int x3), (4, .int x4)] [] (zE σ) (some (.int w), zE σ)) (x1 : Int32) (x2 : Int32) (x4 : Int32) (s0 : Int32) (s1 : Int32) (w : Int32) (h : fX11_made_68 σ r23 x1 x2 x4 s0 s1 = some w) : zR (zY0 sc) 3 0 0 mX11_made 68 [(0, .ref 56), (1, .int x1), (2, .int x2), (4, .int x4)] [.int s0, .int s1] (zE σ) (some (.int w), zE σ) := by
  unfold fX11_made_68 at h
  refine zR.iadd dX11_made_68 ?_
  refine zR.istore_n (i := 3) (ls' := [(3, .int (s1 + s0)), (0, .ref 56), (1, .int x1), (2, .int x2), (4, .int x4)]) dX11_made_69 rfl (by decide) rfl ?_
  refine zR.iinc 4 (v := x4 + 1) (ls' := [(4, .int (x4 + 1)), (3, .int (s1 + s0)), (0, .ref 56), (1, .int x1), (2, .int x2)]) dX11_made_70 rfl rfl (by decide) rfl ?_
  refine zR.goto (tgt := 23) dX11_made_73 (by decide) ?_
  refine zR.sub [2, 3, 4, 1, 0] rfl ?_
  exact hr23 _ _ _ _ _ h
def fX11_made_23 (σ : zS) : Nat → Int32 → Int32 → Int32 → Int32 → Option Int32
  | 0, _, _, _, _ => none
  | f + 1, x1, x2, x3, x4 => bnr (fX11_lengthsOf σ x2) fun v5 => if v5 ≤ x4 then bnr (fX11_weights σ x2) fun v7 => gd (¬ v7 = 0) (some ((1000 * x3) / v7)) else bnr (fX11_lengthAt σ x2 x4) fun v9 => bnr (fX11_holdOf σ x1 x2 v9) fun v11 => bnr (fX11_lengthAt σ x2 x4) fun v13 => if v11 = v13 then bnr (fX11_weightAt σ x2 x4) fun v15 => fX11_made_68 σ (fX11_made_23 σ f) x1 x2 x4 v15 x3 else fX11_made_68 σ (fX11_made_23 σ f) x1 x2 x4 0 x3
theorem kX11_made_23 {sc : Nat × (Nat → Int32)} (σ : zS) : ∀ (fuel : Nat) (x1 : Int32) (x2 : Int32) (x3 : Int32) (x4 : Int32) (w : Int32) (h : fX11_made_23 σ fuel x1 x2 x3 x4 = some w), zR (zY0 sc) 3 0 0 mX11_made 23 [(0, .ref 56), (1, .int x1), (2, .int x2), (3, .int x3), (4, .int x4)] [] (zE σ) (some (.int w), zE σ) := by
  intro fuel
  induction fuel with
  | zero => intro x1 x2 x3 x4 w h; exact nomatch h
  | succ f ih =>
    intro x1 x2 x3 x4 w h
    rw [fX11_made_23] at h
    refine kR.iload dX11_made_23 4 rfl ?_
    refine kR.aload_n dX11_made_25 0 rfl ?_
    refine kR.iload_n dX11_made_26 2 rfl ?_
    obtain ⟨v5, e6, h⟩ := bnr_some h
    refine kR.cVi [.int x2] dX11_made_27 rfl (by decide) mwX11_437 zp56 (by decide) rfl rfl (Nat.le_of_ble_eq_true rfl) (lX11_lengthsOf σ x2 _ e6) ?_
    refine kR.icmp_ge (tgt := 76) dX11_made_30 (by decide) h (fun h => ?_) (fun h => ?_)
    · refine zR.sipush (v := 1000) dX11_made_76 (by decide) ?_
      refine kR.iload_n dX11_made_79 3 rfl ?_
      refine zR.imul dX11_made_80 ?_
      refine kR.aload_n dX11_made_81 0 rfl ?_
      refine kR.iload_n dX11_made_82 2 rfl ?_
      obtain ⟨v7, e8, h⟩ := bnr_some h
      refine kR.cVi [.int x2] dX11_made_83 rfl (by decide) mwX11_500 zp56 (by decide) rfl rfl (Nat.le_of_ble_eq_true rfl) (lX11_weights σ x2 _ e8) ?_
      refine kR.idiv dX11_made_86 h (fun h => ?_)
      exact kR.iretO dX11_made_87 (nzI rfl _) h
    · refine kR.iload_n dX11_made_33 3 rfl ?_
      refine kR.aload_n dX11_made_34 0 rfl ?_
      refine kR.iload_n dX11_made_35 1 rfl ?_
      refine kR.iload_n dX11_made_36 2 rfl ?_
      refine kR.aload_n dX11_made_37 0 rfl ?_
      refine kR.iload_n dX11_made_38 2 rfl ?_
      refine kR.iload dX11_made_39 4 rfl ?_
      obtain ⟨v9, e10, h⟩ := bnr_some h
      refine kR.cVi [.int x2, .int x4] dX11_made_41 rfl (by decide) mwX11_503 zp56 (by decide) rfl rfl (Nat.le_of_ble_eq_true rfl) (lX11_lengthAt σ x2 x4 _ e10) ?_
      obtain ⟨v11, e12, h⟩ := bnr_some h
      refine kR.cVi [.int x1, .int x2, .int v9] dX11_made_44 rfl (by decide) mwX11_487 zp56 (by decide) rfl rfl (Nat.le_of_ble_eq_true rfl) (lX11_holdOf σ x1 x2 v9 _ e12) ?_
      refine kR.aload_n dX11_made_47 0 rfl ?_
      refine kR.iload_n dX11_made_48 2 rfl ?_
      refine kR.iload dX11_made_49 4 rfl ?_
      obtain ⟨v13, e14, h⟩ := bnr_some h
      refine kR.cVi [.int x2, .int x4] dX11_made_51 rfl (by decide) mwX11_503 zp56 (by decide) rfl rfl (Nat.le_of_ble_eq_true rfl) (lX11_lengthAt σ x2 x4 _ e14) ?_
      refine kR.icmp_ne (tgt := 67) dX11_made_54 (by decide) h (fun h => ?_) (fun h => ?_)
      · refine zR.iconst (v := 0) dX11_made_67 (by decide) ?_
        refine zR.sub [0, 1, 2, 4] rfl ?_
        exact kX11_made_68 σ (fX11_made_23 σ f) ih _ _ _ _ _ _ h
      · refine kR.aload_n dX11_made_57 0 rfl ?_
        refine kR.iload_n dX11_made_58 2 rfl ?_
        refine kR.iload dX11_made_59 4 rfl ?_
        obtain ⟨v15, e16, h⟩ := bnr_some h
        refine kR.cVi [.int x2, .int x4] dX11_made_61 rfl (by decide) mwX11_440 zp56 (by decide) rfl rfl (Nat.le_of_ble_eq_true rfl) (lX11_weightAt σ x2 x4 _ e16) ?_
        refine zR.goto (tgt := 68) dX11_made_64 (by decide) ?_
        refine zR.sub [0, 1, 2, 4] rfl ?_
        exact kX11_made_68 σ (fX11_made_23 σ f) ih _ _ _ _ _ _ h
def fX11_made (σ : zS) (p1 : Int32) (p2 : Int32) : Option Int32 := bnr (fX11_isHolder σ p1) fun v1 => if v1 = 0 then some ((-1)) else bnr (fX11_isTunnel σ p2) fun v3 => if v3 = 0 then some ((-1)) else fX11_made_23 σ zF p1 p2 0 0
theorem eX11_made {sc : Nat × (Nat → Int32)} (σ : zS) (p1 : Int32) (p2 : Int32) (w : Int32) (h : fX11_made σ p1 p2 = some w) : zR (zY0 sc) 3 0 0 mX11_made 0 [(0, .ref 56), (1, .int p1), (2, .int p2)] [] (zE σ) (some (.int w), zE σ) := by
  unfold fX11_made at h
  refine kR.aload_n dX11_made_0 0 rfl ?_
  refine kR.iload_n dX11_made_1 1 rfl ?_
  obtain ⟨v1, e2, h⟩ := bnr_some h
  refine kR.cVi [.int p1] dX11_made_2 rfl (by decide) mwX11_506 zp56 (by decide) rfl rfl (Nat.le_of_ble_eq_true rfl) (lX11_isHolder σ p1 _ e2) ?_
  refine kR.if_eq (tgt := 16) dX11_made_5 (by decide) h (fun h => ?_) (fun h => ?_)
  · refine zR.iconst (v := (-1)) dX11_made_16 (by decide) ?_
    exact kR.iretO dX11_made_17 (nzI rfl _) h
  · refine kR.aload_n dX11_made_8 0 rfl ?_
    refine kR.iload_n dX11_made_9 2 rfl ?_
    obtain ⟨v3, e4, h⟩ := bnr_some h
    refine kR.cVi [.int p2] dX11_made_10 rfl (by decide) mwX11_497 zp56 (by decide) rfl rfl (Nat.le_of_ble_eq_true rfl) (lX11_isTunnel σ p2 _ e4) ?_
    refine kR.if_ne (tgt := 18) dX11_made_13 (by decide) h (fun h => ?_) (fun h => ?_)
    · refine zR.iconst (v := 0) dX11_made_18 (by decide) ?_
      refine zR.istore_n (i := 3) (ls' := [(3, .int 0), (0, .ref 56), (1, .int p1), (2, .int p2)]) dX11_made_19 rfl (by decide) rfl ?_
      refine zR.iconst (v := 0) dX11_made_20 (by decide) ?_
      refine zR.istore (i := 4) (ls' := [(4, .int 0), (3, .int 0), (0, .ref 56), (1, .int p1), (2, .int p2)]) dX11_made_21 (by decide) rfl ?_
      refine zR.sub [2, 3, 4, 1, 0] rfl ?_
      exact kX11_made_23 σ zF _ _ _ _ _ h
    · refine zR.iconst (v := (-1)) dX11_made_16 (by decide) ?_
      exact kR.iretO dX11_made_17 (nzI rfl _) h
theorem lX11_made {sc : Nat × (Nat → Int32)} (σ : zS) (p1 : Int32) (p2 : Int32) (w : Int32) (h : fX11_made σ p1 p2 = some w) : zC (zY0 sc) 3 0 0 mX11_made [.ref 56, .int p1, .int p2] (zE σ) (some (.int w), zE σ) := zC.of (by decide +kernel) (Nat.le_of_ble_eq_true rfl) ⟨_, rfl⟩ (eX11_made σ p1 p2 w h)
theorem dX11_worth_0 : decode cX11_worth 0 = .ok (.aload_n 0, 1) := by decide +kernel
theorem dX11_worth_1 : decode cX11_worth 1 = .ok (.iload_n 1, 1) := by decide +kernel
theorem dX11_worth_2 : decode cX11_worth 2 = .ok (.iload_n 2, 1) := by decide +kernel
theorem dX11_worth_3 : decode cX11_worth 3 = .ok (.iload_n 3, 1) := by decide +kernel
theorem dX11_worth_4 : decode cX11_worth 4 = .ok (.invokevirtual 510, 3) := by decide +kernel
theorem dX11_worth_7 : decode cX11_worth 7 = .ok (.ifCond .ne 7, 3) := by decide +kernel
theorem dX11_worth_10 : decode cX11_worth 10 = .ok (.ldc_w 509, 3) := by decide +kernel
theorem dX11_worth_13 : decode cX11_worth 13 = .ok (.ireturn, 1) := by decide +kernel
theorem dX11_worth_14 : decode cX11_worth 14 = .ok (.aload_n 0, 1) := by decide +kernel
theorem dX11_worth_15 : decode cX11_worth 15 = .ok (.iload_n 2, 1) := by decide +kernel
theorem dX11_worth_16 : decode cX11_worth 16 = .ok (.iload_n 3, 1) := by decide +kernel
theorem dX11_worth_17 : decode cX11_worth 17 = .ok (.invokevirtual 513, 3) := by decide +kernel
theorem dX11_worth_20 : decode cX11_worth 20 = .ok (.aload_n 0, 1) := by decide +kernel
theorem dX11_worth_21 : decode cX11_worth 21 = .ok (.iload_n 1, 1) := by decide +kernel
theorem dX11_worth_22 : decode cX11_worth 22 = .ok (.iload_n 2, 1) := by decide +kernel
theorem dX11_worth_23 : decode cX11_worth 23 = .ok (.iload_n 3, 1) := by decide +kernel
theorem dX11_worth_24 : decode cX11_worth 24 = .ok (.invokevirtual 516, 3) := by decide +kernel
theorem dX11_worth_27 : decode cX11_worth 27 = .ok (.ireturn, 1) := by decide +kernel
def fX11_worth (p1 : Int32) (p2 : Int32) (p3 : Int32) (σ : zS) : Option (Int32 × zS) := bnr (fX11_canBe σ p1 p2 p3) fun v1 => if v1 = 0 then some ((-1000000000), σ) else bnr (fX11_allHold p2 p3 σ) fun σ3 => bnc (fX11_worthRow p1 p2 p3 σ3) fun v7 σ5 => some (v7, σ5)
theorem eX11_worth {sc : Nat × (Nat → Int32)} (p1 : Int32) (p2 : Int32) (p3 : Int32) (σ : zS) (w : Int32 × zS) (h : fX11_worth p1 p2 p3 σ = some w) : zR (zY0 sc) 6 0 0 mX11_worth 0 [(0, .ref 56), (1, .int p1), (2, .int p2), (3, .int p3)] [] (zE σ) (some (.int w.1), zE w.2) := by
  unfold fX11_worth at h
  refine kR.aload_n dX11_worth_0 0 rfl ?_
  refine kR.iload_n dX11_worth_1 1 rfl ?_
  refine kR.iload_n dX11_worth_2 2 rfl ?_
  refine kR.iload_n dX11_worth_3 3 rfl ?_
  obtain ⟨v1, e2, h⟩ := bnr_some h
  refine kR.cVi [.int p1, .int p2, .int p3] dX11_worth_4 rfl (by decide) mwX11_510 zp56 (by decide) rfl rfl (Nat.le_of_ble_eq_true rfl) (lX11_canBe σ p1 p2 p3 _ e2) ?_
  refine kR.if_ne (tgt := 14) dX11_worth_7 (by decide) h (fun h => ?_) (fun h => ?_)
  · refine kR.aload_n dX11_worth_14 0 rfl ?_
    refine kR.iload_n dX11_worth_15 2 rfl ?_
    refine kR.iload_n dX11_worth_16 3 rfl ?_
    obtain ⟨σ3, e4, h⟩ := bnr_some h
    refine kR.cVv [.int p2, .int p3] dX11_worth_17 rfl (by decide) mwX11_513 zp56 (by decide) rfl rfl (Nat.le_of_ble_eq_true rfl) (lX11_allHold p2 p3 σ _ e4) ?_
    refine kR.aload_n dX11_worth_20 0 rfl ?_
    refine kR.iload_n dX11_worth_21 1 rfl ?_
    refine kR.iload_n dX11_worth_22 2 rfl ?_
    refine kR.iload_n dX11_worth_23 3 rfl ?_
    obtain ⟨v7, σ5, e6, h⟩ := bnc_some h
    refine kR.cVi [.int p1, .int p2, .int p3] dX11_worth_24 rfl (by decide) mwX11_516 zp56 (by decide) rfl rfl (Nat.le_of_ble_eq_true rfl) (lX11_worthRow p1 p2 p3 σ3 _ e6) ?_
    exact kR.iretW dX11_worth_27 (nzI rfl _) h
  · refine zR.ldcw (v := (-1000000000)) dX11_worth_10 ciX11_509 ?_
    exact kR.iretW dX11_worth_13 (nzI rfl _) h
theorem lX11_worth {sc : Nat × (Nat → Int32)} (p1 : Int32) (p2 : Int32) (p3 : Int32) (σ : zS) (w : Int32 × zS) (h : fX11_worth p1 p2 p3 σ = some w) : zC (zY0 sc) 6 0 0 mX11_worth [.ref 56, .int p1, .int p2, .int p3] (zE σ) (some (.int w.1), zE w.2) := zC.of (by decide +kernel) (Nat.le_of_ble_eq_true rfl) ⟨_, rfl⟩ (eX11_worth p1 p2 p3 σ w h)
theorem dX11_tired_0 : decode cX11_tired 0 = .ok (.aload_n 0, 1) := by decide +kernel
theorem dX11_tired_1 : decode cX11_tired 1 = .ok (.iload_n 1, 1) := by decide +kernel
theorem dX11_tired_2 : decode cX11_tired 2 = .ok (.iload_n 2, 1) := by decide +kernel
theorem dX11_tired_3 : decode cX11_tired 3 = .ok (.iload_n 3, 1) := by decide +kernel
theorem dX11_tired_4 : decode cX11_tired 4 = .ok (.invokevirtual 510, 3) := by decide +kernel
theorem dX11_tired_7 : decode cX11_tired 7 = .ok (.ifCond .eq 13, 3) := by decide +kernel
theorem dX11_tired_10 : decode cX11_tired 10 = .ok (.iload 4, 2) := by decide +kernel
theorem dX11_tired_12 : decode cX11_tired 12 = .ok (.iconst 0, 1) := by decide +kernel
theorem dX11_tired_13 : decode cX11_tired 13 = .ok (.iload_n 3, 1) := by decide +kernel
theorem dX11_tired_14 : decode cX11_tired 14 = .ok (.invokestatic 338, 3) := by decide +kernel
theorem dX11_tired_17 : decode cX11_tired 17 = .ok (.ifCond .ne 5, 3) := by decide +kernel
theorem dX11_tired_20 : decode cX11_tired 20 = .ok (.iconst (-1), 1) := by decide +kernel
theorem dX11_tired_21 : decode cX11_tired 21 = .ok (.ireturn, 1) := by decide +kernel
theorem dX11_tired_22 : decode cX11_tired 22 = .ok (.aload_n 0, 1) := by decide +kernel
theorem dX11_tired_23 : decode cX11_tired 23 = .ok (.iload_n 2, 1) := by decide +kernel
theorem dX11_tired_24 : decode cX11_tired 24 = .ok (.iload_n 3, 1) := by decide +kernel
theorem dX11_tired_25 : decode cX11_tired 25 = .ok (.iload 4, 2) := by decide +kernel
theorem dX11_tired_27 : decode cX11_tired 27 = .ok (.iconst 1, 1) := by decide +kernel
theorem dX11_tired_28 : decode cX11_tired 28 = .ok (.iconst 0, 1) := by decide +kernel
theorem dX11_tired_29 : decode cX11_tired 29 = .ok (.aload_n 0, 1) := by decide +kernel
theorem dX11_tired_30 : decode cX11_tired 30 = .ok (.getfield 159, 3) := by decide +kernel
theorem dX11_tired_33 : decode cX11_tired 33 = .ok (.iload_n 1, 1) := by decide +kernel
theorem dX11_tired_34 : decode cX11_tired 34 = .ok (.iaload, 1) := by decide +kernel
theorem dX11_tired_35 : decode cX11_tired 35 = .ok (.invokevirtual 476, 3) := by decide +kernel
theorem dX11_tired_38 : decode cX11_tired 38 = .ok (.aload_n 0, 1) := by decide +kernel
theorem dX11_tired_39 : decode cX11_tired 39 = .ok (.invokevirtual 519, 3) := by decide +kernel
theorem dX11_tired_42 : decode cX11_tired 42 = .ok (.ireturn, 1) := by decide +kernel
def fX11_tired (p1 : Int32) (p2 : Int32) (p3 : Int32) (p4 : Int32) (σ : zS) : Option (Int32 × zS) := bnr (fX11_canBe σ p1 p2 p3) fun v1 => if v1 = 0 then some ((-1), σ) else if (fX11_is p4 0 p3) = 0 then some ((-1), σ) else aI σ 86 132 p1 fun v3 => bnr (fX11_asks p2 p3 p4 1 0 v3 σ) fun σ4 => bnc (fX11_breathNow σ4) fun v8 σ6 => some (v8, σ6)
theorem eX11_tired {sc : Nat × (Nat → Int32)} (p1 : Int32) (p2 : Int32) (p3 : Int32) (p4 : Int32) (σ : zS) (w : Int32 × zS) (h : fX11_tired p1 p2 p3 p4 σ = some w) : zR (zY0 sc) 5 0 0 mX11_tired 0 [(0, .ref 56), (1, .int p1), (2, .int p2), (3, .int p3), (4, .int p4)] [] (zE σ) (some (.int w.1), zE w.2) := by
  unfold fX11_tired at h
  refine kR.aload_n dX11_tired_0 0 rfl ?_
  refine kR.iload_n dX11_tired_1 1 rfl ?_
  refine kR.iload_n dX11_tired_2 2 rfl ?_
  refine kR.iload_n dX11_tired_3 3 rfl ?_
  obtain ⟨v1, e2, h⟩ := bnr_some h
  refine kR.cVi [.int p1, .int p2, .int p3] dX11_tired_4 rfl (by decide) mwX11_510 zp56 (by decide) rfl rfl (Nat.le_of_ble_eq_true rfl) (lX11_canBe σ p1 p2 p3 _ e2) ?_
  refine kR.if_eq (tgt := 20) dX11_tired_7 (by decide) h (fun h => ?_) (fun h => ?_)
  · refine zR.iconst (v := (-1)) dX11_tired_20 (by decide) ?_
    exact kR.iretW dX11_tired_21 (nzI rfl _) h
  · refine kR.iload dX11_tired_10 4 rfl ?_
    refine zR.iconst (v := 0) dX11_tired_12 (by decide) ?_
    refine kR.iload_n dX11_tired_13 3 rfl ?_
    refine kR.cSi [.int p4, .int 0, .int p3] dX11_tired_14 rfl (by decide) (Or.inl mwX11_338) rfl (Nat.le_of_ble_eq_true rfl) (lX11_is p4 0 p3) ?_
    refine kR.if_ne (tgt := 22) dX11_tired_17 (by decide) h (fun h => ?_) (fun h => ?_)
    · refine kR.aload_n dX11_tired_22 0 rfl ?_
      refine kR.iload_n dX11_tired_23 2 rfl ?_
      refine kR.iload_n dX11_tired_24 3 rfl ?_
      refine kR.iload dX11_tired_25 4 rfl ?_
      refine zR.iconst (v := 1) dX11_tired_27 (by decide) ?_
      refine zR.iconst (v := 0) dX11_tired_28 (by decide) ?_
      refine kR.aload_n dX11_tired_29 0 rfl ?_
      refine kR.getR (v := 86) dX11_tired_30 flX11_159 zcf11 zp56 (Or.inr ⟨_, rfl⟩) rfl ?_
      refine kR.iload_n dX11_tired_33 1 rfl ?_
      refine kR.iald dX11_tired_34 zp86 rfl h (fun v3 h => ?_)
      obtain ⟨σ4, e5, h⟩ := bnr_some h
      refine kR.cVv [.int p2, .int p3, .int p4, .int 1, .int 0, .int v3] dX11_tired_35 rfl (by decide) mwX11_476 zp56 (by decide) rfl rfl (Nat.le_of_ble_eq_true rfl) (lX11_asks p2 p3 p4 1 0 v3 σ _ e5) ?_
      refine kR.aload_n dX11_tired_38 0 rfl ?_
      obtain ⟨v8, σ6, e7, h⟩ := bnc_some h
      refine kR.cVi [] dX11_tired_39 rfl (by decide) mwX11_519 zp56 (by decide) rfl rfl (Nat.le_of_ble_eq_true rfl) (lX11_breathNow σ4 _ e7) ?_
      exact kR.iretW dX11_tired_42 (nzI rfl _) h
    · refine zR.iconst (v := (-1)) dX11_tired_20 (by decide) ?_
      exact kR.iretW dX11_tired_21 (nzI rfl _) h
theorem lX11_tired {sc : Nat × (Nat → Int32)} (p1 : Int32) (p2 : Int32) (p3 : Int32) (p4 : Int32) (σ : zS) (w : Int32 × zS) (h : fX11_tired p1 p2 p3 p4 σ = some w) : zC (zY0 sc) 5 0 0 mX11_tired [.ref 56, .int p1, .int p2, .int p3, .int p4] (zE σ) (some (.int w.1), zE w.2) := zC.of (by decide +kernel) (Nat.le_of_ble_eq_true rfl) ⟨_, rfl⟩ (eX11_tired p1 p2 p3 p4 σ w h)
theorem dX11_thousandths_0 : decode cX11_thousandths 0 = .ok (.ldc2_w 522, 3) := by decide +kernel
theorem dX11_thousandths_3 : decode cX11_thousandths 3 = .ok (.lload_n 1, 1) := by decide +kernel
theorem dX11_thousandths_4 : decode cX11_thousandths 4 = .ok (.lmul, 1) := by decide +kernel
theorem dX11_thousandths_5 : decode cX11_thousandths 5 = .ok (.lload_n 3, 1) := by decide +kernel
theorem dX11_thousandths_6 : decode cX11_thousandths 6 = .ok (.invokestatic 457, 3) := by decide +kernel
theorem dX11_thousandths_9 : decode cX11_thousandths 9 = .ok (.l2i, 1) := by decide +kernel
theorem dX11_thousandths_10 : decode cX11_thousandths 10 = .ok (.ireturn, 1) := by decide +kernel
def fX11_thousandths (p1 : Int64) (p3 : Int64) : Option Int32 := bnr (fX11_floor (1000 * p1) p3) fun v1 => some (((v1) : Int64).toInt32)
theorem eX11_thousandths {sc : Nat × (Nat → Int32)} {μ : zM} (p1 : Int64) (p3 : Int64) (w : Int32) (h : fX11_thousandths p1 p3 = some w) : zR (zY0 sc) 2 0 0 mX11_thousandths 0 [(0, .ref 56), (1, .long p1), (3, .long p3)] [] μ (some (.int w), μ) := by
  unfold fX11_thousandths at h
  refine zR.ldc2 (v := 1000) dX11_thousandths_0 clX11_522 ?_
  refine kR.lload_n dX11_thousandths_3 1 rfl ?_
  refine zR.lmul dX11_thousandths_4 ?_
  refine kR.lload_n dX11_thousandths_5 2 rfl ?_
  obtain ⟨v1, e2, h⟩ := bnr_some h
  refine kR.cSl [.long (1000 * p1), .long p3] dX11_thousandths_6 rfl (by decide) (Or.inl mwX11_457) rfl (Nat.le_of_ble_eq_true rfl) (lX11_floor (1000 * p1) p3 _ e2) ?_
  refine zR.l2i dX11_thousandths_9 ?_
  exact kR.iretO dX11_thousandths_10 (nzI rfl _) h
theorem lX11_thousandths {sc : Nat × (Nat → Int32)} {μ : zM} (p1 : Int64) (p3 : Int64) (w : Int32) (h : fX11_thousandths p1 p3 = some w) : zC (zY0 sc) 2 0 0 mX11_thousandths [.ref 56, .long p1, .long p3] μ (some (.int w), μ) := zC.of (by decide +kernel) (Nat.le_of_ble_eq_true rfl) ⟨_, rfl⟩ (eX11_thousandths p1 p3 w h)
theorem dX11_findsAlone_0 : decode cX11_findsAlone 0 = .ok (.iconst 0, 1) := by decide +kernel
theorem dX11_findsAlone_1 : decode cX11_findsAlone 1 = .ok (.istore_n 3, 1) := by decide +kernel
theorem dX11_findsAlone_2 : decode cX11_findsAlone 2 = .ok (.iload_n 3, 1) := by decide +kernel
theorem dX11_findsAlone_3 : decode cX11_findsAlone 3 = .ok (.aload_n 0, 1) := by decide +kernel
theorem dX11_findsAlone_4 : decode cX11_findsAlone 4 = .ok (.getfield 159, 3) := by decide +kernel
theorem dX11_findsAlone_7 : decode cX11_findsAlone 7 = .ok (.iload_n 1, 1) := by decide +kernel
theorem dX11_findsAlone_8 : decode cX11_findsAlone 8 = .ok (.iaload, 1) := by decide +kernel
theorem dX11_findsAlone_9 : decode cX11_findsAlone 9 = .ok (.if_icmp .gt 102, 3) := by decide +kernel
theorem dX11_findsAlone_12 : decode cX11_findsAlone 12 = .ok (.lconst 0, 1) := by decide +kernel
theorem dX11_findsAlone_13 : decode cX11_findsAlone 13 = .ok (.lstore 4, 2) := by decide +kernel
theorem dX11_findsAlone_15 : decode cX11_findsAlone 15 = .ok (.iconst 0, 1) := by decide +kernel
theorem dX11_findsAlone_16 : decode cX11_findsAlone 16 = .ok (.istore 6, 2) := by decide +kernel
theorem dX11_findsAlone_18 : decode cX11_findsAlone 18 = .ok (.iload 6, 2) := by decide +kernel
theorem dX11_findsAlone_20 : decode cX11_findsAlone 20 = .ok (.aload_n 0, 1) := by decide +kernel
theorem dX11_findsAlone_21 : decode cX11_findsAlone 21 = .ok (.iload_n 2, 1) := by decide +kernel
theorem dX11_findsAlone_22 : decode cX11_findsAlone 22 = .ok (.invokevirtual 437, 3) := by decide +kernel
theorem dX11_findsAlone_25 : decode cX11_findsAlone 25 = .ok (.if_icmp .ge 52, 3) := by decide +kernel
theorem dX11_findsAlone_28 : decode cX11_findsAlone 28 = .ok (.lload 4, 2) := by decide +kernel
theorem dX11_findsAlone_30 : decode cX11_findsAlone 30 = .ok (.aload_n 0, 1) := by decide +kernel
theorem dX11_findsAlone_31 : decode cX11_findsAlone 31 = .ok (.iload_n 2, 1) := by decide +kernel
theorem dX11_findsAlone_32 : decode cX11_findsAlone 32 = .ok (.iload 6, 2) := by decide +kernel
theorem dX11_findsAlone_34 : decode cX11_findsAlone 34 = .ok (.invokevirtual 440, 3) := by decide +kernel
theorem dX11_findsAlone_37 : decode cX11_findsAlone 37 = .ok (.aload_n 0, 1) := by decide +kernel
theorem dX11_findsAlone_38 : decode cX11_findsAlone 38 = .ok (.iload_n 2, 1) := by decide +kernel
theorem dX11_findsAlone_39 : decode cX11_findsAlone 39 = .ok (.aload_n 0, 1) := by decide +kernel
theorem dX11_findsAlone_40 : decode cX11_findsAlone 40 = .ok (.iload_n 2, 1) := by decide +kernel
theorem dX11_findsAlone_41 : decode cX11_findsAlone 41 = .ok (.iload 6, 2) := by decide +kernel
theorem dX11_findsAlone_43 : decode cX11_findsAlone 43 = .ok (.invokevirtual 503, 3) := by decide +kernel
theorem dX11_findsAlone_46 : decode cX11_findsAlone 46 = .ok (.aload_n 0, 1) := by decide +kernel
theorem dX11_findsAlone_47 : decode cX11_findsAlone 47 = .ok (.iload_n 2, 1) := by decide +kernel
theorem dX11_findsAlone_48 : decode cX11_findsAlone 48 = .ok (.iload 6, 2) := by decide +kernel
theorem dX11_findsAlone_50 : decode cX11_findsAlone 50 = .ok (.invokevirtual 503, 3) := by decide +kernel
theorem dX11_findsAlone_53 : decode cX11_findsAlone 53 = .ok (.iload_n 3, 1) := by decide +kernel
theorem dX11_findsAlone_54 : decode cX11_findsAlone 54 = .ok (.invokestatic 484, 3) := by decide +kernel
theorem dX11_findsAlone_57 : decode cX11_findsAlone 57 = .ok (.aload_n 0, 1) := by decide +kernel
theorem dX11_findsAlone_58 : decode cX11_findsAlone 58 = .ok (.getfield 159, 3) := by decide +kernel
theorem dX11_findsAlone_61 : decode cX11_findsAlone 61 = .ok (.iload_n 1, 1) := by decide +kernel
theorem dX11_findsAlone_62 : decode cX11_findsAlone 62 = .ok (.iaload, 1) := by decide +kernel
theorem dX11_findsAlone_63 : decode cX11_findsAlone 63 = .ok (.invokevirtual 524, 3) := by decide +kernel
theorem dX11_findsAlone_66 : decode cX11_findsAlone 66 = .ok (.imul, 1) := by decide +kernel
theorem dX11_findsAlone_67 : decode cX11_findsAlone 67 = .ok (.i2l, 1) := by decide +kernel
theorem dX11_findsAlone_68 : decode cX11_findsAlone 68 = .ok (.ladd, 1) := by decide +kernel
theorem dX11_findsAlone_69 : decode cX11_findsAlone 69 = .ok (.lstore 4, 2) := by decide +kernel
theorem dX11_findsAlone_71 : decode cX11_findsAlone 71 = .ok (.iinc 6 1, 3) := by decide +kernel
theorem dX11_findsAlone_74 : decode cX11_findsAlone 74 = .ok (.goto (-56), 3) := by decide +kernel
theorem dX11_findsAlone_77 : decode cX11_findsAlone 77 = .ok (.iload_n 3, 1) := by decide +kernel
theorem dX11_findsAlone_78 : decode cX11_findsAlone 78 = .ok (.ifCond .le 16, 3) := by decide +kernel
theorem dX11_findsAlone_81 : decode cX11_findsAlone 81 = .ok (.lload 4, 2) := by decide +kernel
theorem dX11_findsAlone_83 : decode cX11_findsAlone 83 = .ok (.aload_n 0, 1) := by decide +kernel
theorem dX11_findsAlone_84 : decode cX11_findsAlone 84 = .ok (.getfield 222, 3) := by decide +kernel
theorem dX11_findsAlone_87 : decode cX11_findsAlone 87 = .ok (.lcmp, 1) := by decide +kernel
theorem dX11_findsAlone_88 : decode cX11_findsAlone 88 = .ok (.ifCond .gt 6, 3) := by decide +kernel
theorem dX11_findsAlone_91 : decode cX11_findsAlone 91 = .ok (.goto 14, 3) := by decide +kernel
theorem dX11_findsAlone_94 : decode cX11_findsAlone 94 = .ok (.aload_n 0, 1) := by decide +kernel
theorem dX11_findsAlone_95 : decode cX11_findsAlone 95 = .ok (.iload_n 3, 1) := by decide +kernel
theorem dX11_findsAlone_96 : decode cX11_findsAlone 96 = .ok (.putfield 219, 3) := by decide +kernel
theorem dX11_findsAlone_99 : decode cX11_findsAlone 99 = .ok (.aload_n 0, 1) := by decide +kernel
theorem dX11_findsAlone_100 : decode cX11_findsAlone 100 = .ok (.lload 4, 2) := by decide +kernel
theorem dX11_findsAlone_102 : decode cX11_findsAlone 102 = .ok (.putfield 222, 3) := by decide +kernel
theorem dX11_findsAlone_105 : decode cX11_findsAlone 105 = .ok (.iinc 3 1, 3) := by decide +kernel
theorem dX11_findsAlone_108 : decode cX11_findsAlone 108 = .ok (.goto (-106), 3) := by decide +kernel
theorem dX11_findsAlone_111 : decode cX11_findsAlone 111 = .ok (.return_, 1) := by decide +kernel
def fX11_findsAlone_105 (r2 : Int32 → Int32 → Int32 → zS → Option zS) (x1 : Int32) (x2 : Int32) (x3 : Int32) (σ : zS) : Option zS := r2 x1 x2 (x3 + 1) σ
theorem kX11_findsAlone_105 {sc : Nat × (Nat → Int32)} (r2 : Int32 → Int32 → Int32 → zS → Option zS) (hr2 : ∀ (x1 : Int32) (x2 : Int32) (x3 : Int32) (σ : zS) (w : zS), r2 x1 x2 x3 σ = some w → zR (zY0 sc) 6 0 0 mX11_findsAlone 2 [(0, .ref 56), (1, .int x1), (2, .int x2), (3, .int x3)] [] (zE σ) (none, zE w)) (x1 : Int32) (x2 : Int32) (x3 : Int32) (σ : zS) (w : zS) (h : fX11_findsAlone_105 r2 x1 x2 x3 σ = some w) : zR (zY0 sc) 6 0 0 mX11_findsAlone 105 [(0, .ref 56), (1, .int x1), (2, .int x2), (3, .int x3)] [] (zE σ) (none, zE w) := by
  unfold fX11_findsAlone_105 at h
  refine zR.iinc 3 (v := x3 + 1) (ls' := [(3, .int (x3 + 1)), (0, .ref 56), (1, .int x1), (2, .int x2)]) dX11_findsAlone_105 rfl rfl (by decide) rfl ?_
  refine zR.goto (tgt := 2) dX11_findsAlone_108 (by decide) ?_
  refine zR.sub [1, 2, 3, 0] rfl ?_
  exact hr2 _ _ _ _ _ h
def fX11_findsAlone_94 (r2 : Int32 → Int32 → Int32 → zS → Option zS) (x1 : Int32) (x2 : Int32) (x3 : Int32) (x4 : Int64) (σ : zS) : Option zS := bnd (iS σ 56 68 x3) fun σ4 => bnd (lS σ4 56 69 x4) fun σ5 => fX11_findsAlone_105 r2 x1 x2 x3 σ5
theorem kX11_findsAlone_94 {sc : Nat × (Nat → Int32)} (r2 : Int32 → Int32 → Int32 → zS → Option zS) (hr2 : ∀ (x1 : Int32) (x2 : Int32) (x3 : Int32) (σ : zS) (w : zS), r2 x1 x2 x3 σ = some w → zR (zY0 sc) 6 0 0 mX11_findsAlone 2 [(0, .ref 56), (1, .int x1), (2, .int x2), (3, .int x3)] [] (zE σ) (none, zE w)) (x1 : Int32) (x2 : Int32) (x3 : Int32) (x4 : Int64) (σ : zS) (w : zS) (h : fX11_findsAlone_94 r2 x1 x2 x3 x4 σ = some w) : zR (zY0 sc) 6 0 0 mX11_findsAlone 94 [(0, .ref 56), (1, .int x1), (2, .int x2), (3, .int x3), (4, .long x4)] [] (zE σ) (none, zE w) := by
  unfold fX11_findsAlone_94 at h
  refine kR.aload_n dX11_findsAlone_94 0 rfl ?_
  refine kR.iload_n dX11_findsAlone_95 3 rfl ?_
  refine kR.putI dX11_findsAlone_96 fpX11_219 zcf11 zp56 rfl h (fun σ4 h => ?_)
  refine kR.aload_n dX11_findsAlone_99 0 rfl ?_
  refine kR.lload dX11_findsAlone_100 4 rfl ?_
  refine kR.putL dX11_findsAlone_102 fpX11_222 zcf11 zp56 rfl h (fun σ5 h => ?_)
  refine zR.sub [0, 1, 2, 3] rfl ?_
  exact kX11_findsAlone_105 r2 hr2 _ _ _ _ _ h
def fX11_findsAlone_18 (r2 : Int32 → Int32 → Int32 → zS → Option zS) : Nat → Int32 → Int32 → Int32 → Int64 → Int32 → zS → Option zS
  | 0, _, _, _, _, _, _ => none
  | f + 1, x1, x2, x3, x4, x6, σ => bnr (fX11_lengthsOf σ x2) fun v2 => if v2 ≤ x6 then if x3 ≤ 0 then fX11_findsAlone_94 r2 x1 x2 x3 x4 σ else if (lG σ 56 69) < x4 then fX11_findsAlone_94 r2 x1 x2 x3 x4 σ else fX11_findsAlone_105 r2 x1 x2 x3 σ else bnr (fX11_weightAt σ x2 x6) fun v6 => bnr (fX11_lengthAt σ x2 x6) fun v8 => bnr (fX11_lengthAt σ x2 x6) fun v10 => aI σ 86 132 x1 fun v12 => bnc (fX11_worthAlone x2 v8 (fX11_lesser v10 x3) v12 σ) fun v15 σ13 => fX11_findsAlone_18 r2 f x1 x2 x3 (x4 + (((v6 * v15) : Int32).toInt64)) (x6 + 1) σ13
theorem kX11_findsAlone_18 {sc : Nat × (Nat → Int32)} (r2 : Int32 → Int32 → Int32 → zS → Option zS) (hr2 : ∀ (x1 : Int32) (x2 : Int32) (x3 : Int32) (σ : zS) (w : zS), r2 x1 x2 x3 σ = some w → zR (zY0 sc) 6 0 0 mX11_findsAlone 2 [(0, .ref 56), (1, .int x1), (2, .int x2), (3, .int x3)] [] (zE σ) (none, zE w)) : ∀ (fuel : Nat) (x1 : Int32) (x2 : Int32) (x3 : Int32) (x4 : Int64) (x6 : Int32) (σ : zS) (w : zS) (h : fX11_findsAlone_18 r2 fuel x1 x2 x3 x4 x6 σ = some w), zR (zY0 sc) 6 0 0 mX11_findsAlone 18 [(0, .ref 56), (1, .int x1), (2, .int x2), (3, .int x3), (4, .long x4), (6, .int x6)] [] (zE σ) (none, zE w) := by
  intro fuel
  induction fuel with
  | zero => intro x1 x2 x3 x4 x6 σ w h; exact nomatch h
  | succ f ih =>
    intro x1 x2 x3 x4 x6 σ w h
    rw [fX11_findsAlone_18] at h
    refine kR.iload dX11_findsAlone_18 5 rfl ?_
    refine kR.aload_n dX11_findsAlone_20 0 rfl ?_
    refine kR.iload_n dX11_findsAlone_21 2 rfl ?_
    obtain ⟨v2, e3, h⟩ := bnr_some h
    refine kR.cVi [.int x2] dX11_findsAlone_22 rfl (by decide) mwX11_437 zp56 (by decide) rfl rfl (Nat.le_of_ble_eq_true rfl) (lX11_lengthsOf σ x2 _ e3) ?_
    refine kR.icmp_ge (tgt := 77) dX11_findsAlone_25 (by decide) h (fun h => ?_) (fun h => ?_)
    · refine kR.iload_n dX11_findsAlone_77 3 rfl ?_
      refine kR.if_le (tgt := 94) dX11_findsAlone_78 (by decide) h (fun h => ?_) (fun h => ?_)
      · refine zR.sub [0, 1, 2, 3, 4] rfl ?_
        exact kX11_findsAlone_94 r2 hr2 _ _ _ _ _ _ h
      · refine kR.lload dX11_findsAlone_81 4 rfl ?_
        refine kR.aload_n dX11_findsAlone_83 0 rfl ?_
        refine kR.getL dX11_findsAlone_84 flX11_222 zcf11 zp56 rfl ?_
        refine kR.lcmp_gt (tgt := 94) dX11_findsAlone_87 dX11_findsAlone_88 (by decide) h (fun h => ?_) (fun h => ?_)
        · refine zR.sub [0, 1, 2, 3, 4] rfl ?_
          exact kX11_findsAlone_94 r2 hr2 _ _ _ _ _ _ h
        · refine zR.goto (tgt := 105) dX11_findsAlone_91 (by decide) ?_
          refine zR.sub [0, 1, 2, 3] rfl ?_
          exact kX11_findsAlone_105 r2 hr2 _ _ _ _ _ h
    · refine kR.lload dX11_findsAlone_28 4 rfl ?_
      refine kR.aload_n dX11_findsAlone_30 0 rfl ?_
      refine kR.iload_n dX11_findsAlone_31 2 rfl ?_
      refine kR.iload dX11_findsAlone_32 5 rfl ?_
      obtain ⟨v6, e7, h⟩ := bnr_some h
      refine kR.cVi [.int x2, .int x6] dX11_findsAlone_34 rfl (by decide) mwX11_440 zp56 (by decide) rfl rfl (Nat.le_of_ble_eq_true rfl) (lX11_weightAt σ x2 x6 _ e7) ?_
      refine kR.aload_n dX11_findsAlone_37 0 rfl ?_
      refine kR.iload_n dX11_findsAlone_38 2 rfl ?_
      refine kR.aload_n dX11_findsAlone_39 0 rfl ?_
      refine kR.iload_n dX11_findsAlone_40 2 rfl ?_
      refine kR.iload dX11_findsAlone_41 5 rfl ?_
      obtain ⟨v8, e9, h⟩ := bnr_some h
      refine kR.cVi [.int x2, .int x6] dX11_findsAlone_43 rfl (by decide) mwX11_503 zp56 (by decide) rfl rfl (Nat.le_of_ble_eq_true rfl) (lX11_lengthAt σ x2 x6 _ e9) ?_
      refine kR.aload_n dX11_findsAlone_46 0 rfl ?_
      refine kR.iload_n dX11_findsAlone_47 2 rfl ?_
      refine kR.iload dX11_findsAlone_48 5 rfl ?_
      obtain ⟨v10, e11, h⟩ := bnr_some h
      refine kR.cVi [.int x2, .int x6] dX11_findsAlone_50 rfl (by decide) mwX11_503 zp56 (by decide) rfl rfl (Nat.le_of_ble_eq_true rfl) (lX11_lengthAt σ x2 x6 _ e11) ?_
      refine kR.iload_n dX11_findsAlone_53 3 rfl ?_
      refine kR.cSi [.int v10, .int x3] dX11_findsAlone_54 rfl (by decide) (Or.inl mwX11_484) rfl (Nat.le_of_ble_eq_true rfl) (lX11_lesser v10 x3) ?_
      refine kR.aload_n dX11_findsAlone_57 0 rfl ?_
      refine kR.getR (v := 86) dX11_findsAlone_58 flX11_159 zcf11 zp56 (Or.inr ⟨_, rfl⟩) rfl ?_
      refine kR.iload_n dX11_findsAlone_61 1 rfl ?_
      refine kR.iald dX11_findsAlone_62 zp86 rfl h (fun v12 h => ?_)
      obtain ⟨v15, σ13, e14, h⟩ := bnc_some h
      refine kR.cVi [.int x2, .int v8, .int (fX11_lesser v10 x3), .int v12] dX11_findsAlone_63 rfl (by decide) mwX11_524 zp56 (by decide) rfl rfl (Nat.le_of_ble_eq_true rfl) (lX11_worthAlone x2 v8 (fX11_lesser v10 x3) v12 σ _ e14) ?_
      refine zR.imul dX11_findsAlone_66 ?_
      refine zR.i2l dX11_findsAlone_67 ?_
      refine zR.ladd dX11_findsAlone_68 ?_
      refine zR.lstore (i := 4) (ls' := [(4, .long (x4 + (((v6 * v15) : Int32).toInt64))), (0, .ref 56), (1, .int x1), (2, .int x2), (3, .int x3), (6, .int x6)]) dX11_findsAlone_69 (by decide) rfl ?_
      refine zR.iinc 5 (v := x6 + 1) (ls' := [(6, .int (x6 + 1)), (4, .long (x4 + (((v6 * v15) : Int32).toInt64))), (0, .ref 56), (1, .int x1), (2, .int x2), (3, .int x3)]) dX11_findsAlone_71 rfl rfl (by decide) rfl ?_
      refine zR.goto (tgt := 18) dX11_findsAlone_74 (by decide) ?_
      refine zR.sub [2, 3, 4, 5, 1, 0] rfl ?_
      exact ih _ _ _ _ _ _ _ h
def fX11_findsAlone_2 : Nat → Int32 → Int32 → Int32 → zS → Option zS
  | 0, _, _, _, _ => none
  | f + 1, x1, x2, x3, σ => aI σ 86 132 x1 fun v1 => if v1 < x3 then some σ else fX11_findsAlone_18 (fX11_findsAlone_2 f) zF x1 x2 x3 0 0 σ
theorem kX11_findsAlone_2 {sc : Nat × (Nat → Int32)} : ∀ (fuel : Nat) (x1 : Int32) (x2 : Int32) (x3 : Int32) (σ : zS) (w : zS) (h : fX11_findsAlone_2 fuel x1 x2 x3 σ = some w), zR (zY0 sc) 6 0 0 mX11_findsAlone 2 [(0, .ref 56), (1, .int x1), (2, .int x2), (3, .int x3)] [] (zE σ) (none, zE w) := by
  intro fuel
  induction fuel with
  | zero => intro x1 x2 x3 σ w h; exact nomatch h
  | succ f ih =>
    intro x1 x2 x3 σ w h
    rw [fX11_findsAlone_2] at h
    refine kR.iload_n dX11_findsAlone_2 3 rfl ?_
    refine kR.aload_n dX11_findsAlone_3 0 rfl ?_
    refine kR.getR (v := 86) dX11_findsAlone_4 flX11_159 zcf11 zp56 (Or.inr ⟨_, rfl⟩) rfl ?_
    refine kR.iload_n dX11_findsAlone_7 1 rfl ?_
    refine kR.iald dX11_findsAlone_8 zp86 rfl h (fun v1 h => ?_)
    refine kR.icmp_gt (tgt := 111) dX11_findsAlone_9 (by decide) h (fun h => ?_) (fun h => ?_)
    · exact kR.vret dX11_findsAlone_111 h
    · refine zR.lconst (v := 0) dX11_findsAlone_12 (by decide) ?_
      refine zR.lstore (i := 4) (ls' := [(4, .long 0), (0, .ref 56), (1, .int x1), (2, .int x2), (3, .int x3)]) dX11_findsAlone_13 (by decide) rfl ?_
      refine zR.iconst (v := 0) dX11_findsAlone_15 (by decide) ?_
      refine zR.istore (i := 6) (ls' := [(6, .int 0), (4, .long 0), (0, .ref 56), (1, .int x1), (2, .int x2), (3, .int x3)]) dX11_findsAlone_16 (by decide) rfl ?_
      refine zR.sub [2, 3, 4, 5, 1, 0] rfl ?_
      exact kX11_findsAlone_18 (fX11_findsAlone_2 f) ih zF _ _ _ _ _ _ _ h
def fX11_findsAlone (p1 : Int32) (p2 : Int32) (σ : zS) : Option zS := fX11_findsAlone_2 zF p1 p2 0 σ
theorem eX11_findsAlone {sc : Nat × (Nat → Int32)} (p1 : Int32) (p2 : Int32) (σ : zS) (w : zS) (h : fX11_findsAlone p1 p2 σ = some w) : zR (zY0 sc) 6 0 0 mX11_findsAlone 0 [(0, .ref 56), (1, .int p1), (2, .int p2)] [] (zE σ) (none, zE w) := by
  unfold fX11_findsAlone at h
  refine zR.iconst (v := 0) dX11_findsAlone_0 (by decide) ?_
  refine zR.istore_n (i := 3) (ls' := [(3, .int 0), (0, .ref 56), (1, .int p1), (2, .int p2)]) dX11_findsAlone_1 rfl (by decide) rfl ?_
  refine zR.sub [1, 2, 3, 0] rfl ?_
  exact kX11_findsAlone_2 zF _ _ _ _ _ h
theorem lX11_findsAlone {sc : Nat × (Nat → Int32)} (p1 : Int32) (p2 : Int32) (σ : zS) (w : zS) (h : fX11_findsAlone p1 p2 σ = some w) : zC (zY0 sc) 6 0 0 mX11_findsAlone [.ref 56, .int p1, .int p2] (zE σ) (none, zE w) := zC.of (by decide +kernel) (Nat.le_of_ble_eq_true rfl) rfl (eX11_findsAlone p1 p2 σ w h)
theorem dX11_alone_0 : decode cX11_alone 0 = .ok (.aload_n 0, 1) := by decide +kernel
theorem dX11_alone_1 : decode cX11_alone 1 = .ok (.iload_n 1, 1) := by decide +kernel
theorem dX11_alone_2 : decode cX11_alone 2 = .ok (.invokevirtual 506, 3) := by decide +kernel
theorem dX11_alone_5 : decode cX11_alone 5 = .ok (.ifCond .eq 20, 3) := by decide +kernel
theorem dX11_alone_8 : decode cX11_alone 8 = .ok (.aload_n 0, 1) := by decide +kernel
theorem dX11_alone_9 : decode cX11_alone 9 = .ok (.iload_n 2, 1) := by decide +kernel
theorem dX11_alone_10 : decode cX11_alone 10 = .ok (.invokevirtual 497, 3) := by decide +kernel
theorem dX11_alone_13 : decode cX11_alone 13 = .ok (.ifCond .eq 12, 3) := by decide +kernel
theorem dX11_alone_16 : decode cX11_alone 16 = .ok (.iload_n 3, 1) := by decide +kernel
theorem dX11_alone_17 : decode cX11_alone 17 = .ok (.iconst 0, 1) := by decide +kernel
theorem dX11_alone_18 : decode cX11_alone 18 = .ok (.iconst 1, 1) := by decide +kernel
theorem dX11_alone_19 : decode cX11_alone 19 = .ok (.invokestatic 338, 3) := by decide +kernel
theorem dX11_alone_22 : decode cX11_alone 22 = .ok (.ifCond .ne 7, 3) := by decide +kernel
theorem dX11_alone_25 : decode cX11_alone 25 = .ok (.ldc_w 509, 3) := by decide +kernel
theorem dX11_alone_28 : decode cX11_alone 28 = .ok (.ireturn, 1) := by decide +kernel
theorem dX11_alone_29 : decode cX11_alone 29 = .ok (.aload_n 0, 1) := by decide +kernel
theorem dX11_alone_30 : decode cX11_alone 30 = .ok (.iload_n 1, 1) := by decide +kernel
theorem dX11_alone_31 : decode cX11_alone 31 = .ok (.iload_n 2, 1) := by decide +kernel
theorem dX11_alone_32 : decode cX11_alone 32 = .ok (.invokevirtual 528, 3) := by decide +kernel
theorem dX11_alone_35 : decode cX11_alone 35 = .ok (.iload_n 3, 1) := by decide +kernel
theorem dX11_alone_36 : decode cX11_alone 36 = .ok (.ifCond .ne 10, 3) := by decide +kernel
theorem dX11_alone_39 : decode cX11_alone 39 = .ok (.aload_n 0, 1) := by decide +kernel
theorem dX11_alone_40 : decode cX11_alone 40 = .ok (.getfield 219, 3) := by decide +kernel
theorem dX11_alone_43 : decode cX11_alone 43 = .ok (.goto 17, 3) := by decide +kernel
theorem dX11_alone_46 : decode cX11_alone 46 = .ok (.aload_n 0, 1) := by decide +kernel
theorem dX11_alone_47 : decode cX11_alone 47 = .ok (.aload_n 0, 1) := by decide +kernel
theorem dX11_alone_48 : decode cX11_alone 48 = .ok (.getfield 222, 3) := by decide +kernel
theorem dX11_alone_51 : decode cX11_alone 51 = .ok (.aload_n 0, 1) := by decide +kernel
theorem dX11_alone_52 : decode cX11_alone 52 = .ok (.iload_n 2, 1) := by decide +kernel
theorem dX11_alone_53 : decode cX11_alone 53 = .ok (.invokevirtual 500, 3) := by decide +kernel
theorem dX11_alone_56 : decode cX11_alone 56 = .ok (.i2l, 1) := by decide +kernel
theorem dX11_alone_57 : decode cX11_alone 57 = .ok (.invokevirtual 531, 3) := by decide +kernel
theorem dX11_alone_60 : decode cX11_alone 60 = .ok (.ireturn, 1) := by decide +kernel
def fX11_alone (p1 : Int32) (p2 : Int32) (p3 : Int32) (σ : zS) : Option (Int32 × zS) := bnr (fX11_isHolder σ p1) fun v1 => if v1 = 0 then some ((-1000000000), σ) else bnr (fX11_isTunnel σ p2) fun v3 => if v3 = 0 then some ((-1000000000), σ) else if (fX11_is p3 0 1) = 0 then some ((-1000000000), σ) else bnr (fX11_findsAlone p1 p2 σ) fun σ5 => if p3 = 0 then some (iG σ5 56 68, σ5) else bnr (fX11_weights σ5 p2) fun v7 => bnr (fX11_thousandths (lG σ5 56 69) v7.toInt64) fun v9 => some (v9, σ5)
theorem eX11_alone {sc : Nat × (Nat → Int32)} (p1 : Int32) (p2 : Int32) (p3 : Int32) (σ : zS) (w : Int32 × zS) (h : fX11_alone p1 p2 p3 σ = some w) : zR (zY0 sc) 7 0 0 mX11_alone 0 [(0, .ref 56), (1, .int p1), (2, .int p2), (3, .int p3)] [] (zE σ) (some (.int w.1), zE w.2) := by
  unfold fX11_alone at h
  refine kR.aload_n dX11_alone_0 0 rfl ?_
  refine kR.iload_n dX11_alone_1 1 rfl ?_
  obtain ⟨v1, e2, h⟩ := bnr_some h
  refine kR.cVi [.int p1] dX11_alone_2 rfl (by decide) mwX11_506 zp56 (by decide) rfl rfl (Nat.le_of_ble_eq_true rfl) (lX11_isHolder σ p1 _ e2) ?_
  refine kR.if_eq (tgt := 25) dX11_alone_5 (by decide) h (fun h => ?_) (fun h => ?_)
  · refine zR.ldcw (v := (-1000000000)) dX11_alone_25 ciX11_509 ?_
    exact kR.iretW dX11_alone_28 (nzI rfl _) h
  · refine kR.aload_n dX11_alone_8 0 rfl ?_
    refine kR.iload_n dX11_alone_9 2 rfl ?_
    obtain ⟨v3, e4, h⟩ := bnr_some h
    refine kR.cVi [.int p2] dX11_alone_10 rfl (by decide) mwX11_497 zp56 (by decide) rfl rfl (Nat.le_of_ble_eq_true rfl) (lX11_isTunnel σ p2 _ e4) ?_
    refine kR.if_eq (tgt := 25) dX11_alone_13 (by decide) h (fun h => ?_) (fun h => ?_)
    · refine zR.ldcw (v := (-1000000000)) dX11_alone_25 ciX11_509 ?_
      exact kR.iretW dX11_alone_28 (nzI rfl _) h
    · refine kR.iload_n dX11_alone_16 3 rfl ?_
      refine zR.iconst (v := 0) dX11_alone_17 (by decide) ?_
      refine zR.iconst (v := 1) dX11_alone_18 (by decide) ?_
      refine kR.cSi [.int p3, .int 0, .int 1] dX11_alone_19 rfl (by decide) (Or.inl mwX11_338) rfl (Nat.le_of_ble_eq_true rfl) (lX11_is p3 0 1) ?_
      refine kR.if_ne (tgt := 29) dX11_alone_22 (by decide) h (fun h => ?_) (fun h => ?_)
      · refine kR.aload_n dX11_alone_29 0 rfl ?_
        refine kR.iload_n dX11_alone_30 1 rfl ?_
        refine kR.iload_n dX11_alone_31 2 rfl ?_
        obtain ⟨σ5, e6, h⟩ := bnr_some h
        refine kR.cVv [.int p1, .int p2] dX11_alone_32 rfl (by decide) mwX11_528 zp56 (by decide) rfl rfl (Nat.le_of_ble_eq_true rfl) (lX11_findsAlone p1 p2 σ _ e6) ?_
        refine kR.iload_n dX11_alone_35 3 rfl ?_
        refine kR.if_ne (tgt := 46) dX11_alone_36 (by decide) h (fun h => ?_) (fun h => ?_)
        · refine kR.aload_n dX11_alone_46 0 rfl ?_
          refine kR.aload_n dX11_alone_47 0 rfl ?_
          refine kR.getL dX11_alone_48 flX11_222 zcf11 zp56 rfl ?_
          refine kR.aload_n dX11_alone_51 0 rfl ?_
          refine kR.iload_n dX11_alone_52 2 rfl ?_
          obtain ⟨v7, e8, h⟩ := bnr_some h
          refine kR.cVi [.int p2] dX11_alone_53 rfl (by decide) mwX11_500 zp56 (by decide) rfl rfl (Nat.le_of_ble_eq_true rfl) (lX11_weights σ5 p2 _ e8) ?_
          refine zR.i2l dX11_alone_56 ?_
          obtain ⟨v9, e10, h⟩ := bnr_some h
          refine kR.cVi [.long (lG σ5 56 69), .long (v7.toInt64)] dX11_alone_57 rfl (by decide) mwX11_531 zp56 (by decide) rfl rfl (Nat.le_of_ble_eq_true rfl) (lX11_thousandths (lG σ5 56 69) v7.toInt64 _ e10) ?_
          exact kR.iretW dX11_alone_60 (nzI rfl _) h
        · refine kR.aload_n dX11_alone_39 0 rfl ?_
          refine kR.getI dX11_alone_40 flX11_219 zcf11 zp56 (Or.inl rfl) ?_
          refine zR.goto (tgt := 60) dX11_alone_43 (by decide) ?_
          exact kR.iretW dX11_alone_60 (nzI rfl _) h
      · refine zR.ldcw (v := (-1000000000)) dX11_alone_25 ciX11_509 ?_
        exact kR.iretW dX11_alone_28 (nzI rfl _) h
theorem lX11_alone {sc : Nat × (Nat → Int32)} (p1 : Int32) (p2 : Int32) (p3 : Int32) (σ : zS) (w : Int32 × zS) (h : fX11_alone p1 p2 p3 σ = some w) : zC (zY0 sc) 7 0 0 mX11_alone [.ref 56, .int p1, .int p2, .int p3] (zE σ) (some (.int w.1), zE w.2) := zC.of (by decide +kernel) (Nat.le_of_ble_eq_true rfl) ⟨_, rfl⟩ (eX11_alone p1 p2 p3 σ w h)
theorem dX11_findsOn_0 : decode cX11_findsOn 0 = .ok (.iconst 0, 1) := by decide +kernel
theorem dX11_findsOn_1 : decode cX11_findsOn 1 = .ok (.istore 6, 2) := by decide +kernel
theorem dX11_findsOn_3 : decode cX11_findsOn 3 = .ok (.iload 6, 2) := by decide +kernel
theorem dX11_findsOn_5 : decode cX11_findsOn 5 = .ok (.iload_n 3, 1) := by decide +kernel
theorem dX11_findsOn_6 : decode cX11_findsOn 6 = .ok (.if_icmp .gt 122, 3) := by decide +kernel
theorem dX11_findsOn_9 : decode cX11_findsOn 9 = .ok (.lconst 0, 1) := by decide +kernel
theorem dX11_findsOn_10 : decode cX11_findsOn 10 = .ok (.lstore 7, 2) := by decide +kernel
theorem dX11_findsOn_12 : decode cX11_findsOn 12 = .ok (.iconst 0, 1) := by decide +kernel
theorem dX11_findsOn_13 : decode cX11_findsOn 13 = .ok (.istore 9, 2) := by decide +kernel
theorem dX11_findsOn_15 : decode cX11_findsOn 15 = .ok (.iload 9, 2) := by decide +kernel
theorem dX11_findsOn_17 : decode cX11_findsOn 17 = .ok (.aload_n 0, 1) := by decide +kernel
theorem dX11_findsOn_18 : decode cX11_findsOn 18 = .ok (.iload_n 1, 1) := by decide +kernel
theorem dX11_findsOn_19 : decode cX11_findsOn 19 = .ok (.invokevirtual 437, 3) := by decide +kernel
theorem dX11_findsOn_22 : decode cX11_findsOn 22 = .ok (.if_icmp .ge 70, 3) := by decide +kernel
theorem dX11_findsOn_25 : decode cX11_findsOn 25 = .ok (.aload_n 0, 1) := by decide +kernel
theorem dX11_findsOn_26 : decode cX11_findsOn 26 = .ok (.iload_n 1, 1) := by decide +kernel
theorem dX11_findsOn_27 : decode cX11_findsOn 27 = .ok (.iload 9, 2) := by decide +kernel
theorem dX11_findsOn_29 : decode cX11_findsOn 29 = .ok (.invokevirtual 503, 3) := by decide +kernel
theorem dX11_findsOn_32 : decode cX11_findsOn 32 = .ok (.istore 10, 2) := by decide +kernel
theorem dX11_findsOn_34 : decode cX11_findsOn 34 = .ok (.aload_n 0, 1) := by decide +kernel
theorem dX11_findsOn_35 : decode cX11_findsOn 35 = .ok (.iload_n 1, 1) := by decide +kernel
theorem dX11_findsOn_36 : decode cX11_findsOn 36 = .ok (.iload 10, 2) := by decide +kernel
theorem dX11_findsOn_38 : decode cX11_findsOn 38 = .ok (.iload 10, 2) := by decide +kernel
theorem dX11_findsOn_40 : decode cX11_findsOn 40 = .ok (.iload 6, 2) := by decide +kernel
theorem dX11_findsOn_42 : decode cX11_findsOn 42 = .ok (.invokestatic 484, 3) := by decide +kernel
theorem dX11_findsOn_45 : decode cX11_findsOn 45 = .ok (.iload_n 3, 1) := by decide +kernel
theorem dX11_findsOn_46 : decode cX11_findsOn 46 = .ok (.invokevirtual 524, 3) := by decide +kernel
theorem dX11_findsOn_49 : decode cX11_findsOn 49 = .ok (.i2l, 1) := by decide +kernel
theorem dX11_findsOn_50 : decode cX11_findsOn 50 = .ok (.lstore 11, 2) := by decide +kernel
theorem dX11_findsOn_52 : decode cX11_findsOn 52 = .ok (.lload 7, 2) := by decide +kernel
theorem dX11_findsOn_54 : decode cX11_findsOn 54 = .ok (.aload_n 0, 1) := by decide +kernel
theorem dX11_findsOn_55 : decode cX11_findsOn 55 = .ok (.iload_n 1, 1) := by decide +kernel
theorem dX11_findsOn_56 : decode cX11_findsOn 56 = .ok (.iload 9, 2) := by decide +kernel
theorem dX11_findsOn_58 : decode cX11_findsOn 58 = .ok (.invokevirtual 440, 3) := by decide +kernel
theorem dX11_findsOn_61 : decode cX11_findsOn 61 = .ok (.i2l, 1) := by decide +kernel
theorem dX11_findsOn_62 : decode cX11_findsOn 62 = .ok (.lload 11, 2) := by decide +kernel
theorem dX11_findsOn_64 : decode cX11_findsOn 64 = .ok (.lload 4, 2) := by decide +kernel
theorem dX11_findsOn_66 : decode cX11_findsOn 66 = .ok (.lmul, 1) := by decide +kernel
theorem dX11_findsOn_67 : decode cX11_findsOn 67 = .ok (.aload_n 0, 1) := by decide +kernel
theorem dX11_findsOn_68 : decode cX11_findsOn 68 = .ok (.getfield 225, 3) := by decide +kernel
theorem dX11_findsOn_71 : decode cX11_findsOn 71 = .ok (.bipush 61, 2) := by decide +kernel
theorem dX11_findsOn_73 : decode cX11_findsOn 73 = .ok (.iload_n 2, 1) := by decide +kernel
theorem dX11_findsOn_74 : decode cX11_findsOn 74 = .ok (.imul, 1) := by decide +kernel
theorem dX11_findsOn_75 : decode cX11_findsOn 75 = .ok (.aload_n 0, 1) := by decide +kernel
theorem dX11_findsOn_76 : decode cX11_findsOn 76 = .ok (.invokevirtual 519, 3) := by decide +kernel
theorem dX11_findsOn_79 : decode cX11_findsOn 79 = .ok (.iadd, 1) := by decide +kernel
theorem dX11_findsOn_80 : decode cX11_findsOn 80 = .ok (.laload, 1) := by decide +kernel
theorem dX11_findsOn_81 : decode cX11_findsOn 81 = .ok (.ladd, 1) := by decide +kernel
theorem dX11_findsOn_82 : decode cX11_findsOn 82 = .ok (.lmul, 1) := by decide +kernel
theorem dX11_findsOn_83 : decode cX11_findsOn 83 = .ok (.ladd, 1) := by decide +kernel
theorem dX11_findsOn_84 : decode cX11_findsOn 84 = .ok (.lstore 7, 2) := by decide +kernel
theorem dX11_findsOn_86 : decode cX11_findsOn 86 = .ok (.iinc 9 1, 3) := by decide +kernel
theorem dX11_findsOn_89 : decode cX11_findsOn 89 = .ok (.goto (-74), 3) := by decide +kernel
theorem dX11_findsOn_92 : decode cX11_findsOn 92 = .ok (.iload 6, 2) := by decide +kernel
theorem dX11_findsOn_94 : decode cX11_findsOn 94 = .ok (.ifCond .le 16, 3) := by decide +kernel
theorem dX11_findsOn_97 : decode cX11_findsOn 97 = .ok (.lload 7, 2) := by decide +kernel
theorem dX11_findsOn_99 : decode cX11_findsOn 99 = .ok (.aload_n 0, 1) := by decide +kernel
theorem dX11_findsOn_100 : decode cX11_findsOn 100 = .ok (.getfield 222, 3) := by decide +kernel
theorem dX11_findsOn_103 : decode cX11_findsOn 103 = .ok (.lcmp, 1) := by decide +kernel
theorem dX11_findsOn_104 : decode cX11_findsOn 104 = .ok (.ifCond .gt 6, 3) := by decide +kernel
theorem dX11_findsOn_107 : decode cX11_findsOn 107 = .ok (.goto 15, 3) := by decide +kernel
theorem dX11_findsOn_110 : decode cX11_findsOn 110 = .ok (.aload_n 0, 1) := by decide +kernel
theorem dX11_findsOn_111 : decode cX11_findsOn 111 = .ok (.iload 6, 2) := by decide +kernel
theorem dX11_findsOn_113 : decode cX11_findsOn 113 = .ok (.putfield 219, 3) := by decide +kernel
theorem dX11_findsOn_116 : decode cX11_findsOn 116 = .ok (.aload_n 0, 1) := by decide +kernel
theorem dX11_findsOn_117 : decode cX11_findsOn 117 = .ok (.lload 7, 2) := by decide +kernel
theorem dX11_findsOn_119 : decode cX11_findsOn 119 = .ok (.putfield 222, 3) := by decide +kernel
theorem dX11_findsOn_122 : decode cX11_findsOn 122 = .ok (.iinc 6 1, 3) := by decide +kernel
theorem dX11_findsOn_125 : decode cX11_findsOn 125 = .ok (.goto (-122), 3) := by decide +kernel
theorem dX11_findsOn_128 : decode cX11_findsOn 128 = .ok (.return_, 1) := by decide +kernel
def fX11_findsOn_122 (r3 : Int32 → Int32 → Int32 → Int64 → Int32 → zS → Option zS) (x1 : Int32) (x2 : Int32) (x3 : Int32) (x4 : Int64) (x6 : Int32) (σ : zS) : Option zS := r3 x1 x2 x3 x4 (x6 + 1) σ
theorem kX11_findsOn_122 {sc : Nat × (Nat → Int32)} (r3 : Int32 → Int32 → Int32 → Int64 → Int32 → zS → Option zS) (hr3 : ∀ (x1 : Int32) (x2 : Int32) (x3 : Int32) (x4 : Int64) (x6 : Int32) (σ : zS) (w : zS), r3 x1 x2 x3 x4 x6 σ = some w → zR (zY0 sc) 6 0 0 mX11_findsOn 3 [(0, .ref 56), (1, .int x1), (2, .int x2), (3, .int x3), (4, .long x4), (6, .int x6)] [] (zE σ) (none, zE w)) (x1 : Int32) (x2 : Int32) (x3 : Int32) (x4 : Int64) (x6 : Int32) (σ : zS) (w : zS) (h : fX11_findsOn_122 r3 x1 x2 x3 x4 x6 σ = some w) : zR (zY0 sc) 6 0 0 mX11_findsOn 122 [(0, .ref 56), (1, .int x1), (2, .int x2), (3, .int x3), (4, .long x4), (6, .int x6)] [] (zE σ) (none, zE w) := by
  unfold fX11_findsOn_122 at h
  refine zR.iinc 5 (v := x6 + 1) (ls' := [(6, .int (x6 + 1)), (0, .ref 56), (1, .int x1), (2, .int x2), (3, .int x3), (4, .long x4)]) dX11_findsOn_122 rfl rfl (by decide) rfl ?_
  refine zR.goto (tgt := 3) dX11_findsOn_125 (by decide) ?_
  refine zR.sub [1, 2, 3, 4, 5, 0] rfl ?_
  exact hr3 _ _ _ _ _ _ _ h
def fX11_findsOn_110 (r3 : Int32 → Int32 → Int32 → Int64 → Int32 → zS → Option zS) (x1 : Int32) (x2 : Int32) (x3 : Int32) (x4 : Int64) (x6 : Int32) (x7 : Int64) (σ : zS) : Option zS := bnd (iS σ 56 68 x6) fun σ3 => bnd (lS σ3 56 69 x7) fun σ4 => fX11_findsOn_122 r3 x1 x2 x3 x4 x6 σ4
theorem kX11_findsOn_110 {sc : Nat × (Nat → Int32)} (r3 : Int32 → Int32 → Int32 → Int64 → Int32 → zS → Option zS) (hr3 : ∀ (x1 : Int32) (x2 : Int32) (x3 : Int32) (x4 : Int64) (x6 : Int32) (σ : zS) (w : zS), r3 x1 x2 x3 x4 x6 σ = some w → zR (zY0 sc) 6 0 0 mX11_findsOn 3 [(0, .ref 56), (1, .int x1), (2, .int x2), (3, .int x3), (4, .long x4), (6, .int x6)] [] (zE σ) (none, zE w)) (x1 : Int32) (x2 : Int32) (x3 : Int32) (x4 : Int64) (x6 : Int32) (x7 : Int64) (σ : zS) (w : zS) (h : fX11_findsOn_110 r3 x1 x2 x3 x4 x6 x7 σ = some w) : zR (zY0 sc) 6 0 0 mX11_findsOn 110 [(0, .ref 56), (1, .int x1), (2, .int x2), (3, .int x3), (4, .long x4), (6, .int x6), (7, .long x7)] [] (zE σ) (none, zE w) := by
  unfold fX11_findsOn_110 at h
  refine kR.aload_n dX11_findsOn_110 0 rfl ?_
  refine kR.iload dX11_findsOn_111 5 rfl ?_
  refine kR.putI dX11_findsOn_113 fpX11_219 zcf11 zp56 rfl h (fun σ3 h => ?_)
  refine kR.aload_n dX11_findsOn_116 0 rfl ?_
  refine kR.lload dX11_findsOn_117 6 rfl ?_
  refine kR.putL dX11_findsOn_119 fpX11_222 zcf11 zp56 rfl h (fun σ4 h => ?_)
  refine zR.sub [0, 1, 2, 3, 4, 5] rfl ?_
  exact kX11_findsOn_122 r3 hr3 _ _ _ _ _ _ _ h
def fX11_findsOn_15 (r3 : Int32 → Int32 → Int32 → Int64 → Int32 → zS → Option zS) : Nat → Int32 → Int32 → Int32 → Int64 → Int32 → Int64 → Int32 → zS → Option zS
  | 0, _, _, _, _, _, _, _, _ => none
  | f + 1, x1, x2, x3, x4, x6, x7, x9, σ => bnr (fX11_lengthsOf σ x1) fun v1 => if v1 ≤ x9 then if x6 ≤ 0 then fX11_findsOn_110 r3 x1 x2 x3 x4 x6 x7 σ else if (lG σ 56 69) < x7 then fX11_findsOn_110 r3 x1 x2 x3 x4 x6 x7 σ else fX11_findsOn_122 r3 x1 x2 x3 x4 x6 σ else bnr (fX11_lengthAt σ x1 x9) fun v5 => bnc (fX11_worthAlone x1 v5 (fX11_lesser v5 x6) x3 σ) fun v9 σ7 => bnr (fX11_weightAt σ7 x1 x9) fun v10 => bnc (fX11_breathNow σ7) fun v14 σ12 => aL σ12 97 305 ((61 * x2) + v14) fun v15 => fX11_findsOn_15 r3 f x1 x2 x3 x4 x6 (x7 + (v10.toInt64 * ((v9.toInt64 * x4) + v15))) (x9 + 1) σ12
theorem kX11_findsOn_15 {sc : Nat × (Nat → Int32)} (r3 : Int32 → Int32 → Int32 → Int64 → Int32 → zS → Option zS) (hr3 : ∀ (x1 : Int32) (x2 : Int32) (x3 : Int32) (x4 : Int64) (x6 : Int32) (σ : zS) (w : zS), r3 x1 x2 x3 x4 x6 σ = some w → zR (zY0 sc) 6 0 0 mX11_findsOn 3 [(0, .ref 56), (1, .int x1), (2, .int x2), (3, .int x3), (4, .long x4), (6, .int x6)] [] (zE σ) (none, zE w)) : ∀ (fuel : Nat) (x1 : Int32) (x2 : Int32) (x3 : Int32) (x4 : Int64) (x6 : Int32) (x7 : Int64) (x9 : Int32) (σ : zS) (w : zS) (h : fX11_findsOn_15 r3 fuel x1 x2 x3 x4 x6 x7 x9 σ = some w), zR (zY0 sc) 6 0 0 mX11_findsOn 15 [(0, .ref 56), (1, .int x1), (2, .int x2), (3, .int x3), (4, .long x4), (6, .int x6), (7, .long x7), (9, .int x9)] [] (zE σ) (none, zE w) := by
  intro fuel
  induction fuel with
  | zero => intro x1 x2 x3 x4 x6 x7 x9 σ w h; exact nomatch h
  | succ f ih =>
    intro x1 x2 x3 x4 x6 x7 x9 σ w h
    rw [fX11_findsOn_15] at h
    refine kR.iload dX11_findsOn_15 7 rfl ?_
    refine kR.aload_n dX11_findsOn_17 0 rfl ?_
    refine kR.iload_n dX11_findsOn_18 1 rfl ?_
    obtain ⟨v1, e2, h⟩ := bnr_some h
    refine kR.cVi [.int x1] dX11_findsOn_19 rfl (by decide) mwX11_437 zp56 (by decide) rfl rfl (Nat.le_of_ble_eq_true rfl) (lX11_lengthsOf σ x1 _ e2) ?_
    refine kR.icmp_ge (tgt := 92) dX11_findsOn_22 (by decide) h (fun h => ?_) (fun h => ?_)
    · refine kR.iload dX11_findsOn_92 5 rfl ?_
      refine kR.if_le (tgt := 110) dX11_findsOn_94 (by decide) h (fun h => ?_) (fun h => ?_)
      · refine zR.sub [0, 1, 2, 3, 4, 5, 6] rfl ?_
        exact kX11_findsOn_110 r3 hr3 _ _ _ _ _ _ _ _ h
      · refine kR.lload dX11_findsOn_97 6 rfl ?_
        refine kR.aload_n dX11_findsOn_99 0 rfl ?_
        refine kR.getL dX11_findsOn_100 flX11_222 zcf11 zp56 rfl ?_
        refine kR.lcmp_gt (tgt := 110) dX11_findsOn_103 dX11_findsOn_104 (by decide) h (fun h => ?_) (fun h => ?_)
        · refine zR.sub [0, 1, 2, 3, 4, 5, 6] rfl ?_
          exact kX11_findsOn_110 r3 hr3 _ _ _ _ _ _ _ _ h
        · refine zR.goto (tgt := 122) dX11_findsOn_107 (by decide) ?_
          refine zR.sub [0, 1, 2, 3, 4, 5] rfl ?_
          exact kX11_findsOn_122 r3 hr3 _ _ _ _ _ _ _ h
    · refine kR.aload_n dX11_findsOn_25 0 rfl ?_
      refine kR.iload_n dX11_findsOn_26 1 rfl ?_
      refine kR.iload dX11_findsOn_27 7 rfl ?_
      obtain ⟨v5, e6, h⟩ := bnr_some h
      refine kR.cVi [.int x1, .int x9] dX11_findsOn_29 rfl (by decide) mwX11_503 zp56 (by decide) rfl rfl (Nat.le_of_ble_eq_true rfl) (lX11_lengthAt σ x1 x9 _ e6) ?_
      refine zR.istore (i := 10) (ls' := [(10, .int v5), (0, .ref 56), (1, .int x1), (2, .int x2), (3, .int x3), (4, .long x4), (6, .int x6), (7, .long x7), (9, .int x9)]) dX11_findsOn_32 (by decide) rfl ?_
      refine kR.aload_n dX11_findsOn_34 1 rfl ?_
      refine kR.iload_n dX11_findsOn_35 2 rfl ?_
      refine kR.iload dX11_findsOn_36 0 rfl ?_
      refine kR.iload dX11_findsOn_38 0 rfl ?_
      refine kR.iload dX11_findsOn_40 6 rfl ?_
      refine kR.cSi [.int v5, .int x6] dX11_findsOn_42 rfl (by decide) (Or.inl mwX11_484) rfl (Nat.le_of_ble_eq_true rfl) (lX11_lesser v5 x6) ?_
      refine kR.iload_n dX11_findsOn_45 4 rfl ?_
      obtain ⟨v9, σ7, e8, h⟩ := bnc_some h
      refine kR.cVi [.int x1, .int v5, .int (fX11_lesser v5 x6), .int x3] dX11_findsOn_46 rfl (by decide) mwX11_524 zp56 (by decide) rfl rfl (Nat.le_of_ble_eq_true rfl) (lX11_worthAlone x1 v5 (fX11_lesser v5 x6) x3 σ _ e8) ?_
      refine zR.i2l dX11_findsOn_49 ?_
      refine zR.lstore (i := 11) (ls' := [(11, .long (v9.toInt64)), (10, .int v5), (0, .ref 56), (1, .int x1), (2, .int x2), (3, .int x3), (4, .long x4), (6, .int x6), (7, .long x7), (9, .int x9)]) dX11_findsOn_50 (by decide) rfl ?_
      refine kR.lload dX11_findsOn_52 8 rfl ?_
      refine kR.aload_n dX11_findsOn_54 2 rfl ?_
      refine kR.iload_n dX11_findsOn_55 3 rfl ?_
      refine kR.iload dX11_findsOn_56 9 rfl ?_
      obtain ⟨v10, e11, h⟩ := bnr_some h
      refine kR.cVi [.int x1, .int x9] dX11_findsOn_58 rfl (by decide) mwX11_440 zp56 (by decide) rfl rfl (Nat.le_of_ble_eq_true rfl) (lX11_weightAt σ7 x1 x9 _ e11) ?_
      refine zR.i2l dX11_findsOn_61 ?_
      refine kR.lload dX11_findsOn_62 0 rfl ?_
      refine kR.lload dX11_findsOn_64 6 rfl ?_
      refine zR.lmul dX11_findsOn_66 ?_
      refine kR.aload_n dX11_findsOn_67 2 rfl ?_
      refine kR.getR (v := 97) dX11_findsOn_68 flX11_225 zcf11 zp56 (Or.inr ⟨_, rfl⟩) rfl ?_
      refine zR.bipush (v := 61) dX11_findsOn_71 (by decide) ?_
      refine kR.iload_n dX11_findsOn_73 4 rfl ?_
      refine zR.imul dX11_findsOn_74 ?_
      refine kR.aload_n dX11_findsOn_75 2 rfl ?_
      obtain ⟨v14, σ12, e13, h⟩ := bnc_some h
      refine kR.cVi [] dX11_findsOn_76 rfl (by decide) mwX11_519 zp56 (by decide) rfl rfl (Nat.le_of_ble_eq_true rfl) (lX11_breathNow σ7 _ e13) ?_
      refine zR.iadd dX11_findsOn_79 ?_
      refine kR.lald dX11_findsOn_80 zp97 rfl h (fun v15 h => ?_)
      refine zR.ladd dX11_findsOn_81 ?_
      refine zR.lmul dX11_findsOn_82 ?_
      refine zR.ladd dX11_findsOn_83 ?_
      refine zR.lstore (i := 7) (ls' := [(7, .long (x7 + (v10.toInt64 * ((v9.toInt64 * x4) + v15)))), (11, .long (v9.toInt64)), (10, .int v5), (0, .ref 56), (1, .int x1), (2, .int x2), (3, .int x3), (4, .long x4), (6, .int x6), (9, .int x9)]) dX11_findsOn_84 (by decide) rfl ?_
      refine zR.iinc 9 (v := x9 + 1) (ls' := [(9, .int (x9 + 1)), (7, .long (x7 + (v10.toInt64 * ((v9.toInt64 * x4) + v15)))), (11, .long (v9.toInt64)), (10, .int v5), (0, .ref 56), (1, .int x1), (2, .int x2), (3, .int x3), (4, .long x4), (6, .int x6)]) dX11_findsOn_86 rfl rfl (by decide) rfl ?_
      refine zR.goto (tgt := 15) dX11_findsOn_89 (by decide) ?_
      refine zR.sub [4, 5, 6, 7, 8, 9, 1, 0] rfl ?_
      exact ih _ _ _ _ _ _ _ _ _ h
def fX11_findsOn_3 : Nat → Int32 → Int32 → Int32 → Int64 → Int32 → zS → Option zS
  | 0, _, _, _, _, _, _ => none
  | f + 1, x1, x2, x3, x4, x6, σ => if x3 < x6 then some σ else fX11_findsOn_15 (fX11_findsOn_3 f) zF x1 x2 x3 x4 x6 0 0 σ
theorem kX11_findsOn_3 {sc : Nat × (Nat → Int32)} : ∀ (fuel : Nat) (x1 : Int32) (x2 : Int32) (x3 : Int32) (x4 : Int64) (x6 : Int32) (σ : zS) (w : zS) (h : fX11_findsOn_3 fuel x1 x2 x3 x4 x6 σ = some w), zR (zY0 sc) 6 0 0 mX11_findsOn 3 [(0, .ref 56), (1, .int x1), (2, .int x2), (3, .int x3), (4, .long x4), (6, .int x6)] [] (zE σ) (none, zE w) := by
  intro fuel
  induction fuel with
  | zero => intro x1 x2 x3 x4 x6 σ w h; exact nomatch h
  | succ f ih =>
    intro x1 x2 x3 x4 x6 σ w h
    rw [fX11_findsOn_3] at h
    refine kR.iload dX11_findsOn_3 5 rfl ?_
    refine kR.iload_n dX11_findsOn_5 3 rfl ?_
    refine kR.icmp_gt (tgt := 128) dX11_findsOn_6 (by decide) h (fun h => ?_) (fun h => ?_)
    · exact kR.vret dX11_findsOn_128 h
    · refine zR.lconst (v := 0) dX11_findsOn_9 (by decide) ?_
      refine zR.lstore (i := 7) (ls' := [(7, .long 0), (0, .ref 56), (1, .int x1), (2, .int x2), (3, .int x3), (4, .long x4), (6, .int x6)]) dX11_findsOn_10 (by decide) rfl ?_
      refine zR.iconst (v := 0) dX11_findsOn_12 (by decide) ?_
      refine zR.istore (i := 9) (ls' := [(9, .int 0), (7, .long 0), (0, .ref 56), (1, .int x1), (2, .int x2), (3, .int x3), (4, .long x4), (6, .int x6)]) dX11_findsOn_13 (by decide) rfl ?_
      refine zR.sub [2, 3, 4, 5, 6, 7, 1, 0] rfl ?_
      exact kX11_findsOn_15 (fX11_findsOn_3 f) ih zF _ _ _ _ _ _ _ _ _ h
def fX11_findsOn (p1 : Int32) (p2 : Int32) (p3 : Int32) (p4 : Int64) (σ : zS) : Option zS := fX11_findsOn_3 zF p1 p2 p3 p4 0 σ
theorem eX11_findsOn {sc : Nat × (Nat → Int32)} (p1 : Int32) (p2 : Int32) (p3 : Int32) (p4 : Int64) (σ : zS) (w : zS) (h : fX11_findsOn p1 p2 p3 p4 σ = some w) : zR (zY0 sc) 6 0 0 mX11_findsOn 0 [(0, .ref 56), (1, .int p1), (2, .int p2), (3, .int p3), (4, .long p4)] [] (zE σ) (none, zE w) := by
  unfold fX11_findsOn at h
  refine zR.iconst (v := 0) dX11_findsOn_0 (by decide) ?_
  refine zR.istore (i := 6) (ls' := [(6, .int 0), (0, .ref 56), (1, .int p1), (2, .int p2), (3, .int p3), (4, .long p4)]) dX11_findsOn_1 (by decide) rfl ?_
  refine zR.sub [1, 2, 3, 4, 5, 0] rfl ?_
  exact kX11_findsOn_3 zF _ _ _ _ _ _ _ h
theorem lX11_findsOn {sc : Nat × (Nat → Int32)} (p1 : Int32) (p2 : Int32) (p3 : Int32) (p4 : Int64) (σ : zS) (w : zS) (h : fX11_findsOn p1 p2 p3 p4 σ = some w) : zC (zY0 sc) 6 0 0 mX11_findsOn [.ref 56, .int p1, .int p2, .int p3, .long p4] (zE σ) (none, zE w) := zC.of (by decide +kernel) (Nat.le_of_ble_eq_true rfl) rfl (eX11_findsOn p1 p2 p3 p4 σ w h)
theorem dX11_on_0 : decode cX11_on 0 = .ok (.aload_n 0, 1) := by decide +kernel
theorem dX11_on_1 : decode cX11_on 1 = .ok (.iload_n 1, 1) := by decide +kernel
theorem dX11_on_2 : decode cX11_on 2 = .ok (.invokevirtual 506, 3) := by decide +kernel
theorem dX11_on_5 : decode cX11_on 5 = .ok (.ifCond .eq 33, 3) := by decide +kernel
theorem dX11_on_8 : decode cX11_on 8 = .ok (.aload_n 0, 1) := by decide +kernel
theorem dX11_on_9 : decode cX11_on 9 = .ok (.getfield 54, 3) := by decide +kernel
theorem dX11_on_12 : decode cX11_on 12 = .ok (.aload_n 0, 1) := by decide +kernel
theorem dX11_on_13 : decode cX11_on 13 = .ok (.getfield 51, 3) := by decide +kernel
theorem dX11_on_16 : decode cX11_on 16 = .ok (.iaload, 1) := by decide +kernel
theorem dX11_on_17 : decode cX11_on 17 = .ok (.ifCond .eq 21, 3) := by decide +kernel
theorem dX11_on_20 : decode cX11_on 20 = .ok (.iload_n 2, 1) := by decide +kernel
theorem dX11_on_21 : decode cX11_on 21 = .ok (.iconst 1, 1) := by decide +kernel
theorem dX11_on_22 : decode cX11_on 22 = .ok (.iconst 4, 1) := by decide +kernel
theorem dX11_on_23 : decode cX11_on 23 = .ok (.invokestatic 338, 3) := by decide +kernel
theorem dX11_on_26 : decode cX11_on 26 = .ok (.ifCond .eq 12, 3) := by decide +kernel
theorem dX11_on_29 : decode cX11_on 29 = .ok (.iload_n 3, 1) := by decide +kernel
theorem dX11_on_30 : decode cX11_on 30 = .ok (.iconst 0, 1) := by decide +kernel
theorem dX11_on_31 : decode cX11_on 31 = .ok (.iconst 1, 1) := by decide +kernel
theorem dX11_on_32 : decode cX11_on 32 = .ok (.invokestatic 338, 3) := by decide +kernel
theorem dX11_on_35 : decode cX11_on 35 = .ok (.ifCond .ne 7, 3) := by decide +kernel
theorem dX11_on_38 : decode cX11_on 38 = .ok (.ldc_w 509, 3) := by decide +kernel
theorem dX11_on_41 : decode cX11_on 41 = .ok (.ireturn, 1) := by decide +kernel
theorem dX11_on_42 : decode cX11_on 42 = .ok (.iconst 0, 1) := by decide +kernel
theorem dX11_on_43 : decode cX11_on 43 = .ok (.istore 4, 2) := by decide +kernel
theorem dX11_on_45 : decode cX11_on 45 = .ok (.iload 4, 2) := by decide +kernel
theorem dX11_on_47 : decode cX11_on 47 = .ok (.bipush 60, 2) := by decide +kernel
theorem dX11_on_49 : decode cX11_on 49 = .ok (.if_icmp .gt 17, 3) := by decide +kernel
theorem dX11_on_52 : decode cX11_on 52 = .ok (.aload_n 0, 1) := by decide +kernel
theorem dX11_on_53 : decode cX11_on 53 = .ok (.getfield 225, 3) := by decide +kernel
theorem dX11_on_56 : decode cX11_on 56 = .ok (.iload 4, 2) := by decide +kernel
theorem dX11_on_58 : decode cX11_on 58 = .ok (.lconst 0, 1) := by decide +kernel
theorem dX11_on_59 : decode cX11_on 59 = .ok (.lastore, 1) := by decide +kernel
theorem dX11_on_60 : decode cX11_on 60 = .ok (.iinc 4 1, 3) := by decide +kernel
theorem dX11_on_63 : decode cX11_on 63 = .ok (.goto (-18), 3) := by decide +kernel
theorem dX11_on_66 : decode cX11_on 66 = .ok (.lconst 1, 1) := by decide +kernel
theorem dX11_on_67 : decode cX11_on 67 = .ok (.lstore 4, 2) := by decide +kernel
theorem dX11_on_69 : decode cX11_on 69 = .ok (.iconst 0, 1) := by decide +kernel
theorem dX11_on_70 : decode cX11_on 70 = .ok (.istore 6, 2) := by decide +kernel
theorem dX11_on_72 : decode cX11_on 72 = .ok (.iload 6, 2) := by decide +kernel
theorem dX11_on_74 : decode cX11_on 74 = .ok (.iload_n 2, 1) := by decide +kernel
theorem dX11_on_75 : decode cX11_on 75 = .ok (.if_icmp .ge 117, 3) := by decide +kernel
theorem dX11_on_78 : decode cX11_on 78 = .ok (.aload_n 0, 1) := by decide +kernel
theorem dX11_on_79 : decode cX11_on 79 = .ok (.getfield 156, 3) := by decide +kernel
theorem dX11_on_82 : decode cX11_on 82 = .ok (.iconst 0, 1) := by decide +kernel
theorem dX11_on_83 : decode cX11_on 83 = .ok (.iaload, 1) := by decide +kernel
theorem dX11_on_84 : decode cX11_on 84 = .ok (.iload_n 2, 1) := by decide +kernel
theorem dX11_on_85 : decode cX11_on 85 = .ok (.iadd, 1) := by decide +kernel
theorem dX11_on_86 : decode cX11_on 86 = .ok (.iconst 1, 1) := by decide +kernel
theorem dX11_on_87 : decode cX11_on 87 = .ok (.isub, 1) := by decide +kernel
theorem dX11_on_88 : decode cX11_on 88 = .ok (.iload 6, 2) := by decide +kernel
theorem dX11_on_90 : decode cX11_on 90 = .ok (.isub, 1) := by decide +kernel
theorem dX11_on_91 : decode cX11_on 91 = .ok (.aload_n 0, 1) := by decide +kernel
theorem dX11_on_92 : decode cX11_on 92 = .ok (.getfield 54, 3) := by decide +kernel
theorem dX11_on_95 : decode cX11_on 95 = .ok (.aload_n 0, 1) := by decide +kernel
theorem dX11_on_96 : decode cX11_on 96 = .ok (.getfield 51, 3) := by decide +kernel
theorem dX11_on_99 : decode cX11_on 99 = .ok (.iaload, 1) := by decide +kernel
theorem dX11_on_100 : decode cX11_on 100 = .ok (.irem, 1) := by decide +kernel
theorem dX11_on_101 : decode cX11_on 101 = .ok (.istore 7, 2) := by decide +kernel
theorem dX11_on_103 : decode cX11_on 103 = .ok (.iconst 0, 1) := by decide +kernel
theorem dX11_on_104 : decode cX11_on 104 = .ok (.istore 8, 2) := by decide +kernel
theorem dX11_on_106 : decode cX11_on 106 = .ok (.iload 8, 2) := by decide +kernel
theorem dX11_on_108 : decode cX11_on 108 = .ok (.bipush 60, 2) := by decide +kernel
theorem dX11_on_110 : decode cX11_on 110 = .ok (.if_icmp .gt 40, 3) := by decide +kernel
theorem dX11_on_113 : decode cX11_on 113 = .ok (.aload_n 0, 1) := by decide +kernel
theorem dX11_on_114 : decode cX11_on 114 = .ok (.iload 7, 2) := by decide +kernel
theorem dX11_on_116 : decode cX11_on 116 = .ok (.iload 6, 2) := by decide +kernel
theorem dX11_on_118 : decode cX11_on 118 = .ok (.iload 8, 2) := by decide +kernel
theorem dX11_on_120 : decode cX11_on 120 = .ok (.lload 4, 2) := by decide +kernel
theorem dX11_on_122 : decode cX11_on 122 = .ok (.invokevirtual 535, 3) := by decide +kernel
theorem dX11_on_125 : decode cX11_on 125 = .ok (.aload_n 0, 1) := by decide +kernel
theorem dX11_on_126 : decode cX11_on 126 = .ok (.getfield 225, 3) := by decide +kernel
theorem dX11_on_129 : decode cX11_on 129 = .ok (.bipush 61, 2) := by decide +kernel
theorem dX11_on_131 : decode cX11_on 131 = .ok (.iload 6, 2) := by decide +kernel
theorem dX11_on_133 : decode cX11_on 133 = .ok (.iconst 1, 1) := by decide +kernel
theorem dX11_on_134 : decode cX11_on 134 = .ok (.iadd, 1) := by decide +kernel
theorem dX11_on_135 : decode cX11_on 135 = .ok (.imul, 1) := by decide +kernel
theorem dX11_on_136 : decode cX11_on 136 = .ok (.iload 8, 2) := by decide +kernel
theorem dX11_on_138 : decode cX11_on 138 = .ok (.iadd, 1) := by decide +kernel
theorem dX11_on_139 : decode cX11_on 139 = .ok (.aload_n 0, 1) := by decide +kernel
theorem dX11_on_140 : decode cX11_on 140 = .ok (.getfield 222, 3) := by decide +kernel
theorem dX11_on_143 : decode cX11_on 143 = .ok (.lastore, 1) := by decide +kernel
theorem dX11_on_144 : decode cX11_on 144 = .ok (.iinc 8 1, 3) := by decide +kernel
theorem dX11_on_147 : decode cX11_on 147 = .ok (.goto (-41), 3) := by decide +kernel
theorem dX11_on_150 : decode cX11_on 150 = .ok (.iload 6, 2) := by decide +kernel
theorem dX11_on_152 : decode cX11_on 152 = .ok (.iload_n 2, 1) := by decide +kernel
theorem dX11_on_153 : decode cX11_on 153 = .ok (.iconst 1, 1) := by decide +kernel
theorem dX11_on_154 : decode cX11_on 154 = .ok (.isub, 1) := by decide +kernel
theorem dX11_on_155 : decode cX11_on 155 = .ok (.if_icmp .ne 19, 3) := by decide +kernel
theorem dX11_on_158 : decode cX11_on 158 = .ok (.aload_n 0, 1) := by decide +kernel
theorem dX11_on_159 : decode cX11_on 159 = .ok (.iload 7, 2) := by decide +kernel
theorem dX11_on_161 : decode cX11_on 161 = .ok (.iload 6, 2) := by decide +kernel
theorem dX11_on_163 : decode cX11_on 163 = .ok (.aload_n 0, 1) := by decide +kernel
theorem dX11_on_164 : decode cX11_on 164 = .ok (.getfield 159, 3) := by decide +kernel
theorem dX11_on_167 : decode cX11_on 167 = .ok (.iload_n 1, 1) := by decide +kernel
theorem dX11_on_168 : decode cX11_on 168 = .ok (.iaload, 1) := by decide +kernel
theorem dX11_on_169 : decode cX11_on 169 = .ok (.lload 4, 2) := by decide +kernel
theorem dX11_on_171 : decode cX11_on 171 = .ok (.invokevirtual 535, 3) := by decide +kernel
theorem dX11_on_174 : decode cX11_on 174 = .ok (.lload 4, 2) := by decide +kernel
theorem dX11_on_176 : decode cX11_on 176 = .ok (.aload_n 0, 1) := by decide +kernel
theorem dX11_on_177 : decode cX11_on 177 = .ok (.iload 7, 2) := by decide +kernel
theorem dX11_on_179 : decode cX11_on 179 = .ok (.invokevirtual 500, 3) := by decide +kernel
theorem dX11_on_182 : decode cX11_on 182 = .ok (.i2l, 1) := by decide +kernel
theorem dX11_on_183 : decode cX11_on 183 = .ok (.lmul, 1) := by decide +kernel
theorem dX11_on_184 : decode cX11_on 184 = .ok (.lstore 4, 2) := by decide +kernel
theorem dX11_on_186 : decode cX11_on 186 = .ok (.iinc 6 1, 3) := by decide +kernel
theorem dX11_on_189 : decode cX11_on 189 = .ok (.goto (-117), 3) := by decide +kernel
theorem dX11_on_192 : decode cX11_on 192 = .ok (.iload_n 3, 1) := by decide +kernel
theorem dX11_on_193 : decode cX11_on 193 = .ok (.ifCond .ne 10, 3) := by decide +kernel
theorem dX11_on_196 : decode cX11_on 196 = .ok (.aload_n 0, 1) := by decide +kernel
theorem dX11_on_197 : decode cX11_on 197 = .ok (.getfield 219, 3) := by decide +kernel
theorem dX11_on_200 : decode cX11_on 200 = .ok (.goto 13, 3) := by decide +kernel
theorem dX11_on_203 : decode cX11_on 203 = .ok (.aload_n 0, 1) := by decide +kernel
theorem dX11_on_204 : decode cX11_on 204 = .ok (.aload_n 0, 1) := by decide +kernel
theorem dX11_on_205 : decode cX11_on 205 = .ok (.getfield 222, 3) := by decide +kernel
theorem dX11_on_208 : decode cX11_on 208 = .ok (.lload 4, 2) := by decide +kernel
theorem dX11_on_210 : decode cX11_on 210 = .ok (.invokevirtual 531, 3) := by decide +kernel
theorem dX11_on_213 : decode cX11_on 213 = .ok (.ireturn, 1) := by decide +kernel
def fX11_on_174 (r72 : Int32 → Int32 → Int32 → Int64 → Int32 → zS → Option (Int32 × zS)) (x1 : Int32) (x2 : Int32) (x3 : Int32) (x4 : Int64) (x6 : Int32) (x7 : Int32) (σ : zS) : Option (Int32 × zS) := bnr (fX11_weights σ x7) fun v8 => r72 x1 x2 x3 (x4 * v8.toInt64) (x6 + 1) σ
theorem kX11_on_174 {sc : Nat × (Nat → Int32)} (r72 : Int32 → Int32 → Int32 → Int64 → Int32 → zS → Option (Int32 × zS)) (hr72 : ∀ (x1 : Int32) (x2 : Int32) (x3 : Int32) (x4 : Int64) (x6 : Int32) (σ : zS) (w : Int32 × zS), r72 x1 x2 x3 x4 x6 σ = some w → zR (zY0 sc) 7 0 0 mX11_on 72 [(0, .ref 56), (1, .int x1), (2, .int x2), (3, .int x3), (4, .long x4), (6, .int x6)] [] (zE σ) (some (.int w.1), zE w.2)) (x1 : Int32) (x2 : Int32) (x3 : Int32) (x4 : Int64) (x6 : Int32) (x7 : Int32) (σ : zS) (w : Int32 × zS) (h : fX11_on_174 r72 x1 x2 x3 x4 x6 x7 σ = some w) : zR (zY0 sc) 7 0 0 mX11_on 174 [(0, .ref 56), (1, .int x1), (2, .int x2), (3, .int x3), (4, .long x4), (6, .int x6), (7, .int x7)] [] (zE σ) (some (.int w.1), zE w.2) := by
  unfold fX11_on_174 at h
  refine kR.lload dX11_on_174 4 rfl ?_
  refine kR.aload_n dX11_on_176 0 rfl ?_
  refine kR.iload dX11_on_177 6 rfl ?_
  obtain ⟨v8, e9, h⟩ := bnr_some h
  refine kR.cVi [.int x7] dX11_on_179 rfl (by decide) mwX11_500 zp56 (by decide) rfl rfl (Nat.le_of_ble_eq_true rfl) (lX11_weights σ x7 _ e9) ?_
  refine zR.i2l dX11_on_182 ?_
  refine zR.lmul dX11_on_183 ?_
  refine zR.lstore (i := 4) (ls' := [(4, .long (x4 * v8.toInt64)), (0, .ref 56), (1, .int x1), (2, .int x2), (3, .int x3), (6, .int x6), (7, .int x7)]) dX11_on_184 (by decide) rfl ?_
  refine zR.iinc 5 (v := x6 + 1) (ls' := [(6, .int (x6 + 1)), (4, .long (x4 * v8.toInt64)), (0, .ref 56), (1, .int x1), (2, .int x2), (3, .int x3), (7, .int x7)]) dX11_on_186 rfl rfl (by decide) rfl ?_
  refine zR.goto (tgt := 72) dX11_on_189 (by decide) ?_
  refine zR.sub [2, 3, 4, 5, 1, 0] rfl ?_
  exact hr72 _ _ _ _ _ _ _ h
def fX11_on_106 (r72 : Int32 → Int32 → Int32 → Int64 → Int32 → zS → Option (Int32 × zS)) : Nat → Int32 → Int32 → Int32 → Int64 → Int32 → Int32 → Int32 → zS → Option (Int32 × zS)
  | 0, _, _, _, _, _, _, _, _ => none
  | f + 1, x1, x2, x3, x4, x6, x7, x8, σ => if 60 < x8 then if x6 = (x2 - 1) then aI σ 86 132 x1 fun v10 => bnr (fX11_findsOn x7 x6 v10 x4 σ) fun σ11 => fX11_on_174 r72 x1 x2 x3 x4 x6 x7 σ11 else fX11_on_174 r72 x1 x2 x3 x4 x6 x7 σ else bnr (fX11_findsOn x7 x6 x8 x4 σ) fun σ13 => wL σ13 97 305 ((61 * (x6 + 1)) + x8) (lG σ13 56 69) fun σ15 => fX11_on_106 r72 f x1 x2 x3 x4 x6 x7 (x8 + 1) σ15
theorem kX11_on_106 {sc : Nat × (Nat → Int32)} (r72 : Int32 → Int32 → Int32 → Int64 → Int32 → zS → Option (Int32 × zS)) (hr72 : ∀ (x1 : Int32) (x2 : Int32) (x3 : Int32) (x4 : Int64) (x6 : Int32) (σ : zS) (w : Int32 × zS), r72 x1 x2 x3 x4 x6 σ = some w → zR (zY0 sc) 7 0 0 mX11_on 72 [(0, .ref 56), (1, .int x1), (2, .int x2), (3, .int x3), (4, .long x4), (6, .int x6)] [] (zE σ) (some (.int w.1), zE w.2)) : ∀ (fuel : Nat) (x1 : Int32) (x2 : Int32) (x3 : Int32) (x4 : Int64) (x6 : Int32) (x7 : Int32) (x8 : Int32) (σ : zS) (w : Int32 × zS) (h : fX11_on_106 r72 fuel x1 x2 x3 x4 x6 x7 x8 σ = some w), zR (zY0 sc) 7 0 0 mX11_on 106 [(0, .ref 56), (1, .int x1), (2, .int x2), (3, .int x3), (4, .long x4), (6, .int x6), (7, .int x7), (8, .int x8)] [] (zE σ) (some (.int w.1), zE w.2) := by
  intro fuel
  induction fuel with
  | zero => intro x1 x2 x3 x4 x6 x7 x8 σ w h; exact nomatch h
  | succ f ih =>
    intro x1 x2 x3 x4 x6 x7 x8 σ w h
    rw [fX11_on_106] at h
    refine kR.iload dX11_on_106 7 rfl ?_
    refine zR.bipush (v := 60) dX11_on_108 (by decide) ?_
    refine kR.icmp_gt (tgt := 150) dX11_on_110 (by decide) h (fun h => ?_) (fun h => ?_)
    · refine kR.iload dX11_on_150 5 rfl ?_
      refine kR.iload_n dX11_on_152 2 rfl ?_
      refine zR.iconst (v := 1) dX11_on_153 (by decide) ?_
      refine zR.isub dX11_on_154 ?_
      refine kR.icmp_ne (tgt := 174) dX11_on_155 (by decide) h (fun h => ?_) (fun h => ?_)
      · refine zR.sub [0, 1, 2, 3, 4, 5, 6] rfl ?_
        exact kX11_on_174 r72 hr72 _ _ _ _ _ _ _ _ h
      · refine kR.aload_n dX11_on_158 0 rfl ?_
        refine kR.iload dX11_on_159 6 rfl ?_
        refine kR.iload dX11_on_161 5 rfl ?_
        refine kR.aload_n dX11_on_163 0 rfl ?_
        refine kR.getR (v := 86) dX11_on_164 flX11_159 zcf11 zp56 (Or.inr ⟨_, rfl⟩) rfl ?_
        refine kR.iload_n dX11_on_167 1 rfl ?_
        refine kR.iald dX11_on_168 zp86 rfl h (fun v10 h => ?_)
        refine kR.lload dX11_on_169 4 rfl ?_
        obtain ⟨σ11, e12, h⟩ := bnr_some h
        refine kR.cVv [.int x7, .int x6, .int v10, .long x4] dX11_on_171 rfl (by decide) mwX11_535 zp56 (by decide) rfl rfl (Nat.le_of_ble_eq_true rfl) (lX11_findsOn x7 x6 v10 x4 σ _ e12) ?_
        refine zR.sub [0, 1, 2, 3, 4, 5, 6] rfl ?_
        exact kX11_on_174 r72 hr72 _ _ _ _ _ _ _ _ h
    · refine kR.aload_n dX11_on_113 0 rfl ?_
      refine kR.iload dX11_on_114 6 rfl ?_
      refine kR.iload dX11_on_116 5 rfl ?_
      refine kR.iload dX11_on_118 7 rfl ?_
      refine kR.lload dX11_on_120 4 rfl ?_
      obtain ⟨σ13, e14, h⟩ := bnr_some h
      refine kR.cVv [.int x7, .int x6, .int x8, .long x4] dX11_on_122 rfl (by decide) mwX11_535 zp56 (by decide) rfl rfl (Nat.le_of_ble_eq_true rfl) (lX11_findsOn x7 x6 x8 x4 σ _ e14) ?_
      refine kR.aload_n dX11_on_125 0 rfl ?_
      refine kR.getR (v := 97) dX11_on_126 flX11_225 zcf11 zp56 (Or.inr ⟨_, rfl⟩) rfl ?_
      refine zR.bipush (v := 61) dX11_on_129 (by decide) ?_
      refine kR.iload dX11_on_131 5 rfl ?_
      refine zR.iconst (v := 1) dX11_on_133 (by decide) ?_
      refine zR.iadd dX11_on_134 ?_
      refine zR.imul dX11_on_135 ?_
      refine kR.iload dX11_on_136 7 rfl ?_
      refine zR.iadd dX11_on_138 ?_
      refine kR.aload_n dX11_on_139 0 rfl ?_
      refine kR.getL dX11_on_140 flX11_222 zcf11 zp56 rfl ?_
      refine kR.last dX11_on_143 zp97 rfl h (fun σ15 h => ?_)
      refine zR.iinc 7 (v := x8 + 1) (ls' := [(8, .int (x8 + 1)), (0, .ref 56), (1, .int x1), (2, .int x2), (3, .int x3), (4, .long x4), (6, .int x6), (7, .int x7)]) dX11_on_144 rfl rfl (by decide) rfl ?_
      refine zR.goto (tgt := 106) dX11_on_147 (by decide) ?_
      refine zR.sub [1, 2, 3, 4, 5, 6, 7, 0] rfl ?_
      exact ih _ _ _ _ _ _ _ _ _ h
def fX11_on_72 : Nat → Int32 → Int32 → Int32 → Int64 → Int32 → zS → Option (Int32 × zS)
  | 0, _, _, _, _, _, _ => none
  | f + 1, x1, x2, x3, x4, x6, σ => if x2 ≤ x6 then if x3 = 0 then some (iG σ 56 68, σ) else bnr (fX11_thousandths (lG σ 56 69) x4) fun v4 => some (v4, σ) else aI σ 85 22 0 fun v6 => aI σ 58 2 (iG σ 56 13) fun v7 => gd (¬ v7 = 0) (fX11_on_106 (fX11_on_72 f) zF x1 x2 x3 x4 x6 ((((v6 + x2) - 1) - x6) - (((v6 + x2) - 1) - x6) / v7 * v7) 0 σ)
theorem kX11_on_72 {sc : Nat × (Nat → Int32)} : ∀ (fuel : Nat) (x1 : Int32) (x2 : Int32) (x3 : Int32) (x4 : Int64) (x6 : Int32) (σ : zS) (w : Int32 × zS) (h : fX11_on_72 fuel x1 x2 x3 x4 x6 σ = some w), zR (zY0 sc) 7 0 0 mX11_on 72 [(0, .ref 56), (1, .int x1), (2, .int x2), (3, .int x3), (4, .long x4), (6, .int x6)] [] (zE σ) (some (.int w.1), zE w.2) := by
  intro fuel
  induction fuel with
  | zero => intro x1 x2 x3 x4 x6 σ w h; exact nomatch h
  | succ f ih =>
    intro x1 x2 x3 x4 x6 σ w h
    rw [fX11_on_72] at h
    refine kR.iload dX11_on_72 5 rfl ?_
    refine kR.iload_n dX11_on_74 2 rfl ?_
    refine kR.icmp_ge (tgt := 192) dX11_on_75 (by decide) h (fun h => ?_) (fun h => ?_)
    · refine kR.iload_n dX11_on_192 3 rfl ?_
      refine kR.if_ne (tgt := 203) dX11_on_193 (by decide) h (fun h => ?_) (fun h => ?_)
      · refine kR.aload_n dX11_on_203 0 rfl ?_
        refine kR.aload_n dX11_on_204 0 rfl ?_
        refine kR.getL dX11_on_205 flX11_222 zcf11 zp56 rfl ?_
        refine kR.lload dX11_on_208 4 rfl ?_
        obtain ⟨v4, e5, h⟩ := bnr_some h
        refine kR.cVi [.long (lG σ 56 69), .long x4] dX11_on_210 rfl (by decide) mwX11_531 zp56 (by decide) rfl rfl (Nat.le_of_ble_eq_true rfl) (lX11_thousandths (lG σ 56 69) x4 _ e5) ?_
        exact kR.iretW dX11_on_213 (nzI rfl _) h
      · refine kR.aload_n dX11_on_196 0 rfl ?_
        refine kR.getI dX11_on_197 flX11_219 zcf11 zp56 (Or.inl rfl) ?_
        refine zR.goto (tgt := 213) dX11_on_200 (by decide) ?_
        exact kR.iretW dX11_on_213 (nzI rfl _) h
    · refine kR.aload_n dX11_on_78 0 rfl ?_
      refine kR.getR (v := 85) dX11_on_79 flX11_156 zcf11 zp56 (Or.inr ⟨_, rfl⟩) rfl ?_
      refine zR.iconst (v := 0) dX11_on_82 (by decide) ?_
      refine kR.iald dX11_on_83 zp85 rfl h (fun v6 h => ?_)
      refine kR.iload_n dX11_on_84 2 rfl ?_
      refine zR.iadd dX11_on_85 ?_
      refine zR.iconst (v := 1) dX11_on_86 (by decide) ?_
      refine zR.isub dX11_on_87 ?_
      refine kR.iload dX11_on_88 5 rfl ?_
      refine zR.isub dX11_on_90 ?_
      refine kR.aload_n dX11_on_91 0 rfl ?_
      refine kR.getR (v := 58) dX11_on_92 flX11_54 zcf11 zp56 (Or.inr ⟨_, rfl⟩) rfl ?_
      refine kR.aload_n dX11_on_95 0 rfl ?_
      refine kR.getI dX11_on_96 flX11_51 zcf11 zp56 (Or.inl rfl) ?_
      refine kR.iald dX11_on_99 zp58 rfl h (fun v7 h => ?_)
      refine kR.irem dX11_on_100 h (fun h => ?_)
      refine zR.istore (i := 7) (ls' := [(7, .int ((((v6 + x2) - 1) - x6) - (((v6 + x2) - 1) - x6) / v7 * v7)), (0, .ref 56), (1, .int x1), (2, .int x2), (3, .int x3), (4, .long x4), (6, .int x6)]) dX11_on_101 (by decide) rfl ?_
      refine zR.iconst (v := 0) dX11_on_103 (by decide) ?_
      refine zR.istore (i := 8) (ls' := [(8, .int 0), (7, .int ((((v6 + x2) - 1) - x6) - (((v6 + x2) - 1) - x6) / v7 * v7)), (0, .ref 56), (1, .int x1), (2, .int x2), (3, .int x3), (4, .long x4), (6, .int x6)]) dX11_on_104 (by decide) rfl ?_
      refine zR.sub [2, 3, 4, 5, 6, 7, 1, 0] rfl ?_
      exact kX11_on_106 (fX11_on_72 f) ih zF _ _ _ _ _ _ _ _ _ h
def fX11_on_45 : Nat → Int32 → Int32 → Int32 → Int32 → zS → Option (Int32 × zS)
  | 0, _, _, _, _, _ => none
  | f + 1, x1, x2, x3, x4, σ => if 60 < x4 then fX11_on_72 zF x1 x2 x3 1 0 σ else wL σ 97 305 x4 0 fun σ16 => fX11_on_45 f x1 x2 x3 (x4 + 1) σ16
theorem kX11_on_45 {sc : Nat × (Nat → Int32)} : ∀ (fuel : Nat) (x1 : Int32) (x2 : Int32) (x3 : Int32) (x4 : Int32) (σ : zS) (w : Int32 × zS) (h : fX11_on_45 fuel x1 x2 x3 x4 σ = some w), zR (zY0 sc) 7 0 0 mX11_on 45 [(0, .ref 56), (1, .int x1), (2, .int x2), (3, .int x3), (4, .int x4)] [] (zE σ) (some (.int w.1), zE w.2) := by
  intro fuel
  induction fuel with
  | zero => intro x1 x2 x3 x4 σ w h; exact nomatch h
  | succ f ih =>
    intro x1 x2 x3 x4 σ w h
    rw [fX11_on_45] at h
    refine kR.iload dX11_on_45 4 rfl ?_
    refine zR.bipush (v := 60) dX11_on_47 (by decide) ?_
    refine kR.icmp_gt (tgt := 66) dX11_on_49 (by decide) h (fun h => ?_) (fun h => ?_)
    · refine zR.lconst (v := 1) dX11_on_66 (by decide) ?_
      refine zR.lstore (i := 4) (ls' := [(4, .long 1), (0, .ref 56), (1, .int x1), (2, .int x2), (3, .int x3)]) dX11_on_67 (by decide) rfl ?_
      refine zR.iconst (v := 0) dX11_on_69 (by decide) ?_
      refine zR.istore (i := 6) (ls' := [(6, .int 0), (4, .long 1), (0, .ref 56), (1, .int x1), (2, .int x2), (3, .int x3)]) dX11_on_70 (by decide) rfl ?_
      refine zR.sub [2, 3, 4, 5, 1, 0] rfl ?_
      exact kX11_on_72 zF _ _ _ _ _ _ _ h
    · refine kR.aload_n dX11_on_52 0 rfl ?_
      refine kR.getR (v := 97) dX11_on_53 flX11_225 zcf11 zp56 (Or.inr ⟨_, rfl⟩) rfl ?_
      refine kR.iload dX11_on_56 4 rfl ?_
      refine zR.lconst (v := 0) dX11_on_58 (by decide) ?_
      refine kR.last dX11_on_59 zp97 rfl h (fun σ16 h => ?_)
      refine zR.iinc 4 (v := x4 + 1) (ls' := [(4, .int (x4 + 1)), (0, .ref 56), (1, .int x1), (2, .int x2), (3, .int x3)]) dX11_on_60 rfl rfl (by decide) rfl ?_
      refine zR.goto (tgt := 45) dX11_on_63 (by decide) ?_
      refine zR.sub [1, 2, 3, 4, 0] rfl ?_
      exact ih _ _ _ _ _ _ h
def fX11_on (p1 : Int32) (p2 : Int32) (p3 : Int32) (σ : zS) : Option (Int32 × zS) := bnr (fX11_isHolder σ p1) fun v1 => if v1 = 0 then some ((-1000000000), σ) else aI σ 58 2 (iG σ 56 13) fun v3 => if v3 = 0 then some ((-1000000000), σ) else if (fX11_is p2 1 4) = 0 then some ((-1000000000), σ) else if (fX11_is p3 0 1) = 0 then some ((-1000000000), σ) else fX11_on_45 zF p1 p2 p3 0 σ
theorem eX11_on {sc : Nat × (Nat → Int32)} (p1 : Int32) (p2 : Int32) (p3 : Int32) (σ : zS) (w : Int32 × zS) (h : fX11_on p1 p2 p3 σ = some w) : zR (zY0 sc) 7 0 0 mX11_on 0 [(0, .ref 56), (1, .int p1), (2, .int p2), (3, .int p3)] [] (zE σ) (some (.int w.1), zE w.2) := by
  unfold fX11_on at h
  refine kR.aload_n dX11_on_0 0 rfl ?_
  refine kR.iload_n dX11_on_1 1 rfl ?_
  obtain ⟨v1, e2, h⟩ := bnr_some h
  refine kR.cVi [.int p1] dX11_on_2 rfl (by decide) mwX11_506 zp56 (by decide) rfl rfl (Nat.le_of_ble_eq_true rfl) (lX11_isHolder σ p1 _ e2) ?_
  refine kR.if_eq (tgt := 38) dX11_on_5 (by decide) h (fun h => ?_) (fun h => ?_)
  · refine zR.ldcw (v := (-1000000000)) dX11_on_38 ciX11_509 ?_
    exact kR.iretW dX11_on_41 (nzI rfl _) h
  · refine kR.aload_n dX11_on_8 0 rfl ?_
    refine kR.getR (v := 58) dX11_on_9 flX11_54 zcf11 zp56 (Or.inr ⟨_, rfl⟩) rfl ?_
    refine kR.aload_n dX11_on_12 0 rfl ?_
    refine kR.getI dX11_on_13 flX11_51 zcf11 zp56 (Or.inl rfl) ?_
    refine kR.iald dX11_on_16 zp58 rfl h (fun v3 h => ?_)
    refine kR.if_eq (tgt := 38) dX11_on_17 (by decide) h (fun h => ?_) (fun h => ?_)
    · refine zR.ldcw (v := (-1000000000)) dX11_on_38 ciX11_509 ?_
      exact kR.iretW dX11_on_41 (nzI rfl _) h
    · refine kR.iload_n dX11_on_20 2 rfl ?_
      refine zR.iconst (v := 1) dX11_on_21 (by decide) ?_
      refine zR.iconst (v := 4) dX11_on_22 (by decide) ?_
      refine kR.cSi [.int p2, .int 1, .int 4] dX11_on_23 rfl (by decide) (Or.inl mwX11_338) rfl (Nat.le_of_ble_eq_true rfl) (lX11_is p2 1 4) ?_
      refine kR.if_eq (tgt := 38) dX11_on_26 (by decide) h (fun h => ?_) (fun h => ?_)
      · refine zR.ldcw (v := (-1000000000)) dX11_on_38 ciX11_509 ?_
        exact kR.iretW dX11_on_41 (nzI rfl _) h
      · refine kR.iload_n dX11_on_29 3 rfl ?_
        refine zR.iconst (v := 0) dX11_on_30 (by decide) ?_
        refine zR.iconst (v := 1) dX11_on_31 (by decide) ?_
        refine kR.cSi [.int p3, .int 0, .int 1] dX11_on_32 rfl (by decide) (Or.inl mwX11_338) rfl (Nat.le_of_ble_eq_true rfl) (lX11_is p3 0 1) ?_
        refine kR.if_ne (tgt := 42) dX11_on_35 (by decide) h (fun h => ?_) (fun h => ?_)
        · refine zR.iconst (v := 0) dX11_on_42 (by decide) ?_
          refine zR.istore (i := 4) (ls' := [(4, .int 0), (0, .ref 56), (1, .int p1), (2, .int p2), (3, .int p3)]) dX11_on_43 (by decide) rfl ?_
          refine zR.sub [1, 2, 3, 4, 0] rfl ?_
          exact kX11_on_45 zF _ _ _ _ _ _ h
        · refine zR.ldcw (v := (-1000000000)) dX11_on_38 ciX11_509 ?_
          exact kR.iretW dX11_on_41 (nzI rfl _) h
theorem lX11_on {sc : Nat × (Nat → Int32)} (p1 : Int32) (p2 : Int32) (p3 : Int32) (σ : zS) (w : Int32 × zS) (h : fX11_on p1 p2 p3 σ = some w) : zC (zY0 sc) 7 0 0 mX11_on [.ref 56, .int p1, .int p2, .int p3] (zE σ) (some (.int w.1), zE w.2) := zC.of (by decide +kernel) (Nat.le_of_ble_eq_true rfl) ⟨_, rfl⟩ (eX11_on p1 p2 p3 σ w h)
theorem dX11_worthBy_0 : decode cX11_worthBy 0 = .ok (.lconst 0, 1) := by decide +kernel
theorem dX11_worthBy_1 : decode cX11_worthBy 1 = .ok (.lstore 4, 2) := by decide +kernel
theorem dX11_worthBy_3 : decode cX11_worthBy 3 = .ok (.iconst 0, 1) := by decide +kernel
theorem dX11_worthBy_4 : decode cX11_worthBy 4 = .ok (.istore 6, 2) := by decide +kernel
theorem dX11_worthBy_6 : decode cX11_worthBy 6 = .ok (.iload 6, 2) := by decide +kernel
theorem dX11_worthBy_8 : decode cX11_worthBy 8 = .ok (.aload_n 0, 1) := by decide +kernel
theorem dX11_worthBy_9 : decode cX11_worthBy 9 = .ok (.iload_n 2, 1) := by decide +kernel
theorem dX11_worthBy_10 : decode cX11_worthBy 10 = .ok (.invokevirtual 437, 3) := by decide +kernel
theorem dX11_worthBy_13 : decode cX11_worthBy 13 = .ok (.if_icmp .ge 92, 3) := by decide +kernel
theorem dX11_worthBy_16 : decode cX11_worthBy 16 = .ok (.aload_n 0, 1) := by decide +kernel
theorem dX11_worthBy_17 : decode cX11_worthBy 17 = .ok (.iload_n 2, 1) := by decide +kernel
theorem dX11_worthBy_18 : decode cX11_worthBy 18 = .ok (.iload 6, 2) := by decide +kernel
theorem dX11_worthBy_20 : decode cX11_worthBy 20 = .ok (.invokevirtual 503, 3) := by decide +kernel
theorem dX11_worthBy_23 : decode cX11_worthBy 23 = .ok (.istore 7, 2) := by decide +kernel
theorem dX11_worthBy_25 : decode cX11_worthBy 25 = .ok (.iconst 0, 1) := by decide +kernel
theorem dX11_worthBy_26 : decode cX11_worthBy 26 = .ok (.istore 8, 2) := by decide +kernel
theorem dX11_worthBy_28 : decode cX11_worthBy 28 = .ok (.iload 8, 2) := by decide +kernel
theorem dX11_worthBy_30 : decode cX11_worthBy 30 = .ok (.aload_n 0, 1) := by decide +kernel
theorem dX11_worthBy_31 : decode cX11_worthBy 31 = .ok (.getfield 69, 3) := by decide +kernel
theorem dX11_worthBy_34 : decode cX11_worthBy 34 = .ok (.aload_n 0, 1) := by decide +kernel
theorem dX11_worthBy_35 : decode cX11_worthBy 35 = .ok (.getfield 51, 3) := by decide +kernel
theorem dX11_worthBy_38 : decode cX11_worthBy 38 = .ok (.iaload, 1) := by decide +kernel
theorem dX11_worthBy_39 : decode cX11_worthBy 39 = .ok (.if_icmp .ge 38, 3) := by decide +kernel
theorem dX11_worthBy_42 : decode cX11_worthBy 42 = .ok (.aload_n 0, 1) := by decide +kernel
theorem dX11_worthBy_43 : decode cX11_worthBy 43 = .ok (.getfield 216, 3) := by decide +kernel
theorem dX11_worthBy_46 : decode cX11_worthBy 46 = .ok (.iload 8, 2) := by decide +kernel
theorem dX11_worthBy_48 : decode cX11_worthBy 48 = .ok (.iload 7, 2) := by decide +kernel
theorem dX11_worthBy_50 : decode cX11_worthBy 50 = .ok (.iload 8, 2) := by decide +kernel
theorem dX11_worthBy_52 : decode cX11_worthBy 52 = .ok (.iload_n 1, 1) := by decide +kernel
theorem dX11_worthBy_53 : decode cX11_worthBy 53 = .ok (.if_icmp .ne 7, 3) := by decide +kernel
theorem dX11_worthBy_56 : decode cX11_worthBy 56 = .ok (.iload_n 3, 1) := by decide +kernel
theorem dX11_worthBy_57 : decode cX11_worthBy 57 = .ok (.goto 10, 3) := by decide +kernel
theorem dX11_worthBy_60 : decode cX11_worthBy 60 = .ok (.aload_n 0, 1) := by decide +kernel
theorem dX11_worthBy_61 : decode cX11_worthBy 61 = .ok (.getfield 228, 3) := by decide +kernel
theorem dX11_worthBy_64 : decode cX11_worthBy 64 = .ok (.iload 8, 2) := by decide +kernel
theorem dX11_worthBy_66 : decode cX11_worthBy 66 = .ok (.iaload, 1) := by decide +kernel
theorem dX11_worthBy_67 : decode cX11_worthBy 67 = .ok (.invokestatic 484, 3) := by decide +kernel
theorem dX11_worthBy_70 : decode cX11_worthBy 70 = .ok (.iastore, 1) := by decide +kernel
theorem dX11_worthBy_71 : decode cX11_worthBy 71 = .ok (.iinc 8 1, 3) := by decide +kernel
theorem dX11_worthBy_74 : decode cX11_worthBy 74 = .ok (.goto (-46), 3) := by decide +kernel
theorem dX11_worthBy_77 : decode cX11_worthBy 77 = .ok (.lload 4, 2) := by decide +kernel
theorem dX11_worthBy_79 : decode cX11_worthBy 79 = .ok (.aload_n 0, 1) := by decide +kernel
theorem dX11_worthBy_80 : decode cX11_worthBy 80 = .ok (.iload_n 2, 1) := by decide +kernel
theorem dX11_worthBy_81 : decode cX11_worthBy 81 = .ok (.iload 6, 2) := by decide +kernel
theorem dX11_worthBy_83 : decode cX11_worthBy 83 = .ok (.invokevirtual 440, 3) := by decide +kernel
theorem dX11_worthBy_86 : decode cX11_worthBy 86 = .ok (.aload_n 0, 1) := by decide +kernel
theorem dX11_worthBy_87 : decode cX11_worthBy 87 = .ok (.iload_n 1, 1) := by decide +kernel
theorem dX11_worthBy_88 : decode cX11_worthBy 88 = .ok (.iload_n 2, 1) := by decide +kernel
theorem dX11_worthBy_89 : decode cX11_worthBy 89 = .ok (.iload 7, 2) := by decide +kernel
theorem dX11_worthBy_91 : decode cX11_worthBy 91 = .ok (.invokevirtual 516, 3) := by decide +kernel
theorem dX11_worthBy_94 : decode cX11_worthBy 94 = .ok (.imul, 1) := by decide +kernel
theorem dX11_worthBy_95 : decode cX11_worthBy 95 = .ok (.i2l, 1) := by decide +kernel
theorem dX11_worthBy_96 : decode cX11_worthBy 96 = .ok (.ladd, 1) := by decide +kernel
theorem dX11_worthBy_97 : decode cX11_worthBy 97 = .ok (.lstore 4, 2) := by decide +kernel
theorem dX11_worthBy_99 : decode cX11_worthBy 99 = .ok (.iinc 6 1, 3) := by decide +kernel
theorem dX11_worthBy_102 : decode cX11_worthBy 102 = .ok (.goto (-96), 3) := by decide +kernel
theorem dX11_worthBy_105 : decode cX11_worthBy 105 = .ok (.lload 4, 2) := by decide +kernel
theorem dX11_worthBy_107 : decode cX11_worthBy 107 = .ok (.lreturn, 1) := by decide +kernel
def fX11_worthBy_67 (r6 : Int32 → Int32 → Int32 → Int64 → Int32 → zS → Option (Int64 × zS)) (r28 : Int32 → Int32 → Int32 → Int64 → Int32 → Int32 → Int32 → zS → Option (Int64 × zS)) (x1 : Int32) (x2 : Int32) (x3 : Int32) (x4 : Int64) (x6 : Int32) (x7 : Int32) (x8 : Int32) (s0 : Int32) (s1 : Int32) (s2 : Int32) (σ : zS) : Option (Int64 × zS) := wI σ 96 6 s2 (fX11_lesser s1 s0) fun σ12 => r28 x1 x2 x3 x4 x6 x7 (x8 + 1) σ12
theorem kX11_worthBy_67 {sc : Nat × (Nat → Int32)} (r6 : Int32 → Int32 → Int32 → Int64 → Int32 → zS → Option (Int64 × zS)) (r28 : Int32 → Int32 → Int32 → Int64 → Int32 → Int32 → Int32 → zS → Option (Int64 × zS)) (hr6 : ∀ (x1 : Int32) (x2 : Int32) (x3 : Int32) (x4 : Int64) (x6 : Int32) (σ : zS) (w : Int64 × zS), r6 x1 x2 x3 x4 x6 σ = some w → zR (zY0 sc) 6 0 0 mX11_worthBy 6 [(0, .ref 56), (1, .int x1), (2, .int x2), (3, .int x3), (4, .long x4), (6, .int x6)] [] (zE σ) (some (.long w.1), zE w.2)) (hr28 : ∀ (x1 : Int32) (x2 : Int32) (x3 : Int32) (x4 : Int64) (x6 : Int32) (x7 : Int32) (x8 : Int32) (σ : zS) (w : Int64 × zS), r28 x1 x2 x3 x4 x6 x7 x8 σ = some w → zR (zY0 sc) 6 0 0 mX11_worthBy 28 [(0, .ref 56), (1, .int x1), (2, .int x2), (3, .int x3), (4, .long x4), (6, .int x6), (7, .int x7), (8, .int x8)] [] (zE σ) (some (.long w.1), zE w.2)) (x1 : Int32) (x2 : Int32) (x3 : Int32) (x4 : Int64) (x6 : Int32) (x7 : Int32) (x8 : Int32) (s0 : Int32) (s1 : Int32) (s2 : Int32) (σ : zS) (w : Int64 × zS) (h : fX11_worthBy_67 r6 r28 x1 x2 x3 x4 x6 x7 x8 s0 s1 s2 σ = some w) : zR (zY0 sc) 6 0 0 mX11_worthBy 67 [(0, .ref 56), (1, .int x1), (2, .int x2), (3, .int x3), (4, .long x4), (6, .int x6), (7, .int x7), (8, .int x8)] [.int s0, .int s1, .int s2, .ref 96] (zE σ) (some (.long w.1), zE w.2) := by
  unfold fX11_worthBy_67 at h
  refine kR.cSi [.int s1, .int s0] dX11_worthBy_67 rfl (by decide) (Or.inl mwX11_484) rfl (Nat.le_of_ble_eq_true rfl) (lX11_lesser s1 s0) ?_
  refine kR.iast dX11_worthBy_70 zp96 rfl h (fun σ12 h => ?_)
  refine zR.iinc 7 (v := x8 + 1) (ls' := [(8, .int (x8 + 1)), (0, .ref 56), (1, .int x1), (2, .int x2), (3, .int x3), (4, .long x4), (6, .int x6), (7, .int x7)]) dX11_worthBy_71 rfl rfl (by decide) rfl ?_
  refine zR.goto (tgt := 28) dX11_worthBy_74 (by decide) ?_
  refine zR.sub [1, 2, 3, 4, 5, 6, 7, 0] rfl ?_
  exact hr28 _ _ _ _ _ _ _ _ _ h
def fX11_worthBy_28 (r6 : Int32 → Int32 → Int32 → Int64 → Int32 → zS → Option (Int64 × zS)) : Nat → Int32 → Int32 → Int32 → Int64 → Int32 → Int32 → Int32 → zS → Option (Int64 × zS)
  | 0, _, _, _, _, _, _, _, _ => none
  | f + 1, x1, x2, x3, x4, x6, x7, x8, σ => aI σ 63 2 (iG σ 56 13) fun v5 => if v5 ≤ x8 then bnr (fX11_weightAt σ x2 x6) fun v6 => bnc (fX11_worthRow x1 x2 x7 σ) fun v10 σ8 => r6 x1 x2 x3 (x4 + (((v6 * v10) : Int32).toInt64)) (x6 + 1) σ8 else if x8 = x1 then fX11_worthBy_67 r6 (fX11_worthBy_28 r6 f) x1 x2 x3 x4 x6 x7 x8 x3 x7 x8 σ else aI σ 98 6 x8 fun v11 => fX11_worthBy_67 r6 (fX11_worthBy_28 r6 f) x1 x2 x3 x4 x6 x7 x8 v11 x7 x8 σ
theorem kX11_worthBy_28 {sc : Nat × (Nat → Int32)} (r6 : Int32 → Int32 → Int32 → Int64 → Int32 → zS → Option (Int64 × zS)) (hr6 : ∀ (x1 : Int32) (x2 : Int32) (x3 : Int32) (x4 : Int64) (x6 : Int32) (σ : zS) (w : Int64 × zS), r6 x1 x2 x3 x4 x6 σ = some w → zR (zY0 sc) 6 0 0 mX11_worthBy 6 [(0, .ref 56), (1, .int x1), (2, .int x2), (3, .int x3), (4, .long x4), (6, .int x6)] [] (zE σ) (some (.long w.1), zE w.2)) : ∀ (fuel : Nat) (x1 : Int32) (x2 : Int32) (x3 : Int32) (x4 : Int64) (x6 : Int32) (x7 : Int32) (x8 : Int32) (σ : zS) (w : Int64 × zS) (h : fX11_worthBy_28 r6 fuel x1 x2 x3 x4 x6 x7 x8 σ = some w), zR (zY0 sc) 6 0 0 mX11_worthBy 28 [(0, .ref 56), (1, .int x1), (2, .int x2), (3, .int x3), (4, .long x4), (6, .int x6), (7, .int x7), (8, .int x8)] [] (zE σ) (some (.long w.1), zE w.2) := by
  intro fuel
  induction fuel with
  | zero => intro x1 x2 x3 x4 x6 x7 x8 σ w h; exact nomatch h
  | succ f ih =>
    intro x1 x2 x3 x4 x6 x7 x8 σ w h
    rw [fX11_worthBy_28] at h
    refine kR.iload dX11_worthBy_28 7 rfl ?_
    refine kR.aload_n dX11_worthBy_30 0 rfl ?_
    refine kR.getR (v := 63) dX11_worthBy_31 flX11_69 zcf11 zp56 (Or.inr ⟨_, rfl⟩) rfl ?_
    refine kR.aload_n dX11_worthBy_34 0 rfl ?_
    refine kR.getI dX11_worthBy_35 flX11_51 zcf11 zp56 (Or.inl rfl) ?_
    refine kR.iald dX11_worthBy_38 zp63 rfl h (fun v5 h => ?_)
    refine kR.icmp_ge (tgt := 77) dX11_worthBy_39 (by decide) h (fun h => ?_) (fun h => ?_)
    · refine kR.lload dX11_worthBy_77 4 rfl ?_
      refine kR.aload_n dX11_worthBy_79 0 rfl ?_
      refine kR.iload_n dX11_worthBy_80 2 rfl ?_
      refine kR.iload dX11_worthBy_81 5 rfl ?_
      obtain ⟨v6, e7, h⟩ := bnr_some h
      refine kR.cVi [.int x2, .int x6] dX11_worthBy_83 rfl (by decide) mwX11_440 zp56 (by decide) rfl rfl (Nat.le_of_ble_eq_true rfl) (lX11_weightAt σ x2 x6 _ e7) ?_
      refine kR.aload_n dX11_worthBy_86 0 rfl ?_
      refine kR.iload_n dX11_worthBy_87 1 rfl ?_
      refine kR.iload_n dX11_worthBy_88 2 rfl ?_
      refine kR.iload dX11_worthBy_89 6 rfl ?_
      obtain ⟨v10, σ8, e9, h⟩ := bnc_some h
      refine kR.cVi [.int x1, .int x2, .int x7] dX11_worthBy_91 rfl (by decide) mwX11_516 zp56 (by decide) rfl rfl (Nat.le_of_ble_eq_true rfl) (lX11_worthRow x1 x2 x7 σ _ e9) ?_
      refine zR.imul dX11_worthBy_94 ?_
      refine zR.i2l dX11_worthBy_95 ?_
      refine zR.ladd dX11_worthBy_96 ?_
      refine zR.lstore (i := 4) (ls' := [(4, .long (x4 + (((v6 * v10) : Int32).toInt64))), (0, .ref 56), (1, .int x1), (2, .int x2), (3, .int x3), (6, .int x6), (7, .int x7), (8, .int x8)]) dX11_worthBy_97 (by decide) rfl ?_
      refine zR.iinc 5 (v := x6 + 1) (ls' := [(6, .int (x6 + 1)), (4, .long (x4 + (((v6 * v10) : Int32).toInt64))), (0, .ref 56), (1, .int x1), (2, .int x2), (3, .int x3), (7, .int x7), (8, .int x8)]) dX11_worthBy_99 rfl rfl (by decide) rfl ?_
      refine zR.goto (tgt := 6) dX11_worthBy_102 (by decide) ?_
      refine zR.sub [2, 3, 4, 5, 1, 0] rfl ?_
      exact hr6 _ _ _ _ _ _ _ h
    · refine kR.aload_n dX11_worthBy_42 0 rfl ?_
      refine kR.getR (v := 96) dX11_worthBy_43 flX11_216 zcf11 zp56 (Or.inr ⟨_, rfl⟩) rfl ?_
      refine kR.iload dX11_worthBy_46 7 rfl ?_
      refine kR.iload dX11_worthBy_48 6 rfl ?_
      refine kR.iload dX11_worthBy_50 7 rfl ?_
      refine kR.iload_n dX11_worthBy_52 1 rfl ?_
      refine kR.icmp_ne (tgt := 60) dX11_worthBy_53 (by decide) h (fun h => ?_) (fun h => ?_)
      · refine kR.aload_n dX11_worthBy_60 0 rfl ?_
        refine kR.getR (v := 98) dX11_worthBy_61 flX11_228 zcf11 zp56 (Or.inr ⟨_, rfl⟩) rfl ?_
        refine kR.iload dX11_worthBy_64 7 rfl ?_
        refine kR.iald dX11_worthBy_66 zp98 rfl h (fun v11 h => ?_)
        exact kX11_worthBy_67 r6 (fX11_worthBy_28 r6 f) hr6 ih _ _ _ _ _ _ _ _ _ _ _ _ h
      · refine kR.iload_n dX11_worthBy_56 3 rfl ?_
        refine zR.goto (tgt := 67) dX11_worthBy_57 (by decide) ?_
        exact kX11_worthBy_67 r6 (fX11_worthBy_28 r6 f) hr6 ih _ _ _ _ _ _ _ _ _ _ _ _ h
def fX11_worthBy_6 : Nat → Int32 → Int32 → Int32 → Int64 → Int32 → zS → Option (Int64 × zS)
  | 0, _, _, _, _, _, _ => none
  | f + 1, x1, x2, x3, x4, x6, σ => bnr (fX11_lengthsOf σ x2) fun v1 => if v1 ≤ x6 then some (x4, σ) else bnr (fX11_lengthAt σ x2 x6) fun v3 => fX11_worthBy_28 (fX11_worthBy_6 f) zF x1 x2 x3 x4 x6 v3 0 σ
theorem kX11_worthBy_6 {sc : Nat × (Nat → Int32)} : ∀ (fuel : Nat) (x1 : Int32) (x2 : Int32) (x3 : Int32) (x4 : Int64) (x6 : Int32) (σ : zS) (w : Int64 × zS) (h : fX11_worthBy_6 fuel x1 x2 x3 x4 x6 σ = some w), zR (zY0 sc) 6 0 0 mX11_worthBy 6 [(0, .ref 56), (1, .int x1), (2, .int x2), (3, .int x3), (4, .long x4), (6, .int x6)] [] (zE σ) (some (.long w.1), zE w.2) := by
  intro fuel
  induction fuel with
  | zero => intro x1 x2 x3 x4 x6 σ w h; exact nomatch h
  | succ f ih =>
    intro x1 x2 x3 x4 x6 σ w h
    rw [fX11_worthBy_6] at h
    refine kR.iload dX11_worthBy_6 5 rfl ?_
    refine kR.aload_n dX11_worthBy_8 0 rfl ?_
    refine kR.iload_n dX11_worthBy_9 2 rfl ?_
    obtain ⟨v1, e2, h⟩ := bnr_some h
    refine kR.cVi [.int x2] dX11_worthBy_10 rfl (by decide) mwX11_437 zp56 (by decide) rfl rfl (Nat.le_of_ble_eq_true rfl) (lX11_lengthsOf σ x2 _ e2) ?_
    refine kR.icmp_ge (tgt := 105) dX11_worthBy_13 (by decide) h (fun h => ?_) (fun h => ?_)
    · refine kR.lload dX11_worthBy_105 4 rfl ?_
      exact kR.lretW dX11_worthBy_107 h
    · refine kR.aload_n dX11_worthBy_16 0 rfl ?_
      refine kR.iload_n dX11_worthBy_17 2 rfl ?_
      refine kR.iload dX11_worthBy_18 5 rfl ?_
      obtain ⟨v3, e4, h⟩ := bnr_some h
      refine kR.cVi [.int x2, .int x6] dX11_worthBy_20 rfl (by decide) mwX11_503 zp56 (by decide) rfl rfl (Nat.le_of_ble_eq_true rfl) (lX11_lengthAt σ x2 x6 _ e4) ?_
      refine zR.istore (i := 7) (ls' := [(7, .int v3), (0, .ref 56), (1, .int x1), (2, .int x2), (3, .int x3), (4, .long x4), (6, .int x6)]) dX11_worthBy_23 (by decide) rfl ?_
      refine zR.iconst (v := 0) dX11_worthBy_25 (by decide) ?_
      refine zR.istore (i := 8) (ls' := [(8, .int 0), (7, .int v3), (0, .ref 56), (1, .int x1), (2, .int x2), (3, .int x3), (4, .long x4), (6, .int x6)]) dX11_worthBy_26 (by decide) rfl ?_
      refine zR.sub [2, 3, 4, 5, 6, 7, 1, 0] rfl ?_
      exact kX11_worthBy_28 (fX11_worthBy_6 f) ih zF _ _ _ _ _ _ _ _ _ h
def fX11_worthBy (p1 : Int32) (p2 : Int32) (p3 : Int32) (σ : zS) : Option (Int64 × zS) := fX11_worthBy_6 zF p1 p2 p3 0 0 σ
theorem eX11_worthBy {sc : Nat × (Nat → Int32)} (p1 : Int32) (p2 : Int32) (p3 : Int32) (σ : zS) (w : Int64 × zS) (h : fX11_worthBy p1 p2 p3 σ = some w) : zR (zY0 sc) 6 0 0 mX11_worthBy 0 [(0, .ref 56), (1, .int p1), (2, .int p2), (3, .int p3)] [] (zE σ) (some (.long w.1), zE w.2) := by
  unfold fX11_worthBy at h
  refine zR.lconst (v := 0) dX11_worthBy_0 (by decide) ?_
  refine zR.lstore (i := 4) (ls' := [(4, .long 0), (0, .ref 56), (1, .int p1), (2, .int p2), (3, .int p3)]) dX11_worthBy_1 (by decide) rfl ?_
  refine zR.iconst (v := 0) dX11_worthBy_3 (by decide) ?_
  refine zR.istore (i := 6) (ls' := [(6, .int 0), (4, .long 0), (0, .ref 56), (1, .int p1), (2, .int p2), (3, .int p3)]) dX11_worthBy_4 (by decide) rfl ?_
  refine zR.sub [2, 3, 4, 5, 1, 0] rfl ?_
  exact kX11_worthBy_6 zF _ _ _ _ _ _ _ h
theorem lX11_worthBy {sc : Nat × (Nat → Int32)} (p1 : Int32) (p2 : Int32) (p3 : Int32) (σ : zS) (w : Int64 × zS) (h : fX11_worthBy p1 p2 p3 σ = some w) : zC (zY0 sc) 6 0 0 mX11_worthBy [.ref 56, .int p1, .int p2, .int p3] (zE σ) (some (.long w.1), zE w.2) := zC.of (by decide +kernel) (Nat.le_of_ble_eq_true rfl) rfl (eX11_worthBy p1 p2 p3 σ w h)
theorem dX11_takes_0 : decode cX11_takes 0 = .ok (.aload_n 0, 1) := by decide +kernel
theorem dX11_takes_1 : decode cX11_takes 1 = .ok (.getfield 228, 3) := by decide +kernel
theorem dX11_takes_4 : decode cX11_takes 4 = .ok (.iload_n 1, 1) := by decide +kernel
theorem dX11_takes_5 : decode cX11_takes 5 = .ok (.iaload, 1) := by decide +kernel
theorem dX11_takes_6 : decode cX11_takes 6 = .ok (.istore_n 3, 1) := by decide +kernel
theorem dX11_takes_7 : decode cX11_takes 7 = .ok (.aload_n 0, 1) := by decide +kernel
theorem dX11_takes_8 : decode cX11_takes 8 = .ok (.iload_n 1, 1) := by decide +kernel
theorem dX11_takes_9 : decode cX11_takes 9 = .ok (.iload_n 2, 1) := by decide +kernel
theorem dX11_takes_10 : decode cX11_takes 10 = .ok (.iload_n 3, 1) := by decide +kernel
theorem dX11_takes_11 : decode cX11_takes 11 = .ok (.invokevirtual 539, 3) := by decide +kernel
theorem dX11_takes_14 : decode cX11_takes 14 = .ok (.lstore 4, 2) := by decide +kernel
theorem dX11_takes_16 : decode cX11_takes 16 = .ok (.iconst 0, 1) := by decide +kernel
theorem dX11_takes_17 : decode cX11_takes 17 = .ok (.istore 6, 2) := by decide +kernel
theorem dX11_takes_19 : decode cX11_takes 19 = .ok (.iload 6, 2) := by decide +kernel
theorem dX11_takes_21 : decode cX11_takes 21 = .ok (.aload_n 0, 1) := by decide +kernel
theorem dX11_takes_22 : decode cX11_takes 22 = .ok (.getfield 159, 3) := by decide +kernel
theorem dX11_takes_25 : decode cX11_takes 25 = .ok (.iload_n 1, 1) := by decide +kernel
theorem dX11_takes_26 : decode cX11_takes 26 = .ok (.iaload, 1) := by decide +kernel
theorem dX11_takes_27 : decode cX11_takes 27 = .ok (.if_icmp .gt 37, 3) := by decide +kernel
theorem dX11_takes_30 : decode cX11_takes 30 = .ok (.aload_n 0, 1) := by decide +kernel
theorem dX11_takes_31 : decode cX11_takes 31 = .ok (.iload_n 1, 1) := by decide +kernel
theorem dX11_takes_32 : decode cX11_takes 32 = .ok (.iload_n 2, 1) := by decide +kernel
theorem dX11_takes_33 : decode cX11_takes 33 = .ok (.iload 6, 2) := by decide +kernel
theorem dX11_takes_35 : decode cX11_takes 35 = .ok (.invokevirtual 539, 3) := by decide +kernel
theorem dX11_takes_38 : decode cX11_takes 38 = .ok (.lstore 7, 2) := by decide +kernel
theorem dX11_takes_40 : decode cX11_takes 40 = .ok (.lload 7, 2) := by decide +kernel
theorem dX11_takes_42 : decode cX11_takes 42 = .ok (.lload 4, 2) := by decide +kernel
theorem dX11_takes_44 : decode cX11_takes 44 = .ok (.lcmp, 1) := by decide +kernel
theorem dX11_takes_45 : decode cX11_takes 45 = .ok (.ifCond .gt 6, 3) := by decide +kernel
theorem dX11_takes_48 : decode cX11_takes 48 = .ok (.goto 10, 3) := by decide +kernel
theorem dX11_takes_51 : decode cX11_takes 51 = .ok (.lload 7, 2) := by decide +kernel
theorem dX11_takes_53 : decode cX11_takes 53 = .ok (.lstore 4, 2) := by decide +kernel
theorem dX11_takes_55 : decode cX11_takes 55 = .ok (.iload 6, 2) := by decide +kernel
theorem dX11_takes_57 : decode cX11_takes 57 = .ok (.istore_n 3, 1) := by decide +kernel
theorem dX11_takes_58 : decode cX11_takes 58 = .ok (.iinc 6 1, 3) := by decide +kernel
theorem dX11_takes_61 : decode cX11_takes 61 = .ok (.goto (-42), 3) := by decide +kernel
theorem dX11_takes_64 : decode cX11_takes 64 = .ok (.iload_n 3, 1) := by decide +kernel
theorem dX11_takes_65 : decode cX11_takes 65 = .ok (.aload_n 0, 1) := by decide +kernel
theorem dX11_takes_66 : decode cX11_takes 66 = .ok (.getfield 228, 3) := by decide +kernel
theorem dX11_takes_69 : decode cX11_takes 69 = .ok (.iload_n 1, 1) := by decide +kernel
theorem dX11_takes_70 : decode cX11_takes 70 = .ok (.iaload, 1) := by decide +kernel
theorem dX11_takes_71 : decode cX11_takes 71 = .ok (.if_icmp .eq 7, 3) := by decide +kernel
theorem dX11_takes_74 : decode cX11_takes 74 = .ok (.iconst 1, 1) := by decide +kernel
theorem dX11_takes_75 : decode cX11_takes 75 = .ok (.goto 4, 3) := by decide +kernel
theorem dX11_takes_78 : decode cX11_takes 78 = .ok (.iconst 0, 1) := by decide +kernel
theorem dX11_takes_79 : decode cX11_takes 79 = .ok (.istore 6, 2) := by decide +kernel
theorem dX11_takes_81 : decode cX11_takes 81 = .ok (.aload_n 0, 1) := by decide +kernel
theorem dX11_takes_82 : decode cX11_takes 82 = .ok (.getfield 228, 3) := by decide +kernel
theorem dX11_takes_85 : decode cX11_takes 85 = .ok (.iload_n 1, 1) := by decide +kernel
theorem dX11_takes_86 : decode cX11_takes 86 = .ok (.iload_n 3, 1) := by decide +kernel
theorem dX11_takes_87 : decode cX11_takes 87 = .ok (.iastore, 1) := by decide +kernel
theorem dX11_takes_88 : decode cX11_takes 88 = .ok (.iload 6, 2) := by decide +kernel
theorem dX11_takes_90 : decode cX11_takes 90 = .ok (.ireturn, 1) := by decide +kernel
def fX11_takes_79 (x1 : Int32) (x3 : Int32) (s0 : Int32) (σ : zS) : Option (Int32 × zS) := wI σ 98 6 x1 x3 fun σ7 => gd (s0 = 0 ∨ s0 = 1) (some (s0, σ7))
theorem kX11_takes_79 {sc : Nat × (Nat → Int32)} (x1 : Int32) (x3 : Int32) (s0 : Int32) (σ : zS) (w : Int32 × zS) (h : fX11_takes_79 x1 x3 s0 σ = some w) : zR (zY0 sc) 7 0 0 mX11_takes 79 [(0, .ref 56), (1, .int x1), (3, .int x3)] [.int s0] (zE σ) (some (.int w.1), zE w.2) := by
  unfold fX11_takes_79 at h
  refine zR.istore (i := 6) (ls' := [(6, .int s0), (0, .ref 56), (1, .int x1), (3, .int x3)]) dX11_takes_79 (by decide) rfl ?_
  refine kR.aload_n dX11_takes_81 1 rfl ?_
  refine kR.getR (v := 98) dX11_takes_82 flX11_228 zcf11 zp56 (Or.inr ⟨_, rfl⟩) rfl ?_
  refine kR.iload_n dX11_takes_85 2 rfl ?_
  refine kR.iload_n dX11_takes_86 3 rfl ?_
  refine kR.iast dX11_takes_87 zp98 rfl h (fun σ7 h => ?_)
  refine kR.iload dX11_takes_88 0 rfl ?_
  obtain ⟨gz, h⟩ := kR.guard h
  exact kR.iretW dX11_takes_90 (nzZ rfl gz) h
def fX11_takes_58 (r19 : Int32 → Int32 → Int32 → Int64 → Int32 → zS → Option (Int32 × zS)) (x1 : Int32) (x2 : Int32) (x3 : Int32) (x4 : Int64) (x6 : Int32) (σ : zS) : Option (Int32 × zS) := r19 x1 x2 x3 x4 (x6 + 1) σ
theorem kX11_takes_58 {sc : Nat × (Nat → Int32)} (r19 : Int32 → Int32 → Int32 → Int64 → Int32 → zS → Option (Int32 × zS)) (hr19 : ∀ (x1 : Int32) (x2 : Int32) (x3 : Int32) (x4 : Int64) (x6 : Int32) (σ : zS) (w : Int32 × zS), r19 x1 x2 x3 x4 x6 σ = some w → zR (zY0 sc) 7 0 0 mX11_takes 19 [(0, .ref 56), (1, .int x1), (2, .int x2), (3, .int x3), (4, .long x4), (6, .int x6)] [] (zE σ) (some (.int w.1), zE w.2)) (x1 : Int32) (x2 : Int32) (x3 : Int32) (x4 : Int64) (x6 : Int32) (σ : zS) (w : Int32 × zS) (h : fX11_takes_58 r19 x1 x2 x3 x4 x6 σ = some w) : zR (zY0 sc) 7 0 0 mX11_takes 58 [(0, .ref 56), (1, .int x1), (2, .int x2), (3, .int x3), (4, .long x4), (6, .int x6)] [] (zE σ) (some (.int w.1), zE w.2) := by
  unfold fX11_takes_58 at h
  refine zR.iinc 5 (v := x6 + 1) (ls' := [(6, .int (x6 + 1)), (0, .ref 56), (1, .int x1), (2, .int x2), (3, .int x3), (4, .long x4)]) dX11_takes_58 rfl rfl (by decide) rfl ?_
  refine zR.goto (tgt := 19) dX11_takes_61 (by decide) ?_
  refine zR.sub [1, 2, 3, 4, 5, 0] rfl ?_
  exact hr19 _ _ _ _ _ _ _ h
def fX11_takes_19 : Nat → Int32 → Int32 → Int32 → Int64 → Int32 → zS → Option (Int32 × zS)
  | 0, _, _, _, _, _, _ => none
  | f + 1, x1, x2, x3, x4, x6, σ => aI σ 86 132 x1 fun v5 => if v5 < x6 then aI σ 98 6 x1 fun v6 => if x3 = v6 then fX11_takes_79 x1 x3 0 σ else fX11_takes_79 x1 x3 1 σ else bnc (fX11_worthBy x1 x2 x6 σ) fun v10 σ8 => if x4 < v10 then fX11_takes_58 (fX11_takes_19 f) x1 x2 x6 v10 x6 σ8 else fX11_takes_58 (fX11_takes_19 f) x1 x2 x3 x4 x6 σ8
theorem kX11_takes_19 {sc : Nat × (Nat → Int32)} : ∀ (fuel : Nat) (x1 : Int32) (x2 : Int32) (x3 : Int32) (x4 : Int64) (x6 : Int32) (σ : zS) (w : Int32 × zS) (h : fX11_takes_19 fuel x1 x2 x3 x4 x6 σ = some w), zR (zY0 sc) 7 0 0 mX11_takes 19 [(0, .ref 56), (1, .int x1), (2, .int x2), (3, .int x3), (4, .long x4), (6, .int x6)] [] (zE σ) (some (.int w.1), zE w.2) := by
  intro fuel
  induction fuel with
  | zero => intro x1 x2 x3 x4 x6 σ w h; exact nomatch h
  | succ f ih =>
    intro x1 x2 x3 x4 x6 σ w h
    rw [fX11_takes_19] at h
    refine kR.iload dX11_takes_19 5 rfl ?_
    refine kR.aload_n dX11_takes_21 0 rfl ?_
    refine kR.getR (v := 86) dX11_takes_22 flX11_159 zcf11 zp56 (Or.inr ⟨_, rfl⟩) rfl ?_
    refine kR.iload_n dX11_takes_25 1 rfl ?_
    refine kR.iald dX11_takes_26 zp86 rfl h (fun v5 h => ?_)
    refine kR.icmp_gt (tgt := 64) dX11_takes_27 (by decide) h (fun h => ?_) (fun h => ?_)
    · refine kR.iload_n dX11_takes_64 3 rfl ?_
      refine kR.aload_n dX11_takes_65 0 rfl ?_
      refine kR.getR (v := 98) dX11_takes_66 flX11_228 zcf11 zp56 (Or.inr ⟨_, rfl⟩) rfl ?_
      refine kR.iload_n dX11_takes_69 1 rfl ?_
      refine kR.iald dX11_takes_70 zp98 rfl h (fun v6 h => ?_)
      refine kR.icmp_eq (tgt := 78) dX11_takes_71 (by decide) h (fun h => ?_) (fun h => ?_)
      · refine zR.iconst (v := 0) dX11_takes_78 (by decide) ?_
        refine zR.sub [0, 1, 3] rfl ?_
        exact kX11_takes_79 _ _ _ _ _ h
      · refine zR.iconst (v := 1) dX11_takes_74 (by decide) ?_
        refine zR.goto (tgt := 79) dX11_takes_75 (by decide) ?_
        refine zR.sub [0, 1, 3] rfl ?_
        exact kX11_takes_79 _ _ _ _ _ h
    · refine kR.aload_n dX11_takes_30 0 rfl ?_
      refine kR.iload_n dX11_takes_31 1 rfl ?_
      refine kR.iload_n dX11_takes_32 2 rfl ?_
      refine kR.iload dX11_takes_33 5 rfl ?_
      obtain ⟨v10, σ8, e9, h⟩ := bnc_some h
      refine kR.cVl [.int x1, .int x2, .int x6] dX11_takes_35 rfl (by decide) mwX11_539 zp56 (by decide) rfl rfl (Nat.le_of_ble_eq_true rfl) (lX11_worthBy x1 x2 x6 σ _ e9) ?_
      refine zR.lstore (i := 7) (ls' := [(7, .long v10), (0, .ref 56), (1, .int x1), (2, .int x2), (3, .int x3), (4, .long x4), (6, .int x6)]) dX11_takes_38 (by decide) rfl ?_
      refine kR.lload dX11_takes_40 0 rfl ?_
      refine kR.lload dX11_takes_42 5 rfl ?_
      refine kR.lcmp_gt (tgt := 51) dX11_takes_44 dX11_takes_45 (by decide) h (fun h => ?_) (fun h => ?_)
      · refine kR.lload dX11_takes_51 0 rfl ?_
        refine zR.lstore (i := 4) (ls' := [(4, .long v10), (7, .long v10), (0, .ref 56), (1, .int x1), (2, .int x2), (3, .int x3), (6, .int x6)]) dX11_takes_53 (by decide) rfl ?_
        refine kR.iload dX11_takes_55 6 rfl ?_
        refine zR.istore_n (i := 3) (ls' := [(3, .int x6), (4, .long v10), (7, .long v10), (0, .ref 56), (1, .int x1), (2, .int x2), (6, .int x6)]) dX11_takes_57 rfl (by decide) rfl ?_
        refine zR.sub [3, 4, 5, 0, 1, 6] rfl ?_
        exact kX11_takes_58 (fX11_takes_19 f) ih _ _ _ _ _ _ _ h
      · refine zR.goto (tgt := 58) dX11_takes_48 (by decide) ?_
        refine zR.sub [1, 2, 3, 4, 5, 6] rfl ?_
        exact kX11_takes_58 (fX11_takes_19 f) ih _ _ _ _ _ _ _ h
def fX11_takes (p1 : Int32) (p2 : Int32) (σ : zS) : Option (Int32 × zS) := aI σ 98 6 p1 fun v1 => bnc (fX11_worthBy p1 p2 v1 σ) fun v4 σ2 => fX11_takes_19 zF p1 p2 v1 v4 0 σ2
theorem eX11_takes {sc : Nat × (Nat → Int32)} (p1 : Int32) (p2 : Int32) (σ : zS) (w : Int32 × zS) (h : fX11_takes p1 p2 σ = some w) : zR (zY0 sc) 7 0 0 mX11_takes 0 [(0, .ref 56), (1, .int p1), (2, .int p2)] [] (zE σ) (some (.int w.1), zE w.2) := by
  unfold fX11_takes at h
  refine kR.aload_n dX11_takes_0 0 rfl ?_
  refine kR.getR (v := 98) dX11_takes_1 flX11_228 zcf11 zp56 (Or.inr ⟨_, rfl⟩) rfl ?_
  refine kR.iload_n dX11_takes_4 1 rfl ?_
  refine kR.iald dX11_takes_5 zp98 rfl h (fun v1 h => ?_)
  refine zR.istore_n (i := 3) (ls' := [(3, .int v1), (0, .ref 56), (1, .int p1), (2, .int p2)]) dX11_takes_6 rfl (by decide) rfl ?_
  refine kR.aload_n dX11_takes_7 1 rfl ?_
  refine kR.iload_n dX11_takes_8 2 rfl ?_
  refine kR.iload_n dX11_takes_9 3 rfl ?_
  refine kR.iload_n dX11_takes_10 0 rfl ?_
  obtain ⟨v4, σ2, e3, h⟩ := bnc_some h
  refine kR.cVl [.int p1, .int p2, .int v1] dX11_takes_11 rfl (by decide) mwX11_539 zp56 (by decide) rfl rfl (Nat.le_of_ble_eq_true rfl) (lX11_worthBy p1 p2 v1 σ _ e3) ?_
  refine zR.lstore (i := 4) (ls' := [(4, .long v4), (3, .int v1), (0, .ref 56), (1, .int p1), (2, .int p2)]) dX11_takes_14 (by decide) rfl ?_
  refine zR.iconst (v := 0) dX11_takes_16 (by decide) ?_
  refine zR.istore (i := 6) (ls' := [(6, .int 0), (4, .long v4), (3, .int v1), (0, .ref 56), (1, .int p1), (2, .int p2)]) dX11_takes_17 (by decide) rfl ?_
  refine zR.sub [3, 4, 5, 2, 1, 0] rfl ?_
  exact kX11_takes_19 zF _ _ _ _ _ _ _ h
theorem lX11_takes {sc : Nat × (Nat → Int32)} (p1 : Int32) (p2 : Int32) (σ : zS) (w : Int32 × zS) (h : fX11_takes p1 p2 σ = some w) : zC (zY0 sc) 7 0 0 mX11_takes [.ref 56, .int p1, .int p2] (zE σ) (some (.int w.1), zE w.2) := zC.of (by decide +kernel) (Nat.le_of_ble_eq_true rfl) ⟨_, rfl⟩ (eX11_takes p1 p2 σ w h)
theorem dX11_rest_0 : decode cX11_rest 0 = .ok (.aload_n 0, 1) := by decide +kernel
theorem dX11_rest_1 : decode cX11_rest 1 = .ok (.iload_n 1, 1) := by decide +kernel
theorem dX11_rest_2 : decode cX11_rest 2 = .ok (.invokevirtual 497, 3) := by decide +kernel
theorem dX11_rest_5 : decode cX11_rest 5 = .ok (.ifCond .eq 16, 3) := by decide +kernel
theorem dX11_rest_8 : decode cX11_rest 8 = .ok (.iload_n 2, 1) := by decide +kernel
theorem dX11_rest_9 : decode cX11_rest 9 = .ok (.iconst (-1), 1) := by decide +kernel
theorem dX11_rest_10 : decode cX11_rest 10 = .ok (.if_icmp .eq 13, 3) := by decide +kernel
theorem dX11_rest_13 : decode cX11_rest 13 = .ok (.aload_n 0, 1) := by decide +kernel
theorem dX11_rest_14 : decode cX11_rest 14 = .ok (.iload_n 2, 1) := by decide +kernel
theorem dX11_rest_15 : decode cX11_rest 15 = .ok (.invokevirtual 506, 3) := by decide +kernel
theorem dX11_rest_18 : decode cX11_rest 18 = .ok (.ifCond .ne 5, 3) := by decide +kernel
theorem dX11_rest_21 : decode cX11_rest 21 = .ok (.iconst (-1), 1) := by decide +kernel
theorem dX11_rest_22 : decode cX11_rest 22 = .ok (.ireturn, 1) := by decide +kernel
theorem dX11_rest_23 : decode cX11_rest 23 = .ok (.iconst 0, 1) := by decide +kernel
theorem dX11_rest_24 : decode cX11_rest 24 = .ok (.istore_n 3, 1) := by decide +kernel
theorem dX11_rest_25 : decode cX11_rest 25 = .ok (.iload_n 3, 1) := by decide +kernel
theorem dX11_rest_26 : decode cX11_rest 26 = .ok (.bipush 6, 2) := by decide +kernel
theorem dX11_rest_28 : decode cX11_rest 28 = .ok (.if_icmp .ge 21, 3) := by decide +kernel
theorem dX11_rest_31 : decode cX11_rest 31 = .ok (.aload_n 0, 1) := by decide +kernel
theorem dX11_rest_32 : decode cX11_rest 32 = .ok (.getfield 228, 3) := by decide +kernel
theorem dX11_rest_35 : decode cX11_rest 35 = .ok (.iload_n 3, 1) := by decide +kernel
theorem dX11_rest_36 : decode cX11_rest 36 = .ok (.aload_n 0, 1) := by decide +kernel
theorem dX11_rest_37 : decode cX11_rest 37 = .ok (.getfield 159, 3) := by decide +kernel
theorem dX11_rest_40 : decode cX11_rest 40 = .ok (.iload_n 3, 1) := by decide +kernel
theorem dX11_rest_41 : decode cX11_rest 41 = .ok (.iaload, 1) := by decide +kernel
theorem dX11_rest_42 : decode cX11_rest 42 = .ok (.iastore, 1) := by decide +kernel
theorem dX11_rest_43 : decode cX11_rest 43 = .ok (.iinc 3 1, 3) := by decide +kernel
theorem dX11_rest_46 : decode cX11_rest 46 = .ok (.goto (-21), 3) := by decide +kernel
theorem dX11_rest_49 : decode cX11_rest 49 = .ok (.iconst 0, 1) := by decide +kernel
theorem dX11_rest_50 : decode cX11_rest 50 = .ok (.istore_n 3, 1) := by decide +kernel
theorem dX11_rest_51 : decode cX11_rest 51 = .ok (.iconst 1, 1) := by decide +kernel
theorem dX11_rest_52 : decode cX11_rest 52 = .ok (.istore 4, 2) := by decide +kernel
theorem dX11_rest_54 : decode cX11_rest 54 = .ok (.iload 4, 2) := by decide +kernel
theorem dX11_rest_56 : decode cX11_rest 56 = .ok (.ifCond .eq 63, 3) := by decide +kernel
theorem dX11_rest_59 : decode cX11_rest 59 = .ok (.iload_n 3, 1) := by decide +kernel
theorem dX11_rest_60 : decode cX11_rest 60 = .ok (.bipush 12, 2) := by decide +kernel
theorem dX11_rest_62 : decode cX11_rest 62 = .ok (.if_icmp .ge 57, 3) := by decide +kernel
theorem dX11_rest_65 : decode cX11_rest 65 = .ok (.iinc 3 1, 3) := by decide +kernel
theorem dX11_rest_68 : decode cX11_rest 68 = .ok (.iconst 0, 1) := by decide +kernel
theorem dX11_rest_69 : decode cX11_rest 69 = .ok (.istore 4, 2) := by decide +kernel
theorem dX11_rest_71 : decode cX11_rest 71 = .ok (.iconst 0, 1) := by decide +kernel
theorem dX11_rest_72 : decode cX11_rest 72 = .ok (.istore 5, 2) := by decide +kernel
theorem dX11_rest_74 : decode cX11_rest 74 = .ok (.iload 5, 2) := by decide +kernel
theorem dX11_rest_76 : decode cX11_rest 76 = .ok (.aload_n 0, 1) := by decide +kernel
theorem dX11_rest_77 : decode cX11_rest 77 = .ok (.getfield 69, 3) := by decide +kernel
theorem dX11_rest_80 : decode cX11_rest 80 = .ok (.aload_n 0, 1) := by decide +kernel
theorem dX11_rest_81 : decode cX11_rest 81 = .ok (.getfield 51, 3) := by decide +kernel
theorem dX11_rest_84 : decode cX11_rest 84 = .ok (.iaload, 1) := by decide +kernel
theorem dX11_rest_85 : decode cX11_rest 85 = .ok (.if_icmp .ge 31, 3) := by decide +kernel
theorem dX11_rest_88 : decode cX11_rest 88 = .ok (.aload_n 0, 1) := by decide +kernel
theorem dX11_rest_89 : decode cX11_rest 89 = .ok (.iload 5, 2) := by decide +kernel
theorem dX11_rest_91 : decode cX11_rest 91 = .ok (.iload_n 1, 1) := by decide +kernel
theorem dX11_rest_92 : decode cX11_rest 92 = .ok (.invokevirtual 542, 3) := by decide +kernel
theorem dX11_rest_95 : decode cX11_rest 95 = .ok (.ifCond .ne 8, 3) := by decide +kernel
theorem dX11_rest_98 : decode cX11_rest 98 = .ok (.iload 4, 2) := by decide +kernel
theorem dX11_rest_100 : decode cX11_rest 100 = .ok (.ifCond .eq 7, 3) := by decide +kernel
theorem dX11_rest_103 : decode cX11_rest 103 = .ok (.iconst 1, 1) := by decide +kernel
theorem dX11_rest_104 : decode cX11_rest 104 = .ok (.goto 4, 3) := by decide +kernel
theorem dX11_rest_107 : decode cX11_rest 107 = .ok (.iconst 0, 1) := by decide +kernel
theorem dX11_rest_108 : decode cX11_rest 108 = .ok (.istore 4, 2) := by decide +kernel
theorem dX11_rest_110 : decode cX11_rest 110 = .ok (.iinc 5 1, 3) := by decide +kernel
theorem dX11_rest_113 : decode cX11_rest 113 = .ok (.goto (-39), 3) := by decide +kernel
theorem dX11_rest_116 : decode cX11_rest 116 = .ok (.goto (-62), 3) := by decide +kernel
theorem dX11_rest_119 : decode cX11_rest 119 = .ok (.iload_n 2, 1) := by decide +kernel
theorem dX11_rest_120 : decode cX11_rest 120 = .ok (.iconst (-1), 1) := by decide +kernel
theorem dX11_rest_121 : decode cX11_rest 121 = .ok (.if_icmp .ne 17, 3) := by decide +kernel
theorem dX11_rest_124 : decode cX11_rest 124 = .ok (.iload 4, 2) := by decide +kernel
theorem dX11_rest_126 : decode cX11_rest 126 = .ok (.ifCond .eq 8, 3) := by decide +kernel
theorem dX11_rest_129 : decode cX11_rest 129 = .ok (.bipush 13, 2) := by decide +kernel
theorem dX11_rest_131 : decode cX11_rest 131 = .ok (.goto 13, 3) := by decide +kernel
theorem dX11_rest_134 : decode cX11_rest 134 = .ok (.iload_n 3, 1) := by decide +kernel
theorem dX11_rest_135 : decode cX11_rest 135 = .ok (.goto 9, 3) := by decide +kernel
theorem dX11_rest_138 : decode cX11_rest 138 = .ok (.aload_n 0, 1) := by decide +kernel
theorem dX11_rest_139 : decode cX11_rest 139 = .ok (.getfield 228, 3) := by decide +kernel
theorem dX11_rest_142 : decode cX11_rest 142 = .ok (.iload_n 2, 1) := by decide +kernel
theorem dX11_rest_143 : decode cX11_rest 143 = .ok (.iaload, 1) := by decide +kernel
theorem dX11_rest_144 : decode cX11_rest 144 = .ok (.ireturn, 1) := by decide +kernel
def fX11_rest_119 (x2 : Int32) (x3 : Int32) (x4 : Int32) (σ : zS) : Option (Int32 × zS) := if x2 = ((-1)) then if x4 = 0 then some (x3, σ) else some (13, σ) else aI σ 98 6 x2 fun v3 => some (v3, σ)
theorem kX11_rest_119 {sc : Nat × (Nat → Int32)} (x2 : Int32) (x3 : Int32) (x4 : Int32) (σ : zS) (w : Int32 × zS) (h : fX11_rest_119 x2 x3 x4 σ = some w) : zR (zY0 sc) 8 0 0 mX11_rest 119 [(0, .ref 56), (2, .int x2), (3, .int x3), (4, .int x4)] [] (zE σ) (some (.int w.1), zE w.2) := by
  unfold fX11_rest_119 at h
  refine kR.iload_n dX11_rest_119 1 rfl ?_
  refine zR.iconst (v := (-1)) dX11_rest_120 (by decide) ?_
  refine kR.icmp_ne (tgt := 138) dX11_rest_121 (by decide) h (fun h => ?_) (fun h => ?_)
  · refine kR.aload_n dX11_rest_138 0 rfl ?_
    refine kR.getR (v := 98) dX11_rest_139 flX11_228 zcf11 zp56 (Or.inr ⟨_, rfl⟩) rfl ?_
    refine kR.iload_n dX11_rest_142 1 rfl ?_
    refine kR.iald dX11_rest_143 zp98 rfl h (fun v3 h => ?_)
    exact kR.iretW dX11_rest_144 (nzI rfl _) h
  · refine kR.iload dX11_rest_124 3 rfl ?_
    refine kR.if_eq (tgt := 134) dX11_rest_126 (by decide) h (fun h => ?_) (fun h => ?_)
    · refine kR.iload_n dX11_rest_134 2 rfl ?_
      refine zR.goto (tgt := 144) dX11_rest_135 (by decide) ?_
      exact kR.iretW dX11_rest_144 (nzI rfl _) h
    · refine zR.bipush (v := 13) dX11_rest_129 (by decide) ?_
      refine zR.goto (tgt := 144) dX11_rest_131 (by decide) ?_
      exact kR.iretW dX11_rest_144 (nzI rfl _) h
def fX11_rest_108 (r54 : Int32 → Int32 → Int32 → Int32 → zS → Option (Int32 × zS)) (r74 : Int32 → Int32 → Int32 → Int32 → Int32 → zS → Option (Int32 × zS)) (x1 : Int32) (x2 : Int32) (x3 : Int32) (x5 : Int32) (s0 : Int32) (σ : zS) : Option (Int32 × zS) := r74 x1 x2 x3 s0 (x5 + 1) σ
theorem kX11_rest_108 {sc : Nat × (Nat → Int32)} (r54 : Int32 → Int32 → Int32 → Int32 → zS → Option (Int32 × zS)) (r74 : Int32 → Int32 → Int32 → Int32 → Int32 → zS → Option (Int32 × zS)) (hr54 : ∀ (x1 : Int32) (x2 : Int32) (x3 : Int32) (x4 : Int32) (σ : zS) (w : Int32 × zS), r54 x1 x2 x3 x4 σ = some w → zR (zY0 sc) 8 0 0 mX11_rest 54 [(0, .ref 56), (1, .int x1), (2, .int x2), (3, .int x3), (4, .int x4)] [] (zE σ) (some (.int w.1), zE w.2)) (hr74 : ∀ (x1 : Int32) (x2 : Int32) (x3 : Int32) (x4 : Int32) (x5 : Int32) (σ : zS) (w : Int32 × zS), r74 x1 x2 x3 x4 x5 σ = some w → zR (zY0 sc) 8 0 0 mX11_rest 74 [(0, .ref 56), (1, .int x1), (2, .int x2), (3, .int x3), (4, .int x4), (5, .int x5)] [] (zE σ) (some (.int w.1), zE w.2)) (x1 : Int32) (x2 : Int32) (x3 : Int32) (x5 : Int32) (s0 : Int32) (σ : zS) (w : Int32 × zS) (h : fX11_rest_108 r54 r74 x1 x2 x3 x5 s0 σ = some w) : zR (zY0 sc) 8 0 0 mX11_rest 108 [(0, .ref 56), (1, .int x1), (2, .int x2), (3, .int x3), (5, .int x5)] [.int s0] (zE σ) (some (.int w.1), zE w.2) := by
  unfold fX11_rest_108 at h
  refine zR.istore (i := 4) (ls' := [(4, .int s0), (0, .ref 56), (1, .int x1), (2, .int x2), (3, .int x3), (5, .int x5)]) dX11_rest_108 (by decide) rfl ?_
  refine zR.iinc 5 (v := x5 + 1) (ls' := [(5, .int (x5 + 1)), (4, .int s0), (0, .ref 56), (1, .int x1), (2, .int x2), (3, .int x3)]) dX11_rest_110 rfl rfl (by decide) rfl ?_
  refine zR.goto (tgt := 74) dX11_rest_113 (by decide) ?_
  refine zR.sub [2, 3, 4, 5, 1, 0] rfl ?_
  exact hr74 _ _ _ _ _ _ _ h
def fX11_rest_103 (r54 : Int32 → Int32 → Int32 → Int32 → zS → Option (Int32 × zS)) (r74 : Int32 → Int32 → Int32 → Int32 → Int32 → zS → Option (Int32 × zS)) (x1 : Int32) (x2 : Int32) (x3 : Int32) (x5 : Int32) (σ : zS) : Option (Int32 × zS) := fX11_rest_108 r54 r74 x1 x2 x3 x5 1 σ
theorem kX11_rest_103 {sc : Nat × (Nat → Int32)} (r54 : Int32 → Int32 → Int32 → Int32 → zS → Option (Int32 × zS)) (r74 : Int32 → Int32 → Int32 → Int32 → Int32 → zS → Option (Int32 × zS)) (hr54 : ∀ (x1 : Int32) (x2 : Int32) (x3 : Int32) (x4 : Int32) (σ : zS) (w : Int32 × zS), r54 x1 x2 x3 x4 σ = some w → zR (zY0 sc) 8 0 0 mX11_rest 54 [(0, .ref 56), (1, .int x1), (2, .int x2), (3, .int x3), (4, .int x4)] [] (zE σ) (some (.int w.1), zE w.2)) (hr74 : ∀ (x1 : Int32) (x2 : Int32) (x3 : Int32) (x4 : Int32) (x5 : Int32) (σ : zS) (w : Int32 × zS), r74 x1 x2 x3 x4 x5 σ = some w → zR (zY0 sc) 8 0 0 mX11_rest 74 [(0, .ref 56), (1, .int x1), (2, .int x2), (3, .int x3), (4, .int x4), (5, .int x5)] [] (zE σ) (some (.int w.1), zE w.2)) (x1 : Int32) (x2 : Int32) (x3 : Int32) (x5 : Int32) (σ : zS) (w : Int32 × zS) (h : fX11_rest_103 r54 r74 x1 x2 x3 x5 σ = some w) : zR (zY0 sc) 8 0 0 mX11_rest 103 [(0, .ref 56), (1, .int x1), (2, .int x2), (3, .int x3), (5, .int x5)] [] (zE σ) (some (.int w.1), zE w.2) := by
  unfold fX11_rest_103 at h
  refine zR.iconst (v := 1) dX11_rest_103 (by decide) ?_
  refine zR.goto (tgt := 108) dX11_rest_104 (by decide) ?_
  exact kX11_rest_108 r54 r74 hr54 hr74 _ _ _ _ _ _ _ h
def fX11_rest_74 (r54 : Int32 → Int32 → Int32 → Int32 → zS → Option (Int32 × zS)) : Nat → Int32 → Int32 → Int32 → Int32 → Int32 → zS → Option (Int32 × zS)
  | 0, _, _, _, _, _, _ => none
  | f + 1, x1, x2, x3, x4, x5, σ => aI σ 63 2 (iG σ 56 13) fun v4 => if v4 ≤ x5 then r54 x1 x2 x3 x4 σ else bnc (fX11_takes x5 x1 σ) fun v7 σ5 => if v7 = 0 then if x4 = 0 then fX11_rest_108 r54 (fX11_rest_74 r54 f) x1 x2 x3 x5 0 σ5 else fX11_rest_103 r54 (fX11_rest_74 r54 f) x1 x2 x3 x5 σ5 else fX11_rest_103 r54 (fX11_rest_74 r54 f) x1 x2 x3 x5 σ5
theorem kX11_rest_74 {sc : Nat × (Nat → Int32)} (r54 : Int32 → Int32 → Int32 → Int32 → zS → Option (Int32 × zS)) (hr54 : ∀ (x1 : Int32) (x2 : Int32) (x3 : Int32) (x4 : Int32) (σ : zS) (w : Int32 × zS), r54 x1 x2 x3 x4 σ = some w → zR (zY0 sc) 8 0 0 mX11_rest 54 [(0, .ref 56), (1, .int x1), (2, .int x2), (3, .int x3), (4, .int x4)] [] (zE σ) (some (.int w.1), zE w.2)) : ∀ (fuel : Nat) (x1 : Int32) (x2 : Int32) (x3 : Int32) (x4 : Int32) (x5 : Int32) (σ : zS) (w : Int32 × zS) (h : fX11_rest_74 r54 fuel x1 x2 x3 x4 x5 σ = some w), zR (zY0 sc) 8 0 0 mX11_rest 74 [(0, .ref 56), (1, .int x1), (2, .int x2), (3, .int x3), (4, .int x4), (5, .int x5)] [] (zE σ) (some (.int w.1), zE w.2) := by
  intro fuel
  induction fuel with
  | zero => intro x1 x2 x3 x4 x5 σ w h; exact nomatch h
  | succ f ih =>
    intro x1 x2 x3 x4 x5 σ w h
    rw [fX11_rest_74] at h
    refine kR.iload dX11_rest_74 5 rfl ?_
    refine kR.aload_n dX11_rest_76 0 rfl ?_
    refine kR.getR (v := 63) dX11_rest_77 flX11_69 zcf11 zp56 (Or.inr ⟨_, rfl⟩) rfl ?_
    refine kR.aload_n dX11_rest_80 0 rfl ?_
    refine kR.getI dX11_rest_81 flX11_51 zcf11 zp56 (Or.inl rfl) ?_
    refine kR.iald dX11_rest_84 zp63 rfl h (fun v4 h => ?_)
    refine kR.icmp_ge (tgt := 116) dX11_rest_85 (by decide) h (fun h => ?_) (fun h => ?_)
    · refine zR.goto (tgt := 54) dX11_rest_116 (by decide) ?_
      refine zR.sub [0, 1, 2, 3, 4] rfl ?_
      exact hr54 _ _ _ _ _ _ h
    · refine kR.aload_n dX11_rest_88 0 rfl ?_
      refine kR.iload dX11_rest_89 5 rfl ?_
      refine kR.iload_n dX11_rest_91 1 rfl ?_
      obtain ⟨v7, σ5, e6, h⟩ := bnc_some h
      refine kR.cVi [.int x5, .int x1] dX11_rest_92 rfl (by decide) mwX11_542 zp56 (by decide) rfl rfl (Nat.le_of_ble_eq_true rfl) (lX11_takes x5 x1 σ _ e6) ?_
      refine kR.if_ne (tgt := 103) dX11_rest_95 (by decide) h (fun h => ?_) (fun h => ?_)
      · refine zR.sub [0, 1, 2, 3, 5] rfl ?_
        exact kX11_rest_103 r54 (fX11_rest_74 r54 f) hr54 ih _ _ _ _ _ _ h
      · refine kR.iload dX11_rest_98 4 rfl ?_
        refine kR.if_eq (tgt := 107) dX11_rest_100 (by decide) h (fun h => ?_) (fun h => ?_)
        · refine zR.iconst (v := 0) dX11_rest_107 (by decide) ?_
          refine zR.sub [0, 1, 2, 3, 5] rfl ?_
          exact kX11_rest_108 r54 (fX11_rest_74 r54 f) hr54 ih _ _ _ _ _ _ _ h
        · refine zR.sub [0, 1, 2, 3, 5] rfl ?_
          exact kX11_rest_103 r54 (fX11_rest_74 r54 f) hr54 ih _ _ _ _ _ _ h
def fX11_rest_54 : Nat → Int32 → Int32 → Int32 → Int32 → zS → Option (Int32 × zS)
  | 0, _, _, _, _, _ => none
  | f + 1, x1, x2, x3, x4, σ => if x4 = 0 then fX11_rest_119 x2 x3 x4 σ else if 12 ≤ x3 then fX11_rest_119 x2 x3 x4 σ else fX11_rest_74 (fX11_rest_54 f) zF x1 x2 (x3 + 1) 0 0 σ
theorem kX11_rest_54 {sc : Nat × (Nat → Int32)} : ∀ (fuel : Nat) (x1 : Int32) (x2 : Int32) (x3 : Int32) (x4 : Int32) (σ : zS) (w : Int32 × zS) (h : fX11_rest_54 fuel x1 x2 x3 x4 σ = some w), zR (zY0 sc) 8 0 0 mX11_rest 54 [(0, .ref 56), (1, .int x1), (2, .int x2), (3, .int x3), (4, .int x4)] [] (zE σ) (some (.int w.1), zE w.2) := by
  intro fuel
  induction fuel with
  | zero => intro x1 x2 x3 x4 σ w h; exact nomatch h
  | succ f ih =>
    intro x1 x2 x3 x4 σ w h
    rw [fX11_rest_54] at h
    refine kR.iload dX11_rest_54 4 rfl ?_
    refine kR.if_eq (tgt := 119) dX11_rest_56 (by decide) h (fun h => ?_) (fun h => ?_)
    · refine zR.sub [0, 2, 3, 4] rfl ?_
      exact kX11_rest_119 _ _ _ _ _ h
    · refine kR.iload_n dX11_rest_59 3 rfl ?_
      refine zR.bipush (v := 12) dX11_rest_60 (by decide) ?_
      refine kR.icmp_ge (tgt := 119) dX11_rest_62 (by decide) h (fun h => ?_) (fun h => ?_)
      · refine zR.sub [0, 2, 3, 4] rfl ?_
        exact kX11_rest_119 _ _ _ _ _ h
      · refine zR.iinc 3 (v := x3 + 1) (ls' := [(3, .int (x3 + 1)), (0, .ref 56), (1, .int x1), (2, .int x2), (4, .int x4)]) dX11_rest_65 rfl rfl (by decide) rfl ?_
        refine zR.iconst (v := 0) dX11_rest_68 (by decide) ?_
        refine zR.istore (i := 4) (ls' := [(4, .int 0), (3, .int (x3 + 1)), (0, .ref 56), (1, .int x1), (2, .int x2)]) dX11_rest_69 (by decide) rfl ?_
        refine zR.iconst (v := 0) dX11_rest_71 (by decide) ?_
        refine zR.istore (i := 5) (ls' := [(5, .int 0), (4, .int 0), (3, .int (x3 + 1)), (0, .ref 56), (1, .int x1), (2, .int x2)]) dX11_rest_72 (by decide) rfl ?_
        refine zR.sub [3, 4, 5, 2, 1, 0] rfl ?_
        exact kX11_rest_74 (fX11_rest_54 f) ih zF _ _ _ _ _ _ _ h
def fX11_rest_25 : Nat → Int32 → Int32 → Int32 → zS → Option (Int32 × zS)
  | 0, _, _, _, _ => none
  | f + 1, x1, x2, x3, σ => if 6 ≤ x3 then fX11_rest_54 zF x1 x2 0 1 σ else aI σ 86 132 x3 fun v8 => wI σ 98 6 x3 v8 fun σ9 => fX11_rest_25 f x1 x2 (x3 + 1) σ9
theorem kX11_rest_25 {sc : Nat × (Nat → Int32)} : ∀ (fuel : Nat) (x1 : Int32) (x2 : Int32) (x3 : Int32) (σ : zS) (w : Int32 × zS) (h : fX11_rest_25 fuel x1 x2 x3 σ = some w), zR (zY0 sc) 8 0 0 mX11_rest 25 [(0, .ref 56), (1, .int x1), (2, .int x2), (3, .int x3)] [] (zE σ) (some (.int w.1), zE w.2) := by
  intro fuel
  induction fuel with
  | zero => intro x1 x2 x3 σ w h; exact nomatch h
  | succ f ih =>
    intro x1 x2 x3 σ w h
    rw [fX11_rest_25] at h
    refine kR.iload_n dX11_rest_25 3 rfl ?_
    refine zR.bipush (v := 6) dX11_rest_26 (by decide) ?_
    refine kR.icmp_ge (tgt := 49) dX11_rest_28 (by decide) h (fun h => ?_) (fun h => ?_)
    · refine zR.iconst (v := 0) dX11_rest_49 (by decide) ?_
      refine zR.istore_n (i := 3) (ls' := [(3, .int 0), (0, .ref 56), (1, .int x1), (2, .int x2)]) dX11_rest_50 rfl (by decide) rfl ?_
      refine zR.iconst (v := 1) dX11_rest_51 (by decide) ?_
      refine zR.istore (i := 4) (ls' := [(4, .int 1), (3, .int 0), (0, .ref 56), (1, .int x1), (2, .int x2)]) dX11_rest_52 (by decide) rfl ?_
      refine zR.sub [2, 3, 4, 1, 0] rfl ?_
      exact kX11_rest_54 zF _ _ _ _ _ _ h
    · refine kR.aload_n dX11_rest_31 0 rfl ?_
      refine kR.getR (v := 98) dX11_rest_32 flX11_228 zcf11 zp56 (Or.inr ⟨_, rfl⟩) rfl ?_
      refine kR.iload_n dX11_rest_35 3 rfl ?_
      refine kR.aload_n dX11_rest_36 0 rfl ?_
      refine kR.getR (v := 86) dX11_rest_37 flX11_159 zcf11 zp56 (Or.inr ⟨_, rfl⟩) rfl ?_
      refine kR.iload_n dX11_rest_40 3 rfl ?_
      refine kR.iald dX11_rest_41 zp86 rfl h (fun v8 h => ?_)
      refine kR.iast dX11_rest_42 zp98 rfl h (fun σ9 h => ?_)
      refine zR.iinc 3 (v := x3 + 1) (ls' := [(3, .int (x3 + 1)), (0, .ref 56), (1, .int x1), (2, .int x2)]) dX11_rest_43 rfl rfl (by decide) rfl ?_
      refine zR.goto (tgt := 25) dX11_rest_46 (by decide) ?_
      refine zR.sub [1, 2, 3, 0] rfl ?_
      exact ih _ _ _ _ _ h
def fX11_rest_23 (x1 : Int32) (x2 : Int32) (σ : zS) : Option (Int32 × zS) := fX11_rest_25 zF x1 x2 0 σ
theorem kX11_rest_23 {sc : Nat × (Nat → Int32)} (x1 : Int32) (x2 : Int32) (σ : zS) (w : Int32 × zS) (h : fX11_rest_23 x1 x2 σ = some w) : zR (zY0 sc) 8 0 0 mX11_rest 23 [(0, .ref 56), (1, .int x1), (2, .int x2)] [] (zE σ) (some (.int w.1), zE w.2) := by
  unfold fX11_rest_23 at h
  refine zR.iconst (v := 0) dX11_rest_23 (by decide) ?_
  refine zR.istore_n (i := 3) (ls' := [(3, .int 0), (0, .ref 56), (1, .int x1), (2, .int x2)]) dX11_rest_24 rfl (by decide) rfl ?_
  refine zR.sub [1, 2, 3, 0] rfl ?_
  exact kX11_rest_25 zF _ _ _ _ _ h
def fX11_rest (p1 : Int32) (p2 : Int32) (σ : zS) : Option (Int32 × zS) := bnr (fX11_isTunnel σ p1) fun v1 => if v1 = 0 then some ((-1), σ) else if p2 = ((-1)) then fX11_rest_23 p1 p2 σ else bnr (fX11_isHolder σ p2) fun v10 => if v10 = 0 then some ((-1), σ) else fX11_rest_23 p1 p2 σ
theorem eX11_rest {sc : Nat × (Nat → Int32)} (p1 : Int32) (p2 : Int32) (σ : zS) (w : Int32 × zS) (h : fX11_rest p1 p2 σ = some w) : zR (zY0 sc) 8 0 0 mX11_rest 0 [(0, .ref 56), (1, .int p1), (2, .int p2)] [] (zE σ) (some (.int w.1), zE w.2) := by
  unfold fX11_rest at h
  refine kR.aload_n dX11_rest_0 0 rfl ?_
  refine kR.iload_n dX11_rest_1 1 rfl ?_
  obtain ⟨v1, e2, h⟩ := bnr_some h
  refine kR.cVi [.int p1] dX11_rest_2 rfl (by decide) mwX11_497 zp56 (by decide) rfl rfl (Nat.le_of_ble_eq_true rfl) (lX11_isTunnel σ p1 _ e2) ?_
  refine kR.if_eq (tgt := 21) dX11_rest_5 (by decide) h (fun h => ?_) (fun h => ?_)
  · refine zR.iconst (v := (-1)) dX11_rest_21 (by decide) ?_
    exact kR.iretW dX11_rest_22 (nzI rfl _) h
  · refine kR.iload_n dX11_rest_8 2 rfl ?_
    refine zR.iconst (v := (-1)) dX11_rest_9 (by decide) ?_
    refine kR.icmp_eq (tgt := 23) dX11_rest_10 (by decide) h (fun h => ?_) (fun h => ?_)
    · exact kX11_rest_23 _ _ _ _ h
    · refine kR.aload_n dX11_rest_13 0 rfl ?_
      refine kR.iload_n dX11_rest_14 2 rfl ?_
      obtain ⟨v10, e11, h⟩ := bnr_some h
      refine kR.cVi [.int p2] dX11_rest_15 rfl (by decide) mwX11_506 zp56 (by decide) rfl rfl (Nat.le_of_ble_eq_true rfl) (lX11_isHolder σ p2 _ e11) ?_
      refine kR.if_ne (tgt := 23) dX11_rest_18 (by decide) h (fun h => ?_) (fun h => ?_)
      · exact kX11_rest_23 _ _ _ _ h
      · refine zR.iconst (v := (-1)) dX11_rest_21 (by decide) ?_
        exact kR.iretW dX11_rest_22 (nzI rfl _) h
theorem lX11_rest {sc : Nat × (Nat → Int32)} (p1 : Int32) (p2 : Int32) (σ : zS) (w : Int32 × zS) (h : fX11_rest p1 p2 σ = some w) : zC (zY0 sc) 8 0 0 mX11_rest [.ref 56, .int p1, .int p2] (zE σ) (some (.int w.1), zE w.2) := zC.of (by decide +kernel) (Nat.le_of_ble_eq_true rfl) ⟨_, rfl⟩ (eX11_rest p1 p2 σ w h)

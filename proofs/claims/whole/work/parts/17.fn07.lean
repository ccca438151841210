/-! MY OWN (by program): X1_fitLength, X10_fit, X2_add, X10_beginAct, X10_draw, X10_drawLength, X7_setNextTunnel, X7_setScore, X7_addScore, X4_tiredAmong, X7_setBreath, X7_keep, X10_drawHeld, X10_driveThrough, X10_drive, X10_pause, X7_setThinks, X10_believe, X7_setGives, X10_give -/
theorem dX1_fitLength_0 : decode cX1_fitLength 0 = .ok (.iconst 0, 1) := by decide +kernel
theorem dX1_fitLength_1 : decode cX1_fitLength 1 = .ok (.istore_n 3, 1) := by decide +kernel
theorem dX1_fitLength_2 : decode cX1_fitLength 2 = .ok (.iload_n 3, 1) := by decide +kernel
theorem dX1_fitLength_3 : decode cX1_fitLength 3 = .ok (.aload_n 0, 1) := by decide +kernel
theorem dX1_fitLength_4 : decode cX1_fitLength 4 = .ok (.getfield 22, 3) := by decide +kernel
theorem dX1_fitLength_7 : decode cX1_fitLength 7 = .ok (.if_icmp .ge 39, 3) := by decide +kernel
theorem dX1_fitLength_10 : decode cX1_fitLength 10 = .ok (.aload_n 1, 1) := by decide +kernel
theorem dX1_fitLength_11 : decode cX1_fitLength 11 = .ok (.aload_n 0, 1) := by decide +kernel
theorem dX1_fitLength_12 : decode cX1_fitLength 12 = .ok (.getfield 9, 3) := by decide +kernel
theorem dX1_fitLength_15 : decode cX1_fitLength 15 = .ok (.iload_n 3, 1) := by decide +kernel
theorem dX1_fitLength_16 : decode cX1_fitLength 16 = .ok (.invokestatic 46, 3) := by decide +kernel
theorem dX1_fitLength_19 : decode cX1_fitLength 19 = .ok (.aload_n 0, 1) := by decide +kernel
theorem dX1_fitLength_20 : decode cX1_fitLength 20 = .ok (.getfield 18, 3) := by decide +kernel
theorem dX1_fitLength_23 : decode cX1_fitLength 23 = .ok (.iload_n 2, 1) := by decide +kernel
theorem dX1_fitLength_24 : decode cX1_fitLength 24 = .ok (.invokevirtual 50, 3) := by decide +kernel
theorem dX1_fitLength_27 : decode cX1_fitLength 27 = .ok (.aload_n 0, 1) := by decide +kernel
theorem dX1_fitLength_28 : decode cX1_fitLength 28 = .ok (.getfield 15, 3) := by decide +kernel
theorem dX1_fitLength_31 : decode cX1_fitLength 31 = .ok (.iload_n 3, 1) := by decide +kernel
theorem dX1_fitLength_32 : decode cX1_fitLength 32 = .ok (.invokestatic 46, 3) := by decide +kernel
theorem dX1_fitLength_35 : decode cX1_fitLength 35 = .ok (.if_icmp .eq 5, 3) := by decide +kernel
theorem dX1_fitLength_38 : decode cX1_fitLength 38 = .ok (.iconst 0, 1) := by decide +kernel
theorem dX1_fitLength_39 : decode cX1_fitLength 39 = .ok (.ireturn, 1) := by decide +kernel
theorem dX1_fitLength_40 : decode cX1_fitLength 40 = .ok (.iinc 3 1, 3) := by decide +kernel
theorem dX1_fitLength_43 : decode cX1_fitLength 43 = .ok (.goto (-41), 3) := by decide +kernel
theorem dX1_fitLength_46 : decode cX1_fitLength 46 = .ok (.iconst 1, 1) := by decide +kernel
theorem dX1_fitLength_47 : decode cX1_fitLength 47 = .ok (.ireturn, 1) := by decide +kernel
def fX1_fitLength_2 (σ : zS) : Nat → Int32 → Int32 → Option Int32
  | 0, _, _ => none
  | f + 1, x2, x3 => if (iG σ 32 3) ≤ x3 then some 1 else aI σ 33 12 x3 fun v1 => bnr (fX4_secondsHeld σ v1 (iG σ 32 2) x2) fun v2 => aI σ 34 12 x3 fun v4 => if v2 = v4 then fX1_fitLength_2 σ f x2 (x3 + 1) else some 0
theorem kX1_fitLength_2 {sc : Nat × (Nat → Int32)} (σ : zS) : ∀ (fuel : Nat) (x2 : Int32) (x3 : Int32) (w : Int32) (h : fX1_fitLength_2 σ fuel x2 x3 = some w), zR (zY0 sc) 4 0 0 mX1_fitLength 2 [(0, .ref 32), (1, .ref 8), (2, .int x2), (3, .int x3)] [] (zE σ) (some (.int w), zE σ) := by
  intro fuel
  induction fuel with
  | zero => intro x2 x3 w h; exact nomatch h
  | succ f ih =>
    intro x2 x3 w h
    rw [fX1_fitLength_2] at h
    refine kR.iload_n dX1_fitLength_2 3 rfl ?_
    refine kR.aload_n dX1_fitLength_3 0 rfl ?_
    refine kR.getI dX1_fitLength_4 flX1_22 zcf1 zp32 (Or.inl rfl) ?_
    refine kR.icmp_ge (tgt := 46) dX1_fitLength_7 (by decide) h (fun h => ?_) (fun h => ?_)
    · refine zR.iconst (v := 1) dX1_fitLength_46 (by decide) ?_
      exact kR.iretO dX1_fitLength_47 (nzZ rfl (Or.inr rfl)) h
    · refine kR.aload_n dX1_fitLength_10 1 rfl ?_
      refine kR.aload_n dX1_fitLength_11 0 rfl ?_
      refine kR.getR (v := 33) dX1_fitLength_12 flX1_9 zcf1 zp32 (Or.inr ⟨_, rfl⟩) rfl ?_
      refine kR.iload_n dX1_fitLength_15 3 rfl ?_
      obtain ⟨v1, e0, h⟩ := aIv (Nat.le_of_ble_eq_true rfl) h
      refine kR.cSi [.ref 33, .int x3] dX1_fitLength_16 rfl (by decide) (Or.inr mwX1_46) rfl (Nat.le_of_ble_eq_true rfl) (lX10_valueAt 33 12 σ (fun _ => zp33) rfl (Nat.le_of_ble_eq_true rfl) x3 _ e0) ?_
      refine kR.aload_n dX1_fitLength_19 0 rfl ?_
      refine kR.getI dX1_fitLength_20 flX1_18 zcf1 zp32 (Or.inl rfl) ?_
      refine kR.iload_n dX1_fitLength_23 2 rfl ?_
      obtain ⟨v2, e3, h⟩ := bnr_some h
      refine kR.cVi [.int v1, .int (iG σ 32 2), .int x2] dX1_fitLength_24 rfl (by decide) mwX1_50 zp8 (by decide) rfl rfl (Nat.le_of_ble_eq_true rfl) (lX4_secondsHeld σ v1 (iG σ 32 2) x2 _ e3) ?_
      refine kR.aload_n dX1_fitLength_27 0 rfl ?_
      refine kR.getR (v := 34) dX1_fitLength_28 flX1_15 zcf1 zp32 (Or.inr ⟨_, rfl⟩) rfl ?_
      refine kR.iload_n dX1_fitLength_31 3 rfl ?_
      obtain ⟨v4, e0, h⟩ := aIv (Nat.le_of_ble_eq_true rfl) h
      refine kR.cSi [.ref 34, .int x3] dX1_fitLength_32 rfl (by decide) (Or.inr mwX1_46) rfl (Nat.le_of_ble_eq_true rfl) (lX10_valueAt 34 12 σ (fun _ => zp34) rfl (Nat.le_of_ble_eq_true rfl) x3 _ e0) ?_
      refine kR.icmp_eq (tgt := 40) dX1_fitLength_35 (by decide) h (fun h => ?_) (fun h => ?_)
      · refine zR.iinc 3 (v := x3 + 1) (ls' := [(3, .int (x3 + 1)), (0, .ref 32), (1, .ref 8), (2, .int x2)]) dX1_fitLength_40 rfl rfl (by decide) rfl ?_
        refine zR.goto (tgt := 2) dX1_fitLength_43 (by decide) ?_
        refine zR.sub [1, 2, 3, 0] rfl ?_
        exact ih _ _ _ h
      · refine zR.iconst (v := 0) dX1_fitLength_38 (by decide) ?_
        exact kR.iretO dX1_fitLength_39 (nzZ rfl (Or.inl rfl)) h
def fX1_fitLength (σ : zS) (p2 : Int32) : Option Int32 := fX1_fitLength_2 σ zF p2 0
theorem eX1_fitLength {sc : Nat × (Nat → Int32)} (σ : zS) (p2 : Int32) (w : Int32) (h : fX1_fitLength σ p2 = some w) : zR (zY0 sc) 4 0 0 mX1_fitLength 0 [(0, .ref 32), (1, .ref 8), (2, .int p2)] [] (zE σ) (some (.int w), zE σ) := by
  unfold fX1_fitLength at h
  refine zR.iconst (v := 0) dX1_fitLength_0 (by decide) ?_
  refine zR.istore_n (i := 3) (ls' := [(3, .int 0), (0, .ref 32), (1, .ref 8), (2, .int p2)]) dX1_fitLength_1 rfl (by decide) rfl ?_
  refine zR.sub [1, 2, 3, 0] rfl ?_
  exact kX1_fitLength_2 σ zF _ _ _ h
theorem lX1_fitLength {sc : Nat × (Nat → Int32)} (σ : zS) (p2 : Int32) (w : Int32) (h : fX1_fitLength σ p2 = some w) : zC (zY0 sc) 4 0 0 mX1_fitLength [.ref 32, .ref 8, .int p2] (zE σ) (some (.int w), zE σ) := zC.of (by decide +kernel) (Nat.le_of_ble_eq_true rfl) ⟨_, rfl⟩ (eX1_fitLength σ p2 w h)
theorem dX10_fit_0 : decode cX10_fit 0 = .ok (.aload_n 0, 1) := by decide +kernel
theorem dX10_fit_1 : decode cX10_fit 1 = .ok (.getfield 54, 3) := by decide +kernel
theorem dX10_fit_4 : decode cX10_fit 4 = .ok (.getfield 118, 3) := by decide +kernel
theorem dX10_fit_7 : decode cX10_fit 7 = .ok (.ifCond .eq 12, 3) := by decide +kernel
theorem dX10_fit_10 : decode cX10_fit 10 = .ok (.iload_n 1, 1) := by decide +kernel
theorem dX10_fit_11 : decode cX10_fit 11 = .ok (.ifCond .lt 8, 3) := by decide +kernel
theorem dX10_fit_14 : decode cX10_fit 14 = .ok (.iload_n 1, 1) := by decide +kernel
theorem dX10_fit_15 : decode cX10_fit 15 = .ok (.iconst 2, 1) := by decide +kernel
theorem dX10_fit_16 : decode cX10_fit 16 = .ok (.if_icmp .le 5, 3) := by decide +kernel
theorem dX10_fit_19 : decode cX10_fit 19 = .ok (.iconst (-1), 1) := by decide +kernel
theorem dX10_fit_20 : decode cX10_fit 20 = .ok (.ireturn, 1) := by decide +kernel
theorem dX10_fit_21 : decode cX10_fit 21 = .ok (.aload_n 0, 1) := by decide +kernel
theorem dX10_fit_22 : decode cX10_fit 22 = .ok (.getfield 38, 3) := by decide +kernel
theorem dX10_fit_25 : decode cX10_fit 25 = .ok (.getfield 111, 3) := by decide +kernel
theorem dX10_fit_28 : decode cX10_fit 28 = .ok (.astore_n 2, 1) := by decide +kernel
theorem dX10_fit_29 : decode cX10_fit 29 = .ok (.iconst 0, 1) := by decide +kernel
theorem dX10_fit_30 : decode cX10_fit 30 = .ok (.istore_n 3, 1) := by decide +kernel
theorem dX10_fit_31 : decode cX10_fit 31 = .ok (.iconst 0, 1) := by decide +kernel
theorem dX10_fit_32 : decode cX10_fit 32 = .ok (.istore 4, 2) := by decide +kernel
theorem dX10_fit_34 : decode cX10_fit 34 = .ok (.iconst 0, 1) := by decide +kernel
theorem dX10_fit_35 : decode cX10_fit 35 = .ok (.istore 5, 2) := by decide +kernel
theorem dX10_fit_37 : decode cX10_fit 37 = .ok (.iload 5, 2) := by decide +kernel
theorem dX10_fit_39 : decode cX10_fit 39 = .ok (.aload_n 2, 1) := by decide +kernel
theorem dX10_fit_40 : decode cX10_fit 40 = .ok (.aload_n 0, 1) := by decide +kernel
theorem dX10_fit_41 : decode cX10_fit 41 = .ok (.getfield 54, 3) := by decide +kernel
theorem dX10_fit_44 : decode cX10_fit 44 = .ok (.getfield 274, 3) := by decide +kernel
theorem dX10_fit_47 : decode cX10_fit 47 = .ok (.invokevirtual 168, 3) := by decide +kernel
theorem dX10_fit_50 : decode cX10_fit 50 = .ok (.if_icmp .ge 61, 3) := by decide +kernel
theorem dX10_fit_53 : decode cX10_fit 53 = .ok (.aload_n 0, 1) := by decide +kernel
theorem dX10_fit_54 : decode cX10_fit 54 = .ok (.getfield 54, 3) := by decide +kernel
theorem dX10_fit_57 : decode cX10_fit 57 = .ok (.aload_n 0, 1) := by decide +kernel
theorem dX10_fit_58 : decode cX10_fit 58 = .ok (.getfield 38, 3) := by decide +kernel
theorem dX10_fit_61 : decode cX10_fit 61 = .ok (.aload_n 2, 1) := by decide +kernel
theorem dX10_fit_62 : decode cX10_fit 62 = .ok (.aload_n 0, 1) := by decide +kernel
theorem dX10_fit_63 : decode cX10_fit 63 = .ok (.getfield 54, 3) := by decide +kernel
theorem dX10_fit_66 : decode cX10_fit 66 = .ok (.getfield 274, 3) := by decide +kernel
theorem dX10_fit_69 : decode cX10_fit 69 = .ok (.iload 5, 2) := by decide +kernel
theorem dX10_fit_71 : decode cX10_fit 71 = .ok (.invokevirtual 171, 3) := by decide +kernel
theorem dX10_fit_74 : decode cX10_fit 74 = .ok (.invokevirtual 277, 3) := by decide +kernel
theorem dX10_fit_77 : decode cX10_fit 77 = .ok (.ifCond .eq 28, 3) := by decide +kernel
theorem dX10_fit_80 : decode cX10_fit 80 = .ok (.iload_n 3, 1) := by decide +kernel
theorem dX10_fit_81 : decode cX10_fit 81 = .ok (.iconst 1, 1) := by decide +kernel
theorem dX10_fit_82 : decode cX10_fit 82 = .ok (.iload 5, 2) := by decide +kernel
theorem dX10_fit_84 : decode cX10_fit 84 = .ok (.ishl, 1) := by decide +kernel
theorem dX10_fit_85 : decode cX10_fit 85 = .ok (.ior, 1) := by decide +kernel
theorem dX10_fit_86 : decode cX10_fit 86 = .ok (.istore_n 3, 1) := by decide +kernel
theorem dX10_fit_87 : decode cX10_fit 87 = .ok (.iload 4, 2) := by decide +kernel
theorem dX10_fit_89 : decode cX10_fit 89 = .ok (.aload_n 2, 1) := by decide +kernel
theorem dX10_fit_90 : decode cX10_fit 90 = .ok (.aload_n 0, 1) := by decide +kernel
theorem dX10_fit_91 : decode cX10_fit 91 = .ok (.getfield 54, 3) := by decide +kernel
theorem dX10_fit_94 : decode cX10_fit 94 = .ok (.getfield 274, 3) := by decide +kernel
theorem dX10_fit_97 : decode cX10_fit 97 = .ok (.iload 5, 2) := by decide +kernel
theorem dX10_fit_99 : decode cX10_fit 99 = .ok (.invokevirtual 174, 3) := by decide +kernel
theorem dX10_fit_102 : decode cX10_fit 102 = .ok (.iadd, 1) := by decide +kernel
theorem dX10_fit_103 : decode cX10_fit 103 = .ok (.istore 4, 2) := by decide +kernel
theorem dX10_fit_105 : decode cX10_fit 105 = .ok (.iinc 5 1, 3) := by decide +kernel
theorem dX10_fit_108 : decode cX10_fit 108 = .ok (.goto (-71), 3) := by decide +kernel
theorem dX10_fit_111 : decode cX10_fit 111 = .ok (.iload_n 1, 1) := by decide +kernel
theorem dX10_fit_112 : decode cX10_fit 112 = .ok (.lookupswitch 35 #[(0, 28), (1, 33)], 28) := by decide +kernel
theorem dX10_fit_140 : decode cX10_fit 140 = .ok (.iload_n 3, 1) := by decide +kernel
theorem dX10_fit_141 : decode cX10_fit 141 = .ok (.invokestatic 281, 3) := by decide +kernel
theorem dX10_fit_144 : decode cX10_fit 144 = .ok (.ireturn, 1) := by decide +kernel
theorem dX10_fit_145 : decode cX10_fit 145 = .ok (.iload_n 3, 1) := by decide +kernel
theorem dX10_fit_146 : decode cX10_fit 146 = .ok (.ireturn, 1) := by decide +kernel
theorem dX10_fit_147 : decode cX10_fit 147 = .ok (.iload 4, 2) := by decide +kernel
theorem dX10_fit_149 : decode cX10_fit 149 = .ok (.i2l, 1) := by decide +kernel
theorem dX10_fit_150 : decode cX10_fit 150 = .ok (.aload_n 2, 1) := by decide +kernel
theorem dX10_fit_151 : decode cX10_fit 151 = .ok (.aload_n 0, 1) := by decide +kernel
theorem dX10_fit_152 : decode cX10_fit 152 = .ok (.getfield 54, 3) := by decide +kernel
theorem dX10_fit_155 : decode cX10_fit 155 = .ok (.getfield 274, 3) := by decide +kernel
theorem dX10_fit_158 : decode cX10_fit 158 = .ok (.invokevirtual 180, 3) := by decide +kernel
theorem dX10_fit_161 : decode cX10_fit 161 = .ok (.i2l, 1) := by decide +kernel
theorem dX10_fit_162 : decode cX10_fit 162 = .ok (.invokestatic 202, 3) := by decide +kernel
theorem dX10_fit_165 : decode cX10_fit 165 = .ok (.ireturn, 1) := by decide +kernel
def fX10_fit_106 (σ : zS) (r37 : Int32 → Bool → Int32 → Int32 → Int32 → Option Int32) (x1 : Int32) (c2 : Bool) (x3 : Int32) (x4 : Int32) (x5 : Int32) : Option Int32 := r37 x1 c2 x3 x4 (x5 + 1)
theorem kX10_fit_105 {sc : Nat × (Nat → Int32)} (σ : zS) (r37 : Int32 → Bool → Int32 → Int32 → Int32 → Option Int32) (hr37 : ∀ (x1 : Int32) (c2 : Bool) (x3 : Int32) (x4 : Int32) (x5 : Int32) (w : Int32), r37 x1 c2 x3 x4 x5 = some w → zR (zY0 sc) 5 0 0 mX10_fit 37 [(0, .ref 1), (1, .int x1), (2, .ref (rp c2 + 0)), (3, .int x3), (4, .int x4), (5, .int x5)] [] (zE σ) (some (.int w), zE σ)) (x1 : Int32) (c2 : Bool) (x3 : Int32) (x4 : Int32) (x5 : Int32) (w : Int32) (h : fX10_fit_106 σ r37 x1 c2 x3 x4 x5 = some w) : zR (zY0 sc) 5 0 0 mX10_fit 105 [(0, .ref 1), (1, .int x1), (2, .ref (rp c2 + 0)), (3, .int x3), (4, .int x4), (5, .int x5)] [] (zE σ) (some (.int w), zE σ) := by
  unfold fX10_fit_106 at h
  refine zR.iinc 5 (v := x5 + 1) (ls' := [(5, .int (x5 + 1)), (0, .ref 1), (1, .int x1), (2, .ref (rp c2 + 0)), (3, .int x3), (4, .int x4)]) dX10_fit_105 rfl rfl (by decide) rfl ?_
  refine zR.goto (tgt := 37) dX10_fit_108 (by decide) ?_
  refine zR.sub [1, 2, 3, 4, 5, 0] rfl ?_
  exact hr37 _ _ _ _ _ _ h
def fX10_fit_37 (σ : zS) : Nat → Int32 → Bool → Int32 → Int32 → Int32 → Option Int32
  | 0, _, _, _, _, _ => none
  | f + 1, x1, c2, x3, x4, x5 => aI σ (rp c2 + 3) 6 (iG σ 32 2) fun v1 => if v1 ≤ x5 then if x1 = 0 then some (fJ6_bitCount_0f7a4 x3) else if x1 = 1 then some x3 else bnr (fX6_allWeights c2 σ (iG σ 32 2)) fun v2 => bnr (fX10_thousandths x4.toInt64 v2.toInt64) fun v4 => some v4 else bnr (fX6_lengthAt c2 σ (iG σ 32 2) x5) fun v6 => bnr (fX1_fitLength σ v6) fun v8 => if v8 = 0 then fX10_fit_106 σ (fX10_fit_37 σ f) x1 c2 x3 x4 x5 else bnr (fX6_weightAt c2 σ (iG σ 32 2) x5) fun v10 => fX10_fit_106 σ (fX10_fit_37 σ f) x1 c2 (x3 ||| (1 <<< (x5 &&& 31))) (x4 + v10) x5
theorem kX10_fit_37 {sc : Nat × (Nat → Int32)} (σ : zS) : ∀ (fuel : Nat) (x1 : Int32) (c2 : Bool) (x3 : Int32) (x4 : Int32) (x5 : Int32) (w : Int32) (h : fX10_fit_37 σ fuel x1 c2 x3 x4 x5 = some w), zR (zY0 sc) 5 0 0 mX10_fit 37 [(0, .ref 1), (1, .int x1), (2, .ref (rp c2 + 0)), (3, .int x3), (4, .int x4), (5, .int x5)] [] (zE σ) (some (.int w), zE σ) := by
  intro fuel
  induction fuel with
  | zero => intro x1 c2 x3 x4 x5 w h; exact nomatch h
  | succ f ih =>
    intro x1 c2 x3 x4 x5 w h
    rw [fX10_fit_37] at h
    refine kR.iload dX10_fit_37 5 rfl ?_
    refine kR.aload_n dX10_fit_39 2 rfl ?_
    refine kR.aload_n dX10_fit_40 0 rfl ?_
    refine kR.getR (v := 32) dX10_fit_41 flX10_54 zcf10 zp1 (Or.inl ⟨_, rfl⟩) rfl ?_
    refine kR.getI dX10_fit_44 flX10_274 zcf1 zp32 (Or.inl rfl) ?_
    obtain ⟨v1, e0, h⟩ := aIlc h
    refine kR.cVi [.int (iG σ 32 2)] dX10_fit_47 rfl (by decide) mwX10_168 (zq0 c2) (by decide) rfl rfl (Nat.le_of_ble_eq_true rfl) (lX6_lengthCount c2 σ (iG σ 32 2) _ e0) ?_
    refine kR.icmp_ge (tgt := 111) dX10_fit_50 (by decide) h (fun h => ?_) (fun h => ?_)
    · refine kR.iload_n dX10_fit_111 1 rfl ?_
      by_cases e0 : x1 = 0
      · rw [if_pos e0] at h
        refine zR.lookup (off := 28) (tgt := 140) dX10_fit_112 (by decide) (by rw [e0]; decide) (by decide) ?_
        refine kR.iload_n dX10_fit_140 3 rfl ?_
        refine kR.cSi [.int x3] dX10_fit_141 rfl (by decide) (Or.inl mwX10_281) rfl (Nat.le_of_ble_eq_true rfl) (lJ6_bitCount_0f7a4 x3) ?_
        exact kR.iretO dX10_fit_144 (nzI rfl _) h
      rw [if_neg e0] at h
      by_cases e1 : x1 = 1
      · rw [if_pos e1] at h
        refine zR.lookup (off := 33) (tgt := 145) dX10_fit_112 (by decide) (by rw [e1]; decide) (by decide) ?_
        refine kR.iload_n dX10_fit_145 3 rfl ?_
        exact kR.iretO dX10_fit_146 (nzI rfl _) h
      rw [if_neg e1] at h
      refine zR.lookup (off := 35) (tgt := 147) dX10_fit_112 (by decide) (by show Op.lookupswitch.offset [(0, 28), (1, 33)] _ _ = _; rw [Op.lookupswitch.offset_cons, if_neg (tne (k := 0) e0 (by decide)), Op.lookupswitch.offset_cons, if_neg (tne (k := 1) e1 (by decide)), Op.lookupswitch.offset_nil]) (by decide) ?_
      refine kR.iload dX10_fit_147 4 rfl ?_
      refine zR.i2l dX10_fit_149 ?_
      refine kR.aload_n dX10_fit_150 2 rfl ?_
      refine kR.aload_n dX10_fit_151 0 rfl ?_
      refine kR.getR (v := 32) dX10_fit_152 flX10_54 zcf10 zp1 (Or.inl ⟨_, rfl⟩) rfl ?_
      refine kR.getI dX10_fit_155 flX10_274 zcf1 zp32 (Or.inl rfl) ?_
      obtain ⟨v2, e3, h⟩ := bnr_some h
      refine kR.cVi [.int (iG σ 32 2)] dX10_fit_158 rfl (by decide) mwX10_180 (zq0 c2) (by decide) rfl rfl (Nat.le_of_ble_eq_true rfl) (lX6_allWeights c2 σ (iG σ 32 2) _ e3) ?_
      refine zR.i2l dX10_fit_161 ?_
      obtain ⟨v4, e5, h⟩ := bnr_some h
      refine kR.cSi [.long (x4.toInt64), .long (v2.toInt64)] dX10_fit_162 rfl (by decide) (Or.inl mwX10_202) rfl (Nat.le_of_ble_eq_true rfl) (lX10_thousandths x4.toInt64 v2.toInt64 _ e5) ?_
      exact kR.iretO dX10_fit_165 (nzI rfl _) h
    · refine kR.aload_n dX10_fit_53 0 rfl ?_
      refine kR.getR (v := 32) dX10_fit_54 flX10_54 zcf10 zp1 (Or.inl ⟨_, rfl⟩) rfl ?_
      refine kR.aload_n dX10_fit_57 0 rfl ?_
      refine kR.getR (v := 8) dX10_fit_58 flX10_38 zcf10 zp1 (Or.inl ⟨_, rfl⟩) rfl ?_
      refine kR.aload_n dX10_fit_61 2 rfl ?_
      refine kR.aload_n dX10_fit_62 0 rfl ?_
      refine kR.getR (v := 32) dX10_fit_63 flX10_54 zcf10 zp1 (Or.inl ⟨_, rfl⟩) rfl ?_
      refine kR.getI dX10_fit_66 flX10_274 zcf1 zp32 (Or.inl rfl) ?_
      refine kR.iload dX10_fit_69 5 rfl ?_
      obtain ⟨v6, e7, h⟩ := bnr_some h
      refine kR.cVi [.int (iG σ 32 2), .int x5] dX10_fit_71 rfl (by decide) mwX10_171 (zq0 c2) (by decide) rfl rfl (Nat.le_of_ble_eq_true rfl) (lX6_lengthAt c2 σ (iG σ 32 2) x5 _ e7) ?_
      obtain ⟨v8, e9, h⟩ := bnr_some h
      refine kR.cVi [.ref 8, .int v6] dX10_fit_74 rfl (by decide) mwX10_277 zp32 (by decide) rfl rfl (Nat.le_of_ble_eq_true rfl) (lX1_fitLength σ v6 _ e9) ?_
      refine kR.if_eq (tgt := 105) dX10_fit_77 (by decide) h (fun h => ?_) (fun h => ?_)
      · exact kX10_fit_105 σ (fX10_fit_37 σ f) ih _ _ _ _ _ _ h
      · refine kR.iload_n dX10_fit_80 3 rfl ?_
        refine zR.iconst (v := 1) dX10_fit_81 (by decide) ?_
        refine kR.iload dX10_fit_82 5 rfl ?_
        refine zR.ishl dX10_fit_84 ?_
        refine zR.ior dX10_fit_85 ?_
        refine zR.istore_n (i := 3) (ls' := [(3, .int (x3 ||| (1 <<< (x5 &&& 31)))), (0, .ref 1), (1, .int x1), (2, .ref (rp c2 + 0)), (4, .int x4), (5, .int x5)]) dX10_fit_86 rfl (by decide) rfl ?_
        refine kR.iload dX10_fit_87 4 rfl ?_
        refine kR.aload_n dX10_fit_89 3 rfl ?_
        refine kR.aload_n dX10_fit_90 1 rfl ?_
        refine kR.getR (v := 32) dX10_fit_91 flX10_54 zcf10 zp1 (Or.inl ⟨_, rfl⟩) rfl ?_
        refine kR.getI dX10_fit_94 flX10_274 zcf1 zp32 (Or.inl rfl) ?_
        refine kR.iload dX10_fit_97 5 rfl ?_
        obtain ⟨v10, e11, h⟩ := bnr_some h
        refine kR.cVi [.int (iG σ 32 2), .int x5] dX10_fit_99 rfl (by decide) mwX10_174 (zq0 c2) (by decide) rfl rfl (Nat.le_of_ble_eq_true rfl) (lX6_weightAt c2 σ (iG σ 32 2) x5 _ e11) ?_
        refine zR.iadd dX10_fit_102 ?_
        refine zR.istore (i := 4) (ls' := [(4, .int (x4 + v10)), (3, .int (x3 ||| (1 <<< (x5 &&& 31)))), (0, .ref 1), (1, .int x1), (2, .ref (rp c2 + 0)), (5, .int x5)]) dX10_fit_103 (by decide) rfl ?_
        refine zR.sub [2, 3, 4, 1, 0, 5] rfl ?_
        exact kX10_fit_105 σ (fX10_fit_37 σ f) ih _ _ _ _ _ _ h
def fX10_fit (σ : zS) (p1 : Int32) : Option Int32 := if (iG σ 32 3) = 0 then some ((-1)) else if p1 < 0 then some ((-1)) else if p1 ≤ 2 then fX10_fit_37 σ zF p1 σ.2.2.2.1 0 0 0 else some ((-1))
theorem eX10_fit {sc : Nat × (Nat → Int32)} (σ : zS) (p1 : Int32) (w : Int32) (h : fX10_fit σ p1 = some w) : zR (zY0 sc) 5 0 0 mX10_fit 0 [(0, .ref 1), (1, .int p1)] [] (zE σ) (some (.int w), zE σ) := by
  unfold fX10_fit at h
  refine kR.aload_n dX10_fit_0 0 rfl ?_
  refine kR.getR (v := 32) dX10_fit_1 flX10_54 zcf10 zp1 (Or.inl ⟨_, rfl⟩) rfl ?_
  refine kR.getI dX10_fit_4 flX10_118 zcf1 zp32 (Or.inl rfl) ?_
  refine kR.if_eq (tgt := 19) dX10_fit_7 (by decide) h (fun h => ?_) (fun h => ?_)
  · refine zR.iconst (v := (-1)) dX10_fit_19 (by decide) ?_
    exact kR.iretO dX10_fit_20 (nzI rfl _) h
  · refine kR.iload_n dX10_fit_10 1 rfl ?_
    refine kR.if_lt (tgt := 19) dX10_fit_11 (by decide) h (fun h => ?_) (fun h => ?_)
    · refine zR.iconst (v := (-1)) dX10_fit_19 (by decide) ?_
      exact kR.iretO dX10_fit_20 (nzI rfl _) h
    · refine kR.iload_n dX10_fit_14 1 rfl ?_
      refine zR.iconst (v := 2) dX10_fit_15 (by decide) ?_
      refine kR.icmp_le (tgt := 21) dX10_fit_16 (by decide) h (fun h => ?_) (fun h => ?_)
      · refine kR.aload_n dX10_fit_21 0 rfl ?_
        refine kR.getR (v := 8) dX10_fit_22 flX10_38 zcf10 zp1 (Or.inl ⟨_, rfl⟩) rfl ?_
        refine kR.getR (v := (rp σ.2.2.2.1 + 0)) dX10_fit_25 flX10_111 zcf4 zp8 (Or.inl ⟨_, rfl⟩) rfl ?_
        refine zR.astore_n (i := 2) (ls' := [(2, .ref (rp σ.2.2.2.1 + 0)), (0, .ref 1), (1, .int p1)]) dX10_fit_28 rfl (by decide) rfl ?_
        refine zR.iconst (v := 0) dX10_fit_29 (by decide) ?_
        refine zR.istore_n (i := 3) (ls' := [(3, .int 0), (2, .ref (rp σ.2.2.2.1 + 0)), (0, .ref 1), (1, .int p1)]) dX10_fit_30 rfl (by decide) rfl ?_
        refine zR.iconst (v := 0) dX10_fit_31 (by decide) ?_
        refine zR.istore (i := 4) (ls' := [(4, .int 0), (3, .int 0), (2, .ref (rp σ.2.2.2.1 + 0)), (0, .ref 1), (1, .int p1)]) dX10_fit_32 (by decide) rfl ?_
        refine zR.iconst (v := 0) dX10_fit_34 (by decide) ?_
        refine zR.istore (i := 5) (ls' := [(5, .int 0), (4, .int 0), (3, .int 0), (2, .ref (rp σ.2.2.2.1 + 0)), (0, .ref 1), (1, .int p1)]) dX10_fit_35 (by decide) rfl ?_
        refine zR.sub [4, 5, 3, 2, 1, 0] rfl ?_
        exact kX10_fit_37 σ zF _ _ _ _ _ _ h
      · refine zR.iconst (v := (-1)) dX10_fit_19 (by decide) ?_
        exact kR.iretO dX10_fit_20 (nzI rfl _) h
theorem lX10_fit {sc : Nat × (Nat → Int32)} (σ : zS) (p1 : Int32) (w : Int32) (h : fX10_fit σ p1 = some w) : zC (zY0 sc) 5 0 0 mX10_fit [.ref 1, .int p1] (zE σ) (some (.int w), zE σ) := zC.of (by decide +kernel) (Nat.le_of_ble_eq_true rfl) ⟨_, rfl⟩ (eX10_fit σ p1 w h)
theorem dX2_add_0 : decode cX2_add 0 = .ok (.aload_n 1, 1) := by decide +kernel
theorem dX2_add_1 : decode cX2_add 1 = .ok (.getfield 24, 3) := by decide +kernel
theorem dX2_add_4 : decode cX2_add 4 = .ok (.iconst 0, 1) := by decide +kernel
theorem dX2_add_5 : decode cX2_add 5 = .ok (.aload_n 0, 1) := by decide +kernel
theorem dX2_add_6 : decode cX2_add 6 = .ok (.getfield 11, 3) := by decide +kernel
theorem dX2_add_9 : decode cX2_add 9 = .ok (.aload_n 0, 1) := by decide +kernel
theorem dX2_add_10 : decode cX2_add 10 = .ok (.getfield 17, 3) := by decide +kernel
theorem dX2_add_13 : decode cX2_add 13 = .ok (.bipush 104, 2) := by decide +kernel
theorem dX2_add_15 : decode cX2_add 15 = .ok (.imul, 1) := by decide +kernel
theorem dX2_add_16 : decode cX2_add 16 = .ok (.bipush 104, 2) := by decide +kernel
theorem dX2_add_18 : decode cX2_add 18 = .ok (.invokestatic 27, 3) := by decide +kernel
theorem dX2_add_21 : decode cX2_add 21 = .ok (.aload_n 0, 1) := by decide +kernel
theorem dX2_add_22 : decode cX2_add 22 = .ok (.aload_n 0, 1) := by decide +kernel
theorem dX2_add_23 : decode cX2_add 23 = .ok (.getfield 17, 3) := by decide +kernel
theorem dX2_add_26 : decode cX2_add 26 = .ok (.iconst 1, 1) := by decide +kernel
theorem dX2_add_27 : decode cX2_add 27 = .ok (.iadd, 1) := by decide +kernel
theorem dX2_add_28 : decode cX2_add 28 = .ok (.bipush 20, 2) := by decide +kernel
theorem dX2_add_30 : decode cX2_add 30 = .ok (.irem, 1) := by decide +kernel
theorem dX2_add_31 : decode cX2_add 31 = .ok (.putfield 17, 3) := by decide +kernel
theorem dX2_add_34 : decode cX2_add 34 = .ok (.aload_n 0, 1) := by decide +kernel
theorem dX2_add_35 : decode cX2_add 35 = .ok (.bipush 20, 2) := by decide +kernel
theorem dX2_add_37 : decode cX2_add 37 = .ok (.aload_n 0, 1) := by decide +kernel
theorem dX2_add_38 : decode cX2_add 38 = .ok (.getfield 21, 3) := by decide +kernel
theorem dX2_add_41 : decode cX2_add 41 = .ok (.iconst 1, 1) := by decide +kernel
theorem dX2_add_42 : decode cX2_add 42 = .ok (.iadd, 1) := by decide +kernel
theorem dX2_add_43 : decode cX2_add 43 = .ok (.invokestatic 33, 3) := by decide +kernel
theorem dX2_add_46 : decode cX2_add 46 = .ok (.putfield 21, 3) := by decide +kernel
theorem dX2_add_49 : decode cX2_add 49 = .ok (.return_, 1) := by decide +kernel
def fX2_add (σ : zS) : Option zS := wC σ 5 7 104 2080 0 ((iG σ 6 1) * 104) 104 fun σ1 => bnd (iS σ1 6 1 (((iG σ1 6 1) + 1) - ((iG σ1 6 1) + 1) / 20 * 20)) fun σ2 => bnd (iS σ2 6 2 (fJ9_min_7cf53 20 ((iG σ2 6 2) + 1))) fun σ3 => some σ3
theorem eX2_add {sc : Nat × (Nat → Int32)} (σ : zS) (w : zS) (h : fX2_add σ = some w) : zR (zY0 sc) 2 0 0 mX2_add 0 [(0, .ref 6), (1, .ref 4)] [] (zE σ) (none, zE w) := by
  unfold fX2_add at h
  refine kR.aload_n dX2_add_0 1 rfl ?_
  refine kR.getR (v := 5) dX2_add_1 flX2_24 zcf7 zp4 (Or.inr ⟨_, rfl⟩) rfl ?_
  refine zR.iconst (v := 0) dX2_add_4 (by decide) ?_
  refine kR.aload_n dX2_add_5 0 rfl ?_
  refine kR.getR (v := 7) dX2_add_6 flX2_11 zcf2 zp6 (Or.inr ⟨_, rfl⟩) rfl ?_
  refine kR.aload_n dX2_add_9 0 rfl ?_
  refine kR.getI dX2_add_10 flX2_17 zcf2 zp6 (Or.inl rfl) ?_
  refine zR.bipush (v := 104) dX2_add_13 (by decide) ?_
  refine zR.imul dX2_add_15 ?_
  refine zR.bipush (v := 104) dX2_add_16 (by decide) ?_
  refine kR.copy dX2_add_18 (by decide) mcX2_27 zp5 zp7 rfl rfl (Nat.le_of_ble_eq_true rfl) h (fun σ1 h => ?_)
  refine kR.aload_n dX2_add_21 0 rfl ?_
  refine kR.aload_n dX2_add_22 0 rfl ?_
  refine kR.getI dX2_add_23 flX2_17 zcf2 zp6 (Or.inl rfl) ?_
  refine zR.iconst (v := 1) dX2_add_26 (by decide) ?_
  refine zR.iadd dX2_add_27 ?_
  refine zR.bipush (v := 20) dX2_add_28 (by decide) ?_
  refine zR.irem dX2_add_30 (by decide) ?_
  refine kR.putI dX2_add_31 fpX2_17 zcf2 zp6 rfl h (fun σ2 h => ?_)
  refine kR.aload_n dX2_add_34 0 rfl ?_
  refine zR.bipush (v := 20) dX2_add_35 (by decide) ?_
  refine kR.aload_n dX2_add_37 0 rfl ?_
  refine kR.getI dX2_add_38 flX2_21 zcf2 zp6 (Or.inl rfl) ?_
  refine zR.iconst (v := 1) dX2_add_41 (by decide) ?_
  refine zR.iadd dX2_add_42 ?_
  refine kR.cSi [.int 20, .int ((iG σ2 6 2) + 1)] dX2_add_43 rfl (by decide) (Or.inl mwX2_33) rfl (Nat.le_of_ble_eq_true rfl) (lJ9_min_7cf53 20 ((iG σ2 6 2) + 1)) ?_
  refine kR.putI dX2_add_46 fpX2_21 zcf2 zp6 rfl h (fun σ3 h => ?_)
  exact kR.vret dX2_add_49 h
theorem lX2_add {sc : Nat × (Nat → Int32)} (σ : zS) (w : zS) (h : fX2_add σ = some w) : zC (zY0 sc) 2 0 0 mX2_add [.ref 6, .ref 4] (zE σ) (none, zE w) := zC.of (by decide +kernel) (Nat.le_of_ble_eq_true rfl) rfl (eX2_add σ w h)
theorem dX10_beginAct_0 : decode cX10_beginAct 0 = .ok (.aload_n 0, 1) := by decide +kernel
theorem dX10_beginAct_1 : decode cX10_beginAct 1 = .ok (.getfield 26, 3) := by decide +kernel
theorem dX10_beginAct_4 : decode cX10_beginAct 4 = .ok (.aload_n 0, 1) := by decide +kernel
theorem dX10_beginAct_5 : decode cX10_beginAct 5 = .ok (.getfield 19, 3) := by decide +kernel
theorem dX10_beginAct_8 : decode cX10_beginAct 8 = .ok (.invokevirtual 326, 3) := by decide +kernel
theorem dX10_beginAct_11 : decode cX10_beginAct 11 = .ok (.aload_n 0, 1) := by decide +kernel
theorem dX10_beginAct_12 : decode cX10_beginAct 12 = .ok (.getfield 47, 3) := by decide +kernel
theorem dX10_beginAct_15 : decode cX10_beginAct 15 = .ok (.invokevirtual 119, 3) := by decide +kernel
theorem dX10_beginAct_18 : decode cX10_beginAct 18 = .ok (.return_, 1) := by decide +kernel
def fX10_beginAct (σ : zS) : Option zS := bnr (fX2_add σ) fun σ1 => bnr (fX0_forget σ1) fun σ3 => some σ3
theorem eX10_beginAct {sc : Nat × (Nat → Int32)} (σ : zS) (w : zS) (h : fX10_beginAct σ = some w) : zR (zY0 sc) 3 0 0 mX10_beginAct 0 [(0, .ref 1)] [] (zE σ) (none, zE w) := by
  unfold fX10_beginAct at h
  refine kR.aload_n dX10_beginAct_0 0 rfl ?_
  refine kR.getR (v := 6) dX10_beginAct_1 flX10_26 zcf10 zp1 (Or.inl ⟨_, rfl⟩) rfl ?_
  refine kR.aload_n dX10_beginAct_4 0 rfl ?_
  refine kR.getR (v := 4) dX10_beginAct_5 flX10_19 zcf10 zp1 (Or.inl ⟨_, rfl⟩) rfl ?_
  obtain ⟨σ1, e2, h⟩ := bnr_some h
  refine kR.cVv [.ref 4] dX10_beginAct_8 rfl (by decide) mwX10_326 zp6 (by decide) rfl rfl (Nat.le_of_ble_eq_true rfl) (lX2_add σ _ e2) ?_
  refine kR.aload_n dX10_beginAct_11 0 rfl ?_
  refine kR.getR (v := 27) dX10_beginAct_12 flX10_47 zcf10 zp1 (Or.inl ⟨_, rfl⟩) rfl ?_
  obtain ⟨σ3, e4, h⟩ := bnr_some h
  refine kR.cVv [] dX10_beginAct_15 rfl (by decide) mwX10_119 zp27 (by decide) rfl rfl (Nat.le_of_ble_eq_true rfl) (lX0_forget σ1 _ e4) ?_
  exact kR.vret dX10_beginAct_18 h
theorem lX10_beginAct {sc : Nat × (Nat → Int32)} (σ : zS) (w : zS) (h : fX10_beginAct σ = some w) : zC (zY0 sc) 3 0 0 mX10_beginAct [.ref 1] (zE σ) (none, zE w) := zC.of (by decide +kernel) (Nat.le_of_ble_eq_true rfl) rfl (eX10_beginAct σ w h)
theorem dX10_draw_0 : decode cX10_draw 0 = .ok (.aload_n 0, 1) := by decide +kernel
theorem dX10_draw_1 : decode cX10_draw 1 = .ok (.ldc2_w 358, 3) := by decide +kernel
theorem dX10_draw_4 : decode cX10_draw 4 = .ok (.aload_n 0, 1) := by decide +kernel
theorem dX10_draw_5 : decode cX10_draw 5 = .ok (.getfield 82, 3) := by decide +kernel
theorem dX10_draw_8 : decode cX10_draw 8 = .ok (.i2l, 1) := by decide +kernel
theorem dX10_draw_9 : decode cX10_draw 9 = .ok (.lmul, 1) := by decide +kernel
theorem dX10_draw_10 : decode cX10_draw 10 = .ok (.ldc2_w 360, 3) := by decide +kernel
theorem dX10_draw_13 : decode cX10_draw 13 = .ok (.ladd, 1) := by decide +kernel
theorem dX10_draw_14 : decode cX10_draw 14 = .ok (.ldc2_w 362, 3) := by decide +kernel
theorem dX10_draw_17 : decode cX10_draw 17 = .ok (.land, 1) := by decide +kernel
theorem dX10_draw_18 : decode cX10_draw 18 = .ok (.l2i, 1) := by decide +kernel
theorem dX10_draw_19 : decode cX10_draw 19 = .ok (.putfield 82, 3) := by decide +kernel
theorem dX10_draw_22 : decode cX10_draw 22 = .ok (.iload_n 1, 1) := by decide +kernel
theorem dX10_draw_23 : decode cX10_draw 23 = .ok (.ifCond .le 15, 3) := by decide +kernel
theorem dX10_draw_26 : decode cX10_draw 26 = .ok (.aload_n 0, 1) := by decide +kernel
theorem dX10_draw_27 : decode cX10_draw 27 = .ok (.getfield 82, 3) := by decide +kernel
theorem dX10_draw_30 : decode cX10_draw 30 = .ok (.bipush 64, 2) := by decide +kernel
theorem dX10_draw_32 : decode cX10_draw 32 = .ok (.idiv, 1) := by decide +kernel
theorem dX10_draw_33 : decode cX10_draw 33 = .ok (.iload_n 1, 1) := by decide +kernel
theorem dX10_draw_34 : decode cX10_draw 34 = .ok (.irem, 1) := by decide +kernel
theorem dX10_draw_35 : decode cX10_draw 35 = .ok (.goto 4, 3) := by decide +kernel
theorem dX10_draw_38 : decode cX10_draw 38 = .ok (.iconst 0, 1) := by decide +kernel
theorem dX10_draw_39 : decode cX10_draw 39 = .ok (.ireturn, 1) := by decide +kernel
def fX10_draw (p1 : Int32) (σ : zS) : Option (Int32 × zS) := bnd (iS σ 1 10 (((((1103515245 * (((iG σ 1 10) : Int32).toInt64)) + 12345) &&& 2147483647) : Int64).toInt32)) fun σ1 => if p1 ≤ 0 then some (0, σ1) else gd (¬ p1 = 0) (some (((iG σ1 1 10) / 64) - ((iG σ1 1 10) / 64) / p1 * p1, σ1))
theorem eX10_draw {sc : Nat × (Nat → Int32)} (p1 : Int32) (σ : zS) (w : Int32 × zS) (h : fX10_draw p1 σ = some w) : zR (zY0 sc) 1 0 0 mX10_draw 0 [(0, .ref 1), (1, .int p1)] [] (zE σ) (some (.int w.1), zE w.2) := by
  unfold fX10_draw at h
  refine kR.aload_n dX10_draw_0 0 rfl ?_
  refine zR.ldc2 (v := 1103515245) dX10_draw_1 clX10_358 ?_
  refine kR.aload_n dX10_draw_4 0 rfl ?_
  refine kR.getI dX10_draw_5 flX10_82 zcf10 zp1 (Or.inl rfl) ?_
  refine zR.i2l dX10_draw_8 ?_
  refine zR.lmul dX10_draw_9 ?_
  refine zR.ldc2 (v := 12345) dX10_draw_10 clX10_360 ?_
  refine zR.ladd dX10_draw_13 ?_
  refine zR.ldc2 (v := 2147483647) dX10_draw_14 clX10_362 ?_
  refine zR.land dX10_draw_17 ?_
  refine zR.l2i dX10_draw_18 ?_
  refine kR.putI dX10_draw_19 fpX10_82 zcf10 zp1 rfl h (fun σ1 h => ?_)
  refine kR.iload_n dX10_draw_22 1 rfl ?_
  refine kR.if_le (tgt := 38) dX10_draw_23 (by decide) h (fun h => ?_) (fun h => ?_)
  · refine zR.iconst (v := 0) dX10_draw_38 (by decide) ?_
    exact kR.iretW dX10_draw_39 (nzI rfl _) h
  · refine kR.aload_n dX10_draw_26 0 rfl ?_
    refine kR.getI dX10_draw_27 flX10_82 zcf10 zp1 (Or.inl rfl) ?_
    refine zR.bipush (v := 64) dX10_draw_30 (by decide) ?_
    refine zR.idiv dX10_draw_32 (by decide) ?_
    refine kR.iload_n dX10_draw_33 1 rfl ?_
    refine kR.irem dX10_draw_34 h (fun h => ?_)
    refine zR.goto (tgt := 39) dX10_draw_35 (by decide) ?_
    exact kR.iretW dX10_draw_39 (nzI rfl _) h
theorem lX10_draw {sc : Nat × (Nat → Int32)} (p1 : Int32) (σ : zS) (w : Int32 × zS) (h : fX10_draw p1 σ = some w) : zC (zY0 sc) 1 0 0 mX10_draw [.ref 1, .int p1] (zE σ) (some (.int w.1), zE w.2) := zC.of (by decide +kernel) (Nat.le_of_ble_eq_true rfl) ⟨_, rfl⟩ (eX10_draw p1 σ w h)
theorem dX10_drawLength_0 : decode cX10_drawLength 0 = .ok (.aload_n 0, 1) := by decide +kernel
theorem dX10_drawLength_1 : decode cX10_drawLength 1 = .ok (.getfield 38, 3) := by decide +kernel
theorem dX10_drawLength_4 : decode cX10_drawLength 4 = .ok (.getfield 111, 3) := by decide +kernel
theorem dX10_drawLength_7 : decode cX10_drawLength 7 = .ok (.astore_n 2, 1) := by decide +kernel
theorem dX10_drawLength_8 : decode cX10_drawLength 8 = .ok (.aload_n 0, 1) := by decide +kernel
theorem dX10_drawLength_9 : decode cX10_drawLength 9 = .ok (.aload_n 2, 1) := by decide +kernel
theorem dX10_drawLength_10 : decode cX10_drawLength 10 = .ok (.iload_n 1, 1) := by decide +kernel
theorem dX10_drawLength_11 : decode cX10_drawLength 11 = .ok (.invokevirtual 180, 3) := by decide +kernel
theorem dX10_drawLength_14 : decode cX10_drawLength 14 = .ok (.invokevirtual 355, 3) := by decide +kernel
theorem dX10_drawLength_17 : decode cX10_drawLength 17 = .ok (.istore_n 3, 1) := by decide +kernel
theorem dX10_drawLength_18 : decode cX10_drawLength 18 = .ok (.aload_n 2, 1) := by decide +kernel
theorem dX10_drawLength_19 : decode cX10_drawLength 19 = .ok (.iload_n 1, 1) := by decide +kernel
theorem dX10_drawLength_20 : decode cX10_drawLength 20 = .ok (.invokevirtual 168, 3) := by decide +kernel
theorem dX10_drawLength_23 : decode cX10_drawLength 23 = .ok (.iconst 1, 1) := by decide +kernel
theorem dX10_drawLength_24 : decode cX10_drawLength 24 = .ok (.isub, 1) := by decide +kernel
theorem dX10_drawLength_25 : decode cX10_drawLength 25 = .ok (.istore 4, 2) := by decide +kernel
theorem dX10_drawLength_27 : decode cX10_drawLength 27 = .ok (.iconst 0, 1) := by decide +kernel
theorem dX10_drawLength_28 : decode cX10_drawLength 28 = .ok (.istore 5, 2) := by decide +kernel
theorem dX10_drawLength_30 : decode cX10_drawLength 30 = .ok (.iload 5, 2) := by decide +kernel
theorem dX10_drawLength_32 : decode cX10_drawLength 32 = .ok (.iload 4, 2) := by decide +kernel
theorem dX10_drawLength_34 : decode cX10_drawLength 34 = .ok (.if_icmp .ge 31, 3) := by decide +kernel
theorem dX10_drawLength_37 : decode cX10_drawLength 37 = .ok (.iload_n 3, 1) := by decide +kernel
theorem dX10_drawLength_38 : decode cX10_drawLength 38 = .ok (.aload_n 2, 1) := by decide +kernel
theorem dX10_drawLength_39 : decode cX10_drawLength 39 = .ok (.iload_n 1, 1) := by decide +kernel
theorem dX10_drawLength_40 : decode cX10_drawLength 40 = .ok (.iload 5, 2) := by decide +kernel
theorem dX10_drawLength_42 : decode cX10_drawLength 42 = .ok (.invokevirtual 174, 3) := by decide +kernel
theorem dX10_drawLength_45 : decode cX10_drawLength 45 = .ok (.isub, 1) := by decide +kernel
theorem dX10_drawLength_46 : decode cX10_drawLength 46 = .ok (.istore_n 3, 1) := by decide +kernel
theorem dX10_drawLength_47 : decode cX10_drawLength 47 = .ok (.iload_n 3, 1) := by decide +kernel
theorem dX10_drawLength_48 : decode cX10_drawLength 48 = .ok (.ifCond .ge 11, 3) := by decide +kernel
theorem dX10_drawLength_51 : decode cX10_drawLength 51 = .ok (.aload_n 2, 1) := by decide +kernel
theorem dX10_drawLength_52 : decode cX10_drawLength 52 = .ok (.iload_n 1, 1) := by decide +kernel
theorem dX10_drawLength_53 : decode cX10_drawLength 53 = .ok (.iload 5, 2) := by decide +kernel
theorem dX10_drawLength_55 : decode cX10_drawLength 55 = .ok (.invokevirtual 171, 3) := by decide +kernel
theorem dX10_drawLength_58 : decode cX10_drawLength 58 = .ok (.ireturn, 1) := by decide +kernel
theorem dX10_drawLength_59 : decode cX10_drawLength 59 = .ok (.iinc 5 1, 3) := by decide +kernel
theorem dX10_drawLength_62 : decode cX10_drawLength 62 = .ok (.goto (-32), 3) := by decide +kernel
theorem dX10_drawLength_65 : decode cX10_drawLength 65 = .ok (.aload_n 2, 1) := by decide +kernel
theorem dX10_drawLength_66 : decode cX10_drawLength 66 = .ok (.iload_n 1, 1) := by decide +kernel
theorem dX10_drawLength_67 : decode cX10_drawLength 67 = .ok (.iload 4, 2) := by decide +kernel
theorem dX10_drawLength_69 : decode cX10_drawLength 69 = .ok (.invokevirtual 171, 3) := by decide +kernel
theorem dX10_drawLength_72 : decode cX10_drawLength 72 = .ok (.ireturn, 1) := by decide +kernel
def fX10_drawLength_31 : Nat → Int32 → Bool → Int32 → Int32 → Int32 → zS → Option (Int32 × zS)
  | 0, _, _, _, _, _, _ => none
  | f + 1, x1, c2, x3, x4, x5, σ => if x4 ≤ x5 then bnr (fX6_lengthAt c2 σ x1 x4) fun v7 => some (v7, σ) else bnr (fX6_weightAt c2 σ x1 x5) fun v9 => if 0 ≤ (x3 - v9) then fX10_drawLength_31 f x1 c2 (x3 - v9) x4 (x5 + 1) σ else bnr (fX6_lengthAt c2 σ x1 x5) fun v11 => some (v11, σ)
theorem kX10_drawLength_30 {sc : Nat × (Nat → Int32)} : ∀ (fuel : Nat) (x1 : Int32) (c2 : Bool) (x3 : Int32) (x4 : Int32) (x5 : Int32) (σ : zS) (w : Int32 × zS) (h : fX10_drawLength_31 fuel x1 c2 x3 x4 x5 σ = some w), zR (zY0 sc) 4 0 0 mX10_drawLength 30 [(1, .int x1), (2, .ref (rp c2 + 0)), (3, .int x3), (4, .int x4), (5, .int x5)] [] (zE σ) (some (.int w.1), zE w.2) := by
  intro fuel
  induction fuel with
  | zero => intro x1 c2 x3 x4 x5 σ w h; exact nomatch h
  | succ f ih =>
    intro x1 c2 x3 x4 x5 σ w h
    rw [fX10_drawLength_31] at h
    refine kR.iload dX10_drawLength_30 4 rfl ?_
    refine kR.iload dX10_drawLength_32 3 rfl ?_
    refine kR.icmp_ge (tgt := 65) dX10_drawLength_34 (by decide) h (fun h => ?_) (fun h => ?_)
    · refine kR.aload_n dX10_drawLength_65 1 rfl ?_
      refine kR.iload_n dX10_drawLength_66 0 rfl ?_
      refine kR.iload dX10_drawLength_67 3 rfl ?_
      obtain ⟨v7, e8, h⟩ := bnr_some h
      refine kR.cVi [.int x1, .int x4] dX10_drawLength_69 rfl (by decide) mwX10_171 (zq0 c2) (by decide) rfl rfl (Nat.le_of_ble_eq_true rfl) (lX6_lengthAt c2 σ x1 x4 _ e8) ?_
      exact kR.iretW dX10_drawLength_72 (nzI rfl _) h
    · refine kR.iload_n dX10_drawLength_37 2 rfl ?_
      refine kR.aload_n dX10_drawLength_38 1 rfl ?_
      refine kR.iload_n dX10_drawLength_39 0 rfl ?_
      refine kR.iload dX10_drawLength_40 4 rfl ?_
      obtain ⟨v9, e10, h⟩ := bnr_some h
      refine kR.cVi [.int x1, .int x5] dX10_drawLength_42 rfl (by decide) mwX10_174 (zq0 c2) (by decide) rfl rfl (Nat.le_of_ble_eq_true rfl) (lX6_weightAt c2 σ x1 x5 _ e10) ?_
      refine zR.isub dX10_drawLength_45 ?_
      refine zR.istore_n (i := 3) (ls' := [(3, .int (x3 - v9)), (1, .int x1), (2, .ref (rp c2 + 0)), (4, .int x4), (5, .int x5)]) dX10_drawLength_46 rfl (by decide) rfl ?_
      refine kR.iload_n dX10_drawLength_47 0 rfl ?_
      refine kR.if_ge (tgt := 59) dX10_drawLength_48 (by decide) h (fun h => ?_) (fun h => ?_)
      · refine zR.iinc 4 (v := x5 + 1) (ls' := [(5, .int (x5 + 1)), (3, .int (x3 - v9)), (1, .int x1), (2, .ref (rp c2 + 0)), (4, .int x4)]) dX10_drawLength_59 rfl rfl (by decide) rfl ?_
        refine zR.goto (tgt := 30) dX10_drawLength_62 (by decide) ?_
        refine zR.sub [2, 3, 1, 4, 0] rfl ?_
        exact ih _ _ _ _ _ _ _ h
      · refine kR.aload_n dX10_drawLength_51 2 rfl ?_
        refine kR.iload_n dX10_drawLength_52 1 rfl ?_
        refine kR.iload dX10_drawLength_53 4 rfl ?_
        obtain ⟨v11, e12, h⟩ := bnr_some h
        refine kR.cVi [.int x1, .int x5] dX10_drawLength_55 rfl (by decide) mwX10_171 (zq0 c2) (by decide) rfl rfl (Nat.le_of_ble_eq_true rfl) (lX6_lengthAt c2 σ x1 x5 _ e12) ?_
        exact kR.iretW dX10_drawLength_58 (nzI rfl _) h
def fX10_drawLength (p1 : Int32) (σ : zS) : Option (Int32 × zS) := bnr (fX6_allWeights σ.2.2.2.1 σ p1) fun v1 => bnc (fX10_draw v1 σ) fun v5 σ3 => aI σ3 (rp σ.2.2.2.1 + 3) 6 p1 fun v6 => fX10_drawLength_31 zF p1 σ.2.2.2.1 v5 (v6 - 1) 0 σ3
theorem eX10_drawLength {sc : Nat × (Nat → Int32)} (p1 : Int32) (σ : zS) (w : Int32 × zS) (h : fX10_drawLength p1 σ = some w) : zR (zY0 sc) 4 0 0 mX10_drawLength 0 [(0, .ref 1), (1, .int p1)] [] (zE σ) (some (.int w.1), zE w.2) := by
  unfold fX10_drawLength at h
  refine kR.aload_n dX10_drawLength_0 0 rfl ?_
  refine kR.getR (v := 8) dX10_drawLength_1 flX10_38 zcf10 zp1 (Or.inl ⟨_, rfl⟩) rfl ?_
  refine kR.getR (v := (rp σ.2.2.2.1 + 0)) dX10_drawLength_4 flX10_111 zcf4 zp8 (Or.inl ⟨_, rfl⟩) rfl ?_
  refine zR.astore_n (i := 2) (ls' := [(2, .ref (rp σ.2.2.2.1 + 0)), (0, .ref 1), (1, .int p1)]) dX10_drawLength_7 rfl (by decide) rfl ?_
  refine kR.aload_n dX10_drawLength_8 1 rfl ?_
  refine kR.aload_n dX10_drawLength_9 0 rfl ?_
  refine kR.iload_n dX10_drawLength_10 2 rfl ?_
  obtain ⟨v1, e2, h⟩ := bnr_some h
  refine kR.cVi [.int p1] dX10_drawLength_11 rfl (by decide) mwX10_180 (zq0 σ.2.2.2.1) (by decide) rfl rfl (Nat.le_of_ble_eq_true rfl) (lX6_allWeights σ.2.2.2.1 σ p1 _ e2) ?_
  obtain ⟨v5, σ3, e4, h⟩ := bnc_some h
  refine kR.cVi [.int v1] dX10_drawLength_14 rfl (by decide) mwX10_355 zp1 (by decide) rfl rfl (Nat.le_of_ble_eq_true rfl) (lX10_draw v1 σ _ e4) ?_
  refine zR.istore_n (i := 3) (ls' := [(3, .int v5), (2, .ref (rp σ.2.2.2.1 + 0)), (0, .ref 1), (1, .int p1)]) dX10_drawLength_17 rfl (by decide) rfl ?_
  refine kR.aload_n dX10_drawLength_18 1 rfl ?_
  refine kR.iload_n dX10_drawLength_19 3 rfl ?_
  obtain ⟨v6, e0, h⟩ := aIlc h
  refine kR.cVi [.int p1] dX10_drawLength_20 rfl (by decide) mwX10_168 (zq0 σ.2.2.2.1) (by decide) rfl rfl (Nat.le_of_ble_eq_true rfl) (lX6_lengthCount σ.2.2.2.1 σ3 p1 _ e0) ?_
  refine zR.iconst (v := 1) dX10_drawLength_23 (by decide) ?_
  refine zR.isub dX10_drawLength_24 ?_
  refine zR.istore (i := 4) (ls' := [(4, .int (v6 - 1)), (3, .int v5), (2, .ref (rp σ.2.2.2.1 + 0)), (0, .ref 1), (1, .int p1)]) dX10_drawLength_25 (by decide) rfl ?_
  refine zR.iconst (v := 0) dX10_drawLength_27 (by decide) ?_
  refine zR.istore (i := 5) (ls' := [(5, .int 0), (4, .int (v6 - 1)), (3, .int v5), (2, .ref (rp σ.2.2.2.1 + 0)), (0, .ref 1), (1, .int p1)]) dX10_drawLength_28 (by decide) rfl ?_
  refine zR.sub [5, 3, 2, 1, 0] rfl ?_
  exact kX10_drawLength_30 zF _ _ _ _ _ _ _ h
theorem lX10_drawLength {sc : Nat × (Nat → Int32)} (p1 : Int32) (σ : zS) (w : Int32 × zS) (h : fX10_drawLength p1 σ = some w) : zC (zY0 sc) 4 0 0 mX10_drawLength [.ref 1, .int p1] (zE σ) (some (.int w.1), zE w.2) := zC.of (by decide +kernel) (Nat.le_of_ble_eq_true rfl) ⟨_, rfl⟩ (eX10_drawLength p1 σ w h)
theorem dX7_setNextTunnel_0 : decode cX7_setNextTunnel 0 = .ok (.aload_n 0, 1) := by decide +kernel
theorem dX7_setNextTunnel_1 : decode cX7_setNextTunnel 1 = .ok (.getfield 11, 3) := by decide +kernel
theorem dX7_setNextTunnel_4 : decode cX7_setNextTunnel 4 = .ok (.iconst 0, 1) := by decide +kernel
theorem dX7_setNextTunnel_5 : decode cX7_setNextTunnel 5 = .ok (.iload_n 1, 1) := by decide +kernel
theorem dX7_setNextTunnel_6 : decode cX7_setNextTunnel 6 = .ok (.iastore, 1) := by decide +kernel
theorem dX7_setNextTunnel_7 : decode cX7_setNextTunnel 7 = .ok (.return_, 1) := by decide +kernel
def fX7_setNextTunnel (p1 : Int32) (σ : zS) : Option zS := wI σ 5 104 0 p1 fun σ1 => some σ1
theorem eX7_setNextTunnel {sc : Nat × (Nat → Int32)} (p1 : Int32) (σ : zS) (w : zS) (h : fX7_setNextTunnel p1 σ = some w) : zR (zY0 sc) 1 0 0 mX7_setNextTunnel 0 [(0, .ref 4), (1, .int p1)] [] (zE σ) (none, zE w) := by
  unfold fX7_setNextTunnel at h
  refine kR.aload_n dX7_setNextTunnel_0 0 rfl ?_
  refine kR.getR (v := 5) dX7_setNextTunnel_1 flX7_11 zcf7 zp4 (Or.inr ⟨_, rfl⟩) rfl ?_
  refine zR.iconst (v := 0) dX7_setNextTunnel_4 (by decide) ?_
  refine kR.iload_n dX7_setNextTunnel_5 1 rfl ?_
  refine kR.iast dX7_setNextTunnel_6 zp5 rfl h (fun σ1 h => ?_)
  exact kR.vret dX7_setNextTunnel_7 h
theorem lX7_setNextTunnel {sc : Nat × (Nat → Int32)} (p1 : Int32) (σ : zS) (w : zS) (h : fX7_setNextTunnel p1 σ = some w) : zC (zY0 sc) 1 0 0 mX7_setNextTunnel [.ref 4, .int p1] (zE σ) (none, zE w) := zC.of (by decide +kernel) (Nat.le_of_ble_eq_true rfl) rfl (eX7_setNextTunnel p1 σ w h)
theorem dX7_setScore_0 : decode cX7_setScore 0 = .ok (.aload_n 0, 1) := by decide +kernel
theorem dX7_setScore_1 : decode cX7_setScore 1 = .ok (.getfield 11, 3) := by decide +kernel
theorem dX7_setScore_4 : decode cX7_setScore 4 = .ok (.bipush 62, 2) := by decide +kernel
theorem dX7_setScore_6 : decode cX7_setScore 6 = .ok (.iload_n 1, 1) := by decide +kernel
theorem dX7_setScore_7 : decode cX7_setScore 7 = .ok (.iadd, 1) := by decide +kernel
theorem dX7_setScore_8 : decode cX7_setScore 8 = .ok (.iload_n 2, 1) := by decide +kernel
theorem dX7_setScore_9 : decode cX7_setScore 9 = .ok (.invokestatic 36, 3) := by decide +kernel
theorem dX7_setScore_12 : decode cX7_setScore 12 = .ok (.return_, 1) := by decide +kernel
def fX7_setScore (p1 : Int32) (p2 : Int32) (σ : zS) : Option zS := wI σ 5 104 (62 + p1) p2 fun σ1 => some σ1
theorem eX7_setScore {sc : Nat × (Nat → Int32)} (p1 : Int32) (p2 : Int32) (σ : zS) (w : zS) (h : fX7_setScore p1 p2 σ = some w) : zR (zY0 sc) 2 0 0 mX7_setScore 0 [(0, .ref 4), (1, .int p1), (2, .int p2)] [] (zE σ) (none, zE w) := by
  unfold fX7_setScore at h
  refine kR.aload_n dX7_setScore_0 0 rfl ?_
  refine kR.getR (v := 5) dX7_setScore_1 flX7_11 zcf7 zp4 (Or.inr ⟨_, rfl⟩) rfl ?_
  refine zR.bipush (v := 62) dX7_setScore_4 (by decide) ?_
  refine kR.iload_n dX7_setScore_6 1 rfl ?_
  refine zR.iadd dX7_setScore_7 ?_
  refine kR.iload_n dX7_setScore_8 2 rfl ?_
  obtain ⟨σ1, e0, h⟩ := wIv (Nat.le_of_ble_eq_true rfl) h
  refine kR.cSv [.ref 5, .int (62 + p1), .int p2] dX7_setScore_9 rfl (by decide) (Or.inr mwX7_36) rfl (Nat.le_of_ble_eq_true rfl) (lX10_setAt 5 104 (fun _ => zp5) rfl (Nat.le_of_ble_eq_true rfl) (62 + p1) p2 σ _ e0) ?_
  exact kR.vret dX7_setScore_12 h
theorem lX7_setScore {sc : Nat × (Nat → Int32)} (p1 : Int32) (p2 : Int32) (σ : zS) (w : zS) (h : fX7_setScore p1 p2 σ = some w) : zC (zY0 sc) 2 0 0 mX7_setScore [.ref 4, .int p1, .int p2] (zE σ) (none, zE w) := zC.of (by decide +kernel) (Nat.le_of_ble_eq_true rfl) rfl (eX7_setScore p1 p2 σ w h)
theorem dX7_addScore_0 : decode cX7_addScore 0 = .ok (.aload_n 0, 1) := by decide +kernel
theorem dX7_addScore_1 : decode cX7_addScore 1 = .ok (.iload_n 1, 1) := by decide +kernel
theorem dX7_addScore_2 : decode cX7_addScore 2 = .ok (.aload_n 0, 1) := by decide +kernel
theorem dX7_addScore_3 : decode cX7_addScore 3 = .ok (.iload_n 1, 1) := by decide +kernel
theorem dX7_addScore_4 : decode cX7_addScore 4 = .ok (.invokevirtual 40, 3) := by decide +kernel
theorem dX7_addScore_7 : decode cX7_addScore 7 = .ok (.iload_n 2, 1) := by decide +kernel
theorem dX7_addScore_8 : decode cX7_addScore 8 = .ok (.iadd, 1) := by decide +kernel
theorem dX7_addScore_9 : decode cX7_addScore 9 = .ok (.ldc 44, 2) := by decide +kernel
theorem dX7_addScore_11 : decode cX7_addScore 11 = .ok (.ldc 45, 2) := by decide +kernel
theorem dX7_addScore_13 : decode cX7_addScore 13 = .ok (.invokestatic 46, 3) := by decide +kernel
theorem dX7_addScore_16 : decode cX7_addScore 16 = .ok (.invokevirtual 50, 3) := by decide +kernel
theorem dX7_addScore_19 : decode cX7_addScore 19 = .ok (.return_, 1) := by decide +kernel
def nX7_addScore (p1 : Int32) (p2 : Int32) (σ : zS) : Option zS := bnr (fX7_scoreOf σ p1) fun v1 => bnr (fX7_setScore p1 (fX10_within (v1 + p2) ((-99999)) 99999) σ) fun σ3 => some σ3
theorem eX7_addScore {sc : Nat × (Nat → Int32)} (p1 : Int32) (p2 : Int32) (σ : zS) (w : zS) (h : nX7_addScore p1 p2 σ = some w) : zR (zY0 sc) 3 0 0 mX7_addScore 0 [(0, .ref 4), (1, .int p1), (2, .int p2)] [] (zE σ) (none, zE w) := by
  unfold nX7_addScore at h
  refine kR.aload_n dX7_addScore_0 0 rfl ?_
  refine kR.iload_n dX7_addScore_1 1 rfl ?_
  refine kR.aload_n dX7_addScore_2 0 rfl ?_
  refine kR.iload_n dX7_addScore_3 1 rfl ?_
  obtain ⟨v1, e2, h⟩ := bnr_some h
  refine kR.cVi [.int p1] dX7_addScore_4 rfl (by decide) mwX7_40 zp4 (by decide) rfl rfl (Nat.le_of_ble_eq_true rfl) (lX7_scoreOf σ p1 _ e2) ?_
  refine kR.iload_n dX7_addScore_7 2 rfl ?_
  refine zR.iadd dX7_addScore_8 ?_
  refine zR.ldc (v := (-99999)) dX7_addScore_9 ciX7_44 ?_
  refine zR.ldc (v := 99999) dX7_addScore_11 ciX7_45 ?_
  refine kR.cSi [.int (v1 + p2), .int ((-99999)), .int 99999] dX7_addScore_13 rfl (by decide) (Or.inr mwX7_46) rfl (Nat.le_of_ble_eq_true rfl) (lX10_within (v1 + p2) ((-99999)) 99999) ?_
  obtain ⟨σ3, e4, h⟩ := bnr_some h
  refine kR.cVv [.int p1, .int (fX10_within (v1 + p2) ((-99999)) 99999)] dX7_addScore_16 rfl (by decide) mwX7_50 zp4 (by decide) rfl rfl (Nat.le_of_ble_eq_true rfl) (lX7_setScore p1 (fX10_within (v1 + p2) ((-99999)) 99999) σ _ e4) ?_
  exact kR.vret dX7_addScore_19 h
theorem lnX7_addScore {sc : Nat × (Nat → Int32)} (p1 : Int32) (p2 : Int32) (σ : zS) (w : zS) (h : nX7_addScore p1 p2 σ = some w) : zC (zY0 sc) 3 0 0 mX7_addScore [.ref 4, .int p1, .int p2] (zE σ) (none, zE w) := zC.of (by decide +kernel) (Nat.le_of_ble_eq_true rfl) rfl (eX7_addScore p1 p2 σ w h)
def fX7_addScore (p1 : Int32) (p2 : Int32) (σ : zS) : Option zS := aI σ 5 104 (62 + p1) fun v1 => wI σ 5 104 (62 + p1) (fX10_within (v1 + p2) ((-99999)) 99999) fun σ2 => some σ2
theorem br_X7_addScore {p1 p2 : Int32} {σ w : zS} (h : fX7_addScore p1 p2 σ = some w) : nX7_addScore p1 p2 σ = some w := by
  unfold fX7_addScore at h
  unfold nX7_addScore
  obtain ⟨b1, h⟩ := bq_aI h
  obtain ⟨b2, h⟩ := bq_wI h
  have e1 : fX7_scoreOf σ p1 = some (iG σ 5 (62 + p1).toNatClampNeg) := by
    unfold fX7_scoreOf
    rw [bq_aIi b1]
  rw [bq_bnr e1]
  unfold fX7_setScore
  rw [bq_wIi b2]
  exact h
theorem lX7_addScore {sc : Nat × (Nat → Int32)} (p1 : Int32) (p2 : Int32) (σ : zS) (w : zS) (h : fX7_addScore p1 p2 σ = some w) : zC (zY0 sc) 3 0 0 mX7_addScore [.ref 4, .int p1, .int p2] (zE σ) (none, zE w) := lnX7_addScore p1 p2 σ w (br_X7_addScore h)
theorem dX4_tiredAmong_0 : decode cX4_tiredAmong 0 = .ok (.aload_n 0, 1) := by decide +kernel
theorem dX4_tiredAmong_1 : decode cX4_tiredAmong 1 = .ok (.getfield 22, 3) := by decide +kernel
theorem dX4_tiredAmong_4 : decode cX4_tiredAmong 4 = .ok (.getfield 62, 3) := by decide +kernel
theorem dX4_tiredAmong_7 : decode cX4_tiredAmong 7 = .ok (.iconst 1, 1) := by decide +kernel
theorem dX4_tiredAmong_8 : decode cX4_tiredAmong 8 = .ok (.invokevirtual 79, 3) := by decide +kernel
theorem dX4_tiredAmong_11 : decode cX4_tiredAmong 11 = .ok (.ifCond .ne 12, 3) := by decide +kernel
theorem dX4_tiredAmong_14 : decode cX4_tiredAmong 14 = .ok (.aload_n 0, 1) := by decide +kernel
theorem dX4_tiredAmong_15 : decode cX4_tiredAmong 15 = .ok (.getfield 18, 3) := by decide +kernel
theorem dX4_tiredAmong_18 : decode cX4_tiredAmong 18 = .ok (.iload_n 1, 1) := by decide +kernel
theorem dX4_tiredAmong_19 : decode cX4_tiredAmong 19 = .ok (.invokevirtual 26, 3) := by decide +kernel
theorem dX4_tiredAmong_22 : decode cX4_tiredAmong 22 = .ok (.ireturn, 1) := by decide +kernel
theorem dX4_tiredAmong_23 : decode cX4_tiredAmong 23 = .ok (.aload_n 0, 1) := by decide +kernel
theorem dX4_tiredAmong_24 : decode cX4_tiredAmong 24 = .ok (.iload_n 1, 1) := by decide +kernel
theorem dX4_tiredAmong_25 : decode cX4_tiredAmong 25 = .ok (.iload_n 2, 1) := by decide +kernel
theorem dX4_tiredAmong_26 : decode cX4_tiredAmong 26 = .ok (.iload_n 3, 1) := by decide +kernel
theorem dX4_tiredAmong_27 : decode cX4_tiredAmong 27 = .ok (.invokevirtual 75, 3) := by decide +kernel
theorem dX4_tiredAmong_30 : decode cX4_tiredAmong 30 = .ok (.aload_n 0, 1) := by decide +kernel
theorem dX4_tiredAmong_31 : decode cX4_tiredAmong 31 = .ok (.getfield 22, 3) := by decide +kernel
theorem dX4_tiredAmong_34 : decode cX4_tiredAmong 34 = .ok (.getfield 62, 3) := by decide +kernel
theorem dX4_tiredAmong_37 : decode cX4_tiredAmong 37 = .ok (.iconst 1, 1) := by decide +kernel
theorem dX4_tiredAmong_38 : decode cX4_tiredAmong 38 = .ok (.aload_n 0, 1) := by decide +kernel
theorem dX4_tiredAmong_39 : decode cX4_tiredAmong 39 = .ok (.getfield 15, 3) := by decide +kernel
theorem dX4_tiredAmong_42 : decode cX4_tiredAmong 42 = .ok (.invokevirtual 68, 3) := by decide +kernel
theorem dX4_tiredAmong_45 : decode cX4_tiredAmong 45 = .ok (.iconst 0, 1) := by decide +kernel
theorem dX4_tiredAmong_46 : decode cX4_tiredAmong 46 = .ok (.bipush 60, 2) := by decide +kernel
theorem dX4_tiredAmong_48 : decode cX4_tiredAmong 48 = .ok (.invokestatic 72, 3) := by decide +kernel
theorem dX4_tiredAmong_51 : decode cX4_tiredAmong 51 = .ok (.ireturn, 1) := by decide +kernel
def fX4_tiredAmong (p1 : Int32) (p2 : Int32) (p3 : Int32) (σ : zS) : Option (Int32 × zS) := bnr (fX8_isTold σ.2.2.2.1 σ 1) fun v1 => if v1 = 0 then bnr (fX7_breathOf σ p1) fun v8 => some (v8, σ) else bnr (fX4_tellAmong p1 p2 p3 σ) fun σ3 => bnc (fX8_valueOf σ3.2.2.2.1 26 7 1 σ3) fun v7 σ5 => some (fX10_within v7 0 60, σ5)
theorem eX4_tiredAmong {sc : Nat × (Nat → Int32)} (p1 : Int32) (p2 : Int32) (p3 : Int32) (σ : zS) (w : Int32 × zS) (h : fX4_tiredAmong p1 p2 p3 σ = some w) : zR (zY0 sc) 4 0 0 mX4_tiredAmong 0 [(0, .ref 8), (1, .int p1), (2, .int p2), (3, .int p3)] [] (zE σ) (some (.int w.1), zE w.2) := by
  unfold fX4_tiredAmong at h
  refine kR.aload_n dX4_tiredAmong_0 0 rfl ?_
  refine kR.getR (v := (rp σ.2.2.2.1 + 0)) dX4_tiredAmong_1 flX4_22 zcf4 zp8 (Or.inl ⟨_, rfl⟩) rfl ?_
  refine kR.getR (v := (rp σ.2.2.2.1 + 11)) dX4_tiredAmong_4 flX4_62 zcf6 (zq0 σ.2.2.2.1) (Or.inl ⟨_, rfl⟩) (zr0_15 _ σ.2.2.2.1) ?_
  refine zR.iconst (v := 1) dX4_tiredAmong_7 (by decide) ?_
  obtain ⟨v1, e2, h⟩ := bnr_some h
  refine kR.cVi [.int 1] dX4_tiredAmong_8 rfl (by decide) mwX4_79 (zq11 σ.2.2.2.1) (by decide) rfl rfl (Nat.le_of_ble_eq_true rfl) (lX8_isTold σ.2.2.2.1 σ 1 _ e2) ?_
  refine kR.if_ne (tgt := 23) dX4_tiredAmong_11 (by decide) h (fun h => ?_) (fun h => ?_)
  · refine kR.aload_n dX4_tiredAmong_23 0 rfl ?_
    refine kR.iload_n dX4_tiredAmong_24 1 rfl ?_
    refine kR.iload_n dX4_tiredAmong_25 2 rfl ?_
    refine kR.iload_n dX4_tiredAmong_26 3 rfl ?_
    obtain ⟨σ3, e4, h⟩ := bnr_some h
    refine kR.cVv [.int p1, .int p2, .int p3] dX4_tiredAmong_27 rfl (by decide) mwX4_75 zp8 (by decide) rfl rfl (Nat.le_of_ble_eq_true rfl) (lX4_tellAmong p1 p2 p3 σ _ e4) ?_
    refine kR.aload_n dX4_tiredAmong_30 0 rfl ?_
    refine kR.getR (v := (rp σ3.2.2.2.1 + 0)) dX4_tiredAmong_31 flX4_22 zcf4 zp8 (Or.inl ⟨_, rfl⟩) rfl ?_
    refine kR.getR (v := (rp σ3.2.2.2.1 + 11)) dX4_tiredAmong_34 flX4_62 zcf6 (zq0 σ3.2.2.2.1) (Or.inl ⟨_, rfl⟩) (zr0_15 _ σ3.2.2.2.1) ?_
    refine zR.iconst (v := 1) dX4_tiredAmong_37 (by decide) ?_
    refine kR.aload_n dX4_tiredAmong_38 0 rfl ?_
    refine kR.getR (v := 26) dX4_tiredAmong_39 flX4_15 zcf4 zp8 (Or.inr ⟨_, rfl⟩) rfl ?_
    obtain ⟨v7, σ5, e6, h⟩ := bnc_some h
    refine kR.cVi [.int 1, .ref 26] dX4_tiredAmong_42 rfl (by decide) mwX4_68 (zq11 σ3.2.2.2.1) (by decide) rfl rfl (Nat.le_of_ble_eq_true rfl) (lX8_valueOf σ3.2.2.2.1 26 7 (fun _ => zp26) rfl (Nat.le_of_ble_eq_true rfl) 1 σ3 _ e6) ?_
    refine zR.iconst (v := 0) dX4_tiredAmong_45 (by decide) ?_
    refine zR.bipush (v := 60) dX4_tiredAmong_46 (by decide) ?_
    refine kR.cSi [.int v7, .int 0, .int 60] dX4_tiredAmong_48 rfl (by decide) (Or.inr mwX4_72) rfl (Nat.le_of_ble_eq_true rfl) (lX10_within v7 0 60) ?_
    exact kR.iretW dX4_tiredAmong_51 (nzI rfl _) h
  · refine kR.aload_n dX4_tiredAmong_14 0 rfl ?_
    refine kR.getR (v := 4) dX4_tiredAmong_15 flX4_18 zcf4 zp8 (Or.inl ⟨_, rfl⟩) rfl ?_
    refine kR.iload_n dX4_tiredAmong_18 1 rfl ?_
    obtain ⟨v8, e9, h⟩ := bnr_some h
    refine kR.cVi [.int p1] dX4_tiredAmong_19 rfl (by decide) mwX4_26 zp4 (by decide) rfl rfl (Nat.le_of_ble_eq_true rfl) (lX7_breathOf σ p1 _ e9) ?_
    exact kR.iretW dX4_tiredAmong_22 (nzI rfl _) h
theorem lX4_tiredAmong {sc : Nat × (Nat → Int32)} (p1 : Int32) (p2 : Int32) (p3 : Int32) (σ : zS) (w : Int32 × zS) (h : fX4_tiredAmong p1 p2 p3 σ = some w) : zC (zY0 sc) 4 0 0 mX4_tiredAmong [.ref 8, .int p1, .int p2, .int p3] (zE σ) (some (.int w.1), zE w.2) := zC.of (by decide +kernel) (Nat.le_of_ble_eq_true rfl) ⟨_, rfl⟩ (eX4_tiredAmong p1 p2 p3 σ w h)
theorem dX7_setBreath_0 : decode cX7_setBreath 0 = .ok (.aload_n 0, 1) := by decide +kernel
theorem dX7_setBreath_1 : decode cX7_setBreath 1 = .ok (.getfield 11, 3) := by decide +kernel
theorem dX7_setBreath_4 : decode cX7_setBreath 4 = .ok (.bipush 50, 2) := by decide +kernel
theorem dX7_setBreath_6 : decode cX7_setBreath 6 = .ok (.iload_n 1, 1) := by decide +kernel
theorem dX7_setBreath_7 : decode cX7_setBreath 7 = .ok (.iadd, 1) := by decide +kernel
theorem dX7_setBreath_8 : decode cX7_setBreath 8 = .ok (.iload_n 2, 1) := by decide +kernel
theorem dX7_setBreath_9 : decode cX7_setBreath 9 = .ok (.invokestatic 36, 3) := by decide +kernel
theorem dX7_setBreath_12 : decode cX7_setBreath 12 = .ok (.return_, 1) := by decide +kernel
def fX7_setBreath (p1 : Int32) (p2 : Int32) (σ : zS) : Option zS := wI σ 5 104 (50 + p1) p2 fun σ1 => some σ1
theorem eX7_setBreath {sc : Nat × (Nat → Int32)} (p1 : Int32) (p2 : Int32) (σ : zS) (w : zS) (h : fX7_setBreath p1 p2 σ = some w) : zR (zY0 sc) 2 0 0 mX7_setBreath 0 [(0, .ref 4), (1, .int p1), (2, .int p2)] [] (zE σ) (none, zE w) := by
  unfold fX7_setBreath at h
  refine kR.aload_n dX7_setBreath_0 0 rfl ?_
  refine kR.getR (v := 5) dX7_setBreath_1 flX7_11 zcf7 zp4 (Or.inr ⟨_, rfl⟩) rfl ?_
  refine zR.bipush (v := 50) dX7_setBreath_4 (by decide) ?_
  refine kR.iload_n dX7_setBreath_6 1 rfl ?_
  refine zR.iadd dX7_setBreath_7 ?_
  refine kR.iload_n dX7_setBreath_8 2 rfl ?_
  obtain ⟨σ1, e0, h⟩ := wIv (Nat.le_of_ble_eq_true rfl) h
  refine kR.cSv [.ref 5, .int (50 + p1), .int p2] dX7_setBreath_9 rfl (by decide) (Or.inr mwX7_36) rfl (Nat.le_of_ble_eq_true rfl) (lX10_setAt 5 104 (fun _ => zp5) rfl (Nat.le_of_ble_eq_true rfl) (50 + p1) p2 σ _ e0) ?_
  exact kR.vret dX7_setBreath_12 h
theorem lX7_setBreath {sc : Nat × (Nat → Int32)} (p1 : Int32) (p2 : Int32) (σ : zS) (w : zS) (h : fX7_setBreath p1 p2 σ = some w) : zC (zY0 sc) 2 0 0 mX7_setBreath [.ref 4, .int p1, .int p2] (zE σ) (none, zE w) := zC.of (by decide +kernel) (Nat.le_of_ble_eq_true rfl) rfl (eX7_setBreath p1 p2 σ w h)
theorem dX7_keep_0 : decode cX7_keep 0 = .ok (.aload_n 0, 1) := by decide +kernel
theorem dX7_keep_1 : decode cX7_keep 1 = .ok (.getfield 11, 3) := by decide +kernel
theorem dX7_keep_4 : decode cX7_keep 4 = .ok (.iconst 2, 1) := by decide +kernel
theorem dX7_keep_5 : decode cX7_keep 5 = .ok (.aload_n 0, 1) := by decide +kernel
theorem dX7_keep_6 : decode cX7_keep 6 = .ok (.getfield 11, 3) := by decide +kernel
theorem dX7_keep_9 : decode cX7_keep 9 = .ok (.iconst 1, 1) := by decide +kernel
theorem dX7_keep_10 : decode cX7_keep 10 = .ok (.iaload, 1) := by decide +kernel
theorem dX7_keep_11 : decode cX7_keep 11 = .ok (.bipush 48, 2) := by decide +kernel
theorem dX7_keep_13 : decode cX7_keep 13 = .ok (.irem, 1) := by decide +kernel
theorem dX7_keep_14 : decode cX7_keep 14 = .ok (.iadd, 1) := by decide +kernel
theorem dX7_keep_15 : decode cX7_keep 15 = .ok (.iload_n 1, 1) := by decide +kernel
theorem dX7_keep_16 : decode cX7_keep 16 = .ok (.bipush 24, 2) := by decide +kernel
theorem dX7_keep_18 : decode cX7_keep 18 = .ok (.ishl, 1) := by decide +kernel
theorem dX7_keep_19 : decode cX7_keep 19 = .ok (.iload_n 2, 1) := by decide +kernel
theorem dX7_keep_20 : decode cX7_keep 20 = .ok (.bipush 16, 2) := by decide +kernel
theorem dX7_keep_22 : decode cX7_keep 22 = .ok (.ishl, 1) := by decide +kernel
theorem dX7_keep_23 : decode cX7_keep 23 = .ok (.ior, 1) := by decide +kernel
theorem dX7_keep_24 : decode cX7_keep 24 = .ok (.iload_n 3, 1) := by decide +kernel
theorem dX7_keep_25 : decode cX7_keep 25 = .ok (.bipush 8, 2) := by decide +kernel
theorem dX7_keep_27 : decode cX7_keep 27 = .ok (.ishl, 1) := by decide +kernel
theorem dX7_keep_28 : decode cX7_keep 28 = .ok (.ior, 1) := by decide +kernel
theorem dX7_keep_29 : decode cX7_keep 29 = .ok (.iload 4, 2) := by decide +kernel
theorem dX7_keep_31 : decode cX7_keep 31 = .ok (.ior, 1) := by decide +kernel
theorem dX7_keep_32 : decode cX7_keep 32 = .ok (.invokestatic 36, 3) := by decide +kernel
theorem dX7_keep_35 : decode cX7_keep 35 = .ok (.aload_n 0, 1) := by decide +kernel
theorem dX7_keep_36 : decode cX7_keep 36 = .ok (.getfield 11, 3) := by decide +kernel
theorem dX7_keep_39 : decode cX7_keep 39 = .ok (.iconst 1, 1) := by decide +kernel
theorem dX7_keep_40 : decode cX7_keep 40 = .ok (.dup2, 1) := by decide +kernel
theorem dX7_keep_41 : decode cX7_keep 41 = .ok (.iaload, 1) := by decide +kernel
theorem dX7_keep_42 : decode cX7_keep 42 = .ok (.iconst 1, 1) := by decide +kernel
theorem dX7_keep_43 : decode cX7_keep 43 = .ok (.iadd, 1) := by decide +kernel
theorem dX7_keep_44 : decode cX7_keep 44 = .ok (.iastore, 1) := by decide +kernel
theorem dX7_keep_45 : decode cX7_keep 45 = .ok (.aload_n 0, 1) := by decide +kernel
theorem dX7_keep_46 : decode cX7_keep 46 = .ok (.getfield 11, 3) := by decide +kernel
theorem dX7_keep_49 : decode cX7_keep 49 = .ok (.iconst 1, 1) := by decide +kernel
theorem dX7_keep_50 : decode cX7_keep 50 = .ok (.iaload, 1) := by decide +kernel
theorem dX7_keep_51 : decode cX7_keep 51 = .ok (.bipush 96, 2) := by decide +kernel
theorem dX7_keep_53 : decode cX7_keep 53 = .ok (.if_icmp .ne 11, 3) := by decide +kernel
theorem dX7_keep_56 : decode cX7_keep 56 = .ok (.aload_n 0, 1) := by decide +kernel
theorem dX7_keep_57 : decode cX7_keep 57 = .ok (.getfield 11, 3) := by decide +kernel
theorem dX7_keep_60 : decode cX7_keep 60 = .ok (.iconst 1, 1) := by decide +kernel
theorem dX7_keep_61 : decode cX7_keep 61 = .ok (.bipush 48, 2) := by decide +kernel
theorem dX7_keep_63 : decode cX7_keep 63 = .ok (.iastore, 1) := by decide +kernel
theorem dX7_keep_64 : decode cX7_keep 64 = .ok (.return_, 1) := by decide +kernel
def fX7_keep (p1 : Int32) (p2 : Int32) (p3 : Int32) (p4 : Int32) (σ : zS) : Option zS := aI σ 5 104 1 fun v1 => wI σ 5 104 (2 + (v1 - v1 / 48 * 48)) ((((p1 <<< (24 &&& 31)) ||| (p2 <<< (16 &&& 31))) ||| (p3 <<< (8 &&& 31))) ||| p4) fun σ2 => aI σ2 5 104 1 fun v3 => wI σ2 5 104 1 (v3 + 1) fun σ4 => aI σ4 5 104 1 fun v5 => if v5 = 96 then wI σ4 5 104 1 48 fun σ6 => some σ6 else some σ4
theorem eX7_keep {sc : Nat × (Nat → Int32)} (p1 : Int32) (p2 : Int32) (p3 : Int32) (p4 : Int32) (σ : zS) (w : zS) (h : fX7_keep p1 p2 p3 p4 σ = some w) : zR (zY0 sc) 2 0 0 mX7_keep 0 [(0, .ref 4), (1, .int p1), (2, .int p2), (3, .int p3), (4, .int p4)] [] (zE σ) (none, zE w) := by
  unfold fX7_keep at h
  refine kR.aload_n dX7_keep_0 0 rfl ?_
  refine kR.getR (v := 5) dX7_keep_1 flX7_11 zcf7 zp4 (Or.inr ⟨_, rfl⟩) rfl ?_
  refine zR.iconst (v := 2) dX7_keep_4 (by decide) ?_
  refine kR.aload_n dX7_keep_5 0 rfl ?_
  refine kR.getR (v := 5) dX7_keep_6 flX7_11 zcf7 zp4 (Or.inr ⟨_, rfl⟩) rfl ?_
  refine zR.iconst (v := 1) dX7_keep_9 (by decide) ?_
  refine kR.iald dX7_keep_10 zp5 rfl h (fun v1 h => ?_)
  refine zR.bipush (v := 48) dX7_keep_11 (by decide) ?_
  refine zR.irem dX7_keep_13 (by decide) ?_
  refine zR.iadd dX7_keep_14 ?_
  refine kR.iload_n dX7_keep_15 1 rfl ?_
  refine zR.bipush (v := 24) dX7_keep_16 (by decide) ?_
  refine zR.ishl dX7_keep_18 ?_
  refine kR.iload_n dX7_keep_19 2 rfl ?_
  refine zR.bipush (v := 16) dX7_keep_20 (by decide) ?_
  refine zR.ishl dX7_keep_22 ?_
  refine zR.ior dX7_keep_23 ?_
  refine kR.iload_n dX7_keep_24 3 rfl ?_
  refine zR.bipush (v := 8) dX7_keep_25 (by decide) ?_
  refine zR.ishl dX7_keep_27 ?_
  refine zR.ior dX7_keep_28 ?_
  refine kR.iload dX7_keep_29 4 rfl ?_
  refine zR.ior dX7_keep_31 ?_
  obtain ⟨σ2, e0, h⟩ := wIv (Nat.le_of_ble_eq_true rfl) h
  refine kR.cSv [.ref 5, .int (2 + (v1 - v1 / 48 * 48)), .int ((((p1 <<< (24 &&& 31)) ||| (p2 <<< (16 &&& 31))) ||| (p3 <<< (8 &&& 31))) ||| p4)] dX7_keep_32 rfl (by decide) (Or.inr mwX7_36) rfl (Nat.le_of_ble_eq_true rfl) (lX10_setAt 5 104 (fun _ => zp5) rfl (Nat.le_of_ble_eq_true rfl) (2 + (v1 - v1 / 48 * 48)) ((((p1 <<< (24 &&& 31)) ||| (p2 <<< (16 &&& 31))) ||| (p3 <<< (8 &&& 31))) ||| p4) σ _ e0) ?_
  refine kR.aload_n dX7_keep_35 0 rfl ?_
  refine kR.getR (v := 5) dX7_keep_36 flX7_11 zcf7 zp4 (Or.inr ⟨_, rfl⟩) rfl ?_
  refine zR.iconst (v := 1) dX7_keep_39 (by decide) ?_
  refine zR.dup2 dX7_keep_40 rfl rfl ?_
  refine kR.iald dX7_keep_41 zp5 rfl h (fun v3 h => ?_)
  refine zR.iconst (v := 1) dX7_keep_42 (by decide) ?_
  refine zR.iadd dX7_keep_43 ?_
  refine kR.iast dX7_keep_44 zp5 rfl h (fun σ4 h => ?_)
  refine kR.aload_n dX7_keep_45 0 rfl ?_
  refine kR.getR (v := 5) dX7_keep_46 flX7_11 zcf7 zp4 (Or.inr ⟨_, rfl⟩) rfl ?_
  refine zR.iconst (v := 1) dX7_keep_49 (by decide) ?_
  refine kR.iald dX7_keep_50 zp5 rfl h (fun v5 h => ?_)
  refine zR.bipush (v := 96) dX7_keep_51 (by decide) ?_
  refine kR.icmp_ne (tgt := 64) dX7_keep_53 (by decide) h (fun h => ?_) (fun h => ?_)
  · exact kR.vret dX7_keep_64 h
  · refine kR.aload_n dX7_keep_56 0 rfl ?_
    refine kR.getR (v := 5) dX7_keep_57 flX7_11 zcf7 zp4 (Or.inr ⟨_, rfl⟩) rfl ?_
    refine zR.iconst (v := 1) dX7_keep_60 (by decide) ?_
    refine zR.bipush (v := 48) dX7_keep_61 (by decide) ?_
    refine kR.iast dX7_keep_63 zp5 rfl h (fun σ6 h => ?_)
    exact kR.vret dX7_keep_64 h
theorem lX7_keep {sc : Nat × (Nat → Int32)} (p1 : Int32) (p2 : Int32) (p3 : Int32) (p4 : Int32) (σ : zS) (w : zS) (h : fX7_keep p1 p2 p3 p4 σ = some w) : zC (zY0 sc) 2 0 0 mX7_keep [.ref 4, .int p1, .int p2, .int p3, .int p4] (zE σ) (none, zE w) := zC.of (by decide +kernel) (Nat.le_of_ble_eq_true rfl) rfl (eX7_keep p1 p2 p3 p4 σ w h)
theorem dX10_drawHeld_0 : decode cX10_drawHeld 0 = .ok (.iload_n 1, 1) := by decide +kernel
theorem dX10_drawHeld_1 : decode cX10_drawHeld 1 = .ok (.ifCond .ne 5, 3) := by decide +kernel
theorem dX10_drawHeld_4 : decode cX10_drawHeld 4 = .ok (.iload_n 2, 1) := by decide +kernel
theorem dX10_drawHeld_5 : decode cX10_drawHeld 5 = .ok (.ireturn, 1) := by decide +kernel
theorem dX10_drawHeld_6 : decode cX10_drawHeld 6 = .ok (.iconst 1, 1) := by decide +kernel
theorem dX10_drawHeld_7 : decode cX10_drawHeld 7 = .ok (.istore_n 3, 1) := by decide +kernel
theorem dX10_drawHeld_8 : decode cX10_drawHeld 8 = .ok (.iload_n 3, 1) := by decide +kernel
theorem dX10_drawHeld_9 : decode cX10_drawHeld 9 = .ok (.iload_n 2, 1) := by decide +kernel
theorem dX10_drawHeld_10 : decode cX10_drawHeld 10 = .ok (.if_icmp .gt 23, 3) := by decide +kernel
theorem dX10_drawHeld_13 : decode cX10_drawHeld 13 = .ok (.aload_n 0, 1) := by decide +kernel
theorem dX10_drawHeld_14 : decode cX10_drawHeld 14 = .ok (.bipush 100, 2) := by decide +kernel
theorem dX10_drawHeld_16 : decode cX10_drawHeld 16 = .ok (.invokevirtual 355, 3) := by decide +kernel
theorem dX10_drawHeld_19 : decode cX10_drawHeld 19 = .ok (.iload_n 1, 1) := by decide +kernel
theorem dX10_drawHeld_20 : decode cX10_drawHeld 20 = .ok (.if_icmp .ge 7, 3) := by decide +kernel
theorem dX10_drawHeld_23 : decode cX10_drawHeld 23 = .ok (.iload_n 3, 1) := by decide +kernel
theorem dX10_drawHeld_24 : decode cX10_drawHeld 24 = .ok (.iconst 1, 1) := by decide +kernel
theorem dX10_drawHeld_25 : decode cX10_drawHeld 25 = .ok (.isub, 1) := by decide +kernel
theorem dX10_drawHeld_26 : decode cX10_drawHeld 26 = .ok (.ireturn, 1) := by decide +kernel
theorem dX10_drawHeld_27 : decode cX10_drawHeld 27 = .ok (.iinc 3 1, 3) := by decide +kernel
theorem dX10_drawHeld_30 : decode cX10_drawHeld 30 = .ok (.goto (-22), 3) := by decide +kernel
theorem dX10_drawHeld_33 : decode cX10_drawHeld 33 = .ok (.iload_n 2, 1) := by decide +kernel
theorem dX10_drawHeld_34 : decode cX10_drawHeld 34 = .ok (.ireturn, 1) := by decide +kernel
def fX10_drawHeld_8 : Nat → Int32 → Int32 → Int32 → zS → Option (Int32 × zS)
  | 0, _, _, _, _ => none
  | f + 1, x1, x2, x3, σ => if x2 < x3 then some (x2, σ) else bnc (fX10_draw 100 σ) fun v3 σ1 => if x1 ≤ v3 then fX10_drawHeld_8 f x1 x2 (x3 + 1) σ1 else some (x3 - 1, σ1)
theorem kX10_drawHeld_8 {sc : Nat × (Nat → Int32)} : ∀ (fuel : Nat) (x1 : Int32) (x2 : Int32) (x3 : Int32) (σ : zS) (w : Int32 × zS) (h : fX10_drawHeld_8 fuel x1 x2 x3 σ = some w), zR (zY0 sc) 2 0 0 mX10_drawHeld 8 [(0, .ref 1), (1, .int x1), (2, .int x2), (3, .int x3)] [] (zE σ) (some (.int w.1), zE w.2) := by
  intro fuel
  induction fuel with
  | zero => intro x1 x2 x3 σ w h; exact nomatch h
  | succ f ih =>
    intro x1 x2 x3 σ w h
    rw [fX10_drawHeld_8] at h
    refine kR.iload_n dX10_drawHeld_8 3 rfl ?_
    refine kR.iload_n dX10_drawHeld_9 2 rfl ?_
    refine kR.icmp_gt (tgt := 33) dX10_drawHeld_10 (by decide) h (fun h => ?_) (fun h => ?_)
    · refine kR.iload_n dX10_drawHeld_33 2 rfl ?_
      exact kR.iretW dX10_drawHeld_34 (nzI rfl _) h
    · refine kR.aload_n dX10_drawHeld_13 0 rfl ?_
      refine zR.bipush (v := 100) dX10_drawHeld_14 (by decide) ?_
      obtain ⟨v3, σ1, e2, h⟩ := bnc_some h
      refine kR.cVi [.int 100] dX10_drawHeld_16 rfl (by decide) mwX10_355 zp1 (by decide) rfl rfl (Nat.le_of_ble_eq_true rfl) (lX10_draw 100 σ _ e2) ?_
      refine kR.iload_n dX10_drawHeld_19 1 rfl ?_
      refine kR.icmp_ge (tgt := 27) dX10_drawHeld_20 (by decide) h (fun h => ?_) (fun h => ?_)
      · refine zR.iinc 3 (v := x3 + 1) (ls' := [(3, .int (x3 + 1)), (0, .ref 1), (1, .int x1), (2, .int x2)]) dX10_drawHeld_27 rfl rfl (by decide) rfl ?_
        refine zR.goto (tgt := 8) dX10_drawHeld_30 (by decide) ?_
        refine zR.sub [1, 2, 3, 0] rfl ?_
        exact ih _ _ _ _ _ h
      · refine kR.iload_n dX10_drawHeld_23 3 rfl ?_
        refine zR.iconst (v := 1) dX10_drawHeld_24 (by decide) ?_
        refine zR.isub dX10_drawHeld_25 ?_
        exact kR.iretW dX10_drawHeld_26 (nzI rfl _) h
def fX10_drawHeld (p1 : Int32) (p2 : Int32) (σ : zS) : Option (Int32 × zS) := if p1 = 0 then some (p2, σ) else fX10_drawHeld_8 zF p1 p2 1 σ
theorem eX10_drawHeld {sc : Nat × (Nat → Int32)} (p1 : Int32) (p2 : Int32) (σ : zS) (w : Int32 × zS) (h : fX10_drawHeld p1 p2 σ = some w) : zR (zY0 sc) 2 0 0 mX10_drawHeld 0 [(0, .ref 1), (1, .int p1), (2, .int p2)] [] (zE σ) (some (.int w.1), zE w.2) := by
  unfold fX10_drawHeld at h
  refine kR.iload_n dX10_drawHeld_0 1 rfl ?_
  refine kR.if_ne (tgt := 6) dX10_drawHeld_1 (by decide) h (fun h => ?_) (fun h => ?_)
  · refine zR.iconst (v := 1) dX10_drawHeld_6 (by decide) ?_
    refine zR.istore_n (i := 3) (ls' := [(3, .int 1), (0, .ref 1), (1, .int p1), (2, .int p2)]) dX10_drawHeld_7 rfl (by decide) rfl ?_
    refine zR.sub [1, 2, 3, 0] rfl ?_
    exact kX10_drawHeld_8 zF _ _ _ _ _ h
  · refine kR.iload_n dX10_drawHeld_4 2 rfl ?_
    exact kR.iretW dX10_drawHeld_5 (nzI rfl _) h
theorem lX10_drawHeld {sc : Nat × (Nat → Int32)} (p1 : Int32) (p2 : Int32) (σ : zS) (w : Int32 × zS) (h : fX10_drawHeld p1 p2 σ = some w) : zC (zY0 sc) 2 0 0 mX10_drawHeld [.ref 1, .int p1, .int p2] (zE σ) (some (.int w.1), zE w.2) := zC.of (by decide +kernel) (Nat.le_of_ble_eq_true rfl) ⟨_, rfl⟩ (eX10_drawHeld p1 p2 σ w h)
theorem dX10_driveThrough_0 : decode cX10_driveThrough 0 = .ok (.aload_n 0, 1) := by decide +kernel
theorem dX10_driveThrough_1 : decode cX10_driveThrough 1 = .ok (.getfield 38, 3) := by decide +kernel
theorem dX10_driveThrough_4 : decode cX10_driveThrough 4 = .ok (.getfield 111, 3) := by decide +kernel
theorem dX10_driveThrough_7 : decode cX10_driveThrough 7 = .ok (.astore_n 1, 1) := by decide +kernel
theorem dX10_driveThrough_8 : decode cX10_driveThrough 8 = .ok (.aload_n 0, 1) := by decide +kernel
theorem dX10_driveThrough_9 : decode cX10_driveThrough 9 = .ok (.getfield 19, 3) := by decide +kernel
theorem dX10_driveThrough_12 : decode cX10_driveThrough 12 = .ok (.invokevirtual 140, 3) := by decide +kernel
theorem dX10_driveThrough_15 : decode cX10_driveThrough 15 = .ok (.istore_n 2, 1) := by decide +kernel
theorem dX10_driveThrough_16 : decode cX10_driveThrough 16 = .ok (.aload_n 0, 1) := by decide +kernel
theorem dX10_driveThrough_17 : decode cX10_driveThrough 17 = .ok (.iload_n 2, 1) := by decide +kernel
theorem dX10_driveThrough_18 : decode cX10_driveThrough 18 = .ok (.invokevirtual 329, 3) := by decide +kernel
theorem dX10_driveThrough_21 : decode cX10_driveThrough 21 = .ok (.istore_n 3, 1) := by decide +kernel
theorem dX10_driveThrough_22 : decode cX10_driveThrough 22 = .ok (.iconst 0, 1) := by decide +kernel
theorem dX10_driveThrough_23 : decode cX10_driveThrough 23 = .ok (.istore 4, 2) := by decide +kernel
theorem dX10_driveThrough_25 : decode cX10_driveThrough 25 = .ok (.iconst 0, 1) := by decide +kernel
theorem dX10_driveThrough_26 : decode cX10_driveThrough 26 = .ok (.istore 5, 2) := by decide +kernel
theorem dX10_driveThrough_28 : decode cX10_driveThrough 28 = .ok (.iload 5, 2) := by decide +kernel
theorem dX10_driveThrough_30 : decode cX10_driveThrough 30 = .ok (.aload_n 1, 1) := by decide +kernel
theorem dX10_driveThrough_31 : decode cX10_driveThrough 31 = .ok (.getfield 131, 3) := by decide +kernel
theorem dX10_driveThrough_34 : decode cX10_driveThrough 34 = .ok (.if_icmp .ge 56, 3) := by decide +kernel
theorem dX10_driveThrough_37 : decode cX10_driveThrough 37 = .ok (.aload_n 0, 1) := by decide +kernel
theorem dX10_driveThrough_38 : decode cX10_driveThrough 38 = .ok (.aload_n 1, 1) := by decide +kernel
theorem dX10_driveThrough_39 : decode cX10_driveThrough 39 = .ok (.getfield 192, 3) := by decide +kernel
theorem dX10_driveThrough_42 : decode cX10_driveThrough 42 = .ok (.iload 5, 2) := by decide +kernel
theorem dX10_driveThrough_44 : decode cX10_driveThrough 44 = .ok (.invokestatic 154, 3) := by decide +kernel
theorem dX10_driveThrough_47 : decode cX10_driveThrough 47 = .ok (.aload_n 0, 1) := by decide +kernel
theorem dX10_driveThrough_48 : decode cX10_driveThrough 48 = .ok (.getfield 38, 3) := by decide +kernel
theorem dX10_driveThrough_51 : decode cX10_driveThrough 51 = .ok (.iload 5, 2) := by decide +kernel
theorem dX10_driveThrough_53 : decode cX10_driveThrough 53 = .ok (.iload_n 2, 1) := by decide +kernel
theorem dX10_driveThrough_54 : decode cX10_driveThrough 54 = .ok (.iload_n 3, 1) := by decide +kernel
theorem dX10_driveThrough_55 : decode cX10_driveThrough 55 = .ok (.invokevirtual 213, 3) := by decide +kernel
theorem dX10_driveThrough_58 : decode cX10_driveThrough 58 = .ok (.invokevirtual 332, 3) := by decide +kernel
theorem dX10_driveThrough_61 : decode cX10_driveThrough 61 = .ok (.istore 6, 2) := by decide +kernel
theorem dX10_driveThrough_63 : decode cX10_driveThrough 63 = .ok (.aload_n 0, 1) := by decide +kernel
theorem dX10_driveThrough_64 : decode cX10_driveThrough 64 = .ok (.getfield 38, 3) := by decide +kernel
theorem dX10_driveThrough_67 : decode cX10_driveThrough 67 = .ok (.getfield 335, 3) := by decide +kernel
theorem dX10_driveThrough_70 : decode cX10_driveThrough 70 = .ok (.iload 5, 2) := by decide +kernel
theorem dX10_driveThrough_72 : decode cX10_driveThrough 72 = .ok (.iload 6, 2) := by decide +kernel
theorem dX10_driveThrough_74 : decode cX10_driveThrough 74 = .ok (.invokestatic 338, 3) := by decide +kernel
theorem dX10_driveThrough_77 : decode cX10_driveThrough 77 = .ok (.iload 4, 2) := by decide +kernel
theorem dX10_driveThrough_79 : decode cX10_driveThrough 79 = .ok (.iload 6, 2) := by decide +kernel
theorem dX10_driveThrough_81 : decode cX10_driveThrough 81 = .ok (.iadd, 1) := by decide +kernel
theorem dX10_driveThrough_82 : decode cX10_driveThrough 82 = .ok (.istore 4, 2) := by decide +kernel
theorem dX10_driveThrough_84 : decode cX10_driveThrough 84 = .ok (.iinc 5 1, 3) := by decide +kernel
theorem dX10_driveThrough_87 : decode cX10_driveThrough 87 = .ok (.goto (-59), 3) := by decide +kernel
theorem dX10_driveThrough_90 : decode cX10_driveThrough 90 = .ok (.iconst 0, 1) := by decide +kernel
theorem dX10_driveThrough_91 : decode cX10_driveThrough 91 = .ok (.istore 5, 2) := by decide +kernel
theorem dX10_driveThrough_93 : decode cX10_driveThrough 93 = .ok (.iload 5, 2) := by decide +kernel
theorem dX10_driveThrough_95 : decode cX10_driveThrough 95 = .ok (.aload_n 1, 1) := by decide +kernel
theorem dX10_driveThrough_96 : decode cX10_driveThrough 96 = .ok (.getfield 131, 3) := by decide +kernel
theorem dX10_driveThrough_99 : decode cX10_driveThrough 99 = .ok (.if_icmp .ge 72, 3) := by decide +kernel
theorem dX10_driveThrough_102 : decode cX10_driveThrough 102 = .ok (.aload_n 0, 1) := by decide +kernel
theorem dX10_driveThrough_103 : decode cX10_driveThrough 103 = .ok (.getfield 19, 3) := by decide +kernel
theorem dX10_driveThrough_106 : decode cX10_driveThrough 106 = .ok (.iload 5, 2) := by decide +kernel
theorem dX10_driveThrough_108 : decode cX10_driveThrough 108 = .ok (.aload_n 0, 1) := by decide +kernel
theorem dX10_driveThrough_109 : decode cX10_driveThrough 109 = .ok (.getfield 38, 3) := by decide +kernel
theorem dX10_driveThrough_112 : decode cX10_driveThrough 112 = .ok (.iload 5, 2) := by decide +kernel
theorem dX10_driveThrough_114 : decode cX10_driveThrough 114 = .ok (.iload_n 2, 1) := by decide +kernel
theorem dX10_driveThrough_115 : decode cX10_driveThrough 115 = .ok (.iload_n 3, 1) := by decide +kernel
theorem dX10_driveThrough_116 : decode cX10_driveThrough 116 = .ok (.invokevirtual 221, 3) := by decide +kernel
theorem dX10_driveThrough_119 : decode cX10_driveThrough 119 = .ok (.invokevirtual 342, 3) := by decide +kernel
theorem dX10_driveThrough_122 : decode cX10_driveThrough 122 = .ok (.aload_n 0, 1) := by decide +kernel
theorem dX10_driveThrough_123 : decode cX10_driveThrough 123 = .ok (.getfield 19, 3) := by decide +kernel
theorem dX10_driveThrough_126 : decode cX10_driveThrough 126 = .ok (.iload 5, 2) := by decide +kernel
theorem dX10_driveThrough_128 : decode cX10_driveThrough 128 = .ok (.aload_n 0, 1) := by decide +kernel
theorem dX10_driveThrough_129 : decode cX10_driveThrough 129 = .ok (.getfield 38, 3) := by decide +kernel
theorem dX10_driveThrough_132 : decode cX10_driveThrough 132 = .ok (.iload 5, 2) := by decide +kernel
theorem dX10_driveThrough_134 : decode cX10_driveThrough 134 = .ok (.iload_n 2, 1) := by decide +kernel
theorem dX10_driveThrough_135 : decode cX10_driveThrough 135 = .ok (.iload_n 3, 1) := by decide +kernel
theorem dX10_driveThrough_136 : decode cX10_driveThrough 136 = .ok (.invokevirtual 345, 3) := by decide +kernel
theorem dX10_driveThrough_139 : decode cX10_driveThrough 139 = .ok (.invokevirtual 292, 3) := by decide +kernel
theorem dX10_driveThrough_142 : decode cX10_driveThrough 142 = .ok (.aload_n 0, 1) := by decide +kernel
theorem dX10_driveThrough_143 : decode cX10_driveThrough 143 = .ok (.getfield 19, 3) := by decide +kernel
theorem dX10_driveThrough_146 : decode cX10_driveThrough 146 = .ok (.iload_n 2, 1) := by decide +kernel
theorem dX10_driveThrough_147 : decode cX10_driveThrough 147 = .ok (.iload_n 3, 1) := by decide +kernel
theorem dX10_driveThrough_148 : decode cX10_driveThrough 148 = .ok (.iload 5, 2) := by decide +kernel
theorem dX10_driveThrough_150 : decode cX10_driveThrough 150 = .ok (.aload_n 0, 1) := by decide +kernel
theorem dX10_driveThrough_151 : decode cX10_driveThrough 151 = .ok (.getfield 38, 3) := by decide +kernel
theorem dX10_driveThrough_154 : decode cX10_driveThrough 154 = .ok (.getfield 335, 3) := by decide +kernel
theorem dX10_driveThrough_157 : decode cX10_driveThrough 157 = .ok (.iload 5, 2) := by decide +kernel
theorem dX10_driveThrough_159 : decode cX10_driveThrough 159 = .ok (.invokestatic 154, 3) := by decide +kernel
theorem dX10_driveThrough_162 : decode cX10_driveThrough 162 = .ok (.invokevirtual 348, 3) := by decide +kernel
theorem dX10_driveThrough_165 : decode cX10_driveThrough 165 = .ok (.iinc 5 1, 3) := by decide +kernel
theorem dX10_driveThrough_168 : decode cX10_driveThrough 168 = .ok (.goto (-75), 3) := by decide +kernel
theorem dX10_driveThrough_171 : decode cX10_driveThrough 171 = .ok (.aload_n 0, 1) := by decide +kernel
theorem dX10_driveThrough_172 : decode cX10_driveThrough 172 = .ok (.getfield 19, 3) := by decide +kernel
theorem dX10_driveThrough_175 : decode cX10_driveThrough 175 = .ok (.iload_n 2, 1) := by decide +kernel
theorem dX10_driveThrough_176 : decode cX10_driveThrough 176 = .ok (.iconst 1, 1) := by decide +kernel
theorem dX10_driveThrough_177 : decode cX10_driveThrough 177 = .ok (.iadd, 1) := by decide +kernel
theorem dX10_driveThrough_178 : decode cX10_driveThrough 178 = .ok (.aload_n 1, 1) := by decide +kernel
theorem dX10_driveThrough_179 : decode cX10_driveThrough 179 = .ok (.getfield 128, 3) := by decide +kernel
theorem dX10_driveThrough_182 : decode cX10_driveThrough 182 = .ok (.if_icmp .ge 9, 3) := by decide +kernel
theorem dX10_driveThrough_185 : decode cX10_driveThrough 185 = .ok (.iload_n 2, 1) := by decide +kernel
theorem dX10_driveThrough_186 : decode cX10_driveThrough 186 = .ok (.iconst 1, 1) := by decide +kernel
theorem dX10_driveThrough_187 : decode cX10_driveThrough 187 = .ok (.iadd, 1) := by decide +kernel
theorem dX10_driveThrough_188 : decode cX10_driveThrough 188 = .ok (.goto 4, 3) := by decide +kernel
theorem dX10_driveThrough_191 : decode cX10_driveThrough 191 = .ok (.iconst 0, 1) := by decide +kernel
theorem dX10_driveThrough_192 : decode cX10_driveThrough 192 = .ok (.invokevirtual 352, 3) := by decide +kernel
theorem dX10_driveThrough_195 : decode cX10_driveThrough 195 = .ok (.iload 4, 2) := by decide +kernel
theorem dX10_driveThrough_197 : decode cX10_driveThrough 197 = .ok (.ireturn, 1) := by decide +kernel
def fX10_driveThrough_190 (x4 : Int32) (s0 : Int32) (σ : zS) : Option (Int32 × zS) := bnr (fX7_setNextTunnel s0 σ) fun σ6 => some (x4, σ6)
theorem kX10_driveThrough_192 {sc : Nat × (Nat → Int32)} (x4 : Int32) (s0 : Int32) (σ : zS) (w : Int32 × zS) (h : fX10_driveThrough_190 x4 s0 σ = some w) : zR (zY0 sc) 5 0 0 mX10_driveThrough 192 [(4, .int x4)] [.int s0, .ref 4] (zE σ) (some (.int w.1), zE w.2) := by
  unfold fX10_driveThrough_190 at h
  obtain ⟨σ6, e7, h⟩ := bnr_some h
  refine kR.cVv [.int s0] dX10_driveThrough_192 rfl (by decide) mwX10_352 zp4 (by decide) rfl rfl (Nat.le_of_ble_eq_true rfl) (lX7_setNextTunnel s0 σ _ e7) ?_
  refine kR.iload dX10_driveThrough_195 0 rfl ?_
  exact kR.iretW dX10_driveThrough_197 (nzI rfl _) h
def fX10_driveThrough_93 : Nat → Bool → Int32 → Int32 → Int32 → Int32 → zS → Option (Int32 × zS)
  | 0, _, _, _, _, _, _ => none
  | f + 1, c1, x2, x3, x4, x5, σ => if (iG σ (rp c1 + 0) 2) ≤ x5 then if (iG σ (rp c1 + 0) 1) ≤ (x2 + 1) then fX10_driveThrough_190 x4 0 σ else fX10_driveThrough_190 x4 (x2 + 1) σ else bnc (fX4_worthAmong x5 x2 x3 σ) fun v10 σ8 => bnr (fX7_addScore x5 v10 σ8) fun σ11 => bnc (fX4_tiredAmong x5 x2 x3 σ11) fun v15 σ13 => bnr (fX7_setBreath x5 v15 σ13) fun σ16 => aI σ16 25 6 x5 fun v18 => bnr (fX7_keep x2 x3 x5 v18 σ16) fun σ19 => fX10_driveThrough_93 f c1 x2 x3 x4 (x5 + 1) σ19
theorem kX10_driveThrough_93 {sc : Nat × (Nat → Int32)} : ∀ (fuel : Nat) (c1 : Bool) (x2 : Int32) (x3 : Int32) (x4 : Int32) (x5 : Int32) (σ : zS) (w : Int32 × zS) (h : fX10_driveThrough_93 fuel c1 x2 x3 x4 x5 σ = some w), zR (zY0 sc) 5 0 0 mX10_driveThrough 93 [(0, .ref 1), (1, .ref (rp c1 + 0)), (2, .int x2), (3, .int x3), (4, .int x4), (5, .int x5)] [] (zE σ) (some (.int w.1), zE w.2) := by
  intro fuel
  induction fuel with
  | zero => intro c1 x2 x3 x4 x5 σ w h; exact nomatch h
  | succ f ih =>
    intro c1 x2 x3 x4 x5 σ w h
    rw [fX10_driveThrough_93] at h
    refine kR.iload dX10_driveThrough_93 5 rfl ?_
    refine kR.aload_n dX10_driveThrough_95 1 rfl ?_
    refine kR.getI dX10_driveThrough_96 flX10_131 zcf6 (zq0 c1) (Or.inl rfl) ?_
    refine kR.icmp_ge (tgt := 171) dX10_driveThrough_99 (by decide) h (fun h => ?_) (fun h => ?_)
    · refine kR.aload_n dX10_driveThrough_171 0 rfl ?_
      refine kR.getR (v := 4) dX10_driveThrough_172 flX10_19 zcf10 zp1 (Or.inl ⟨_, rfl⟩) rfl ?_
      refine kR.iload_n dX10_driveThrough_175 2 rfl ?_
      refine zR.iconst (v := 1) dX10_driveThrough_176 (by decide) ?_
      refine zR.iadd dX10_driveThrough_177 ?_
      refine kR.aload_n dX10_driveThrough_178 1 rfl ?_
      refine kR.getI dX10_driveThrough_179 flX10_128 zcf6 (zq0 c1) (Or.inl rfl) ?_
      refine kR.icmp_ge (tgt := 191) dX10_driveThrough_182 (by decide) h (fun h => ?_) (fun h => ?_)
      · refine zR.iconst (v := 0) dX10_driveThrough_191 (by decide) ?_
        refine zR.sub [4] rfl ?_
        exact kX10_driveThrough_192 _ _ _ _ h
      · refine kR.iload_n dX10_driveThrough_185 2 rfl ?_
        refine zR.iconst (v := 1) dX10_driveThrough_186 (by decide) ?_
        refine zR.iadd dX10_driveThrough_187 ?_
        refine zR.goto (tgt := 192) dX10_driveThrough_188 (by decide) ?_
        refine zR.sub [4] rfl ?_
        exact kX10_driveThrough_192 _ _ _ _ h
    · refine kR.aload_n dX10_driveThrough_102 0 rfl ?_
      refine kR.getR (v := 4) dX10_driveThrough_103 flX10_19 zcf10 zp1 (Or.inl ⟨_, rfl⟩) rfl ?_
      refine kR.iload dX10_driveThrough_106 5 rfl ?_
      refine kR.aload_n dX10_driveThrough_108 0 rfl ?_
      refine kR.getR (v := 8) dX10_driveThrough_109 flX10_38 zcf10 zp1 (Or.inl ⟨_, rfl⟩) rfl ?_
      refine kR.iload dX10_driveThrough_112 5 rfl ?_
      refine kR.iload_n dX10_driveThrough_114 2 rfl ?_
      refine kR.iload_n dX10_driveThrough_115 3 rfl ?_
      obtain ⟨v10, σ8, e9, h⟩ := bnc_some h
      refine kR.cVi [.int x5, .int x2, .int x3] dX10_driveThrough_116 rfl (by decide) mwX10_221 zp8 (by decide) rfl rfl (Nat.le_of_ble_eq_true rfl) (lX4_worthAmong x5 x2 x3 σ _ e9) ?_
      obtain ⟨σ11, e12, h⟩ := bnr_some h
      refine kR.cVv [.int x5, .int v10] dX10_driveThrough_119 rfl (by decide) mwX10_342 zp4 (by decide) rfl rfl (Nat.le_of_ble_eq_true rfl) (lX7_addScore x5 v10 σ8 _ e12) ?_
      refine kR.aload_n dX10_driveThrough_122 0 rfl ?_
      refine kR.getR (v := 4) dX10_driveThrough_123 flX10_19 zcf10 zp1 (Or.inl ⟨_, rfl⟩) rfl ?_
      refine kR.iload dX10_driveThrough_126 5 rfl ?_
      refine kR.aload_n dX10_driveThrough_128 0 rfl ?_
      refine kR.getR (v := 8) dX10_driveThrough_129 flX10_38 zcf10 zp1 (Or.inl ⟨_, rfl⟩) rfl ?_
      refine kR.iload dX10_driveThrough_132 5 rfl ?_
      refine kR.iload_n dX10_driveThrough_134 2 rfl ?_
      refine kR.iload_n dX10_driveThrough_135 3 rfl ?_
      obtain ⟨v15, σ13, e14, h⟩ := bnc_some h
      refine kR.cVi [.int x5, .int x2, .int x3] dX10_driveThrough_136 rfl (by decide) mwX10_345 zp8 (by decide) rfl rfl (Nat.le_of_ble_eq_true rfl) (lX4_tiredAmong x5 x2 x3 σ11 _ e14) ?_
      obtain ⟨σ16, e17, h⟩ := bnr_some h
      refine kR.cVv [.int x5, .int v15] dX10_driveThrough_139 rfl (by decide) mwX10_292 zp4 (by decide) rfl rfl (Nat.le_of_ble_eq_true rfl) (lX7_setBreath x5 v15 σ13 _ e17) ?_
      refine kR.aload_n dX10_driveThrough_142 0 rfl ?_
      refine kR.getR (v := 4) dX10_driveThrough_143 flX10_19 zcf10 zp1 (Or.inl ⟨_, rfl⟩) rfl ?_
      refine kR.iload_n dX10_driveThrough_146 2 rfl ?_
      refine kR.iload_n dX10_driveThrough_147 3 rfl ?_
      refine kR.iload dX10_driveThrough_148 5 rfl ?_
      refine kR.aload_n dX10_driveThrough_150 0 rfl ?_
      refine kR.getR (v := 8) dX10_driveThrough_151 flX10_38 zcf10 zp1 (Or.inl ⟨_, rfl⟩) rfl ?_
      refine kR.getR (v := 25) dX10_driveThrough_154 flX10_335 zcf4 zp8 (Or.inr ⟨_, rfl⟩) rfl ?_
      refine kR.iload dX10_driveThrough_157 5 rfl ?_
      obtain ⟨v18, e0, h⟩ := aIv (Nat.le_of_ble_eq_true rfl) h
      refine kR.cSi [.ref 25, .int x5] dX10_driveThrough_159 rfl (by decide) (Or.inl mwX10_154) rfl (Nat.le_of_ble_eq_true rfl) (lX10_valueAt 25 6 σ16 (fun _ => zp25) rfl (Nat.le_of_ble_eq_true rfl) x5 _ e0) ?_
      obtain ⟨σ19, e20, h⟩ := bnr_some h
      refine kR.cVv [.int x2, .int x3, .int x5, .int v18] dX10_driveThrough_162 rfl (by decide) mwX10_348 zp4 (by decide) rfl rfl (Nat.le_of_ble_eq_true rfl) (lX7_keep x2 x3 x5 v18 σ16 _ e20) ?_
      refine zR.iinc 5 (v := x5 + 1) (ls' := [(5, .int (x5 + 1)), (0, .ref 1), (1, .ref (rp c1 + 0)), (2, .int x2), (3, .int x3), (4, .int x4)]) dX10_driveThrough_165 rfl rfl (by decide) rfl ?_
      refine zR.goto (tgt := 93) dX10_driveThrough_168 (by decide) ?_
      refine zR.sub [1, 2, 3, 4, 5, 0] rfl ?_
      exact ih _ _ _ _ _ _ _ h
def nX10_driveThrough_28 : Nat → Bool → Int32 → Int32 → Int32 → Int32 → zS → Option (Int32 × zS)
  | 0, _, _, _, _, _, _ => none
  | f + 1, c1, x2, x3, x4, x5, σ => if (iG σ (rp c1 + 0) 2) ≤ x5 then fX10_driveThrough_93 zF c1 x2 x3 x4 0 σ else aI σ (rp c1 + 8) 6 x5 fun v21 => bnr (fX4_secondsHeld σ x5 x2 x3) fun v22 => bnc (fX10_drawHeld v21 v22 σ) fun v26 σ24 => wI σ24 25 6 x5 v26 fun σ27 => nX10_driveThrough_28 f c1 x2 x3 (x4 + v26) (x5 + 1) σ27
theorem kX10_driveThrough_28 {sc : Nat × (Nat → Int32)} : ∀ (fuel : Nat) (c1 : Bool) (x2 : Int32) (x3 : Int32) (x4 : Int32) (x5 : Int32) (σ : zS) (w : Int32 × zS) (h : nX10_driveThrough_28 fuel c1 x2 x3 x4 x5 σ = some w), zR (zY0 sc) 5 0 0 mX10_driveThrough 28 [(0, .ref 1), (1, .ref (rp c1 + 0)), (2, .int x2), (3, .int x3), (4, .int x4), (5, .int x5)] [] (zE σ) (some (.int w.1), zE w.2) := by
  intro fuel
  induction fuel with
  | zero => intro c1 x2 x3 x4 x5 σ w h; exact nomatch h
  | succ f ih =>
    intro c1 x2 x3 x4 x5 σ w h
    rw [nX10_driveThrough_28] at h
    refine kR.iload dX10_driveThrough_28 5 rfl ?_
    refine kR.aload_n dX10_driveThrough_30 1 rfl ?_
    refine kR.getI dX10_driveThrough_31 flX10_131 zcf6 (zq0 c1) (Or.inl rfl) ?_
    refine kR.icmp_ge (tgt := 90) dX10_driveThrough_34 (by decide) h (fun h => ?_) (fun h => ?_)
    · refine zR.iconst (v := 0) dX10_driveThrough_90 (by decide) ?_
      refine zR.istore (i := 5) (ls' := [(5, .int 0), (0, .ref 1), (1, .ref (rp c1 + 0)), (2, .int x2), (3, .int x3), (4, .int x4)]) dX10_driveThrough_91 (by decide) rfl ?_
      refine zR.sub [1, 2, 3, 4, 5, 0] rfl ?_
      exact kX10_driveThrough_93 zF _ _ _ _ _ _ _ h
    · refine kR.aload_n dX10_driveThrough_37 0 rfl ?_
      refine kR.aload_n dX10_driveThrough_38 1 rfl ?_
      refine kR.getR (v := (rp c1 + 8)) dX10_driveThrough_39 flX10_192 zcf6 (zq0 c1) (Or.inr ⟨_, rfl⟩) (zr0_12 _ c1) ?_
      refine kR.iload dX10_driveThrough_42 5 rfl ?_
      obtain ⟨v21, e0, h⟩ := aIv (Nat.le_of_ble_eq_true rfl) h
      refine kR.cSi [.ref (rp c1 + 8), .int x5] dX10_driveThrough_44 rfl (by decide) (Or.inl mwX10_154) rfl (Nat.le_of_ble_eq_true rfl) (lX10_valueAt (rp c1 + 8) 6 σ (fun _ => (zq8 c1)) (zl8 c1) (Nat.le_of_ble_eq_true rfl) x5 _ e0) ?_
      refine kR.aload_n dX10_driveThrough_47 0 rfl ?_
      refine kR.getR (v := 8) dX10_driveThrough_48 flX10_38 zcf10 zp1 (Or.inl ⟨_, rfl⟩) rfl ?_
      refine kR.iload dX10_driveThrough_51 5 rfl ?_
      refine kR.iload_n dX10_driveThrough_53 2 rfl ?_
      refine kR.iload_n dX10_driveThrough_54 3 rfl ?_
      obtain ⟨v22, e23, h⟩ := bnr_some h
      refine kR.cVi [.int x5, .int x2, .int x3] dX10_driveThrough_55 rfl (by decide) mwX10_213 zp8 (by decide) rfl rfl (Nat.le_of_ble_eq_true rfl) (lX4_secondsHeld σ x5 x2 x3 _ e23) ?_
      obtain ⟨v26, σ24, e25, h⟩ := bnc_some h
      refine kR.cVi [.int v21, .int v22] dX10_driveThrough_58 rfl (by decide) mwX10_332 zp1 (by decide) rfl rfl (Nat.le_of_ble_eq_true rfl) (lX10_drawHeld v21 v22 σ _ e25) ?_
      refine zR.istore (i := 6) (ls' := [(6, .int v26), (0, .ref 1), (1, .ref (rp c1 + 0)), (2, .int x2), (3, .int x3), (4, .int x4), (5, .int x5)]) dX10_driveThrough_61 (by decide) rfl ?_
      refine kR.aload_n dX10_driveThrough_63 1 rfl ?_
      refine kR.getR (v := 8) dX10_driveThrough_64 flX10_38 zcf10 zp1 (Or.inl ⟨_, rfl⟩) rfl ?_
      refine kR.getR (v := 25) dX10_driveThrough_67 flX10_335 zcf4 zp8 (Or.inr ⟨_, rfl⟩) rfl ?_
      refine kR.iload dX10_driveThrough_70 6 rfl ?_
      refine kR.iload dX10_driveThrough_72 0 rfl ?_
      obtain ⟨σ27, e0, h⟩ := wIv (Nat.le_of_ble_eq_true rfl) h
      refine kR.cSv [.ref 25, .int x5, .int v26] dX10_driveThrough_74 rfl (by decide) (Or.inl mwX10_338) rfl (Nat.le_of_ble_eq_true rfl) (lX10_setAt 25 6 (fun _ => zp25) rfl (Nat.le_of_ble_eq_true rfl) x5 v26 σ24 _ e0) ?_
      refine kR.iload dX10_driveThrough_77 5 rfl ?_
      refine kR.iload dX10_driveThrough_79 0 rfl ?_
      refine zR.iadd dX10_driveThrough_81 ?_
      refine zR.istore (i := 4) (ls' := [(4, .int (x4 + v26)), (6, .int v26), (0, .ref 1), (1, .ref (rp c1 + 0)), (2, .int x2), (3, .int x3), (5, .int x5)]) dX10_driveThrough_82 (by decide) rfl ?_
      refine zR.iinc 6 (v := x5 + 1) (ls' := [(5, .int (x5 + 1)), (4, .int (x4 + v26)), (6, .int v26), (0, .ref 1), (1, .ref (rp c1 + 0)), (2, .int x2), (3, .int x3)]) dX10_driveThrough_84 rfl rfl (by decide) rfl ?_
      refine zR.goto (tgt := 28) dX10_driveThrough_87 (by decide) ?_
      refine zR.sub [3, 4, 5, 6, 1, 0] rfl ?_
      exact ih _ _ _ _ _ _ _ h
def nX10_driveThrough (σ : zS) : Option (Int32 × zS) := bnr (fX7_nextTunnel σ) fun v1 => bnc (fX10_drawLength v1 σ) fun v5 σ3 => nX10_driveThrough_28 zF σ.2.2.2.1 v1 v5 0 0 σ3
theorem eX10_driveThrough {sc : Nat × (Nat → Int32)} (σ : zS) (w : Int32 × zS) (h : nX10_driveThrough σ = some w) : zR (zY0 sc) 5 0 0 mX10_driveThrough 0 [(0, .ref 1)] [] (zE σ) (some (.int w.1), zE w.2) := by
  unfold nX10_driveThrough at h
  refine kR.aload_n dX10_driveThrough_0 0 rfl ?_
  refine kR.getR (v := 8) dX10_driveThrough_1 flX10_38 zcf10 zp1 (Or.inl ⟨_, rfl⟩) rfl ?_
  refine kR.getR (v := (rp σ.2.2.2.1 + 0)) dX10_driveThrough_4 flX10_111 zcf4 zp8 (Or.inl ⟨_, rfl⟩) rfl ?_
  refine zR.astore_n (i := 1) (ls' := [(1, .ref (rp σ.2.2.2.1 + 0)), (0, .ref 1)]) dX10_driveThrough_7 rfl (by decide) rfl ?_
  refine kR.aload_n dX10_driveThrough_8 1 rfl ?_
  refine kR.getR (v := 4) dX10_driveThrough_9 flX10_19 zcf10 zp1 (Or.inl ⟨_, rfl⟩) rfl ?_
  obtain ⟨v1, e2, h⟩ := bnr_some h
  refine kR.cVi [] dX10_driveThrough_12 rfl (by decide) mwX10_140 zp4 (by decide) rfl rfl (Nat.le_of_ble_eq_true rfl) (lX7_nextTunnel σ _ e2) ?_
  refine zR.istore_n (i := 2) (ls' := [(2, .int v1), (1, .ref (rp σ.2.2.2.1 + 0)), (0, .ref 1)]) dX10_driveThrough_15 rfl (by decide) rfl ?_
  refine kR.aload_n dX10_driveThrough_16 2 rfl ?_
  refine kR.iload_n dX10_driveThrough_17 0 rfl ?_
  obtain ⟨v5, σ3, e4, h⟩ := bnc_some h
  refine kR.cVi [.int v1] dX10_driveThrough_18 rfl (by decide) mwX10_329 zp1 (by decide) rfl rfl (Nat.le_of_ble_eq_true rfl) (lX10_drawLength v1 σ _ e4) ?_
  refine zR.istore_n (i := 3) (ls' := [(3, .int v5), (2, .int v1), (1, .ref (rp σ.2.2.2.1 + 0)), (0, .ref 1)]) dX10_driveThrough_21 rfl (by decide) rfl ?_
  refine zR.iconst (v := 0) dX10_driveThrough_22 (by decide) ?_
  refine zR.istore (i := 4) (ls' := [(4, .int 0), (3, .int v5), (2, .int v1), (1, .ref (rp σ.2.2.2.1 + 0)), (0, .ref 1)]) dX10_driveThrough_23 (by decide) rfl ?_
  refine zR.iconst (v := 0) dX10_driveThrough_25 (by decide) ?_
  refine zR.istore (i := 5) (ls' := [(5, .int 0), (4, .int 0), (3, .int v5), (2, .int v1), (1, .ref (rp σ.2.2.2.1 + 0)), (0, .ref 1)]) dX10_driveThrough_26 (by decide) rfl ?_
  refine zR.sub [5, 4, 3, 2, 1, 0] rfl ?_
  exact kX10_driveThrough_28 zF _ _ _ _ _ _ _ h
theorem lnX10_driveThrough {sc : Nat × (Nat → Int32)} (σ : zS) (w : Int32 × zS) (h : nX10_driveThrough σ = some w) : zC (zY0 sc) 5 0 0 mX10_driveThrough [.ref 1] (zE σ) (some (.int w.1), zE w.2) := zC.of (by decide +kernel) (Nat.le_of_ble_eq_true rfl) ⟨_, rfl⟩ (eX10_driveThrough σ w h)
def fX10_driveThrough_28 : Nat → Bool → Int32 → Int32 → Int32 → Int32 → zS → Option (Int32 × zS)
  | 0, _, _, _, _, _, _ => none
  | f + 1, c1, x2, x3, x4, x5, σ => if (iG σ (rp c1 + 0) 2) ≤ x5 then fX10_driveThrough_93 zF c1 x2 x3 x4 0 σ else aI σ (rp c1 + 8) 6 x5 fun v21 => bnr (fX4_secondsHeld σ x5 x2 x3) fun v22 => bnc (fX10_drawHeld v21 v22 σ) fun v26 σ24 => wI σ24 25 6 x5 v26 fun σ27 => aI σ27 25 6 x5 fun v28 => fX10_driveThrough_28 f c1 x2 x3 (x4 + v28) (x5 + 1) σ27
def fX10_driveThrough (σ : zS) : Option (Int32 × zS) := bnr (fX7_nextTunnel σ) fun v1 => bnc (fX10_drawLength v1 σ) fun v5 σ3 => fX10_driveThrough_28 zF σ.2.2.2.1 v1 v5 0 0 σ3
theorem br_dT : ∀ (f : Nat) (c : Bool) (x2 x3 x4 x5 : Int32) (σ : zS) (w : Int32 × zS), fX10_driveThrough_28 f c x2 x3 x4 x5 σ = some w → nX10_driveThrough_28 f c x2 x3 x4 x5 σ = some w := by
  intro f
  induction f with
  | zero => intro c x2 x3 x4 x5 σ w h; exact nomatch h
  | succ f ih =>
    intro c x2 x3 x4 x5 σ w h
    rw [fX10_driveThrough_28] at h
    rw [nX10_driveThrough_28]
    by_cases c0 : (iG σ (rp c + 0) 2) ≤ x5
    · rw [if_pos c0] at h ⊢
      exact h
    · rw [if_neg c0] at h ⊢
      obtain ⟨b1, h⟩ := bq_aI h
      rw [bq_aIi b1]
      obtain ⟨v22, e2, h⟩ := bnr_some h
      rw [bq_bnr e2]
      obtain ⟨v26, τ, e3, h⟩ := bnc_some h
      rw [bq_bnc e3]
      obtain ⟨b4, h⟩ := bq_wI h
      rw [bq_wIi b4]
      obtain ⟨b5, h⟩ := bq_aI h
      rw [bq_get] at h
      exact ih _ _ _ _ _ _ _ h
theorem br_X10_driveThrough {σ : zS} {w : Int32 × zS} (h : fX10_driveThrough σ = some w) : nX10_driveThrough σ = some w := by
  unfold fX10_driveThrough at h
  unfold nX10_driveThrough
  obtain ⟨v1, e1, h⟩ := bnr_some h
  rw [bq_bnr e1]
  obtain ⟨v5, τ, e2, h⟩ := bnc_some h
  rw [bq_bnc e2]
  exact br_dT _ _ _ _ _ _ _ _ h
theorem lX10_driveThrough {sc : Nat × (Nat → Int32)} (σ : zS) (w : Int32 × zS) (h : fX10_driveThrough σ = some w) : zC (zY0 sc) 5 0 0 mX10_driveThrough [.ref 1] (zE σ) (some (.int w.1), zE w.2) := lnX10_driveThrough σ w (br_X10_driveThrough h)
theorem dX10_drive_0 : decode cX10_drive 0 = .ok (.iload_n 1, 1) := by decide +kernel
theorem dX10_drive_1 : decode cX10_drive 1 = .ok (.iconst 1, 1) := by decide +kernel
theorem dX10_drive_2 : decode cX10_drive 2 = .ok (.if_icmp .lt 22, 3) := by decide +kernel
theorem dX10_drive_5 : decode cX10_drive 5 = .ok (.iload_n 1, 1) := by decide +kernel
theorem dX10_drive_6 : decode cX10_drive 6 = .ok (.bipush 30, 2) := by decide +kernel
theorem dX10_drive_8 : decode cX10_drive 8 = .ok (.if_icmp .gt 16, 3) := by decide +kernel
theorem dX10_drive_11 : decode cX10_drive 11 = .ok (.aload_n 0, 1) := by decide +kernel
theorem dX10_drive_12 : decode cX10_drive 12 = .ok (.getfield 38, 3) := by decide +kernel
theorem dX10_drive_15 : decode cX10_drive 15 = .ok (.getfield 111, 3) := by decide +kernel
theorem dX10_drive_18 : decode cX10_drive 18 = .ok (.getfield 128, 3) := by decide +kernel
theorem dX10_drive_21 : decode cX10_drive 21 = .ok (.ifCond .ne 9, 3) := by decide +kernel
theorem dX10_drive_24 : decode cX10_drive 24 = .ok (.aload_n 0, 1) := by decide +kernel
theorem dX10_drive_25 : decode cX10_drive 25 = .ok (.iconst 2, 1) := by decide +kernel
theorem dX10_drive_26 : decode cX10_drive 26 = .ok (.invokevirtual 89, 3) := by decide +kernel
theorem dX10_drive_29 : decode cX10_drive 29 = .ok (.ireturn, 1) := by decide +kernel
theorem dX10_drive_30 : decode cX10_drive 30 = .ok (.aload_n 0, 1) := by decide +kernel
theorem dX10_drive_31 : decode cX10_drive 31 = .ok (.invokevirtual 286, 3) := by decide +kernel
theorem dX10_drive_34 : decode cX10_drive 34 = .ok (.iconst 0, 1) := by decide +kernel
theorem dX10_drive_35 : decode cX10_drive 35 = .ok (.istore_n 2, 1) := by decide +kernel
theorem dX10_drive_36 : decode cX10_drive 36 = .ok (.iconst 0, 1) := by decide +kernel
theorem dX10_drive_37 : decode cX10_drive 37 = .ok (.istore_n 3, 1) := by decide +kernel
theorem dX10_drive_38 : decode cX10_drive 38 = .ok (.iload_n 3, 1) := by decide +kernel
theorem dX10_drive_39 : decode cX10_drive 39 = .ok (.iload_n 1, 1) := by decide +kernel
theorem dX10_drive_40 : decode cX10_drive 40 = .ok (.if_icmp .ge 16, 3) := by decide +kernel
theorem dX10_drive_43 : decode cX10_drive 43 = .ok (.iload_n 2, 1) := by decide +kernel
theorem dX10_drive_44 : decode cX10_drive 44 = .ok (.aload_n 0, 1) := by decide +kernel
theorem dX10_drive_45 : decode cX10_drive 45 = .ok (.invokevirtual 289, 3) := by decide +kernel
theorem dX10_drive_48 : decode cX10_drive 48 = .ok (.iadd, 1) := by decide +kernel
theorem dX10_drive_49 : decode cX10_drive 49 = .ok (.istore_n 2, 1) := by decide +kernel
theorem dX10_drive_50 : decode cX10_drive 50 = .ok (.iinc 3 1, 3) := by decide +kernel
theorem dX10_drive_53 : decode cX10_drive 53 = .ok (.goto (-15), 3) := by decide +kernel
theorem dX10_drive_56 : decode cX10_drive 56 = .ok (.iload_n 2, 1) := by decide +kernel
theorem dX10_drive_57 : decode cX10_drive 57 = .ok (.ireturn, 1) := by decide +kernel
def fX10_drive_24 (σ : zS) : Option (Int32 × zS) := bnc (fX10_refuse 2 σ) fun v3 σ1 => some (v3, σ1)
theorem kX10_drive_24 {sc : Nat × (Nat → Int32)} (σ : zS) (w : Int32 × zS) (h : fX10_drive_24 σ = some w) : zR (zY0 sc) 6 0 0 mX10_drive 24 [(0, .ref 1)] [] (zE σ) (some (.int w.1), zE w.2) := by
  unfold fX10_drive_24 at h
  refine kR.aload_n dX10_drive_24 0 rfl ?_
  refine zR.iconst (v := 2) dX10_drive_25 (by decide) ?_
  obtain ⟨v3, σ1, e2, h⟩ := bnc_some h
  refine kR.cVi [.int 2] dX10_drive_26 rfl (by decide) mwX10_89 zp1 (by decide) rfl rfl (Nat.le_of_ble_eq_true rfl) (lX10_refuse 2 σ _ e2) ?_
  exact kR.iretW dX10_drive_29 (nzI rfl _) h
def fX10_drive_38 : Nat → Int32 → Int32 → Int32 → zS → Option (Int32 × zS)
  | 0, _, _, _, _ => none
  | f + 1, x1, x2, x3, σ => if x1 ≤ x3 then some (x2, σ) else bnc (fX10_driveThrough σ) fun v8 σ6 => fX10_drive_38 f x1 (x2 + v8) (x3 + 1) σ6
theorem kX10_drive_38 {sc : Nat × (Nat → Int32)} : ∀ (fuel : Nat) (x1 : Int32) (x2 : Int32) (x3 : Int32) (σ : zS) (w : Int32 × zS) (h : fX10_drive_38 fuel x1 x2 x3 σ = some w), zR (zY0 sc) 6 0 0 mX10_drive 38 [(0, .ref 1), (1, .int x1), (2, .int x2), (3, .int x3)] [] (zE σ) (some (.int w.1), zE w.2) := by
  intro fuel
  induction fuel with
  | zero => intro x1 x2 x3 σ w h; exact nomatch h
  | succ f ih =>
    intro x1 x2 x3 σ w h
    rw [fX10_drive_38] at h
    refine kR.iload_n dX10_drive_38 3 rfl ?_
    refine kR.iload_n dX10_drive_39 1 rfl ?_
    refine kR.icmp_ge (tgt := 56) dX10_drive_40 (by decide) h (fun h => ?_) (fun h => ?_)
    · refine kR.iload_n dX10_drive_56 2 rfl ?_
      exact kR.iretW dX10_drive_57 (nzI rfl _) h
    · refine kR.iload_n dX10_drive_43 2 rfl ?_
      refine kR.aload_n dX10_drive_44 0 rfl ?_
      obtain ⟨v8, σ6, e7, h⟩ := bnc_some h
      refine kR.cVi [] dX10_drive_45 rfl (by decide) mwX10_289 zp1 (by decide) rfl rfl (Nat.le_of_ble_eq_true rfl) (lX10_driveThrough σ _ e7) ?_
      refine zR.iadd dX10_drive_48 ?_
      refine zR.istore_n (i := 2) (ls' := [(2, .int (x2 + v8)), (0, .ref 1), (1, .int x1), (3, .int x3)]) dX10_drive_49 rfl (by decide) rfl ?_
      refine zR.iinc 3 (v := x3 + 1) (ls' := [(3, .int (x3 + 1)), (2, .int (x2 + v8)), (0, .ref 1), (1, .int x1)]) dX10_drive_50 rfl rfl (by decide) rfl ?_
      refine zR.goto (tgt := 38) dX10_drive_53 (by decide) ?_
      refine zR.sub [2, 3, 1, 0] rfl ?_
      exact ih _ _ _ _ _ h
def fX10_drive (p1 : Int32) (σ : zS) : Option (Int32 × zS) := if p1 < 1 then fX10_drive_24 σ else if 30 < p1 then fX10_drive_24 σ else if (iG σ (rp σ.2.2.2.1 + 0) 1) = 0 then fX10_drive_24 σ else bnr (fX10_beginAct σ) fun σ4 => fX10_drive_38 zF p1 0 0 σ4
theorem eX10_drive {sc : Nat × (Nat → Int32)} (p1 : Int32) (σ : zS) (w : Int32 × zS) (h : fX10_drive p1 σ = some w) : zR (zY0 sc) 6 0 0 mX10_drive 0 [(0, .ref 1), (1, .int p1)] [] (zE σ) (some (.int w.1), zE w.2) := by
  unfold fX10_drive at h
  refine kR.iload_n dX10_drive_0 1 rfl ?_
  refine zR.iconst (v := 1) dX10_drive_1 (by decide) ?_
  refine kR.icmp_lt (tgt := 24) dX10_drive_2 (by decide) h (fun h => ?_) (fun h => ?_)
  · refine zR.sub [0] rfl ?_
    exact kX10_drive_24 _ _ h
  · refine kR.iload_n dX10_drive_5 1 rfl ?_
    refine zR.bipush (v := 30) dX10_drive_6 (by decide) ?_
    refine kR.icmp_gt (tgt := 24) dX10_drive_8 (by decide) h (fun h => ?_) (fun h => ?_)
    · refine zR.sub [0] rfl ?_
      exact kX10_drive_24 _ _ h
    · refine kR.aload_n dX10_drive_11 0 rfl ?_
      refine kR.getR (v := 8) dX10_drive_12 flX10_38 zcf10 zp1 (Or.inl ⟨_, rfl⟩) rfl ?_
      refine kR.getR (v := (rp σ.2.2.2.1 + 0)) dX10_drive_15 flX10_111 zcf4 zp8 (Or.inl ⟨_, rfl⟩) rfl ?_
      refine kR.getI dX10_drive_18 flX10_128 zcf6 (zq0 σ.2.2.2.1) (Or.inl rfl) ?_
      refine kR.if_ne (tgt := 30) dX10_drive_21 (by decide) h (fun h => ?_) (fun h => ?_)
      · refine kR.aload_n dX10_drive_30 0 rfl ?_
        obtain ⟨σ4, e5, h⟩ := bnr_some h
        refine kR.cVv [] dX10_drive_31 rfl (by decide) mwX10_286 zp1 (by decide) rfl rfl (Nat.le_of_ble_eq_true rfl) (lX10_beginAct σ _ e5) ?_
        refine zR.iconst (v := 0) dX10_drive_34 (by decide) ?_
        refine zR.istore_n (i := 2) (ls' := [(2, .int 0), (0, .ref 1), (1, .int p1)]) dX10_drive_35 rfl (by decide) rfl ?_
        refine zR.iconst (v := 0) dX10_drive_36 (by decide) ?_
        refine zR.istore_n (i := 3) (ls' := [(3, .int 0), (2, .int 0), (0, .ref 1), (1, .int p1)]) dX10_drive_37 rfl (by decide) rfl ?_
        refine zR.sub [2, 3, 1, 0] rfl ?_
        exact kX10_drive_38 zF _ _ _ _ _ h
      · refine zR.sub [0] rfl ?_
        exact kX10_drive_24 _ _ h
theorem lX10_drive {sc : Nat × (Nat → Int32)} (p1 : Int32) (σ : zS) (w : Int32 × zS) (h : fX10_drive p1 σ = some w) : zC (zY0 sc) 6 0 0 mX10_drive [.ref 1, .int p1] (zE σ) (some (.int w.1), zE w.2) := zC.of (by decide +kernel) (Nat.le_of_ble_eq_true rfl) ⟨_, rfl⟩ (eX10_drive p1 σ w h)
theorem dX10_pause_0 : decode cX10_pause 0 = .ok (.aload_n 0, 1) := by decide +kernel
theorem dX10_pause_1 : decode cX10_pause 1 = .ok (.invokevirtual 286, 3) := by decide +kernel
theorem dX10_pause_4 : decode cX10_pause 4 = .ok (.aload_n 0, 1) := by decide +kernel
theorem dX10_pause_5 : decode cX10_pause 5 = .ok (.getfield 38, 3) := by decide +kernel
theorem dX10_pause_8 : decode cX10_pause 8 = .ok (.getfield 111, 3) := by decide +kernel
theorem dX10_pause_11 : decode cX10_pause 11 = .ok (.astore_n 1, 1) := by decide +kernel
theorem dX10_pause_12 : decode cX10_pause 12 = .ok (.iconst 0, 1) := by decide +kernel
theorem dX10_pause_13 : decode cX10_pause 13 = .ok (.istore_n 2, 1) := by decide +kernel
theorem dX10_pause_14 : decode cX10_pause 14 = .ok (.iconst 0, 1) := by decide +kernel
theorem dX10_pause_15 : decode cX10_pause 15 = .ok (.istore_n 3, 1) := by decide +kernel
theorem dX10_pause_16 : decode cX10_pause 16 = .ok (.iload_n 3, 1) := by decide +kernel
theorem dX10_pause_17 : decode cX10_pause 17 = .ok (.aload_n 1, 1) := by decide +kernel
theorem dX10_pause_18 : decode cX10_pause 18 = .ok (.getfield 131, 3) := by decide +kernel
theorem dX10_pause_21 : decode cX10_pause 21 = .ok (.if_icmp .ge 43, 3) := by decide +kernel
theorem dX10_pause_24 : decode cX10_pause 24 = .ok (.aload_n 1, 1) := by decide +kernel
theorem dX10_pause_25 : decode cX10_pause 25 = .ok (.getfield 189, 3) := by decide +kernel
theorem dX10_pause_28 : decode cX10_pause 28 = .ok (.iload_n 3, 1) := by decide +kernel
theorem dX10_pause_29 : decode cX10_pause 29 = .ok (.invokestatic 154, 3) := by decide +kernel
theorem dX10_pause_32 : decode cX10_pause 32 = .ok (.istore 4, 2) := by decide +kernel
theorem dX10_pause_34 : decode cX10_pause 34 = .ok (.iload_n 2, 1) := by decide +kernel
theorem dX10_pause_35 : decode cX10_pause 35 = .ok (.iload 4, 2) := by decide +kernel
theorem dX10_pause_37 : decode cX10_pause 37 = .ok (.aload_n 0, 1) := by decide +kernel
theorem dX10_pause_38 : decode cX10_pause 38 = .ok (.getfield 19, 3) := by decide +kernel
theorem dX10_pause_41 : decode cX10_pause 41 = .ok (.iload_n 3, 1) := by decide +kernel
theorem dX10_pause_42 : decode cX10_pause 42 = .ok (.invokevirtual 186, 3) := by decide +kernel
theorem dX10_pause_45 : decode cX10_pause 45 = .ok (.isub, 1) := by decide +kernel
theorem dX10_pause_46 : decode cX10_pause 46 = .ok (.iadd, 1) := by decide +kernel
theorem dX10_pause_47 : decode cX10_pause 47 = .ok (.istore_n 2, 1) := by decide +kernel
theorem dX10_pause_48 : decode cX10_pause 48 = .ok (.aload_n 0, 1) := by decide +kernel
theorem dX10_pause_49 : decode cX10_pause 49 = .ok (.getfield 19, 3) := by decide +kernel
theorem dX10_pause_52 : decode cX10_pause 52 = .ok (.iload_n 3, 1) := by decide +kernel
theorem dX10_pause_53 : decode cX10_pause 53 = .ok (.iload 4, 2) := by decide +kernel
theorem dX10_pause_55 : decode cX10_pause 55 = .ok (.invokevirtual 292, 3) := by decide +kernel
theorem dX10_pause_58 : decode cX10_pause 58 = .ok (.iinc 3 1, 3) := by decide +kernel
theorem dX10_pause_61 : decode cX10_pause 61 = .ok (.goto (-45), 3) := by decide +kernel
theorem dX10_pause_64 : decode cX10_pause 64 = .ok (.iload_n 2, 1) := by decide +kernel
theorem dX10_pause_65 : decode cX10_pause 65 = .ok (.ireturn, 1) := by decide +kernel
def nX10_pause_16 : Nat → Bool → Int32 → Int32 → zS → Option (Int32 × zS)
  | 0, _, _, _, _ => none
  | f + 1, c1, x2, x3, σ => if (iG σ (rp c1 + 0) 2) ≤ x3 then some (x2, σ) else aI σ (rp c1 + 7) 6 x3 fun v3 => bnr (fX7_breathOf σ x3) fun v4 => bnr (fX7_setBreath x3 v3 σ) fun σ6 => nX10_pause_16 f c1 (x2 + (v3 - v4)) (x3 + 1) σ6
theorem kX10_pause_16 {sc : Nat × (Nat → Int32)} : ∀ (fuel : Nat) (c1 : Bool) (x2 : Int32) (x3 : Int32) (σ : zS) (w : Int32 × zS) (h : nX10_pause_16 fuel c1 x2 x3 σ = some w), zR (zY0 sc) 4 0 0 mX10_pause 16 [(0, .ref 1), (1, .ref (rp c1 + 0)), (2, .int x2), (3, .int x3)] [] (zE σ) (some (.int w.1), zE w.2) := by
  intro fuel
  induction fuel with
  | zero => intro c1 x2 x3 σ w h; exact nomatch h
  | succ f ih =>
    intro c1 x2 x3 σ w h
    rw [nX10_pause_16] at h
    refine kR.iload_n dX10_pause_16 3 rfl ?_
    refine kR.aload_n dX10_pause_17 1 rfl ?_
    refine kR.getI dX10_pause_18 flX10_131 zcf6 (zq0 c1) (Or.inl rfl) ?_
    refine kR.icmp_ge (tgt := 64) dX10_pause_21 (by decide) h (fun h => ?_) (fun h => ?_)
    · refine kR.iload_n dX10_pause_64 2 rfl ?_
      exact kR.iretW dX10_pause_65 (nzI rfl _) h
    · refine kR.aload_n dX10_pause_24 1 rfl ?_
      refine kR.getR (v := (rp c1 + 7)) dX10_pause_25 flX10_189 zcf6 (zq0 c1) (Or.inr ⟨_, rfl⟩) (zr0_11 _ c1) ?_
      refine kR.iload_n dX10_pause_28 3 rfl ?_
      obtain ⟨v3, e0, h⟩ := aIv (Nat.le_of_ble_eq_true rfl) h
      refine kR.cSi [.ref (rp c1 + 7), .int x3] dX10_pause_29 rfl (by decide) (Or.inl mwX10_154) rfl (Nat.le_of_ble_eq_true rfl) (lX10_valueAt (rp c1 + 7) 6 σ (fun _ => (zq7 c1)) (zl7 c1) (Nat.le_of_ble_eq_true rfl) x3 _ e0) ?_
      refine zR.istore (i := 4) (ls' := [(4, .int v3), (0, .ref 1), (1, .ref (rp c1 + 0)), (2, .int x2), (3, .int x3)]) dX10_pause_32 (by decide) rfl ?_
      refine kR.iload_n dX10_pause_34 3 rfl ?_
      refine kR.iload dX10_pause_35 0 rfl ?_
      refine kR.aload_n dX10_pause_37 1 rfl ?_
      refine kR.getR (v := 4) dX10_pause_38 flX10_19 zcf10 zp1 (Or.inl ⟨_, rfl⟩) rfl ?_
      refine kR.iload_n dX10_pause_41 4 rfl ?_
      obtain ⟨v4, e5, h⟩ := bnr_some h
      refine kR.cVi [.int x3] dX10_pause_42 rfl (by decide) mwX10_186 zp4 (by decide) rfl rfl (Nat.le_of_ble_eq_true rfl) (lX7_breathOf σ x3 _ e5) ?_
      refine zR.isub dX10_pause_45 ?_
      refine zR.iadd dX10_pause_46 ?_
      refine zR.istore_n (i := 2) (ls' := [(2, .int (x2 + (v3 - v4))), (4, .int v3), (0, .ref 1), (1, .ref (rp c1 + 0)), (3, .int x3)]) dX10_pause_47 rfl (by decide) rfl ?_
      refine kR.aload_n dX10_pause_48 2 rfl ?_
      refine kR.getR (v := 4) dX10_pause_49 flX10_19 zcf10 zp1 (Or.inl ⟨_, rfl⟩) rfl ?_
      refine kR.iload_n dX10_pause_52 4 rfl ?_
      refine kR.iload dX10_pause_53 1 rfl ?_
      obtain ⟨σ6, e7, h⟩ := bnr_some h
      refine kR.cVv [.int x3, .int v3] dX10_pause_55 rfl (by decide) mwX10_292 zp4 (by decide) rfl rfl (Nat.le_of_ble_eq_true rfl) (lX7_setBreath x3 v3 σ _ e7) ?_
      refine zR.iinc 4 (v := x3 + 1) (ls' := [(3, .int (x3 + 1)), (2, .int (x2 + (v3 - v4))), (4, .int v3), (0, .ref 1), (1, .ref (rp c1 + 0))]) dX10_pause_58 rfl rfl (by decide) rfl ?_
      refine zR.goto (tgt := 16) dX10_pause_61 (by decide) ?_
      refine zR.sub [3, 4, 1, 0] rfl ?_
      exact ih _ _ _ _ _ h
def nX10_pause (σ : zS) : Option (Int32 × zS) := bnr (fX10_beginAct σ) fun σ1 => nX10_pause_16 zF σ1.2.2.2.1 0 0 σ1
theorem eX10_pause {sc : Nat × (Nat → Int32)} (σ : zS) (w : Int32 × zS) (h : nX10_pause σ = some w) : zR (zY0 sc) 4 0 0 mX10_pause 0 [(0, .ref 1)] [] (zE σ) (some (.int w.1), zE w.2) := by
  unfold nX10_pause at h
  refine kR.aload_n dX10_pause_0 0 rfl ?_
  obtain ⟨σ1, e2, h⟩ := bnr_some h
  refine kR.cVv [] dX10_pause_1 rfl (by decide) mwX10_286 zp1 (by decide) rfl rfl (Nat.le_of_ble_eq_true rfl) (lX10_beginAct σ _ e2) ?_
  refine kR.aload_n dX10_pause_4 0 rfl ?_
  refine kR.getR (v := 8) dX10_pause_5 flX10_38 zcf10 zp1 (Or.inl ⟨_, rfl⟩) rfl ?_
  refine kR.getR (v := (rp σ1.2.2.2.1 + 0)) dX10_pause_8 flX10_111 zcf4 zp8 (Or.inl ⟨_, rfl⟩) rfl ?_
  refine zR.astore_n (i := 1) (ls' := [(1, .ref (rp σ1.2.2.2.1 + 0)), (0, .ref 1)]) dX10_pause_11 rfl (by decide) rfl ?_
  refine zR.iconst (v := 0) dX10_pause_12 (by decide) ?_
  refine zR.istore_n (i := 2) (ls' := [(2, .int 0), (1, .ref (rp σ1.2.2.2.1 + 0)), (0, .ref 1)]) dX10_pause_13 rfl (by decide) rfl ?_
  refine zR.iconst (v := 0) dX10_pause_14 (by decide) ?_
  refine zR.istore_n (i := 3) (ls' := [(3, .int 0), (2, .int 0), (1, .ref (rp σ1.2.2.2.1 + 0)), (0, .ref 1)]) dX10_pause_15 rfl (by decide) rfl ?_
  refine zR.sub [3, 2, 1, 0] rfl ?_
  exact kX10_pause_16 zF _ _ _ _ _ h
theorem lnX10_pause {sc : Nat × (Nat → Int32)} (σ : zS) (w : Int32 × zS) (h : nX10_pause σ = some w) : zC (zY0 sc) 4 0 0 mX10_pause [.ref 1] (zE σ) (some (.int w.1), zE w.2) := zC.of (by decide +kernel) (Nat.le_of_ble_eq_true rfl) ⟨_, rfl⟩ (eX10_pause σ w h)
def fX10_pause_16 : Nat → Bool → Int32 → Int32 → zS → Option (Int32 × zS)
  | 0, _, _, _, _ => none
  | f + 1, c1, x2, x3, σ => if (iG σ (rp c1 + 0) 2) ≤ x3 then some (x2, σ) else aI σ (rp c1 + 7) 6 x3 fun v3 => bnr (fX7_breathOf σ x3) fun v4 => aI σ (rp c1 + 7) 6 x3 fun v6 => bnr (fX7_setBreath x3 v6 σ) fun σ7 => fX10_pause_16 f c1 (x2 + (v3 - v4)) (x3 + 1) σ7
def fX10_pause (σ : zS) : Option (Int32 × zS) := bnr (fX10_beginAct σ) fun σ1 => fX10_pause_16 zF σ1.2.2.2.1 0 0 σ1
theorem br_pS : ∀ (f : Nat) (c : Bool) (x2 x3 : Int32) (σ : zS) (w : Int32 × zS), fX10_pause_16 f c x2 x3 σ = some w → nX10_pause_16 f c x2 x3 σ = some w := by
  intro f
  induction f with
  | zero => intro c x2 x3 σ w h; exact nomatch h
  | succ f ih =>
    intro c x2 x3 σ w h
    rw [fX10_pause_16] at h
    rw [nX10_pause_16]
    by_cases c0 : (iG σ (rp c + 0) 2) ≤ x3
    · rw [if_pos c0] at h ⊢
      exact h
    · rw [if_neg c0] at h ⊢
      obtain ⟨b1, h⟩ := bq_aI h
      rw [bq_aIi b1]
      obtain ⟨v4, e2, h⟩ := bnr_some h
      rw [bq_bnr e2]
      obtain ⟨b3, h⟩ := bq_aI h
      obtain ⟨τ, e4, h⟩ := bnr_some h
      rw [bq_bnr e4]
      exact ih _ _ _ _ _ h
theorem br_X10_pause {σ : zS} {w : Int32 × zS} (h : fX10_pause σ = some w) : nX10_pause σ = some w := by
  unfold fX10_pause at h
  unfold nX10_pause
  obtain ⟨τ, e1, h⟩ := bnr_some h
  rw [bq_bnr e1]
  exact br_pS _ _ _ _ _ _ h
theorem lX10_pause {sc : Nat × (Nat → Int32)} (σ : zS) (w : Int32 × zS) (h : fX10_pause σ = some w) : zC (zY0 sc) 4 0 0 mX10_pause [.ref 1] (zE σ) (some (.int w.1), zE w.2) := lnX10_pause σ w (br_X10_pause h)
theorem dX7_setThinks_0 : decode cX7_setThinks 0 = .ok (.aload_n 0, 1) := by decide +kernel
theorem dX7_setThinks_1 : decode cX7_setThinks 1 = .ok (.getfield 11, 3) := by decide +kernel
theorem dX7_setThinks_4 : decode cX7_setThinks 4 = .ok (.bipush 68, 2) := by decide +kernel
theorem dX7_setThinks_6 : decode cX7_setThinks 6 = .ok (.iload_n 1, 1) := by decide +kernel
theorem dX7_setThinks_7 : decode cX7_setThinks 7 = .ok (.bipush 6, 2) := by decide +kernel
theorem dX7_setThinks_9 : decode cX7_setThinks 9 = .ok (.imul, 1) := by decide +kernel
theorem dX7_setThinks_10 : decode cX7_setThinks 10 = .ok (.iadd, 1) := by decide +kernel
theorem dX7_setThinks_11 : decode cX7_setThinks 11 = .ok (.iload_n 2, 1) := by decide +kernel
theorem dX7_setThinks_12 : decode cX7_setThinks 12 = .ok (.iadd, 1) := by decide +kernel
theorem dX7_setThinks_13 : decode cX7_setThinks 13 = .ok (.iload_n 3, 1) := by decide +kernel
theorem dX7_setThinks_14 : decode cX7_setThinks 14 = .ok (.invokestatic 36, 3) := by decide +kernel
theorem dX7_setThinks_17 : decode cX7_setThinks 17 = .ok (.return_, 1) := by decide +kernel
def fX7_setThinks (p1 : Int32) (p2 : Int32) (p3 : Int32) (σ : zS) : Option zS := wI σ 5 104 ((68 + (p1 * 6)) + p2) p3 fun σ1 => some σ1
theorem eX7_setThinks {sc : Nat × (Nat → Int32)} (p1 : Int32) (p2 : Int32) (p3 : Int32) (σ : zS) (w : zS) (h : fX7_setThinks p1 p2 p3 σ = some w) : zR (zY0 sc) 2 0 0 mX7_setThinks 0 [(0, .ref 4), (1, .int p1), (2, .int p2), (3, .int p3)] [] (zE σ) (none, zE w) := by
  unfold fX7_setThinks at h
  refine kR.aload_n dX7_setThinks_0 0 rfl ?_
  refine kR.getR (v := 5) dX7_setThinks_1 flX7_11 zcf7 zp4 (Or.inr ⟨_, rfl⟩) rfl ?_
  refine zR.bipush (v := 68) dX7_setThinks_4 (by decide) ?_
  refine kR.iload_n dX7_setThinks_6 1 rfl ?_
  refine zR.bipush (v := 6) dX7_setThinks_7 (by decide) ?_
  refine zR.imul dX7_setThinks_9 ?_
  refine zR.iadd dX7_setThinks_10 ?_
  refine kR.iload_n dX7_setThinks_11 2 rfl ?_
  refine zR.iadd dX7_setThinks_12 ?_
  refine kR.iload_n dX7_setThinks_13 3 rfl ?_
  obtain ⟨σ1, e0, h⟩ := wIv (Nat.le_of_ble_eq_true rfl) h
  refine kR.cSv [.ref 5, .int ((68 + (p1 * 6)) + p2), .int p3] dX7_setThinks_14 rfl (by decide) (Or.inr mwX7_36) rfl (Nat.le_of_ble_eq_true rfl) (lX10_setAt 5 104 (fun _ => zp5) rfl (Nat.le_of_ble_eq_true rfl) ((68 + (p1 * 6)) + p2) p3 σ _ e0) ?_
  exact kR.vret dX7_setThinks_17 h
theorem lX7_setThinks {sc : Nat × (Nat → Int32)} (p1 : Int32) (p2 : Int32) (p3 : Int32) (σ : zS) (w : zS) (h : fX7_setThinks p1 p2 p3 σ = some w) : zC (zY0 sc) 2 0 0 mX7_setThinks [.ref 4, .int p1, .int p2, .int p3] (zE σ) (none, zE w) := zC.of (by decide +kernel) (Nat.le_of_ble_eq_true rfl) rfl (eX7_setThinks p1 p2 p3 σ w h)
theorem dX10_believe_0 : decode cX10_believe 0 = .ok (.aload_n 0, 1) := by decide +kernel
theorem dX10_believe_1 : decode cX10_believe 1 = .ok (.getfield 38, 3) := by decide +kernel
theorem dX10_believe_4 : decode cX10_believe 4 = .ok (.getfield 111, 3) := by decide +kernel
theorem dX10_believe_7 : decode cX10_believe 7 = .ok (.iload_n 1, 1) := by decide +kernel
theorem dX10_believe_8 : decode cX10_believe 8 = .ok (.iload_n 2, 1) := by decide +kernel
theorem dX10_believe_9 : decode cX10_believe 9 = .ok (.invokevirtual 206, 3) := by decide +kernel
theorem dX10_believe_12 : decode cX10_believe 12 = .ok (.ifCond .eq 10, 3) := by decide +kernel
theorem dX10_believe_15 : decode cX10_believe 15 = .ok (.iload_n 3, 1) := by decide +kernel
theorem dX10_believe_16 : decode cX10_believe 16 = .ok (.invokestatic 295, 3) := by decide +kernel
theorem dX10_believe_19 : decode cX10_believe 19 = .ok (.ifCond .ne 9, 3) := by decide +kernel
theorem dX10_believe_22 : decode cX10_believe 22 = .ok (.aload_n 0, 1) := by decide +kernel
theorem dX10_believe_23 : decode cX10_believe 23 = .ok (.iconst 2, 1) := by decide +kernel
theorem dX10_believe_24 : decode cX10_believe 24 = .ok (.invokevirtual 89, 3) := by decide +kernel
theorem dX10_believe_27 : decode cX10_believe 27 = .ok (.ireturn, 1) := by decide +kernel
theorem dX10_believe_28 : decode cX10_believe 28 = .ok (.aload_n 0, 1) := by decide +kernel
theorem dX10_believe_29 : decode cX10_believe 29 = .ok (.invokevirtual 286, 3) := by decide +kernel
theorem dX10_believe_32 : decode cX10_believe 32 = .ok (.aload_n 0, 1) := by decide +kernel
theorem dX10_believe_33 : decode cX10_believe 33 = .ok (.getfield 19, 3) := by decide +kernel
theorem dX10_believe_36 : decode cX10_believe 36 = .ok (.iload_n 1, 1) := by decide +kernel
theorem dX10_believe_37 : decode cX10_believe 37 = .ok (.iload_n 2, 1) := by decide +kernel
theorem dX10_believe_38 : decode cX10_believe 38 = .ok (.invokevirtual 183, 3) := by decide +kernel
theorem dX10_believe_41 : decode cX10_believe 41 = .ok (.istore 4, 2) := by decide +kernel
theorem dX10_believe_43 : decode cX10_believe 43 = .ok (.aload_n 0, 1) := by decide +kernel
theorem dX10_believe_44 : decode cX10_believe 44 = .ok (.getfield 19, 3) := by decide +kernel
theorem dX10_believe_47 : decode cX10_believe 47 = .ok (.iload_n 1, 1) := by decide +kernel
theorem dX10_believe_48 : decode cX10_believe 48 = .ok (.iload_n 2, 1) := by decide +kernel
theorem dX10_believe_49 : decode cX10_believe 49 = .ok (.iload_n 3, 1) := by decide +kernel
theorem dX10_believe_50 : decode cX10_believe 50 = .ok (.invokevirtual 298, 3) := by decide +kernel
theorem dX10_believe_53 : decode cX10_believe 53 = .ok (.iload 4, 2) := by decide +kernel
theorem dX10_believe_55 : decode cX10_believe 55 = .ok (.ireturn, 1) := by decide +kernel
def fX10_believe_22 (σ : zS) : Option (Int32 × zS) := bnc (fX10_refuse 2 σ) fun v3 σ1 => some (v3, σ1)
theorem kX10_believe_22 {sc : Nat × (Nat → Int32)} (σ : zS) (w : Int32 × zS) (h : fX10_believe_22 σ = some w) : zR (zY0 sc) 4 0 0 mX10_believe 22 [(0, .ref 1)] [] (zE σ) (some (.int w.1), zE w.2) := by
  unfold fX10_believe_22 at h
  refine kR.aload_n dX10_believe_22 0 rfl ?_
  refine zR.iconst (v := 2) dX10_believe_23 (by decide) ?_
  obtain ⟨v3, σ1, e2, h⟩ := bnc_some h
  refine kR.cVi [.int 2] dX10_believe_24 rfl (by decide) mwX10_89 zp1 (by decide) rfl rfl (Nat.le_of_ble_eq_true rfl) (lX10_refuse 2 σ _ e2) ?_
  exact kR.iretW dX10_believe_27 (nzI rfl _) h
def fX10_believe (p1 : Int32) (p2 : Int32) (p3 : Int32) (σ : zS) : Option (Int32 × zS) := if (fX6_hasBoth σ.2.2.2.1 σ p1 p2) = 0 then fX10_believe_22 σ else if (fX10_isSecond p3) = 0 then fX10_believe_22 σ else bnr (fX10_beginAct σ) fun σ4 => bnr (fX7_thinksOf σ4 p1 p2) fun v6 => bnr (fX7_setThinks p1 p2 p3 σ4) fun σ8 => some (v6, σ8)
theorem eX10_believe {sc : Nat × (Nat → Int32)} (p1 : Int32) (p2 : Int32) (p3 : Int32) (σ : zS) (w : Int32 × zS) (h : fX10_believe p1 p2 p3 σ = some w) : zR (zY0 sc) 4 0 0 mX10_believe 0 [(0, .ref 1), (1, .int p1), (2, .int p2), (3, .int p3)] [] (zE σ) (some (.int w.1), zE w.2) := by
  unfold fX10_believe at h
  refine kR.aload_n dX10_believe_0 0 rfl ?_
  refine kR.getR (v := 8) dX10_believe_1 flX10_38 zcf10 zp1 (Or.inl ⟨_, rfl⟩) rfl ?_
  refine kR.getR (v := (rp σ.2.2.2.1 + 0)) dX10_believe_4 flX10_111 zcf4 zp8 (Or.inl ⟨_, rfl⟩) rfl ?_
  refine kR.iload_n dX10_believe_7 1 rfl ?_
  refine kR.iload_n dX10_believe_8 2 rfl ?_
  refine kR.cVi [.int p1, .int p2] dX10_believe_9 rfl (by decide) mwX10_206 (zq0 σ.2.2.2.1) (by decide) rfl rfl (Nat.le_of_ble_eq_true rfl) (lX6_hasBoth σ.2.2.2.1 σ p1 p2) ?_
  refine kR.if_eq (tgt := 22) dX10_believe_12 (by decide) h (fun h => ?_) (fun h => ?_)
  · refine zR.sub [0] rfl ?_
    exact kX10_believe_22 _ _ h
  · refine kR.iload_n dX10_believe_15 3 rfl ?_
    refine kR.cSi [.int p3] dX10_believe_16 rfl (by decide) (Or.inl mwX10_295) rfl (Nat.le_of_ble_eq_true rfl) (lX10_isSecond p3) ?_
    refine kR.if_ne (tgt := 28) dX10_believe_19 (by decide) h (fun h => ?_) (fun h => ?_)
    · refine kR.aload_n dX10_believe_28 0 rfl ?_
      obtain ⟨σ4, e5, h⟩ := bnr_some h
      refine kR.cVv [] dX10_believe_29 rfl (by decide) mwX10_286 zp1 (by decide) rfl rfl (Nat.le_of_ble_eq_true rfl) (lX10_beginAct σ _ e5) ?_
      refine kR.aload_n dX10_believe_32 0 rfl ?_
      refine kR.getR (v := 4) dX10_believe_33 flX10_19 zcf10 zp1 (Or.inl ⟨_, rfl⟩) rfl ?_
      refine kR.iload_n dX10_believe_36 1 rfl ?_
      refine kR.iload_n dX10_believe_37 2 rfl ?_
      obtain ⟨v6, e7, h⟩ := bnr_some h
      refine kR.cVi [.int p1, .int p2] dX10_believe_38 rfl (by decide) mwX10_183 zp4 (by decide) rfl rfl (Nat.le_of_ble_eq_true rfl) (lX7_thinksOf σ4 p1 p2 _ e7) ?_
      refine zR.istore (i := 4) (ls' := [(4, .int v6), (0, .ref 1), (1, .int p1), (2, .int p2), (3, .int p3)]) dX10_believe_41 (by decide) rfl ?_
      refine kR.aload_n dX10_believe_43 1 rfl ?_
      refine kR.getR (v := 4) dX10_believe_44 flX10_19 zcf10 zp1 (Or.inl ⟨_, rfl⟩) rfl ?_
      refine kR.iload_n dX10_believe_47 2 rfl ?_
      refine kR.iload_n dX10_believe_48 3 rfl ?_
      refine kR.iload_n dX10_believe_49 4 rfl ?_
      obtain ⟨σ8, e9, h⟩ := bnr_some h
      refine kR.cVv [.int p1, .int p2, .int p3] dX10_believe_50 rfl (by decide) mwX10_298 zp4 (by decide) rfl rfl (Nat.le_of_ble_eq_true rfl) (lX7_setThinks p1 p2 p3 σ4 _ e9) ?_
      refine kR.iload dX10_believe_53 0 rfl ?_
      exact kR.iretW dX10_believe_55 (nzI rfl _) h
    · refine zR.sub [0] rfl ?_
      exact kX10_believe_22 _ _ h
theorem lX10_believe {sc : Nat × (Nat → Int32)} (p1 : Int32) (p2 : Int32) (p3 : Int32) (σ : zS) (w : Int32 × zS) (h : fX10_believe p1 p2 p3 σ = some w) : zC (zY0 sc) 4 0 0 mX10_believe [.ref 1, .int p1, .int p2, .int p3] (zE σ) (some (.int w.1), zE w.2) := zC.of (by decide +kernel) (Nat.le_of_ble_eq_true rfl) ⟨_, rfl⟩ (eX10_believe p1 p2 p3 σ w h)
theorem dX7_setGives_0 : decode cX7_setGives 0 = .ok (.aload_n 0, 1) := by decide +kernel
theorem dX7_setGives_1 : decode cX7_setGives 1 = .ok (.getfield 11, 3) := by decide +kernel
theorem dX7_setGives_4 : decode cX7_setGives 4 = .ok (.bipush 56, 2) := by decide +kernel
theorem dX7_setGives_6 : decode cX7_setGives 6 = .ok (.iload_n 1, 1) := by decide +kernel
theorem dX7_setGives_7 : decode cX7_setGives 7 = .ok (.iadd, 1) := by decide +kernel
theorem dX7_setGives_8 : decode cX7_setGives 8 = .ok (.iload_n 2, 1) := by decide +kernel
theorem dX7_setGives_9 : decode cX7_setGives 9 = .ok (.invokestatic 36, 3) := by decide +kernel
theorem dX7_setGives_12 : decode cX7_setGives 12 = .ok (.return_, 1) := by decide +kernel
def fX7_setGives (p1 : Int32) (p2 : Int32) (σ : zS) : Option zS := wI σ 5 104 (56 + p1) p2 fun σ1 => some σ1
theorem eX7_setGives {sc : Nat × (Nat → Int32)} (p1 : Int32) (p2 : Int32) (σ : zS) (w : zS) (h : fX7_setGives p1 p2 σ = some w) : zR (zY0 sc) 2 0 0 mX7_setGives 0 [(0, .ref 4), (1, .int p1), (2, .int p2)] [] (zE σ) (none, zE w) := by
  unfold fX7_setGives at h
  refine kR.aload_n dX7_setGives_0 0 rfl ?_
  refine kR.getR (v := 5) dX7_setGives_1 flX7_11 zcf7 zp4 (Or.inr ⟨_, rfl⟩) rfl ?_
  refine zR.bipush (v := 56) dX7_setGives_4 (by decide) ?_
  refine kR.iload_n dX7_setGives_6 1 rfl ?_
  refine zR.iadd dX7_setGives_7 ?_
  refine kR.iload_n dX7_setGives_8 2 rfl ?_
  obtain ⟨σ1, e0, h⟩ := wIv (Nat.le_of_ble_eq_true rfl) h
  refine kR.cSv [.ref 5, .int (56 + p1), .int p2] dX7_setGives_9 rfl (by decide) (Or.inr mwX7_36) rfl (Nat.le_of_ble_eq_true rfl) (lX10_setAt 5 104 (fun _ => zp5) rfl (Nat.le_of_ble_eq_true rfl) (56 + p1) p2 σ _ e0) ?_
  exact kR.vret dX7_setGives_12 h
theorem lX7_setGives {sc : Nat × (Nat → Int32)} (p1 : Int32) (p2 : Int32) (σ : zS) (w : zS) (h : fX7_setGives p1 p2 σ = some w) : zC (zY0 sc) 2 0 0 mX7_setGives [.ref 4, .int p1, .int p2] (zE σ) (none, zE w) := zC.of (by decide +kernel) (Nat.le_of_ble_eq_true rfl) rfl (eX7_setGives p1 p2 σ w h)
theorem dX10_give_0 : decode cX10_give 0 = .ok (.aload_n 0, 1) := by decide +kernel
theorem dX10_give_1 : decode cX10_give 1 = .ok (.getfield 38, 3) := by decide +kernel
theorem dX10_give_4 : decode cX10_give 4 = .ok (.getfield 111, 3) := by decide +kernel
theorem dX10_give_7 : decode cX10_give 7 = .ok (.iload_n 1, 1) := by decide +kernel
theorem dX10_give_8 : decode cX10_give 8 = .ok (.invokevirtual 162, 3) := by decide +kernel
theorem dX10_give_11 : decode cX10_give 11 = .ok (.ifCond .eq 10, 3) := by decide +kernel
theorem dX10_give_14 : decode cX10_give 14 = .ok (.iload_n 2, 1) := by decide +kernel
theorem dX10_give_15 : decode cX10_give 15 = .ok (.invokestatic 295, 3) := by decide +kernel
theorem dX10_give_18 : decode cX10_give 18 = .ok (.ifCond .ne 9, 3) := by decide +kernel
theorem dX10_give_21 : decode cX10_give 21 = .ok (.aload_n 0, 1) := by decide +kernel
theorem dX10_give_22 : decode cX10_give 22 = .ok (.iconst 2, 1) := by decide +kernel
theorem dX10_give_23 : decode cX10_give 23 = .ok (.invokevirtual 89, 3) := by decide +kernel
theorem dX10_give_26 : decode cX10_give 26 = .ok (.ireturn, 1) := by decide +kernel
theorem dX10_give_27 : decode cX10_give 27 = .ok (.aload_n 0, 1) := by decide +kernel
theorem dX10_give_28 : decode cX10_give 28 = .ok (.invokevirtual 286, 3) := by decide +kernel
theorem dX10_give_31 : decode cX10_give 31 = .ok (.aload_n 0, 1) := by decide +kernel
theorem dX10_give_32 : decode cX10_give 32 = .ok (.getfield 19, 3) := by decide +kernel
theorem dX10_give_35 : decode cX10_give 35 = .ok (.iload_n 1, 1) := by decide +kernel
theorem dX10_give_36 : decode cX10_give 36 = .ok (.invokevirtual 195, 3) := by decide +kernel
theorem dX10_give_39 : decode cX10_give 39 = .ok (.istore_n 3, 1) := by decide +kernel
theorem dX10_give_40 : decode cX10_give 40 = .ok (.aload_n 0, 1) := by decide +kernel
theorem dX10_give_41 : decode cX10_give 41 = .ok (.getfield 19, 3) := by decide +kernel
theorem dX10_give_44 : decode cX10_give 44 = .ok (.iload_n 1, 1) := by decide +kernel
theorem dX10_give_45 : decode cX10_give 45 = .ok (.iload_n 2, 1) := by decide +kernel
theorem dX10_give_46 : decode cX10_give 46 = .ok (.invokevirtual 301, 3) := by decide +kernel
theorem dX10_give_49 : decode cX10_give 49 = .ok (.iload_n 3, 1) := by decide +kernel
theorem dX10_give_50 : decode cX10_give 50 = .ok (.ireturn, 1) := by decide +kernel
def fX10_give_21 (σ : zS) : Option (Int32 × zS) := bnc (fX10_refuse 2 σ) fun v3 σ1 => some (v3, σ1)
theorem kX10_give_21 {sc : Nat × (Nat → Int32)} (σ : zS) (w : Int32 × zS) (h : fX10_give_21 σ = some w) : zR (zY0 sc) 4 0 0 mX10_give 21 [(0, .ref 1)] [] (zE σ) (some (.int w.1), zE w.2) := by
  unfold fX10_give_21 at h
  refine kR.aload_n dX10_give_21 0 rfl ?_
  refine zR.iconst (v := 2) dX10_give_22 (by decide) ?_
  obtain ⟨v3, σ1, e2, h⟩ := bnc_some h
  refine kR.cVi [.int 2] dX10_give_23 rfl (by decide) mwX10_89 zp1 (by decide) rfl rfl (Nat.le_of_ble_eq_true rfl) (lX10_refuse 2 σ _ e2) ?_
  exact kR.iretW dX10_give_26 (nzI rfl _) h
def fX10_give (p1 : Int32) (p2 : Int32) (σ : zS) : Option (Int32 × zS) := if (fX6_hasHolder σ.2.2.2.1 σ p1) = 0 then fX10_give_21 σ else if (fX10_isSecond p2) = 0 then fX10_give_21 σ else bnr (fX10_beginAct σ) fun σ4 => bnr (fX7_givesOf σ4 p1) fun v6 => bnr (fX7_setGives p1 p2 σ4) fun σ8 => some (v6, σ8)
theorem eX10_give {sc : Nat × (Nat → Int32)} (p1 : Int32) (p2 : Int32) (σ : zS) (w : Int32 × zS) (h : fX10_give p1 p2 σ = some w) : zR (zY0 sc) 4 0 0 mX10_give 0 [(0, .ref 1), (1, .int p1), (2, .int p2)] [] (zE σ) (some (.int w.1), zE w.2) := by
  unfold fX10_give at h
  refine kR.aload_n dX10_give_0 0 rfl ?_
  refine kR.getR (v := 8) dX10_give_1 flX10_38 zcf10 zp1 (Or.inl ⟨_, rfl⟩) rfl ?_
  refine kR.getR (v := (rp σ.2.2.2.1 + 0)) dX10_give_4 flX10_111 zcf4 zp8 (Or.inl ⟨_, rfl⟩) rfl ?_
  refine kR.iload_n dX10_give_7 1 rfl ?_
  refine kR.cVi [.int p1] dX10_give_8 rfl (by decide) mwX10_162 (zq0 σ.2.2.2.1) (by decide) rfl rfl (Nat.le_of_ble_eq_true rfl) (lX6_hasHolder σ.2.2.2.1 σ p1) ?_
  refine kR.if_eq (tgt := 21) dX10_give_11 (by decide) h (fun h => ?_) (fun h => ?_)
  · refine zR.sub [0] rfl ?_
    exact kX10_give_21 _ _ h
  · refine kR.iload_n dX10_give_14 2 rfl ?_
    refine kR.cSi [.int p2] dX10_give_15 rfl (by decide) (Or.inl mwX10_295) rfl (Nat.le_of_ble_eq_true rfl) (lX10_isSecond p2) ?_
    refine kR.if_ne (tgt := 27) dX10_give_18 (by decide) h (fun h => ?_) (fun h => ?_)
    · refine kR.aload_n dX10_give_27 0 rfl ?_
      obtain ⟨σ4, e5, h⟩ := bnr_some h
      refine kR.cVv [] dX10_give_28 rfl (by decide) mwX10_286 zp1 (by decide) rfl rfl (Nat.le_of_ble_eq_true rfl) (lX10_beginAct σ _ e5) ?_
      refine kR.aload_n dX10_give_31 0 rfl ?_
      refine kR.getR (v := 4) dX10_give_32 flX10_19 zcf10 zp1 (Or.inl ⟨_, rfl⟩) rfl ?_
      refine kR.iload_n dX10_give_35 1 rfl ?_
      obtain ⟨v6, e7, h⟩ := bnr_some h
      refine kR.cVi [.int p1] dX10_give_36 rfl (by decide) mwX10_195 zp4 (by decide) rfl rfl (Nat.le_of_ble_eq_true rfl) (lX7_givesOf σ4 p1 _ e7) ?_
      refine zR.istore_n (i := 3) (ls' := [(3, .int v6), (0, .ref 1), (1, .int p1), (2, .int p2)]) dX10_give_39 rfl (by decide) rfl ?_
      refine kR.aload_n dX10_give_40 1 rfl ?_
      refine kR.getR (v := 4) dX10_give_41 flX10_19 zcf10 zp1 (Or.inl ⟨_, rfl⟩) rfl ?_
      refine kR.iload_n dX10_give_44 2 rfl ?_
      refine kR.iload_n dX10_give_45 3 rfl ?_
      obtain ⟨σ8, e9, h⟩ := bnr_some h
      refine kR.cVv [.int p1, .int p2] dX10_give_46 rfl (by decide) mwX10_301 zp4 (by decide) rfl rfl (Nat.le_of_ble_eq_true rfl) (lX7_setGives p1 p2 σ4 _ e9) ?_
      refine kR.iload_n dX10_give_49 0 rfl ?_
      exact kR.iretW dX10_give_50 (nzI rfl _) h
    · refine zR.sub [0] rfl ?_
      exact kX10_give_21 _ _ h
theorem lX10_give {sc : Nat × (Nat → Int32)} (p1 : Int32) (p2 : Int32) (σ : zS) (w : Int32 × zS) (h : fX10_give p1 p2 σ = some w) : zC (zY0 sc) 4 0 0 mX10_give [.ref 1, .int p1, .int p2] (zE σ) (some (.int w.1), zE w.2) := zC.of (by decide +kernel) (Nat.le_of_ble_eq_true rfl) ⟨_, rfl⟩ (eX10_give p1 p2 σ w h)

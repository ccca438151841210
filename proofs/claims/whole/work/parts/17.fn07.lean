/-! MY OWN (by program): X10_drawHeld, X10_driveThrough, X10_drive, X10_pause, X7_setThinks, X10_believe, X7_setGives, X10_give, X2_takeBack, X10_undo, X10_seed, X7_keptPart, X10_kept, X3_addByte, X3_withChecked, X3_write, X10_image, X10_octet, X3_holderSize, X3_scoreAt, X3_isHolderAt, X3_isOf -/
theorem dX10_drawHeld_0 : decode cX10_drawHeld 0 = .ok (.iload_n 1, 1) := by decide +kernel
theorem dX10_drawHeld_1 : decode cX10_drawHeld 1 = .ok (.ifCond .ne 5, 3) := by decide +kernel
theorem dX10_drawHeld_4 : decode cX10_drawHeld 4 = .ok (.iload_n 2, 1) := by decide +kernel
theorem dX10_drawHeld_5 : decode cX10_drawHeld 5 = .ok (.ireturn, 1) := by decide +kernel
theorem dX10_drawHeld_6 : decode cX10_drawHeld 6 = .ok (.iconst 1, 1) := by decide +kernel
theorem dX10_drawHeld_7 : decode cX10_drawHeld 7 = .ok (.istore_n 3, 1) := by decide +kernel
theorem dX10_drawHeld_8 : decode cX10_drawHeld 8 = .ok (.iload_n 3, 1) := by decide +kernel
theorem dX10_drawHeld_9 : decode cX10_drawHeld 9 = .ok (.iload_n 2, 1) := by decide +kernel
theorem dX10_drawHeld_10 : decode cX10_drawHeld 10 = .ok (.if_icmp .gt 23, 3) := by decide +kernel
theorem dX10_drawHeld_13 : decode cX10_drawHeld 13 = .ok (.aload_n 0, 1) := by decide +kernel
theorem dX10_drawHeld_14 : decode cX10_drawHeld 14 = .ok (.bipush 100, 2) := by decide +kernel
theorem dX10_drawHeld_16 : decode cX10_drawHeld 16 = .ok (.invokevirtual 347, 3) := by decide +kernel
theorem dX10_drawHeld_19 : decode cX10_drawHeld 19 = .ok (.iload_n 1, 1) := by decide +kernel
theorem dX10_drawHeld_20 : decode cX10_drawHeld 20 = .ok (.if_icmp .ge 7, 3) := by decide +kernel
theorem dX10_drawHeld_23 : decode cX10_drawHeld 23 = .ok (.iload_n 3, 1) := by decide +kernel
theorem dX10_drawHeld_24 : decode cX10_drawHeld 24 = .ok (.iconst 1, 1) := by decide +kernel
theorem dX10_drawHeld_25 : decode cX10_drawHeld 25 = .ok (.isub, 1) := by decide +kernel
theorem dX10_drawHeld_26 : decode cX10_drawHeld 26 = .ok (.ireturn, 1) := by decide +kernel
theorem dX10_drawHeld_27 : decode cX10_drawHeld 27 = .ok (.iinc 3 1, 3) := by decide +kernel
theorem dX10_drawHeld_30 : decode cX10_drawHeld 30 = .ok (.goto (-22), 3) := by decide +kernel
theorem dX10_drawHeld_33 : decode cX10_drawHeld 33 = .ok (.iload_n 2, 1) := by decide +kernel
theorem dX10_drawHeld_34 : decode cX10_drawHeld 34 = .ok (.ireturn, 1) := by decide +kernel
def fX10_drawHeld_8 : Nat → Int32 → Int32 → Int32 → zS → Option (Int32 × zS)
  | 0, _, _, _, _ => none
  | f + 1, x1, x2, x3, σ => if x2 < x3 then some (x2, σ) else bnc (fX10_draw 100 σ) fun v3 σ1 => if x1 ≤ v3 then fX10_drawHeld_8 f x1 x2 (x3 + 1) σ1 else some (x3 - 1, σ1)
theorem kX10_drawHeld_8 {sc : Nat × (Nat → Int32)} : ∀ (fuel : Nat) (x1 : Int32) (x2 : Int32) (x3 : Int32) (σ : zS) (w : Int32 × zS) (h : fX10_drawHeld_8 fuel x1 x2 x3 σ = some w), zR (zY0 sc) 2 0 0 mX10_drawHeld 8 [(0, .ref 1), (1, .int x1), (2, .int x2), (3, .int x3)] [] (zE σ) (some (.int w.1), zE w.2) := by
  intro fuel
  induction fuel with
  | zero => intro x1 x2 x3 σ w h; exact nomatch h
  | succ f ih =>
    intro x1 x2 x3 σ w h
    rw [fX10_drawHeld_8] at h
    refine kR.iload_n dX10_drawHeld_8 3 rfl ?_
    refine kR.iload_n dX10_drawHeld_9 2 rfl ?_
    refine kR.icmp_gt (tgt := 33) dX10_drawHeld_10 (by decide) h (fun h => ?_) (fun h => ?_)
    · refine kR.iload_n dX10_drawHeld_33 2 rfl ?_
      exact kR.iretW dX10_drawHeld_34 (nzI rfl _) h
    · refine kR.aload_n dX10_drawHeld_13 0 rfl ?_
      refine zR.bipush (v := 100) dX10_drawHeld_14 (by decide) ?_
      obtain ⟨v3, σ1, e2, h⟩ := bnc_some h
      refine kR.cVi [.int 100] dX10_drawHeld_16 rfl (by decide) mwX10_347 zp1 (by decide) rfl rfl (Nat.le_of_ble_eq_true rfl) (lX10_draw 100 σ _ e2) ?_
      refine kR.iload_n dX10_drawHeld_19 1 rfl ?_
      refine kR.icmp_ge (tgt := 27) dX10_drawHeld_20 (by decide) h (fun h => ?_) (fun h => ?_)
      · refine zR.iinc 3 (v := x3 + 1) (ls' := [(3, .int (x3 + 1)), (0, .ref 1), (1, .int x1), (2, .int x2)]) dX10_drawHeld_27 rfl rfl (by decide) rfl ?_
        refine zR.goto (tgt := 8) dX10_drawHeld_30 (by decide) ?_
        refine zR.sub [1, 2, 3, 0] rfl ?_
        exact ih _ _ _ _ _ h
      · refine kR.iload_n dX10_drawHeld_23 3 rfl ?_
        refine zR.iconst (v := 1) dX10_drawHeld_24 (by decide) ?_
        refine zR.isub dX10_drawHeld_25 ?_
        exact kR.iretW dX10_drawHeld_26 (nzI rfl _) h
def fX10_drawHeld (p1 : Int32) (p2 : Int32) (σ : zS) : Option (Int32 × zS) := if p1 = 0 then some (p2, σ) else fX10_drawHeld_8 zF p1 p2 1 σ
theorem eX10_drawHeld {sc : Nat × (Nat → Int32)} (p1 : Int32) (p2 : Int32) (σ : zS) (w : Int32 × zS) (h : fX10_drawHeld p1 p2 σ = some w) : zR (zY0 sc) 2 0 0 mX10_drawHeld 0 [(0, .ref 1), (1, .int p1), (2, .int p2)] [] (zE σ) (some (.int w.1), zE w.2) := by
  unfold fX10_drawHeld at h
  refine kR.iload_n dX10_drawHeld_0 1 rfl ?_
  refine kR.if_ne (tgt := 6) dX10_drawHeld_1 (by decide) h (fun h => ?_) (fun h => ?_)
  · refine zR.iconst (v := 1) dX10_drawHeld_6 (by decide) ?_
    refine zR.istore_n (i := 3) (ls' := [(3, .int 1), (0, .ref 1), (1, .int p1), (2, .int p2)]) dX10_drawHeld_7 rfl (by decide) rfl ?_
    refine zR.sub [1, 2, 3, 0] rfl ?_
    exact kX10_drawHeld_8 zF _ _ _ _ _ h
  · refine kR.iload_n dX10_drawHeld_4 2 rfl ?_
    exact kR.iretW dX10_drawHeld_5 (nzI rfl _) h
theorem lX10_drawHeld {sc : Nat × (Nat → Int32)} (p1 : Int32) (p2 : Int32) (σ : zS) (w : Int32 × zS) (h : fX10_drawHeld p1 p2 σ = some w) : zC (zY0 sc) 2 0 0 mX10_drawHeld [.ref 1, .int p1, .int p2] (zE σ) (some (.int w.1), zE w.2) := zC.of (by decide +kernel) (Nat.le_of_ble_eq_true rfl) ⟨_, rfl⟩ (eX10_drawHeld p1 p2 σ w h)
theorem dX10_driveThrough_0 : decode cX10_driveThrough 0 = .ok (.aload_n 0, 1) := by decide +kernel
theorem dX10_driveThrough_1 : decode cX10_driveThrough 1 = .ok (.getfield 38, 3) := by decide +kernel
theorem dX10_driveThrough_4 : decode cX10_driveThrough 4 = .ok (.getfield 111, 3) := by decide +kernel
theorem dX10_driveThrough_7 : decode cX10_driveThrough 7 = .ok (.astore_n 1, 1) := by decide +kernel
theorem dX10_driveThrough_8 : decode cX10_driveThrough 8 = .ok (.aload_n 0, 1) := by decide +kernel
theorem dX10_driveThrough_9 : decode cX10_driveThrough 9 = .ok (.getfield 19, 3) := by decide +kernel
theorem dX10_driveThrough_12 : decode cX10_driveThrough 12 = .ok (.invokevirtual 140, 3) := by decide +kernel
theorem dX10_driveThrough_15 : decode cX10_driveThrough 15 = .ok (.istore_n 2, 1) := by decide +kernel
theorem dX10_driveThrough_16 : decode cX10_driveThrough 16 = .ok (.aload_n 0, 1) := by decide +kernel
theorem dX10_driveThrough_17 : decode cX10_driveThrough 17 = .ok (.iload_n 2, 1) := by decide +kernel
theorem dX10_driveThrough_18 : decode cX10_driveThrough 18 = .ok (.invokevirtual 325, 3) := by decide +kernel
theorem dX10_driveThrough_21 : decode cX10_driveThrough 21 = .ok (.istore_n 3, 1) := by decide +kernel
theorem dX10_driveThrough_22 : decode cX10_driveThrough 22 = .ok (.iconst 0, 1) := by decide +kernel
theorem dX10_driveThrough_23 : decode cX10_driveThrough 23 = .ok (.istore 4, 2) := by decide +kernel
theorem dX10_driveThrough_25 : decode cX10_driveThrough 25 = .ok (.iconst 0, 1) := by decide +kernel
theorem dX10_driveThrough_26 : decode cX10_driveThrough 26 = .ok (.istore 5, 2) := by decide +kernel
theorem dX10_driveThrough_28 : decode cX10_driveThrough 28 = .ok (.iload 5, 2) := by decide +kernel
theorem dX10_driveThrough_30 : decode cX10_driveThrough 30 = .ok (.aload_n 1, 1) := by decide +kernel
theorem dX10_driveThrough_31 : decode cX10_driveThrough 31 = .ok (.getfield 131, 3) := by decide +kernel
theorem dX10_driveThrough_34 : decode cX10_driveThrough 34 = .ok (.if_icmp .ge 56, 3) := by decide +kernel
theorem dX10_driveThrough_37 : decode cX10_driveThrough 37 = .ok (.aload_n 0, 1) := by decide +kernel
theorem dX10_driveThrough_38 : decode cX10_driveThrough 38 = .ok (.getfield 38, 3) := by decide +kernel
theorem dX10_driveThrough_41 : decode cX10_driveThrough 41 = .ok (.getfield 328, 3) := by decide +kernel
theorem dX10_driveThrough_44 : decode cX10_driveThrough 44 = .ok (.iload 5, 2) := by decide +kernel
theorem dX10_driveThrough_46 : decode cX10_driveThrough 46 = .ok (.aload_n 0, 1) := by decide +kernel
theorem dX10_driveThrough_47 : decode cX10_driveThrough 47 = .ok (.aload_n 1, 1) := by decide +kernel
theorem dX10_driveThrough_48 : decode cX10_driveThrough 48 = .ok (.getfield 188, 3) := by decide +kernel
theorem dX10_driveThrough_51 : decode cX10_driveThrough 51 = .ok (.iload 5, 2) := by decide +kernel
theorem dX10_driveThrough_53 : decode cX10_driveThrough 53 = .ok (.iaload, 1) := by decide +kernel
theorem dX10_driveThrough_54 : decode cX10_driveThrough 54 = .ok (.aload_n 0, 1) := by decide +kernel
theorem dX10_driveThrough_55 : decode cX10_driveThrough 55 = .ok (.getfield 38, 3) := by decide +kernel
theorem dX10_driveThrough_58 : decode cX10_driveThrough 58 = .ok (.iload 5, 2) := by decide +kernel
theorem dX10_driveThrough_60 : decode cX10_driveThrough 60 = .ok (.iload_n 2, 1) := by decide +kernel
theorem dX10_driveThrough_61 : decode cX10_driveThrough 61 = .ok (.iload_n 3, 1) := by decide +kernel
theorem dX10_driveThrough_62 : decode cX10_driveThrough 62 = .ok (.invokevirtual 209, 3) := by decide +kernel
theorem dX10_driveThrough_65 : decode cX10_driveThrough 65 = .ok (.invokevirtual 331, 3) := by decide +kernel
theorem dX10_driveThrough_68 : decode cX10_driveThrough 68 = .ok (.iastore, 1) := by decide +kernel
theorem dX10_driveThrough_69 : decode cX10_driveThrough 69 = .ok (.iload 4, 2) := by decide +kernel
theorem dX10_driveThrough_71 : decode cX10_driveThrough 71 = .ok (.aload_n 0, 1) := by decide +kernel
theorem dX10_driveThrough_72 : decode cX10_driveThrough 72 = .ok (.getfield 38, 3) := by decide +kernel
theorem dX10_driveThrough_75 : decode cX10_driveThrough 75 = .ok (.getfield 328, 3) := by decide +kernel
theorem dX10_driveThrough_78 : decode cX10_driveThrough 78 = .ok (.iload 5, 2) := by decide +kernel
theorem dX10_driveThrough_80 : decode cX10_driveThrough 80 = .ok (.iaload, 1) := by decide +kernel
theorem dX10_driveThrough_81 : decode cX10_driveThrough 81 = .ok (.iadd, 1) := by decide +kernel
theorem dX10_driveThrough_82 : decode cX10_driveThrough 82 = .ok (.istore 4, 2) := by decide +kernel
theorem dX10_driveThrough_84 : decode cX10_driveThrough 84 = .ok (.iinc 5 1, 3) := by decide +kernel
theorem dX10_driveThrough_87 : decode cX10_driveThrough 87 = .ok (.goto (-59), 3) := by decide +kernel
theorem dX10_driveThrough_90 : decode cX10_driveThrough 90 = .ok (.iconst 0, 1) := by decide +kernel
theorem dX10_driveThrough_91 : decode cX10_driveThrough 91 = .ok (.istore 5, 2) := by decide +kernel
theorem dX10_driveThrough_93 : decode cX10_driveThrough 93 = .ok (.iload 5, 2) := by decide +kernel
theorem dX10_driveThrough_95 : decode cX10_driveThrough 95 = .ok (.aload_n 1, 1) := by decide +kernel
theorem dX10_driveThrough_96 : decode cX10_driveThrough 96 = .ok (.getfield 131, 3) := by decide +kernel
theorem dX10_driveThrough_99 : decode cX10_driveThrough 99 = .ok (.if_icmp .ge 70, 3) := by decide +kernel
theorem dX10_driveThrough_102 : decode cX10_driveThrough 102 = .ok (.aload_n 0, 1) := by decide +kernel
theorem dX10_driveThrough_103 : decode cX10_driveThrough 103 = .ok (.getfield 19, 3) := by decide +kernel
theorem dX10_driveThrough_106 : decode cX10_driveThrough 106 = .ok (.iload 5, 2) := by decide +kernel
theorem dX10_driveThrough_108 : decode cX10_driveThrough 108 = .ok (.aload_n 0, 1) := by decide +kernel
theorem dX10_driveThrough_109 : decode cX10_driveThrough 109 = .ok (.getfield 38, 3) := by decide +kernel
theorem dX10_driveThrough_112 : decode cX10_driveThrough 112 = .ok (.iload 5, 2) := by decide +kernel
theorem dX10_driveThrough_114 : decode cX10_driveThrough 114 = .ok (.iload_n 2, 1) := by decide +kernel
theorem dX10_driveThrough_115 : decode cX10_driveThrough 115 = .ok (.iload_n 3, 1) := by decide +kernel
theorem dX10_driveThrough_116 : decode cX10_driveThrough 116 = .ok (.invokevirtual 217, 3) := by decide +kernel
theorem dX10_driveThrough_119 : decode cX10_driveThrough 119 = .ok (.invokevirtual 334, 3) := by decide +kernel
theorem dX10_driveThrough_122 : decode cX10_driveThrough 122 = .ok (.aload_n 0, 1) := by decide +kernel
theorem dX10_driveThrough_123 : decode cX10_driveThrough 123 = .ok (.getfield 19, 3) := by decide +kernel
theorem dX10_driveThrough_126 : decode cX10_driveThrough 126 = .ok (.iload 5, 2) := by decide +kernel
theorem dX10_driveThrough_128 : decode cX10_driveThrough 128 = .ok (.aload_n 0, 1) := by decide +kernel
theorem dX10_driveThrough_129 : decode cX10_driveThrough 129 = .ok (.getfield 38, 3) := by decide +kernel
theorem dX10_driveThrough_132 : decode cX10_driveThrough 132 = .ok (.iload 5, 2) := by decide +kernel
theorem dX10_driveThrough_134 : decode cX10_driveThrough 134 = .ok (.iload_n 2, 1) := by decide +kernel
theorem dX10_driveThrough_135 : decode cX10_driveThrough 135 = .ok (.iload_n 3, 1) := by decide +kernel
theorem dX10_driveThrough_136 : decode cX10_driveThrough 136 = .ok (.invokevirtual 337, 3) := by decide +kernel
theorem dX10_driveThrough_139 : decode cX10_driveThrough 139 = .ok (.invokevirtual 288, 3) := by decide +kernel
theorem dX10_driveThrough_142 : decode cX10_driveThrough 142 = .ok (.aload_n 0, 1) := by decide +kernel
theorem dX10_driveThrough_143 : decode cX10_driveThrough 143 = .ok (.getfield 19, 3) := by decide +kernel
theorem dX10_driveThrough_146 : decode cX10_driveThrough 146 = .ok (.iload_n 2, 1) := by decide +kernel
theorem dX10_driveThrough_147 : decode cX10_driveThrough 147 = .ok (.iload_n 3, 1) := by decide +kernel
theorem dX10_driveThrough_148 : decode cX10_driveThrough 148 = .ok (.iload 5, 2) := by decide +kernel
theorem dX10_driveThrough_150 : decode cX10_driveThrough 150 = .ok (.aload_n 0, 1) := by decide +kernel
theorem dX10_driveThrough_151 : decode cX10_driveThrough 151 = .ok (.getfield 38, 3) := by decide +kernel
theorem dX10_driveThrough_154 : decode cX10_driveThrough 154 = .ok (.getfield 328, 3) := by decide +kernel
theorem dX10_driveThrough_157 : decode cX10_driveThrough 157 = .ok (.iload 5, 2) := by decide +kernel
theorem dX10_driveThrough_159 : decode cX10_driveThrough 159 = .ok (.iaload, 1) := by decide +kernel
theorem dX10_driveThrough_160 : decode cX10_driveThrough 160 = .ok (.invokevirtual 340, 3) := by decide +kernel
theorem dX10_driveThrough_163 : decode cX10_driveThrough 163 = .ok (.iinc 5 1, 3) := by decide +kernel
theorem dX10_driveThrough_166 : decode cX10_driveThrough 166 = .ok (.goto (-73), 3) := by decide +kernel
theorem dX10_driveThrough_169 : decode cX10_driveThrough 169 = .ok (.aload_n 0, 1) := by decide +kernel
theorem dX10_driveThrough_170 : decode cX10_driveThrough 170 = .ok (.getfield 19, 3) := by decide +kernel
theorem dX10_driveThrough_173 : decode cX10_driveThrough 173 = .ok (.iload_n 2, 1) := by decide +kernel
theorem dX10_driveThrough_174 : decode cX10_driveThrough 174 = .ok (.iconst 1, 1) := by decide +kernel
theorem dX10_driveThrough_175 : decode cX10_driveThrough 175 = .ok (.iadd, 1) := by decide +kernel
theorem dX10_driveThrough_176 : decode cX10_driveThrough 176 = .ok (.aload_n 1, 1) := by decide +kernel
theorem dX10_driveThrough_177 : decode cX10_driveThrough 177 = .ok (.getfield 128, 3) := by decide +kernel
theorem dX10_driveThrough_180 : decode cX10_driveThrough 180 = .ok (.if_icmp .ge 9, 3) := by decide +kernel
theorem dX10_driveThrough_183 : decode cX10_driveThrough 183 = .ok (.iload_n 2, 1) := by decide +kernel
theorem dX10_driveThrough_184 : decode cX10_driveThrough 184 = .ok (.iconst 1, 1) := by decide +kernel
theorem dX10_driveThrough_185 : decode cX10_driveThrough 185 = .ok (.iadd, 1) := by decide +kernel
theorem dX10_driveThrough_186 : decode cX10_driveThrough 186 = .ok (.goto 4, 3) := by decide +kernel
theorem dX10_driveThrough_189 : decode cX10_driveThrough 189 = .ok (.iconst 0, 1) := by decide +kernel
theorem dX10_driveThrough_190 : decode cX10_driveThrough 190 = .ok (.invokevirtual 344, 3) := by decide +kernel
theorem dX10_driveThrough_193 : decode cX10_driveThrough 193 = .ok (.iload 4, 2) := by decide +kernel
theorem dX10_driveThrough_195 : decode cX10_driveThrough 195 = .ok (.ireturn, 1) := by decide +kernel
def fX10_driveThrough_190 (x4 : Int32) (s0 : Int32) (σ : zS) : Option (Int32 × zS) := bnr (fX7_setNextTunnel s0 σ) fun σ6 => some (x4, σ6)
theorem kX10_driveThrough_190 {sc : Nat × (Nat → Int32)} (x4 : Int32) (s0 : Int32) (σ : zS) (w : Int32 × zS) (h : fX10_driveThrough_190 x4 s0 σ = some w) : zR (zY0 sc) 5 0 0 mX10_driveThrough 190 [(4, .int x4)] [.int s0, .ref 4] (zE σ) (some (.int w.1), zE w.2) := by
  unfold fX10_driveThrough_190 at h
  obtain ⟨σ6, e7, h⟩ := bnr_some h
  refine kR.cVv [.int s0] dX10_driveThrough_190 rfl (by decide) mwX10_344 zp4 (by decide) rfl rfl (Nat.le_of_ble_eq_true rfl) (lX7_setNextTunnel s0 σ _ e7) ?_
  refine kR.iload dX10_driveThrough_193 0 rfl ?_
  exact kR.iretW dX10_driveThrough_195 (nzI rfl _) h
def fX10_driveThrough_93 : Nat → Bool → Int32 → Int32 → Int32 → Int32 → zS → Option (Int32 × zS)
  | 0, _, _, _, _, _, _ => none
  | f + 1, c1, x2, x3, x4, x5, σ => if (iG σ (rp c1 + 0) 2) ≤ x5 then if (iG σ (rp c1 + 0) 1) ≤ (x2 + 1) then fX10_driveThrough_190 x4 0 σ else fX10_driveThrough_190 x4 (x2 + 1) σ else bnc (fX4_worthAmong x5 x2 x3 σ) fun v10 σ8 => bnr (fX7_addScore x5 v10 σ8) fun σ11 => bnc (fX4_tiredAmong x5 x2 x3 σ11) fun v15 σ13 => bnr (fX7_setBreath x5 v15 σ13) fun σ16 => aI σ16 25 6 x5 fun v18 => bnr (fX7_keep x2 x3 x5 v18 σ16) fun σ19 => fX10_driveThrough_93 f c1 x2 x3 x4 (x5 + 1) σ19
theorem kX10_driveThrough_93 {sc : Nat × (Nat → Int32)} : ∀ (fuel : Nat) (c1 : Bool) (x2 : Int32) (x3 : Int32) (x4 : Int32) (x5 : Int32) (σ : zS) (w : Int32 × zS) (h : fX10_driveThrough_93 fuel c1 x2 x3 x4 x5 σ = some w), zR (zY0 sc) 5 0 0 mX10_driveThrough 93 [(0, .ref 1), (1, .ref (rp c1 + 0)), (2, .int x2), (3, .int x3), (4, .int x4), (5, .int x5)] [] (zE σ) (some (.int w.1), zE w.2) := by
  intro fuel
  induction fuel with
  | zero => intro c1 x2 x3 x4 x5 σ w h; exact nomatch h
  | succ f ih =>
    intro c1 x2 x3 x4 x5 σ w h
    rw [fX10_driveThrough_93] at h
    refine kR.iload dX10_driveThrough_93 5 rfl ?_
    refine kR.aload_n dX10_driveThrough_95 1 rfl ?_
    refine kR.getI dX10_driveThrough_96 flX10_131 zcf6 (zq0 c1) (Or.inl rfl) ?_
    refine kR.icmp_ge (tgt := 169) dX10_driveThrough_99 (by decide) h (fun h => ?_) (fun h => ?_)
    · refine kR.aload_n dX10_driveThrough_169 0 rfl ?_
      refine kR.getR (v := 4) dX10_driveThrough_170 flX10_19 zcf10 zp1 (Or.inl ⟨_, rfl⟩) rfl ?_
      refine kR.iload_n dX10_driveThrough_173 2 rfl ?_
      refine zR.iconst (v := 1) dX10_driveThrough_174 (by decide) ?_
      refine zR.iadd dX10_driveThrough_175 ?_
      refine kR.aload_n dX10_driveThrough_176 1 rfl ?_
      refine kR.getI dX10_driveThrough_177 flX10_128 zcf6 (zq0 c1) (Or.inl rfl) ?_
      refine kR.icmp_ge (tgt := 189) dX10_driveThrough_180 (by decide) h (fun h => ?_) (fun h => ?_)
      · refine zR.iconst (v := 0) dX10_driveThrough_189 (by decide) ?_
        refine zR.sub [4] rfl ?_
        exact kX10_driveThrough_190 _ _ _ _ h
      · refine kR.iload_n dX10_driveThrough_183 2 rfl ?_
        refine zR.iconst (v := 1) dX10_driveThrough_184 (by decide) ?_
        refine zR.iadd dX10_driveThrough_185 ?_
        refine zR.goto (tgt := 190) dX10_driveThrough_186 (by decide) ?_
        refine zR.sub [4] rfl ?_
        exact kX10_driveThrough_190 _ _ _ _ h
    · refine kR.aload_n dX10_driveThrough_102 0 rfl ?_
      refine kR.getR (v := 4) dX10_driveThrough_103 flX10_19 zcf10 zp1 (Or.inl ⟨_, rfl⟩) rfl ?_
      refine kR.iload dX10_driveThrough_106 5 rfl ?_
      refine kR.aload_n dX10_driveThrough_108 0 rfl ?_
      refine kR.getR (v := 8) dX10_driveThrough_109 flX10_38 zcf10 zp1 (Or.inl ⟨_, rfl⟩) rfl ?_
      refine kR.iload dX10_driveThrough_112 5 rfl ?_
      refine kR.iload_n dX10_driveThrough_114 2 rfl ?_
      refine kR.iload_n dX10_driveThrough_115 3 rfl ?_
      obtain ⟨v10, σ8, e9, h⟩ := bnc_some h
      refine kR.cVi [.int x5, .int x2, .int x3] dX10_driveThrough_116 rfl (by decide) mwX10_217 zp8 (by decide) rfl rfl (Nat.le_of_ble_eq_true rfl) (lX4_worthAmong x5 x2 x3 σ _ e9) ?_
      obtain ⟨σ11, e12, h⟩ := bnr_some h
      refine kR.cVv [.int x5, .int v10] dX10_driveThrough_119 rfl (by decide) mwX10_334 zp4 (by decide) rfl rfl (Nat.le_of_ble_eq_true rfl) (lX7_addScore x5 v10 σ8 _ e12) ?_
      refine kR.aload_n dX10_driveThrough_122 0 rfl ?_
      refine kR.getR (v := 4) dX10_driveThrough_123 flX10_19 zcf10 zp1 (Or.inl ⟨_, rfl⟩) rfl ?_
      refine kR.iload dX10_driveThrough_126 5 rfl ?_
      refine kR.aload_n dX10_driveThrough_128 0 rfl ?_
      refine kR.getR (v := 8) dX10_driveThrough_129 flX10_38 zcf10 zp1 (Or.inl ⟨_, rfl⟩) rfl ?_
      refine kR.iload dX10_driveThrough_132 5 rfl ?_
      refine kR.iload_n dX10_driveThrough_134 2 rfl ?_
      refine kR.iload_n dX10_driveThrough_135 3 rfl ?_
      obtain ⟨v15, σ13, e14, h⟩ := bnc_some h
      refine kR.cVi [.int x5, .int x2, .int x3] dX10_driveThrough_136 rfl (by decide) mwX10_337 zp8 (by decide) rfl rfl (Nat.le_of_ble_eq_true rfl) (lX4_tiredAmong x5 x2 x3 σ11 _ e14) ?_
      obtain ⟨σ16, e17, h⟩ := bnr_some h
      refine kR.cVv [.int x5, .int v15] dX10_driveThrough_139 rfl (by decide) mwX10_288 zp4 (by decide) rfl rfl (Nat.le_of_ble_eq_true rfl) (lX7_setBreath x5 v15 σ13 _ e17) ?_
      refine kR.aload_n dX10_driveThrough_142 0 rfl ?_
      refine kR.getR (v := 4) dX10_driveThrough_143 flX10_19 zcf10 zp1 (Or.inl ⟨_, rfl⟩) rfl ?_
      refine kR.iload_n dX10_driveThrough_146 2 rfl ?_
      refine kR.iload_n dX10_driveThrough_147 3 rfl ?_
      refine kR.iload dX10_driveThrough_148 5 rfl ?_
      refine kR.aload_n dX10_driveThrough_150 0 rfl ?_
      refine kR.getR (v := 8) dX10_driveThrough_151 flX10_38 zcf10 zp1 (Or.inl ⟨_, rfl⟩) rfl ?_
      refine kR.getR (v := 25) dX10_driveThrough_154 flX10_328 zcf4 zp8 (Or.inr ⟨_, rfl⟩) rfl ?_
      refine kR.iload dX10_driveThrough_157 5 rfl ?_
      refine kR.iald dX10_driveThrough_159 zp25 rfl h (fun v18 h => ?_)
      obtain ⟨σ19, e20, h⟩ := bnr_some h
      refine kR.cVv [.int x2, .int x3, .int x5, .int v18] dX10_driveThrough_160 rfl (by decide) mwX10_340 zp4 (by decide) rfl rfl (Nat.le_of_ble_eq_true rfl) (lX7_keep x2 x3 x5 v18 σ16 _ e20) ?_
      refine zR.iinc 5 (v := x5 + 1) (ls' := [(5, .int (x5 + 1)), (0, .ref 1), (1, .ref (rp c1 + 0)), (2, .int x2), (3, .int x3), (4, .int x4)]) dX10_driveThrough_163 rfl rfl (by decide) rfl ?_
      refine zR.goto (tgt := 93) dX10_driveThrough_166 (by decide) ?_
      refine zR.sub [1, 2, 3, 4, 5, 0] rfl ?_
      exact ih _ _ _ _ _ _ _ h
def fX10_driveThrough_28 : Nat → Bool → Int32 → Int32 → Int32 → Int32 → zS → Option (Int32 × zS)
  | 0, _, _, _, _, _, _ => none
  | f + 1, c1, x2, x3, x4, x5, σ => if (iG σ (rp c1 + 0) 2) ≤ x5 then fX10_driveThrough_93 zF c1 x2 x3 x4 0 σ else aI σ (rp c1 + 8) 6 x5 fun v21 => bnr (fX4_secondsHeld σ x5 x2 x3) fun v22 => bnc (fX10_drawHeld v21 v22 σ) fun v26 σ24 => wI σ24 25 6 x5 v26 fun σ27 => aI σ27 25 6 x5 fun v28 => fX10_driveThrough_28 f c1 x2 x3 (x4 + v28) (x5 + 1) σ27
theorem kX10_driveThrough_28 {sc : Nat × (Nat → Int32)} : ∀ (fuel : Nat) (c1 : Bool) (x2 : Int32) (x3 : Int32) (x4 : Int32) (x5 : Int32) (σ : zS) (w : Int32 × zS) (h : fX10_driveThrough_28 fuel c1 x2 x3 x4 x5 σ = some w), zR (zY0 sc) 5 0 0 mX10_driveThrough 28 [(0, .ref 1), (1, .ref (rp c1 + 0)), (2, .int x2), (3, .int x3), (4, .int x4), (5, .int x5)] [] (zE σ) (some (.int w.1), zE w.2) := by
  intro fuel
  induction fuel with
  | zero => intro c1 x2 x3 x4 x5 σ w h; exact nomatch h
  | succ f ih =>
    intro c1 x2 x3 x4 x5 σ w h
    rw [fX10_driveThrough_28] at h
    refine kR.iload dX10_driveThrough_28 5 rfl ?_
    refine kR.aload_n dX10_driveThrough_30 1 rfl ?_
    refine kR.getI dX10_driveThrough_31 flX10_131 zcf6 (zq0 c1) (Or.inl rfl) ?_
    refine kR.icmp_ge (tgt := 90) dX10_driveThrough_34 (by decide) h (fun h => ?_) (fun h => ?_)
    · refine zR.iconst (v := 0) dX10_driveThrough_90 (by decide) ?_
      refine zR.istore (i := 5) (ls' := [(5, .int 0), (0, .ref 1), (1, .ref (rp c1 + 0)), (2, .int x2), (3, .int x3), (4, .int x4)]) dX10_driveThrough_91 (by decide) rfl ?_
      refine zR.sub [1, 2, 3, 4, 5, 0] rfl ?_
      exact kX10_driveThrough_93 zF _ _ _ _ _ _ _ h
    · refine kR.aload_n dX10_driveThrough_37 0 rfl ?_
      refine kR.getR (v := 8) dX10_driveThrough_38 flX10_38 zcf10 zp1 (Or.inl ⟨_, rfl⟩) rfl ?_
      refine kR.getR (v := 25) dX10_driveThrough_41 flX10_328 zcf4 zp8 (Or.inr ⟨_, rfl⟩) rfl ?_
      refine kR.iload dX10_driveThrough_44 5 rfl ?_
      refine kR.aload_n dX10_driveThrough_46 0 rfl ?_
      refine kR.aload_n dX10_driveThrough_47 1 rfl ?_
      refine kR.getR (v := (rp c1 + 8)) dX10_driveThrough_48 flX10_188 zcf6 (zq0 c1) (Or.inr ⟨_, rfl⟩) (zr0_12 _ c1) ?_
      refine kR.iload dX10_driveThrough_51 5 rfl ?_
      refine kR.iald dX10_driveThrough_53 (zq8 c1) (zl8 c1) h (fun v21 h => ?_)
      refine kR.aload_n dX10_driveThrough_54 0 rfl ?_
      refine kR.getR (v := 8) dX10_driveThrough_55 flX10_38 zcf10 zp1 (Or.inl ⟨_, rfl⟩) rfl ?_
      refine kR.iload dX10_driveThrough_58 5 rfl ?_
      refine kR.iload_n dX10_driveThrough_60 2 rfl ?_
      refine kR.iload_n dX10_driveThrough_61 3 rfl ?_
      obtain ⟨v22, e23, h⟩ := bnr_some h
      refine kR.cVi [.int x5, .int x2, .int x3] dX10_driveThrough_62 rfl (by decide) mwX10_209 zp8 (by decide) rfl rfl (Nat.le_of_ble_eq_true rfl) (lX4_secondsHeld σ x5 x2 x3 _ e23) ?_
      obtain ⟨v26, σ24, e25, h⟩ := bnc_some h
      refine kR.cVi [.int v21, .int v22] dX10_driveThrough_65 rfl (by decide) mwX10_331 zp1 (by decide) rfl rfl (Nat.le_of_ble_eq_true rfl) (lX10_drawHeld v21 v22 σ _ e25) ?_
      refine kR.iast dX10_driveThrough_68 zp25 rfl h (fun σ27 h => ?_)
      refine kR.iload dX10_driveThrough_69 4 rfl ?_
      refine kR.aload_n dX10_driveThrough_71 0 rfl ?_
      refine kR.getR (v := 8) dX10_driveThrough_72 flX10_38 zcf10 zp1 (Or.inl ⟨_, rfl⟩) rfl ?_
      refine kR.getR (v := 25) dX10_driveThrough_75 flX10_328 zcf4 zp8 (Or.inr ⟨_, rfl⟩) rfl ?_
      refine kR.iload dX10_driveThrough_78 5 rfl ?_
      refine kR.iald dX10_driveThrough_80 zp25 rfl h (fun v28 h => ?_)
      refine zR.iadd dX10_driveThrough_81 ?_
      refine zR.istore (i := 4) (ls' := [(4, .int (x4 + v28)), (0, .ref 1), (1, .ref (rp c1 + 0)), (2, .int x2), (3, .int x3), (5, .int x5)]) dX10_driveThrough_82 (by decide) rfl ?_
      refine zR.iinc 5 (v := x5 + 1) (ls' := [(5, .int (x5 + 1)), (4, .int (x4 + v28)), (0, .ref 1), (1, .ref (rp c1 + 0)), (2, .int x2), (3, .int x3)]) dX10_driveThrough_84 rfl rfl (by decide) rfl ?_
      refine zR.goto (tgt := 28) dX10_driveThrough_87 (by decide) ?_
      refine zR.sub [2, 3, 4, 5, 1, 0] rfl ?_
      exact ih _ _ _ _ _ _ _ h
def fX10_driveThrough (σ : zS) : Option (Int32 × zS) := bnr (fX7_nextTunnel σ) fun v1 => bnc (fX10_drawLength v1 σ) fun v5 σ3 => fX10_driveThrough_28 zF σ.2.2.2.1 v1 v5 0 0 σ3
theorem eX10_driveThrough {sc : Nat × (Nat → Int32)} (σ : zS) (w : Int32 × zS) (h : fX10_driveThrough σ = some w) : zR (zY0 sc) 5 0 0 mX10_driveThrough 0 [(0, .ref 1)] [] (zE σ) (some (.int w.1), zE w.2) := by
  unfold fX10_driveThrough at h
  refine kR.aload_n dX10_driveThrough_0 0 rfl ?_
  refine kR.getR (v := 8) dX10_driveThrough_1 flX10_38 zcf10 zp1 (Or.inl ⟨_, rfl⟩) rfl ?_
  refine kR.getR (v := (rp σ.2.2.2.1 + 0)) dX10_driveThrough_4 flX10_111 zcf4 zp8 (Or.inl ⟨_, rfl⟩) rfl ?_
  refine zR.astore_n (i := 1) (ls' := [(1, .ref (rp σ.2.2.2.1 + 0)), (0, .ref 1)]) dX10_driveThrough_7 rfl (by decide) rfl ?_
  refine kR.aload_n dX10_driveThrough_8 1 rfl ?_
  refine kR.getR (v := 4) dX10_driveThrough_9 flX10_19 zcf10 zp1 (Or.inl ⟨_, rfl⟩) rfl ?_
  obtain ⟨v1, e2, h⟩ := bnr_some h
  refine kR.cVi [] dX10_driveThrough_12 rfl (by decide) mwX10_140 zp4 (by decide) rfl rfl (Nat.le_of_ble_eq_true rfl) (lX7_nextTunnel σ _ e2) ?_
  refine zR.istore_n (i := 2) (ls' := [(2, .int v1), (1, .ref (rp σ.2.2.2.1 + 0)), (0, .ref 1)]) dX10_driveThrough_15 rfl (by decide) rfl ?_
  refine kR.aload_n dX10_driveThrough_16 2 rfl ?_
  refine kR.iload_n dX10_driveThrough_17 0 rfl ?_
  obtain ⟨v5, σ3, e4, h⟩ := bnc_some h
  refine kR.cVi [.int v1] dX10_driveThrough_18 rfl (by decide) mwX10_325 zp1 (by decide) rfl rfl (Nat.le_of_ble_eq_true rfl) (lX10_drawLength v1 σ _ e4) ?_
  refine zR.istore_n (i := 3) (ls' := [(3, .int v5), (2, .int v1), (1, .ref (rp σ.2.2.2.1 + 0)), (0, .ref 1)]) dX10_driveThrough_21 rfl (by decide) rfl ?_
  refine zR.iconst (v := 0) dX10_driveThrough_22 (by decide) ?_
  refine zR.istore (i := 4) (ls' := [(4, .int 0), (3, .int v5), (2, .int v1), (1, .ref (rp σ.2.2.2.1 + 0)), (0, .ref 1)]) dX10_driveThrough_23 (by decide) rfl ?_
  refine zR.iconst (v := 0) dX10_driveThrough_25 (by decide) ?_
  refine zR.istore (i := 5) (ls' := [(5, .int 0), (4, .int 0), (3, .int v5), (2, .int v1), (1, .ref (rp σ.2.2.2.1 + 0)), (0, .ref 1)]) dX10_driveThrough_26 (by decide) rfl ?_
  refine zR.sub [5, 4, 3, 2, 1, 0] rfl ?_
  exact kX10_driveThrough_28 zF _ _ _ _ _ _ _ h
theorem lX10_driveThrough {sc : Nat × (Nat → Int32)} (σ : zS) (w : Int32 × zS) (h : fX10_driveThrough σ = some w) : zC (zY0 sc) 5 0 0 mX10_driveThrough [.ref 1] (zE σ) (some (.int w.1), zE w.2) := zC.of (by decide +kernel) (Nat.le_of_ble_eq_true rfl) ⟨_, rfl⟩ (eX10_driveThrough σ w h)
theorem dX10_drive_0 : decode cX10_drive 0 = .ok (.iload_n 1, 1) := by decide +kernel
theorem dX10_drive_1 : decode cX10_drive 1 = .ok (.iconst 1, 1) := by decide +kernel
theorem dX10_drive_2 : decode cX10_drive 2 = .ok (.if_icmp .lt 22, 3) := by decide +kernel
theorem dX10_drive_5 : decode cX10_drive 5 = .ok (.iload_n 1, 1) := by decide +kernel
theorem dX10_drive_6 : decode cX10_drive 6 = .ok (.bipush 30, 2) := by decide +kernel
theorem dX10_drive_8 : decode cX10_drive 8 = .ok (.if_icmp .gt 16, 3) := by decide +kernel
theorem dX10_drive_11 : decode cX10_drive 11 = .ok (.aload_n 0, 1) := by decide +kernel
theorem dX10_drive_12 : decode cX10_drive 12 = .ok (.getfield 38, 3) := by decide +kernel
theorem dX10_drive_15 : decode cX10_drive 15 = .ok (.getfield 111, 3) := by decide +kernel
theorem dX10_drive_18 : decode cX10_drive 18 = .ok (.getfield 128, 3) := by decide +kernel
theorem dX10_drive_21 : decode cX10_drive 21 = .ok (.ifCond .ne 9, 3) := by decide +kernel
theorem dX10_drive_24 : decode cX10_drive 24 = .ok (.aload_n 0, 1) := by decide +kernel
theorem dX10_drive_25 : decode cX10_drive 25 = .ok (.iconst 2, 1) := by decide +kernel
theorem dX10_drive_26 : decode cX10_drive 26 = .ok (.invokevirtual 89, 3) := by decide +kernel
theorem dX10_drive_29 : decode cX10_drive 29 = .ok (.ireturn, 1) := by decide +kernel
theorem dX10_drive_30 : decode cX10_drive 30 = .ok (.aload_n 0, 1) := by decide +kernel
theorem dX10_drive_31 : decode cX10_drive 31 = .ok (.invokevirtual 282, 3) := by decide +kernel
theorem dX10_drive_34 : decode cX10_drive 34 = .ok (.iconst 0, 1) := by decide +kernel
theorem dX10_drive_35 : decode cX10_drive 35 = .ok (.istore_n 2, 1) := by decide +kernel
theorem dX10_drive_36 : decode cX10_drive 36 = .ok (.iconst 0, 1) := by decide +kernel
theorem dX10_drive_37 : decode cX10_drive 37 = .ok (.istore_n 3, 1) := by decide +kernel
theorem dX10_drive_38 : decode cX10_drive 38 = .ok (.iload_n 3, 1) := by decide +kernel
theorem dX10_drive_39 : decode cX10_drive 39 = .ok (.iload_n 1, 1) := by decide +kernel
theorem dX10_drive_40 : decode cX10_drive 40 = .ok (.if_icmp .ge 16, 3) := by decide +kernel
theorem dX10_drive_43 : decode cX10_drive 43 = .ok (.iload_n 2, 1) := by decide +kernel
theorem dX10_drive_44 : decode cX10_drive 44 = .ok (.aload_n 0, 1) := by decide +kernel
theorem dX10_drive_45 : decode cX10_drive 45 = .ok (.invokevirtual 285, 3) := by decide +kernel
theorem dX10_drive_48 : decode cX10_drive 48 = .ok (.iadd, 1) := by decide +kernel
theorem dX10_drive_49 : decode cX10_drive 49 = .ok (.istore_n 2, 1) := by decide +kernel
theorem dX10_drive_50 : decode cX10_drive 50 = .ok (.iinc 3 1, 3) := by decide +kernel
theorem dX10_drive_53 : decode cX10_drive 53 = .ok (.goto (-15), 3) := by decide +kernel
theorem dX10_drive_56 : decode cX10_drive 56 = .ok (.iload_n 2, 1) := by decide +kernel
theorem dX10_drive_57 : decode cX10_drive 57 = .ok (.ireturn, 1) := by decide +kernel
def fX10_drive_24 (σ : zS) : Option (Int32 × zS) := bnc (fX10_refuse 2 σ) fun v3 σ1 => some (v3, σ1)
theorem kX10_drive_24 {sc : Nat × (Nat → Int32)} (σ : zS) (w : Int32 × zS) (h : fX10_drive_24 σ = some w) : zR (zY0 sc) 6 0 0 mX10_drive 24 [(0, .ref 1)] [] (zE σ) (some (.int w.1), zE w.2) := by
  unfold fX10_drive_24 at h
  refine kR.aload_n dX10_drive_24 0 rfl ?_
  refine zR.iconst (v := 2) dX10_drive_25 (by decide) ?_
  obtain ⟨v3, σ1, e2, h⟩ := bnc_some h
  refine kR.cVi [.int 2] dX10_drive_26 rfl (by decide) mwX10_89 zp1 (by decide) rfl rfl (Nat.le_of_ble_eq_true rfl) (lX10_refuse 2 σ _ e2) ?_
  exact kR.iretW dX10_drive_29 (nzI rfl _) h
def fX10_drive_38 : Nat → Int32 → Int32 → Int32 → zS → Option (Int32 × zS)
  | 0, _, _, _, _ => none
  | f + 1, x1, x2, x3, σ => if x1 ≤ x3 then some (x2, σ) else bnc (fX10_driveThrough σ) fun v8 σ6 => fX10_drive_38 f x1 (x2 + v8) (x3 + 1) σ6
theorem kX10_drive_38 {sc : Nat × (Nat → Int32)} : ∀ (fuel : Nat) (x1 : Int32) (x2 : Int32) (x3 : Int32) (σ : zS) (w : Int32 × zS) (h : fX10_drive_38 fuel x1 x2 x3 σ = some w), zR (zY0 sc) 6 0 0 mX10_drive 38 [(0, .ref 1), (1, .int x1), (2, .int x2), (3, .int x3)] [] (zE σ) (some (.int w.1), zE w.2) := by
  intro fuel
  induction fuel with
  | zero => intro x1 x2 x3 σ w h; exact nomatch h
  | succ f ih =>
    intro x1 x2 x3 σ w h
    rw [fX10_drive_38] at h
    refine kR.iload_n dX10_drive_38 3 rfl ?_
    refine kR.iload_n dX10_drive_39 1 rfl ?_
    refine kR.icmp_ge (tgt := 56) dX10_drive_40 (by decide) h (fun h => ?_) (fun h => ?_)
    · refine kR.iload_n dX10_drive_56 2 rfl ?_
      exact kR.iretW dX10_drive_57 (nzI rfl _) h
    · refine kR.iload_n dX10_drive_43 2 rfl ?_
      refine kR.aload_n dX10_drive_44 0 rfl ?_
      obtain ⟨v8, σ6, e7, h⟩ := bnc_some h
      refine kR.cVi [] dX10_drive_45 rfl (by decide) mwX10_285 zp1 (by decide) rfl rfl (Nat.le_of_ble_eq_true rfl) (lX10_driveThrough σ _ e7) ?_
      refine zR.iadd dX10_drive_48 ?_
      refine zR.istore_n (i := 2) (ls' := [(2, .int (x2 + v8)), (0, .ref 1), (1, .int x1), (3, .int x3)]) dX10_drive_49 rfl (by decide) rfl ?_
      refine zR.iinc 3 (v := x3 + 1) (ls' := [(3, .int (x3 + 1)), (2, .int (x2 + v8)), (0, .ref 1), (1, .int x1)]) dX10_drive_50 rfl rfl (by decide) rfl ?_
      refine zR.goto (tgt := 38) dX10_drive_53 (by decide) ?_
      refine zR.sub [2, 3, 1, 0] rfl ?_
      exact ih _ _ _ _ _ h
def fX10_drive (p1 : Int32) (σ : zS) : Option (Int32 × zS) := if p1 < 1 then fX10_drive_24 σ else if 30 < p1 then fX10_drive_24 σ else if (iG σ (rp σ.2.2.2.1 + 0) 1) = 0 then fX10_drive_24 σ else bnr (fX10_beginAct σ) fun σ4 => fX10_drive_38 zF p1 0 0 σ4
theorem eX10_drive {sc : Nat × (Nat → Int32)} (p1 : Int32) (σ : zS) (w : Int32 × zS) (h : fX10_drive p1 σ = some w) : zR (zY0 sc) 6 0 0 mX10_drive 0 [(0, .ref 1), (1, .int p1)] [] (zE σ) (some (.int w.1), zE w.2) := by
  unfold fX10_drive at h
  refine kR.iload_n dX10_drive_0 1 rfl ?_
  refine zR.iconst (v := 1) dX10_drive_1 (by decide) ?_
  refine kR.icmp_lt (tgt := 24) dX10_drive_2 (by decide) h (fun h => ?_) (fun h => ?_)
  · refine zR.sub [0] rfl ?_
    exact kX10_drive_24 _ _ h
  · refine kR.iload_n dX10_drive_5 1 rfl ?_
    refine zR.bipush (v := 30) dX10_drive_6 (by decide) ?_
    refine kR.icmp_gt (tgt := 24) dX10_drive_8 (by decide) h (fun h => ?_) (fun h => ?_)
    · refine zR.sub [0] rfl ?_
      exact kX10_drive_24 _ _ h
    · refine kR.aload_n dX10_drive_11 0 rfl ?_
      refine kR.getR (v := 8) dX10_drive_12 flX10_38 zcf10 zp1 (Or.inl ⟨_, rfl⟩) rfl ?_
      refine kR.getR (v := (rp σ.2.2.2.1 + 0)) dX10_drive_15 flX10_111 zcf4 zp8 (Or.inl ⟨_, rfl⟩) rfl ?_
      refine kR.getI dX10_drive_18 flX10_128 zcf6 (zq0 σ.2.2.2.1) (Or.inl rfl) ?_
      refine kR.if_ne (tgt := 30) dX10_drive_21 (by decide) h (fun h => ?_) (fun h => ?_)
      · refine kR.aload_n dX10_drive_30 0 rfl ?_
        obtain ⟨σ4, e5, h⟩ := bnr_some h
        refine kR.cVv [] dX10_drive_31 rfl (by decide) mwX10_282 zp1 (by decide) rfl rfl (Nat.le_of_ble_eq_true rfl) (lX10_beginAct σ _ e5) ?_
        refine zR.iconst (v := 0) dX10_drive_34 (by decide) ?_
        refine zR.istore_n (i := 2) (ls' := [(2, .int 0), (0, .ref 1), (1, .int p1)]) dX10_drive_35 rfl (by decide) rfl ?_
        refine zR.iconst (v := 0) dX10_drive_36 (by decide) ?_
        refine zR.istore_n (i := 3) (ls' := [(3, .int 0), (2, .int 0), (0, .ref 1), (1, .int p1)]) dX10_drive_37 rfl (by decide) rfl ?_
        refine zR.sub [2, 3, 1, 0] rfl ?_
        exact kX10_drive_38 zF _ _ _ _ _ h
      · refine zR.sub [0] rfl ?_
        exact kX10_drive_24 _ _ h
theorem lX10_drive {sc : Nat × (Nat → Int32)} (p1 : Int32) (σ : zS) (w : Int32 × zS) (h : fX10_drive p1 σ = some w) : zC (zY0 sc) 6 0 0 mX10_drive [.ref 1, .int p1] (zE σ) (some (.int w.1), zE w.2) := zC.of (by decide +kernel) (Nat.le_of_ble_eq_true rfl) ⟨_, rfl⟩ (eX10_drive p1 σ w h)
theorem dX10_pause_0 : decode cX10_pause 0 = .ok (.aload_n 0, 1) := by decide +kernel
theorem dX10_pause_1 : decode cX10_pause 1 = .ok (.invokevirtual 282, 3) := by decide +kernel
theorem dX10_pause_4 : decode cX10_pause 4 = .ok (.aload_n 0, 1) := by decide +kernel
theorem dX10_pause_5 : decode cX10_pause 5 = .ok (.getfield 38, 3) := by decide +kernel
theorem dX10_pause_8 : decode cX10_pause 8 = .ok (.getfield 111, 3) := by decide +kernel
theorem dX10_pause_11 : decode cX10_pause 11 = .ok (.astore_n 1, 1) := by decide +kernel
theorem dX10_pause_12 : decode cX10_pause 12 = .ok (.iconst 0, 1) := by decide +kernel
theorem dX10_pause_13 : decode cX10_pause 13 = .ok (.istore_n 2, 1) := by decide +kernel
theorem dX10_pause_14 : decode cX10_pause 14 = .ok (.iconst 0, 1) := by decide +kernel
theorem dX10_pause_15 : decode cX10_pause 15 = .ok (.istore_n 3, 1) := by decide +kernel
theorem dX10_pause_16 : decode cX10_pause 16 = .ok (.iload_n 3, 1) := by decide +kernel
theorem dX10_pause_17 : decode cX10_pause 17 = .ok (.aload_n 1, 1) := by decide +kernel
theorem dX10_pause_18 : decode cX10_pause 18 = .ok (.getfield 131, 3) := by decide +kernel
theorem dX10_pause_21 : decode cX10_pause 21 = .ok (.if_icmp .ge 41, 3) := by decide +kernel
theorem dX10_pause_24 : decode cX10_pause 24 = .ok (.iload_n 2, 1) := by decide +kernel
theorem dX10_pause_25 : decode cX10_pause 25 = .ok (.aload_n 1, 1) := by decide +kernel
theorem dX10_pause_26 : decode cX10_pause 26 = .ok (.getfield 185, 3) := by decide +kernel
theorem dX10_pause_29 : decode cX10_pause 29 = .ok (.iload_n 3, 1) := by decide +kernel
theorem dX10_pause_30 : decode cX10_pause 30 = .ok (.iaload, 1) := by decide +kernel
theorem dX10_pause_31 : decode cX10_pause 31 = .ok (.aload_n 0, 1) := by decide +kernel
theorem dX10_pause_32 : decode cX10_pause 32 = .ok (.getfield 19, 3) := by decide +kernel
theorem dX10_pause_35 : decode cX10_pause 35 = .ok (.iload_n 3, 1) := by decide +kernel
theorem dX10_pause_36 : decode cX10_pause 36 = .ok (.invokevirtual 182, 3) := by decide +kernel
theorem dX10_pause_39 : decode cX10_pause 39 = .ok (.isub, 1) := by decide +kernel
theorem dX10_pause_40 : decode cX10_pause 40 = .ok (.iadd, 1) := by decide +kernel
theorem dX10_pause_41 : decode cX10_pause 41 = .ok (.istore_n 2, 1) := by decide +kernel
theorem dX10_pause_42 : decode cX10_pause 42 = .ok (.aload_n 0, 1) := by decide +kernel
theorem dX10_pause_43 : decode cX10_pause 43 = .ok (.getfield 19, 3) := by decide +kernel
theorem dX10_pause_46 : decode cX10_pause 46 = .ok (.iload_n 3, 1) := by decide +kernel
theorem dX10_pause_47 : decode cX10_pause 47 = .ok (.aload_n 1, 1) := by decide +kernel
theorem dX10_pause_48 : decode cX10_pause 48 = .ok (.getfield 185, 3) := by decide +kernel
theorem dX10_pause_51 : decode cX10_pause 51 = .ok (.iload_n 3, 1) := by decide +kernel
theorem dX10_pause_52 : decode cX10_pause 52 = .ok (.iaload, 1) := by decide +kernel
theorem dX10_pause_53 : decode cX10_pause 53 = .ok (.invokevirtual 288, 3) := by decide +kernel
theorem dX10_pause_56 : decode cX10_pause 56 = .ok (.iinc 3 1, 3) := by decide +kernel
theorem dX10_pause_59 : decode cX10_pause 59 = .ok (.goto (-43), 3) := by decide +kernel
theorem dX10_pause_62 : decode cX10_pause 62 = .ok (.iload_n 2, 1) := by decide +kernel
theorem dX10_pause_63 : decode cX10_pause 63 = .ok (.ireturn, 1) := by decide +kernel
def fX10_pause_16 : Nat → Bool → Int32 → Int32 → zS → Option (Int32 × zS)
  | 0, _, _, _, _ => none
  | f + 1, c1, x2, x3, σ => if (iG σ (rp c1 + 0) 2) ≤ x3 then some (x2, σ) else aI σ (rp c1 + 7) 6 x3 fun v3 => bnr (fX7_breathOf σ x3) fun v4 => aI σ (rp c1 + 7) 6 x3 fun v6 => bnr (fX7_setBreath x3 v6 σ) fun σ7 => fX10_pause_16 f c1 (x2 + (v3 - v4)) (x3 + 1) σ7
theorem kX10_pause_16 {sc : Nat × (Nat → Int32)} : ∀ (fuel : Nat) (c1 : Bool) (x2 : Int32) (x3 : Int32) (σ : zS) (w : Int32 × zS) (h : fX10_pause_16 fuel c1 x2 x3 σ = some w), zR (zY0 sc) 4 0 0 mX10_pause 16 [(0, .ref 1), (1, .ref (rp c1 + 0)), (2, .int x2), (3, .int x3)] [] (zE σ) (some (.int w.1), zE w.2) := by
  intro fuel
  induction fuel with
  | zero => intro c1 x2 x3 σ w h; exact nomatch h
  | succ f ih =>
    intro c1 x2 x3 σ w h
    rw [fX10_pause_16] at h
    refine kR.iload_n dX10_pause_16 3 rfl ?_
    refine kR.aload_n dX10_pause_17 1 rfl ?_
    refine kR.getI dX10_pause_18 flX10_131 zcf6 (zq0 c1) (Or.inl rfl) ?_
    refine kR.icmp_ge (tgt := 62) dX10_pause_21 (by decide) h (fun h => ?_) (fun h => ?_)
    · refine kR.iload_n dX10_pause_62 2 rfl ?_
      exact kR.iretW dX10_pause_63 (nzI rfl _) h
    · refine kR.iload_n dX10_pause_24 2 rfl ?_
      refine kR.aload_n dX10_pause_25 1 rfl ?_
      refine kR.getR (v := (rp c1 + 7)) dX10_pause_26 flX10_185 zcf6 (zq0 c1) (Or.inr ⟨_, rfl⟩) (zr0_11 _ c1) ?_
      refine kR.iload_n dX10_pause_29 3 rfl ?_
      refine kR.iald dX10_pause_30 (zq7 c1) (zl7 c1) h (fun v3 h => ?_)
      refine kR.aload_n dX10_pause_31 0 rfl ?_
      refine kR.getR (v := 4) dX10_pause_32 flX10_19 zcf10 zp1 (Or.inl ⟨_, rfl⟩) rfl ?_
      refine kR.iload_n dX10_pause_35 3 rfl ?_
      obtain ⟨v4, e5, h⟩ := bnr_some h
      refine kR.cVi [.int x3] dX10_pause_36 rfl (by decide) mwX10_182 zp4 (by decide) rfl rfl (Nat.le_of_ble_eq_true rfl) (lX7_breathOf σ x3 _ e5) ?_
      refine zR.isub dX10_pause_39 ?_
      refine zR.iadd dX10_pause_40 ?_
      refine zR.istore_n (i := 2) (ls' := [(2, .int (x2 + (v3 - v4))), (0, .ref 1), (1, .ref (rp c1 + 0)), (3, .int x3)]) dX10_pause_41 rfl (by decide) rfl ?_
      refine kR.aload_n dX10_pause_42 1 rfl ?_
      refine kR.getR (v := 4) dX10_pause_43 flX10_19 zcf10 zp1 (Or.inl ⟨_, rfl⟩) rfl ?_
      refine kR.iload_n dX10_pause_46 3 rfl ?_
      refine kR.aload_n dX10_pause_47 2 rfl ?_
      refine kR.getR (v := (rp c1 + 7)) dX10_pause_48 flX10_185 zcf6 (zq0 c1) (Or.inr ⟨_, rfl⟩) (zr0_11 _ c1) ?_
      refine kR.iload_n dX10_pause_51 3 rfl ?_
      refine kR.iald dX10_pause_52 (zq7 c1) (zl7 c1) h (fun v6 h => ?_)
      obtain ⟨σ7, e8, h⟩ := bnr_some h
      refine kR.cVv [.int x3, .int v6] dX10_pause_53 rfl (by decide) mwX10_288 zp4 (by decide) rfl rfl (Nat.le_of_ble_eq_true rfl) (lX7_setBreath x3 v6 σ _ e8) ?_
      refine zR.iinc 3 (v := x3 + 1) (ls' := [(3, .int (x3 + 1)), (2, .int (x2 + (v3 - v4))), (0, .ref 1), (1, .ref (rp c1 + 0))]) dX10_pause_56 rfl rfl (by decide) rfl ?_
      refine zR.goto (tgt := 16) dX10_pause_59 (by decide) ?_
      refine zR.sub [2, 3, 1, 0] rfl ?_
      exact ih _ _ _ _ _ h
def fX10_pause (σ : zS) : Option (Int32 × zS) := bnr (fX10_beginAct σ) fun σ1 => fX10_pause_16 zF σ1.2.2.2.1 0 0 σ1
theorem eX10_pause {sc : Nat × (Nat → Int32)} (σ : zS) (w : Int32 × zS) (h : fX10_pause σ = some w) : zR (zY0 sc) 4 0 0 mX10_pause 0 [(0, .ref 1)] [] (zE σ) (some (.int w.1), zE w.2) := by
  unfold fX10_pause at h
  refine kR.aload_n dX10_pause_0 0 rfl ?_
  obtain ⟨σ1, e2, h⟩ := bnr_some h
  refine kR.cVv [] dX10_pause_1 rfl (by decide) mwX10_282 zp1 (by decide) rfl rfl (Nat.le_of_ble_eq_true rfl) (lX10_beginAct σ _ e2) ?_
  refine kR.aload_n dX10_pause_4 0 rfl ?_
  refine kR.getR (v := 8) dX10_pause_5 flX10_38 zcf10 zp1 (Or.inl ⟨_, rfl⟩) rfl ?_
  refine kR.getR (v := (rp σ1.2.2.2.1 + 0)) dX10_pause_8 flX10_111 zcf4 zp8 (Or.inl ⟨_, rfl⟩) rfl ?_
  refine zR.astore_n (i := 1) (ls' := [(1, .ref (rp σ1.2.2.2.1 + 0)), (0, .ref 1)]) dX10_pause_11 rfl (by decide) rfl ?_
  refine zR.iconst (v := 0) dX10_pause_12 (by decide) ?_
  refine zR.istore_n (i := 2) (ls' := [(2, .int 0), (1, .ref (rp σ1.2.2.2.1 + 0)), (0, .ref 1)]) dX10_pause_13 rfl (by decide) rfl ?_
  refine zR.iconst (v := 0) dX10_pause_14 (by decide) ?_
  refine zR.istore_n (i := 3) (ls' := [(3, .int 0), (2, .int 0), (1, .ref (rp σ1.2.2.2.1 + 0)), (0, .ref 1)]) dX10_pause_15 rfl (by decide) rfl ?_
  refine zR.sub [3, 2, 1, 0] rfl ?_
  exact kX10_pause_16 zF _ _ _ _ _ h
theorem lX10_pause {sc : Nat × (Nat → Int32)} (σ : zS) (w : Int32 × zS) (h : fX10_pause σ = some w) : zC (zY0 sc) 4 0 0 mX10_pause [.ref 1] (zE σ) (some (.int w.1), zE w.2) := zC.of (by decide +kernel) (Nat.le_of_ble_eq_true rfl) ⟨_, rfl⟩ (eX10_pause σ w h)
theorem dX7_setThinks_0 : decode cX7_setThinks 0 = .ok (.aload_n 0, 1) := by decide +kernel
theorem dX7_setThinks_1 : decode cX7_setThinks 1 = .ok (.getfield 11, 3) := by decide +kernel
theorem dX7_setThinks_4 : decode cX7_setThinks 4 = .ok (.bipush 68, 2) := by decide +kernel
theorem dX7_setThinks_6 : decode cX7_setThinks 6 = .ok (.iload_n 1, 1) := by decide +kernel
theorem dX7_setThinks_7 : decode cX7_setThinks 7 = .ok (.bipush 6, 2) := by decide +kernel
theorem dX7_setThinks_9 : decode cX7_setThinks 9 = .ok (.imul, 1) := by decide +kernel
theorem dX7_setThinks_10 : decode cX7_setThinks 10 = .ok (.iadd, 1) := by decide +kernel
theorem dX7_setThinks_11 : decode cX7_setThinks 11 = .ok (.iload_n 2, 1) := by decide +kernel
theorem dX7_setThinks_12 : decode cX7_setThinks 12 = .ok (.iadd, 1) := by decide +kernel
theorem dX7_setThinks_13 : decode cX7_setThinks 13 = .ok (.iload_n 3, 1) := by decide +kernel
theorem dX7_setThinks_14 : decode cX7_setThinks 14 = .ok (.iastore, 1) := by decide +kernel
theorem dX7_setThinks_15 : decode cX7_setThinks 15 = .ok (.return_, 1) := by decide +kernel
def fX7_setThinks (p1 : Int32) (p2 : Int32) (p3 : Int32) (σ : zS) : Option zS := wI σ 5 104 ((68 + (p1 * 6)) + p2) p3 fun σ1 => some σ1
theorem eX7_setThinks {sc : Nat × (Nat → Int32)} (p1 : Int32) (p2 : Int32) (p3 : Int32) (σ : zS) (w : zS) (h : fX7_setThinks p1 p2 p3 σ = some w) : zR (zY0 sc) 1 0 0 mX7_setThinks 0 [(0, .ref 4), (1, .int p1), (2, .int p2), (3, .int p3)] [] (zE σ) (none, zE w) := by
  unfold fX7_setThinks at h
  refine kR.aload_n dX7_setThinks_0 0 rfl ?_
  refine kR.getR (v := 5) dX7_setThinks_1 flX7_11 zcf7 zp4 (Or.inr ⟨_, rfl⟩) rfl ?_
  refine zR.bipush (v := 68) dX7_setThinks_4 (by decide) ?_
  refine kR.iload_n dX7_setThinks_6 1 rfl ?_
  refine zR.bipush (v := 6) dX7_setThinks_7 (by decide) ?_
  refine zR.imul dX7_setThinks_9 ?_
  refine zR.iadd dX7_setThinks_10 ?_
  refine kR.iload_n dX7_setThinks_11 2 rfl ?_
  refine zR.iadd dX7_setThinks_12 ?_
  refine kR.iload_n dX7_setThinks_13 3 rfl ?_
  refine kR.iast dX7_setThinks_14 zp5 rfl h (fun σ1 h => ?_)
  exact kR.vret dX7_setThinks_15 h
theorem lX7_setThinks {sc : Nat × (Nat → Int32)} (p1 : Int32) (p2 : Int32) (p3 : Int32) (σ : zS) (w : zS) (h : fX7_setThinks p1 p2 p3 σ = some w) : zC (zY0 sc) 1 0 0 mX7_setThinks [.ref 4, .int p1, .int p2, .int p3] (zE σ) (none, zE w) := zC.of (by decide +kernel) (Nat.le_of_ble_eq_true rfl) rfl (eX7_setThinks p1 p2 p3 σ w h)
theorem dX10_believe_0 : decode cX10_believe 0 = .ok (.aload_n 0, 1) := by decide +kernel
theorem dX10_believe_1 : decode cX10_believe 1 = .ok (.getfield 38, 3) := by decide +kernel
theorem dX10_believe_4 : decode cX10_believe 4 = .ok (.getfield 111, 3) := by decide +kernel
theorem dX10_believe_7 : decode cX10_believe 7 = .ok (.iload_n 1, 1) := by decide +kernel
theorem dX10_believe_8 : decode cX10_believe 8 = .ok (.iload_n 2, 1) := by decide +kernel
theorem dX10_believe_9 : decode cX10_believe 9 = .ok (.invokevirtual 202, 3) := by decide +kernel
theorem dX10_believe_12 : decode cX10_believe 12 = .ok (.ifCond .eq 10, 3) := by decide +kernel
theorem dX10_believe_15 : decode cX10_believe 15 = .ok (.iload_n 3, 1) := by decide +kernel
theorem dX10_believe_16 : decode cX10_believe 16 = .ok (.invokestatic 291, 3) := by decide +kernel
theorem dX10_believe_19 : decode cX10_believe 19 = .ok (.ifCond .ne 9, 3) := by decide +kernel
theorem dX10_believe_22 : decode cX10_believe 22 = .ok (.aload_n 0, 1) := by decide +kernel
theorem dX10_believe_23 : decode cX10_believe 23 = .ok (.iconst 2, 1) := by decide +kernel
theorem dX10_believe_24 : decode cX10_believe 24 = .ok (.invokevirtual 89, 3) := by decide +kernel
theorem dX10_believe_27 : decode cX10_believe 27 = .ok (.ireturn, 1) := by decide +kernel
theorem dX10_believe_28 : decode cX10_believe 28 = .ok (.aload_n 0, 1) := by decide +kernel
theorem dX10_believe_29 : decode cX10_believe 29 = .ok (.invokevirtual 282, 3) := by decide +kernel
theorem dX10_believe_32 : decode cX10_believe 32 = .ok (.aload_n 0, 1) := by decide +kernel
theorem dX10_believe_33 : decode cX10_believe 33 = .ok (.getfield 19, 3) := by decide +kernel
theorem dX10_believe_36 : decode cX10_believe 36 = .ok (.iload_n 1, 1) := by decide +kernel
theorem dX10_believe_37 : decode cX10_believe 37 = .ok (.iload_n 2, 1) := by decide +kernel
theorem dX10_believe_38 : decode cX10_believe 38 = .ok (.invokevirtual 179, 3) := by decide +kernel
theorem dX10_believe_41 : decode cX10_believe 41 = .ok (.istore 4, 2) := by decide +kernel
theorem dX10_believe_43 : decode cX10_believe 43 = .ok (.aload_n 0, 1) := by decide +kernel
theorem dX10_believe_44 : decode cX10_believe 44 = .ok (.getfield 19, 3) := by decide +kernel
theorem dX10_believe_47 : decode cX10_believe 47 = .ok (.iload_n 1, 1) := by decide +kernel
theorem dX10_believe_48 : decode cX10_believe 48 = .ok (.iload_n 2, 1) := by decide +kernel
theorem dX10_believe_49 : decode cX10_believe 49 = .ok (.iload_n 3, 1) := by decide +kernel
theorem dX10_believe_50 : decode cX10_believe 50 = .ok (.invokevirtual 294, 3) := by decide +kernel
theorem dX10_believe_53 : decode cX10_believe 53 = .ok (.iload 4, 2) := by decide +kernel
theorem dX10_believe_55 : decode cX10_believe 55 = .ok (.ireturn, 1) := by decide +kernel
def fX10_believe_22 (σ : zS) : Option (Int32 × zS) := bnc (fX10_refuse 2 σ) fun v3 σ1 => some (v3, σ1)
theorem kX10_believe_22 {sc : Nat × (Nat → Int32)} (σ : zS) (w : Int32 × zS) (h : fX10_believe_22 σ = some w) : zR (zY0 sc) 4 0 0 mX10_believe 22 [(0, .ref 1)] [] (zE σ) (some (.int w.1), zE w.2) := by
  unfold fX10_believe_22 at h
  refine kR.aload_n dX10_believe_22 0 rfl ?_
  refine zR.iconst (v := 2) dX10_believe_23 (by decide) ?_
  obtain ⟨v3, σ1, e2, h⟩ := bnc_some h
  refine kR.cVi [.int 2] dX10_believe_24 rfl (by decide) mwX10_89 zp1 (by decide) rfl rfl (Nat.le_of_ble_eq_true rfl) (lX10_refuse 2 σ _ e2) ?_
  exact kR.iretW dX10_believe_27 (nzI rfl _) h
def fX10_believe (p1 : Int32) (p2 : Int32) (p3 : Int32) (σ : zS) : Option (Int32 × zS) := if (fX6_hasBoth σ.2.2.2.1 σ p1 p2) = 0 then fX10_believe_22 σ else if (fX10_isSecond p3) = 0 then fX10_believe_22 σ else bnr (fX10_beginAct σ) fun σ4 => bnr (fX7_thinksOf σ4 p1 p2) fun v6 => bnr (fX7_setThinks p1 p2 p3 σ4) fun σ8 => some (v6, σ8)
theorem eX10_believe {sc : Nat × (Nat → Int32)} (p1 : Int32) (p2 : Int32) (p3 : Int32) (σ : zS) (w : Int32 × zS) (h : fX10_believe p1 p2 p3 σ = some w) : zR (zY0 sc) 4 0 0 mX10_believe 0 [(0, .ref 1), (1, .int p1), (2, .int p2), (3, .int p3)] [] (zE σ) (some (.int w.1), zE w.2) := by
  unfold fX10_believe at h
  refine kR.aload_n dX10_believe_0 0 rfl ?_
  refine kR.getR (v := 8) dX10_believe_1 flX10_38 zcf10 zp1 (Or.inl ⟨_, rfl⟩) rfl ?_
  refine kR.getR (v := (rp σ.2.2.2.1 + 0)) dX10_believe_4 flX10_111 zcf4 zp8 (Or.inl ⟨_, rfl⟩) rfl ?_
  refine kR.iload_n dX10_believe_7 1 rfl ?_
  refine kR.iload_n dX10_believe_8 2 rfl ?_
  refine kR.cVi [.int p1, .int p2] dX10_believe_9 rfl (by decide) mwX10_202 (zq0 σ.2.2.2.1) (by decide) rfl rfl (Nat.le_of_ble_eq_true rfl) (lX6_hasBoth σ.2.2.2.1 σ p1 p2) ?_
  refine kR.if_eq (tgt := 22) dX10_believe_12 (by decide) h (fun h => ?_) (fun h => ?_)
  · refine zR.sub [0] rfl ?_
    exact kX10_believe_22 _ _ h
  · refine kR.iload_n dX10_believe_15 3 rfl ?_
    refine kR.cSi [.int p3] dX10_believe_16 rfl (by decide) (Or.inl mwX10_291) rfl (Nat.le_of_ble_eq_true rfl) (lX10_isSecond p3) ?_
    refine kR.if_ne (tgt := 28) dX10_believe_19 (by decide) h (fun h => ?_) (fun h => ?_)
    · refine kR.aload_n dX10_believe_28 0 rfl ?_
      obtain ⟨σ4, e5, h⟩ := bnr_some h
      refine kR.cVv [] dX10_believe_29 rfl (by decide) mwX10_282 zp1 (by decide) rfl rfl (Nat.le_of_ble_eq_true rfl) (lX10_beginAct σ _ e5) ?_
      refine kR.aload_n dX10_believe_32 0 rfl ?_
      refine kR.getR (v := 4) dX10_believe_33 flX10_19 zcf10 zp1 (Or.inl ⟨_, rfl⟩) rfl ?_
      refine kR.iload_n dX10_believe_36 1 rfl ?_
      refine kR.iload_n dX10_believe_37 2 rfl ?_
      obtain ⟨v6, e7, h⟩ := bnr_some h
      refine kR.cVi [.int p1, .int p2] dX10_believe_38 rfl (by decide) mwX10_179 zp4 (by decide) rfl rfl (Nat.le_of_ble_eq_true rfl) (lX7_thinksOf σ4 p1 p2 _ e7) ?_
      refine zR.istore (i := 4) (ls' := [(4, .int v6), (0, .ref 1), (1, .int p1), (2, .int p2), (3, .int p3)]) dX10_believe_41 (by decide) rfl ?_
      refine kR.aload_n dX10_believe_43 1 rfl ?_
      refine kR.getR (v := 4) dX10_believe_44 flX10_19 zcf10 zp1 (Or.inl ⟨_, rfl⟩) rfl ?_
      refine kR.iload_n dX10_believe_47 2 rfl ?_
      refine kR.iload_n dX10_believe_48 3 rfl ?_
      refine kR.iload_n dX10_believe_49 4 rfl ?_
      obtain ⟨σ8, e9, h⟩ := bnr_some h
      refine kR.cVv [.int p1, .int p2, .int p3] dX10_believe_50 rfl (by decide) mwX10_294 zp4 (by decide) rfl rfl (Nat.le_of_ble_eq_true rfl) (lX7_setThinks p1 p2 p3 σ4 _ e9) ?_
      refine kR.iload dX10_believe_53 0 rfl ?_
      exact kR.iretW dX10_believe_55 (nzI rfl _) h
    · refine zR.sub [0] rfl ?_
      exact kX10_believe_22 _ _ h
theorem lX10_believe {sc : Nat × (Nat → Int32)} (p1 : Int32) (p2 : Int32) (p3 : Int32) (σ : zS) (w : Int32 × zS) (h : fX10_believe p1 p2 p3 σ = some w) : zC (zY0 sc) 4 0 0 mX10_believe [.ref 1, .int p1, .int p2, .int p3] (zE σ) (some (.int w.1), zE w.2) := zC.of (by decide +kernel) (Nat.le_of_ble_eq_true rfl) ⟨_, rfl⟩ (eX10_believe p1 p2 p3 σ w h)
theorem dX7_setGives_0 : decode cX7_setGives 0 = .ok (.aload_n 0, 1) := by decide +kernel
theorem dX7_setGives_1 : decode cX7_setGives 1 = .ok (.getfield 11, 3) := by decide +kernel
theorem dX7_setGives_4 : decode cX7_setGives 4 = .ok (.bipush 56, 2) := by decide +kernel
theorem dX7_setGives_6 : decode cX7_setGives 6 = .ok (.iload_n 1, 1) := by decide +kernel
theorem dX7_setGives_7 : decode cX7_setGives 7 = .ok (.iadd, 1) := by decide +kernel
theorem dX7_setGives_8 : decode cX7_setGives 8 = .ok (.iload_n 2, 1) := by decide +kernel
theorem dX7_setGives_9 : decode cX7_setGives 9 = .ok (.iastore, 1) := by decide +kernel
theorem dX7_setGives_10 : decode cX7_setGives 10 = .ok (.return_, 1) := by decide +kernel
def fX7_setGives (p1 : Int32) (p2 : Int32) (σ : zS) : Option zS := wI σ 5 104 (56 + p1) p2 fun σ1 => some σ1
theorem eX7_setGives {sc : Nat × (Nat → Int32)} (p1 : Int32) (p2 : Int32) (σ : zS) (w : zS) (h : fX7_setGives p1 p2 σ = some w) : zR (zY0 sc) 1 0 0 mX7_setGives 0 [(0, .ref 4), (1, .int p1), (2, .int p2)] [] (zE σ) (none, zE w) := by
  unfold fX7_setGives at h
  refine kR.aload_n dX7_setGives_0 0 rfl ?_
  refine kR.getR (v := 5) dX7_setGives_1 flX7_11 zcf7 zp4 (Or.inr ⟨_, rfl⟩) rfl ?_
  refine zR.bipush (v := 56) dX7_setGives_4 (by decide) ?_
  refine kR.iload_n dX7_setGives_6 1 rfl ?_
  refine zR.iadd dX7_setGives_7 ?_
  refine kR.iload_n dX7_setGives_8 2 rfl ?_
  refine kR.iast dX7_setGives_9 zp5 rfl h (fun σ1 h => ?_)
  exact kR.vret dX7_setGives_10 h
theorem lX7_setGives {sc : Nat × (Nat → Int32)} (p1 : Int32) (p2 : Int32) (σ : zS) (w : zS) (h : fX7_setGives p1 p2 σ = some w) : zC (zY0 sc) 1 0 0 mX7_setGives [.ref 4, .int p1, .int p2] (zE σ) (none, zE w) := zC.of (by decide +kernel) (Nat.le_of_ble_eq_true rfl) rfl (eX7_setGives p1 p2 σ w h)
theorem dX10_give_0 : decode cX10_give 0 = .ok (.aload_n 0, 1) := by decide +kernel
theorem dX10_give_1 : decode cX10_give 1 = .ok (.getfield 38, 3) := by decide +kernel
theorem dX10_give_4 : decode cX10_give 4 = .ok (.getfield 111, 3) := by decide +kernel
theorem dX10_give_7 : decode cX10_give 7 = .ok (.iload_n 1, 1) := by decide +kernel
theorem dX10_give_8 : decode cX10_give 8 = .ok (.invokevirtual 158, 3) := by decide +kernel
theorem dX10_give_11 : decode cX10_give 11 = .ok (.ifCond .eq 10, 3) := by decide +kernel
theorem dX10_give_14 : decode cX10_give 14 = .ok (.iload_n 2, 1) := by decide +kernel
theorem dX10_give_15 : decode cX10_give 15 = .ok (.invokestatic 291, 3) := by decide +kernel
theorem dX10_give_18 : decode cX10_give 18 = .ok (.ifCond .ne 9, 3) := by decide +kernel
theorem dX10_give_21 : decode cX10_give 21 = .ok (.aload_n 0, 1) := by decide +kernel
theorem dX10_give_22 : decode cX10_give 22 = .ok (.iconst 2, 1) := by decide +kernel
theorem dX10_give_23 : decode cX10_give 23 = .ok (.invokevirtual 89, 3) := by decide +kernel
theorem dX10_give_26 : decode cX10_give 26 = .ok (.ireturn, 1) := by decide +kernel
theorem dX10_give_27 : decode cX10_give 27 = .ok (.aload_n 0, 1) := by decide +kernel
theorem dX10_give_28 : decode cX10_give 28 = .ok (.invokevirtual 282, 3) := by decide +kernel
theorem dX10_give_31 : decode cX10_give 31 = .ok (.aload_n 0, 1) := by decide +kernel
theorem dX10_give_32 : decode cX10_give 32 = .ok (.getfield 19, 3) := by decide +kernel
theorem dX10_give_35 : decode cX10_give 35 = .ok (.iload_n 1, 1) := by decide +kernel
theorem dX10_give_36 : decode cX10_give 36 = .ok (.invokevirtual 191, 3) := by decide +kernel
theorem dX10_give_39 : decode cX10_give 39 = .ok (.istore_n 3, 1) := by decide +kernel
theorem dX10_give_40 : decode cX10_give 40 = .ok (.aload_n 0, 1) := by decide +kernel
theorem dX10_give_41 : decode cX10_give 41 = .ok (.getfield 19, 3) := by decide +kernel
theorem dX10_give_44 : decode cX10_give 44 = .ok (.iload_n 1, 1) := by decide +kernel
theorem dX10_give_45 : decode cX10_give 45 = .ok (.iload_n 2, 1) := by decide +kernel
theorem dX10_give_46 : decode cX10_give 46 = .ok (.invokevirtual 297, 3) := by decide +kernel
theorem dX10_give_49 : decode cX10_give 49 = .ok (.iload_n 3, 1) := by decide +kernel
theorem dX10_give_50 : decode cX10_give 50 = .ok (.ireturn, 1) := by decide +kernel
def fX10_give_21 (σ : zS) : Option (Int32 × zS) := bnc (fX10_refuse 2 σ) fun v3 σ1 => some (v3, σ1)
theorem kX10_give_21 {sc : Nat × (Nat → Int32)} (σ : zS) (w : Int32 × zS) (h : fX10_give_21 σ = some w) : zR (zY0 sc) 4 0 0 mX10_give 21 [(0, .ref 1)] [] (zE σ) (some (.int w.1), zE w.2) := by
  unfold fX10_give_21 at h
  refine kR.aload_n dX10_give_21 0 rfl ?_
  refine zR.iconst (v := 2) dX10_give_22 (by decide) ?_
  obtain ⟨v3, σ1, e2, h⟩ := bnc_some h
  refine kR.cVi [.int 2] dX10_give_23 rfl (by decide) mwX10_89 zp1 (by decide) rfl rfl (Nat.le_of_ble_eq_true rfl) (lX10_refuse 2 σ _ e2) ?_
  exact kR.iretW dX10_give_26 (nzI rfl _) h
def fX10_give (p1 : Int32) (p2 : Int32) (σ : zS) : Option (Int32 × zS) := if (fX6_hasHolder σ.2.2.2.1 σ p1) = 0 then fX10_give_21 σ else if (fX10_isSecond p2) = 0 then fX10_give_21 σ else bnr (fX10_beginAct σ) fun σ4 => bnr (fX7_givesOf σ4 p1) fun v6 => bnr (fX7_setGives p1 p2 σ4) fun σ8 => some (v6, σ8)
theorem eX10_give {sc : Nat × (Nat → Int32)} (p1 : Int32) (p2 : Int32) (σ : zS) (w : Int32 × zS) (h : fX10_give p1 p2 σ = some w) : zR (zY0 sc) 4 0 0 mX10_give 0 [(0, .ref 1), (1, .int p1), (2, .int p2)] [] (zE σ) (some (.int w.1), zE w.2) := by
  unfold fX10_give at h
  refine kR.aload_n dX10_give_0 0 rfl ?_
  refine kR.getR (v := 8) dX10_give_1 flX10_38 zcf10 zp1 (Or.inl ⟨_, rfl⟩) rfl ?_
  refine kR.getR (v := (rp σ.2.2.2.1 + 0)) dX10_give_4 flX10_111 zcf4 zp8 (Or.inl ⟨_, rfl⟩) rfl ?_
  refine kR.iload_n dX10_give_7 1 rfl ?_
  refine kR.cVi [.int p1] dX10_give_8 rfl (by decide) mwX10_158 (zq0 σ.2.2.2.1) (by decide) rfl rfl (Nat.le_of_ble_eq_true rfl) (lX6_hasHolder σ.2.2.2.1 σ p1) ?_
  refine kR.if_eq (tgt := 21) dX10_give_11 (by decide) h (fun h => ?_) (fun h => ?_)
  · refine zR.sub [0] rfl ?_
    exact kX10_give_21 _ _ h
  · refine kR.iload_n dX10_give_14 2 rfl ?_
    refine kR.cSi [.int p2] dX10_give_15 rfl (by decide) (Or.inl mwX10_291) rfl (Nat.le_of_ble_eq_true rfl) (lX10_isSecond p2) ?_
    refine kR.if_ne (tgt := 27) dX10_give_18 (by decide) h (fun h => ?_) (fun h => ?_)
    · refine kR.aload_n dX10_give_27 0 rfl ?_
      obtain ⟨σ4, e5, h⟩ := bnr_some h
      refine kR.cVv [] dX10_give_28 rfl (by decide) mwX10_282 zp1 (by decide) rfl rfl (Nat.le_of_ble_eq_true rfl) (lX10_beginAct σ _ e5) ?_
      refine kR.aload_n dX10_give_31 0 rfl ?_
      refine kR.getR (v := 4) dX10_give_32 flX10_19 zcf10 zp1 (Or.inl ⟨_, rfl⟩) rfl ?_
      refine kR.iload_n dX10_give_35 1 rfl ?_
      obtain ⟨v6, e7, h⟩ := bnr_some h
      refine kR.cVi [.int p1] dX10_give_36 rfl (by decide) mwX10_191 zp4 (by decide) rfl rfl (Nat.le_of_ble_eq_true rfl) (lX7_givesOf σ4 p1 _ e7) ?_
      refine zR.istore_n (i := 3) (ls' := [(3, .int v6), (0, .ref 1), (1, .int p1), (2, .int p2)]) dX10_give_39 rfl (by decide) rfl ?_
      refine kR.aload_n dX10_give_40 1 rfl ?_
      refine kR.getR (v := 4) dX10_give_41 flX10_19 zcf10 zp1 (Or.inl ⟨_, rfl⟩) rfl ?_
      refine kR.iload_n dX10_give_44 2 rfl ?_
      refine kR.iload_n dX10_give_45 3 rfl ?_
      obtain ⟨σ8, e9, h⟩ := bnr_some h
      refine kR.cVv [.int p1, .int p2] dX10_give_46 rfl (by decide) mwX10_297 zp4 (by decide) rfl rfl (Nat.le_of_ble_eq_true rfl) (lX7_setGives p1 p2 σ4 _ e9) ?_
      refine kR.iload_n dX10_give_49 0 rfl ?_
      exact kR.iretW dX10_give_50 (nzI rfl _) h
    · refine zR.sub [0] rfl ?_
      exact kX10_give_21 _ _ h
theorem lX10_give {sc : Nat × (Nat → Int32)} (p1 : Int32) (p2 : Int32) (σ : zS) (w : Int32 × zS) (h : fX10_give p1 p2 σ = some w) : zC (zY0 sc) 4 0 0 mX10_give [.ref 1, .int p1, .int p2] (zE σ) (some (.int w.1), zE w.2) := zC.of (by decide +kernel) (Nat.le_of_ble_eq_true rfl) ⟨_, rfl⟩ (eX10_give p1 p2 σ w h)
theorem dX2_takeBack_0 : decode cX2_takeBack 0 = .ok (.aload_n 0, 1) := by decide +kernel
theorem dX2_takeBack_1 : decode cX2_takeBack 1 = .ok (.aload_n 0, 1) := by decide +kernel
theorem dX2_takeBack_2 : decode cX2_takeBack 2 = .ok (.getfield 17, 3) := by decide +kernel
theorem dX2_takeBack_5 : decode cX2_takeBack 5 = .ok (.bipush 20, 2) := by decide +kernel
theorem dX2_takeBack_7 : decode cX2_takeBack 7 = .ok (.iadd, 1) := by decide +kernel
theorem dX2_takeBack_8 : decode cX2_takeBack 8 = .ok (.iconst 1, 1) := by decide +kernel
theorem dX2_takeBack_9 : decode cX2_takeBack 9 = .ok (.isub, 1) := by decide +kernel
theorem dX2_takeBack_10 : decode cX2_takeBack 10 = .ok (.bipush 20, 2) := by decide +kernel
theorem dX2_takeBack_12 : decode cX2_takeBack 12 = .ok (.irem, 1) := by decide +kernel
theorem dX2_takeBack_13 : decode cX2_takeBack 13 = .ok (.putfield 17, 3) := by decide +kernel
theorem dX2_takeBack_16 : decode cX2_takeBack 16 = .ok (.aload_n 0, 1) := by decide +kernel
theorem dX2_takeBack_17 : decode cX2_takeBack 17 = .ok (.dup, 1) := by decide +kernel
theorem dX2_takeBack_18 : decode cX2_takeBack 18 = .ok (.getfield 21, 3) := by decide +kernel
theorem dX2_takeBack_21 : decode cX2_takeBack 21 = .ok (.iconst 1, 1) := by decide +kernel
theorem dX2_takeBack_22 : decode cX2_takeBack 22 = .ok (.isub, 1) := by decide +kernel
theorem dX2_takeBack_23 : decode cX2_takeBack 23 = .ok (.putfield 21, 3) := by decide +kernel
theorem dX2_takeBack_26 : decode cX2_takeBack 26 = .ok (.aload_n 0, 1) := by decide +kernel
theorem dX2_takeBack_27 : decode cX2_takeBack 27 = .ok (.getfield 11, 3) := by decide +kernel
theorem dX2_takeBack_30 : decode cX2_takeBack 30 = .ok (.aload_n 0, 1) := by decide +kernel
theorem dX2_takeBack_31 : decode cX2_takeBack 31 = .ok (.getfield 17, 3) := by decide +kernel
theorem dX2_takeBack_34 : decode cX2_takeBack 34 = .ok (.bipush 104, 2) := by decide +kernel
theorem dX2_takeBack_36 : decode cX2_takeBack 36 = .ok (.imul, 1) := by decide +kernel
theorem dX2_takeBack_37 : decode cX2_takeBack 37 = .ok (.aload_n 1, 1) := by decide +kernel
theorem dX2_takeBack_38 : decode cX2_takeBack 38 = .ok (.getfield 24, 3) := by decide +kernel
theorem dX2_takeBack_41 : decode cX2_takeBack 41 = .ok (.iconst 0, 1) := by decide +kernel
theorem dX2_takeBack_42 : decode cX2_takeBack 42 = .ok (.bipush 104, 2) := by decide +kernel
theorem dX2_takeBack_44 : decode cX2_takeBack 44 = .ok (.invokestatic 27, 3) := by decide +kernel
theorem dX2_takeBack_47 : decode cX2_takeBack 47 = .ok (.return_, 1) := by decide +kernel
def fX2_takeBack (σ : zS) : Option zS := bnd (iS σ 6 1 ((((iG σ 6 1) + 20) - 1) - (((iG σ 6 1) + 20) - 1) / 20 * 20)) fun σ1 => bnd (iS σ1 6 2 ((iG σ1 6 2) - 1)) fun σ2 => wC σ2 7 5 2080 104 ((iG σ2 6 1) * 104) 0 104 fun σ3 => some σ3
theorem eX2_takeBack {sc : Nat × (Nat → Int32)} (σ : zS) (w : zS) (h : fX2_takeBack σ = some w) : zR (zY0 sc) 1 0 0 mX2_takeBack 0 [(0, .ref 6), (1, .ref 4)] [] (zE σ) (none, zE w) := by
  unfold fX2_takeBack at h
  refine kR.aload_n dX2_takeBack_0 0 rfl ?_
  refine kR.aload_n dX2_takeBack_1 0 rfl ?_
  refine kR.getI dX2_takeBack_2 flX2_17 zcf2 zp6 (Or.inl rfl) ?_
  refine zR.bipush (v := 20) dX2_takeBack_5 (by decide) ?_
  refine zR.iadd dX2_takeBack_7 ?_
  refine zR.iconst (v := 1) dX2_takeBack_8 (by decide) ?_
  refine zR.isub dX2_takeBack_9 ?_
  refine zR.bipush (v := 20) dX2_takeBack_10 (by decide) ?_
  refine zR.irem dX2_takeBack_12 (by decide) ?_
  refine kR.putI dX2_takeBack_13 fpX2_17 zcf2 zp6 rfl h (fun σ1 h => ?_)
  refine kR.aload_n dX2_takeBack_16 0 rfl ?_
  refine zR.dup dX2_takeBack_17 rfl ?_
  refine kR.getI dX2_takeBack_18 flX2_21 zcf2 zp6 (Or.inl rfl) ?_
  refine zR.iconst (v := 1) dX2_takeBack_21 (by decide) ?_
  refine zR.isub dX2_takeBack_22 ?_
  refine kR.putI dX2_takeBack_23 fpX2_21 zcf2 zp6 rfl h (fun σ2 h => ?_)
  refine kR.aload_n dX2_takeBack_26 0 rfl ?_
  refine kR.getR (v := 7) dX2_takeBack_27 flX2_11 zcf2 zp6 (Or.inr ⟨_, rfl⟩) rfl ?_
  refine kR.aload_n dX2_takeBack_30 0 rfl ?_
  refine kR.getI dX2_takeBack_31 flX2_17 zcf2 zp6 (Or.inl rfl) ?_
  refine zR.bipush (v := 104) dX2_takeBack_34 (by decide) ?_
  refine zR.imul dX2_takeBack_36 ?_
  refine kR.aload_n dX2_takeBack_37 1 rfl ?_
  refine kR.getR (v := 5) dX2_takeBack_38 flX2_24 zcf7 zp4 (Or.inr ⟨_, rfl⟩) rfl ?_
  refine zR.iconst (v := 0) dX2_takeBack_41 (by decide) ?_
  refine zR.bipush (v := 104) dX2_takeBack_42 (by decide) ?_
  refine kR.copy dX2_takeBack_44 (by decide) mcX2_27 zp7 zp5 rfl rfl (Nat.le_of_ble_eq_true rfl) h (fun σ3 h => ?_)
  exact kR.vret dX2_takeBack_47 h
theorem lX2_takeBack {sc : Nat × (Nat → Int32)} (σ : zS) (w : zS) (h : fX2_takeBack σ = some w) : zC (zY0 sc) 1 0 0 mX2_takeBack [.ref 6, .ref 4] (zE σ) (none, zE w) := zC.of (by decide +kernel) (Nat.le_of_ble_eq_true rfl) rfl (eX2_takeBack σ w h)
theorem dX10_undo_0 : decode cX10_undo 0 = .ok (.aload_n 0, 1) := by decide +kernel
theorem dX10_undo_1 : decode cX10_undo 1 = .ok (.getfield 26, 3) := by decide +kernel
theorem dX10_undo_4 : decode cX10_undo 4 = .ok (.getfield 115, 3) := by decide +kernel
theorem dX10_undo_7 : decode cX10_undo 7 = .ok (.ifCond .ne 11, 3) := by decide +kernel
theorem dX10_undo_10 : decode cX10_undo 10 = .ok (.aload_n 0, 1) := by decide +kernel
theorem dX10_undo_11 : decode cX10_undo 11 = .ok (.iconst 3, 1) := by decide +kernel
theorem dX10_undo_12 : decode cX10_undo 12 = .ok (.invokevirtual 89, 3) := by decide +kernel
theorem dX10_undo_15 : decode cX10_undo 15 = .ok (.pop, 1) := by decide +kernel
theorem dX10_undo_16 : decode cX10_undo 16 = .ok (.iconst 0, 1) := by decide +kernel
theorem dX10_undo_17 : decode cX10_undo 17 = .ok (.ireturn, 1) := by decide +kernel
theorem dX10_undo_18 : decode cX10_undo 18 = .ok (.aload_n 0, 1) := by decide +kernel
theorem dX10_undo_19 : decode cX10_undo 19 = .ok (.getfield 26, 3) := by decide +kernel
theorem dX10_undo_22 : decode cX10_undo 22 = .ok (.aload_n 0, 1) := by decide +kernel
theorem dX10_undo_23 : decode cX10_undo 23 = .ok (.getfield 19, 3) := by decide +kernel
theorem dX10_undo_26 : decode cX10_undo 26 = .ok (.invokevirtual 300, 3) := by decide +kernel
theorem dX10_undo_29 : decode cX10_undo 29 = .ok (.aload_n 0, 1) := by decide +kernel
theorem dX10_undo_30 : decode cX10_undo 30 = .ok (.getfield 47, 3) := by decide +kernel
theorem dX10_undo_33 : decode cX10_undo 33 = .ok (.invokevirtual 119, 3) := by decide +kernel
theorem dX10_undo_36 : decode cX10_undo 36 = .ok (.iconst 1, 1) := by decide +kernel
theorem dX10_undo_37 : decode cX10_undo 37 = .ok (.ireturn, 1) := by decide +kernel
def fX10_undo (σ : zS) : Option (Int32 × zS) := if (iG σ 6 2) = 0 then bnc (fX10_refuse 3 σ) fun v7 σ5 => some (0, σ5) else bnr (fX2_takeBack σ) fun σ1 => bnr (fX0_forget σ1) fun σ3 => some (1, σ3)
theorem eX10_undo {sc : Nat × (Nat → Int32)} (σ : zS) (w : Int32 × zS) (h : fX10_undo σ = some w) : zR (zY0 sc) 2 0 0 mX10_undo 0 [(0, .ref 1)] [] (zE σ) (some (.int w.1), zE w.2) := by
  unfold fX10_undo at h
  refine kR.aload_n dX10_undo_0 0 rfl ?_
  refine kR.getR (v := 6) dX10_undo_1 flX10_26 zcf10 zp1 (Or.inl ⟨_, rfl⟩) rfl ?_
  refine kR.getI dX10_undo_4 flX10_115 zcf2 zp6 (Or.inl rfl) ?_
  refine kR.if_ne (tgt := 18) dX10_undo_7 (by decide) h (fun h => ?_) (fun h => ?_)
  · refine kR.aload_n dX10_undo_18 0 rfl ?_
    refine kR.getR (v := 6) dX10_undo_19 flX10_26 zcf10 zp1 (Or.inl ⟨_, rfl⟩) rfl ?_
    refine kR.aload_n dX10_undo_22 0 rfl ?_
    refine kR.getR (v := 4) dX10_undo_23 flX10_19 zcf10 zp1 (Or.inl ⟨_, rfl⟩) rfl ?_
    obtain ⟨σ1, e2, h⟩ := bnr_some h
    refine kR.cVv [.ref 4] dX10_undo_26 rfl (by decide) mwX10_300 zp6 (by decide) rfl rfl (Nat.le_of_ble_eq_true rfl) (lX2_takeBack σ _ e2) ?_
    refine kR.aload_n dX10_undo_29 0 rfl ?_
    refine kR.getR (v := 27) dX10_undo_30 flX10_47 zcf10 zp1 (Or.inl ⟨_, rfl⟩) rfl ?_
    obtain ⟨σ3, e4, h⟩ := bnr_some h
    refine kR.cVv [] dX10_undo_33 rfl (by decide) mwX10_119 zp27 (by decide) rfl rfl (Nat.le_of_ble_eq_true rfl) (lX0_forget σ1 _ e4) ?_
    refine zR.iconst (v := 1) dX10_undo_36 (by decide) ?_
    exact kR.iretW dX10_undo_37 (nzZ rfl (Or.inr rfl)) h
  · refine kR.aload_n dX10_undo_10 0 rfl ?_
    refine zR.iconst (v := 3) dX10_undo_11 (by decide) ?_
    obtain ⟨v7, σ5, e6, h⟩ := bnc_some h
    refine kR.cVi [.int 3] dX10_undo_12 rfl (by decide) mwX10_89 zp1 (by decide) rfl rfl (Nat.le_of_ble_eq_true rfl) (lX10_refuse 3 σ _ e6) ?_
    refine zR.pop dX10_undo_15 rfl ?_
    refine zR.iconst (v := 0) dX10_undo_16 (by decide) ?_
    exact kR.iretW dX10_undo_17 (nzZ rfl (Or.inl rfl)) h
theorem lX10_undo {sc : Nat × (Nat → Int32)} (σ : zS) (w : Int32 × zS) (h : fX10_undo σ = some w) : zC (zY0 sc) 2 0 0 mX10_undo [.ref 1] (zE σ) (some (.int w.1), zE w.2) := zC.of (by decide +kernel) (Nat.le_of_ble_eq_true rfl) ⟨_, rfl⟩ (eX10_undo σ w h)
theorem dX10_seed_0 : decode cX10_seed 0 = .ok (.iload_n 1, 1) := by decide +kernel
theorem dX10_seed_1 : decode cX10_seed 1 = .ok (.ifCond .ge 11, 3) := by decide +kernel
theorem dX10_seed_4 : decode cX10_seed 4 = .ok (.aload_n 0, 1) := by decide +kernel
theorem dX10_seed_5 : decode cX10_seed 5 = .ok (.iconst 4, 1) := by decide +kernel
theorem dX10_seed_6 : decode cX10_seed 6 = .ok (.invokevirtual 89, 3) := by decide +kernel
theorem dX10_seed_9 : decode cX10_seed 9 = .ok (.pop, 1) := by decide +kernel
theorem dX10_seed_10 : decode cX10_seed 10 = .ok (.iconst 0, 1) := by decide +kernel
theorem dX10_seed_11 : decode cX10_seed 11 = .ok (.ireturn, 1) := by decide +kernel
theorem dX10_seed_12 : decode cX10_seed 12 = .ok (.aload_n 0, 1) := by decide +kernel
theorem dX10_seed_13 : decode cX10_seed 13 = .ok (.iload_n 1, 1) := by decide +kernel
theorem dX10_seed_14 : decode cX10_seed 14 = .ok (.putfield 82, 3) := by decide +kernel
theorem dX10_seed_17 : decode cX10_seed 17 = .ok (.iconst 1, 1) := by decide +kernel
theorem dX10_seed_18 : decode cX10_seed 18 = .ok (.ireturn, 1) := by decide +kernel
def fX10_seed (p1 : Int32) (σ : zS) : Option (Int32 × zS) := if 0 ≤ p1 then bnd (iS σ 1 10 p1) fun σ1 => some (1, σ1) else bnc (fX10_refuse 4 σ) fun v4 σ2 => some (0, σ2)
theorem eX10_seed {sc : Nat × (Nat → Int32)} (p1 : Int32) (σ : zS) (w : Int32 × zS) (h : fX10_seed p1 σ = some w) : zR (zY0 sc) 2 0 0 mX10_seed 0 [(0, .ref 1), (1, .int p1)] [] (zE σ) (some (.int w.1), zE w.2) := by
  unfold fX10_seed at h
  refine kR.iload_n dX10_seed_0 1 rfl ?_
  refine kR.if_ge (tgt := 12) dX10_seed_1 (by decide) h (fun h => ?_) (fun h => ?_)
  · refine kR.aload_n dX10_seed_12 0 rfl ?_
    refine kR.iload_n dX10_seed_13 1 rfl ?_
    refine kR.putI dX10_seed_14 fpX10_82 zcf10 zp1 rfl h (fun σ1 h => ?_)
    refine zR.iconst (v := 1) dX10_seed_17 (by decide) ?_
    exact kR.iretW dX10_seed_18 (nzZ rfl (Or.inr rfl)) h
  · refine kR.aload_n dX10_seed_4 0 rfl ?_
    refine zR.iconst (v := 4) dX10_seed_5 (by decide) ?_
    obtain ⟨v4, σ2, e3, h⟩ := bnc_some h
    refine kR.cVi [.int 4] dX10_seed_6 rfl (by decide) mwX10_89 zp1 (by decide) rfl rfl (Nat.le_of_ble_eq_true rfl) (lX10_refuse 4 σ _ e3) ?_
    refine zR.pop dX10_seed_9 rfl ?_
    refine zR.iconst (v := 0) dX10_seed_10 (by decide) ?_
    exact kR.iretW dX10_seed_11 (nzZ rfl (Or.inl rfl)) h
theorem lX10_seed {sc : Nat × (Nat → Int32)} (p1 : Int32) (σ : zS) (w : Int32 × zS) (h : fX10_seed p1 σ = some w) : zC (zY0 sc) 2 0 0 mX10_seed [.ref 1, .int p1] (zE σ) (some (.int w.1), zE w.2) := zC.of (by decide +kernel) (Nat.le_of_ble_eq_true rfl) ⟨_, rfl⟩ (eX10_seed p1 σ w h)
theorem dX7_keptPart_0 : decode cX7_keptPart 0 = .ok (.iload_n 2, 1) := by decide +kernel
theorem dX7_keptPart_1 : decode cX7_keptPart 1 = .ok (.ifCond .lt 8, 3) := by decide +kernel
theorem dX7_keptPart_4 : decode cX7_keptPart 4 = .ok (.iload_n 2, 1) := by decide +kernel
theorem dX7_keptPart_5 : decode cX7_keptPart 5 = .ok (.iconst 3, 1) := by decide +kernel
theorem dX7_keptPart_6 : decode cX7_keptPart 6 = .ok (.if_icmp .le 5, 3) := by decide +kernel
theorem dX7_keptPart_9 : decode cX7_keptPart 9 = .ok (.iconst (-1), 1) := by decide +kernel
theorem dX7_keptPart_10 : decode cX7_keptPart 10 = .ok (.ireturn, 1) := by decide +kernel
theorem dX7_keptPart_11 : decode cX7_keptPart 11 = .ok (.aload_n 0, 1) := by decide +kernel
theorem dX7_keptPart_12 : decode cX7_keptPart 12 = .ok (.getfield 11, 3) := by decide +kernel
theorem dX7_keptPart_15 : decode cX7_keptPart 15 = .ok (.iconst 1, 1) := by decide +kernel
theorem dX7_keptPart_16 : decode cX7_keptPart 16 = .ok (.iaload, 1) := by decide +kernel
theorem dX7_keptPart_17 : decode cX7_keptPart 17 = .ok (.aload_n 0, 1) := by decide +kernel
theorem dX7_keptPart_18 : decode cX7_keptPart 18 = .ok (.invokevirtual 44, 3) := by decide +kernel
theorem dX7_keptPart_21 : decode cX7_keptPart 21 = .ok (.isub, 1) := by decide +kernel
theorem dX7_keptPart_22 : decode cX7_keptPart 22 = .ok (.iload_n 1, 1) := by decide +kernel
theorem dX7_keptPart_23 : decode cX7_keptPart 23 = .ok (.iadd, 1) := by decide +kernel
theorem dX7_keptPart_24 : decode cX7_keptPart 24 = .ok (.bipush 48, 2) := by decide +kernel
theorem dX7_keptPart_26 : decode cX7_keptPart 26 = .ok (.irem, 1) := by decide +kernel
theorem dX7_keptPart_27 : decode cX7_keptPart 27 = .ok (.istore_n 3, 1) := by decide +kernel
theorem dX7_keptPart_28 : decode cX7_keptPart 28 = .ok (.aload_n 0, 1) := by decide +kernel
theorem dX7_keptPart_29 : decode cX7_keptPart 29 = .ok (.getfield 11, 3) := by decide +kernel
theorem dX7_keptPart_32 : decode cX7_keptPart 32 = .ok (.iconst 2, 1) := by decide +kernel
theorem dX7_keptPart_33 : decode cX7_keptPart 33 = .ok (.iload_n 3, 1) := by decide +kernel
theorem dX7_keptPart_34 : decode cX7_keptPart 34 = .ok (.iadd, 1) := by decide +kernel
theorem dX7_keptPart_35 : decode cX7_keptPart 35 = .ok (.iaload, 1) := by decide +kernel
theorem dX7_keptPart_36 : decode cX7_keptPart 36 = .ok (.bipush 24, 2) := by decide +kernel
theorem dX7_keptPart_38 : decode cX7_keptPart 38 = .ok (.bipush 8, 2) := by decide +kernel
theorem dX7_keptPart_40 : decode cX7_keptPart 40 = .ok (.iload_n 2, 1) := by decide +kernel
theorem dX7_keptPart_41 : decode cX7_keptPart 41 = .ok (.imul, 1) := by decide +kernel
theorem dX7_keptPart_42 : decode cX7_keptPart 42 = .ok (.isub, 1) := by decide +kernel
theorem dX7_keptPart_43 : decode cX7_keptPart 43 = .ok (.ishr, 1) := by decide +kernel
theorem dX7_keptPart_44 : decode cX7_keptPart 44 = .ok (.sipush 255, 3) := by decide +kernel
theorem dX7_keptPart_47 : decode cX7_keptPart 47 = .ok (.iand, 1) := by decide +kernel
theorem dX7_keptPart_48 : decode cX7_keptPart 48 = .ok (.ireturn, 1) := by decide +kernel
def fX7_keptPart (σ : zS) (p1 : Int32) (p2 : Int32) : Option Int32 := if p2 < 0 then some ((-1)) else if p2 ≤ 3 then aI σ 5 104 1 fun v1 => bnr (fX7_keptCount σ) fun v2 => aI σ 5 104 (2 + (((v1 - v2) + p1) - ((v1 - v2) + p1) / 48 * 48)) fun v4 => some ((v4 >>> ((24 - (8 * p2)) &&& 31)) &&& 255) else some ((-1))
theorem eX7_keptPart {sc : Nat × (Nat → Int32)} (σ : zS) (p1 : Int32) (p2 : Int32) (w : Int32) (h : fX7_keptPart σ p1 p2 = some w) : zR (zY0 sc) 3 0 0 mX7_keptPart 0 [(0, .ref 4), (1, .int p1), (2, .int p2)] [] (zE σ) (some (.int w), zE σ) := by
  unfold fX7_keptPart at h
  refine kR.iload_n dX7_keptPart_0 2 rfl ?_
  refine kR.if_lt (tgt := 9) dX7_keptPart_1 (by decide) h (fun h => ?_) (fun h => ?_)
  · refine zR.iconst (v := (-1)) dX7_keptPart_9 (by decide) ?_
    exact kR.iretO dX7_keptPart_10 (nzI rfl _) h
  · refine kR.iload_n dX7_keptPart_4 2 rfl ?_
    refine zR.iconst (v := 3) dX7_keptPart_5 (by decide) ?_
    refine kR.icmp_le (tgt := 11) dX7_keptPart_6 (by decide) h (fun h => ?_) (fun h => ?_)
    · refine kR.aload_n dX7_keptPart_11 0 rfl ?_
      refine kR.getR (v := 5) dX7_keptPart_12 flX7_11 zcf7 zp4 (Or.inr ⟨_, rfl⟩) rfl ?_
      refine zR.iconst (v := 1) dX7_keptPart_15 (by decide) ?_
      refine kR.iald dX7_keptPart_16 zp5 rfl h (fun v1 h => ?_)
      refine kR.aload_n dX7_keptPart_17 0 rfl ?_
      obtain ⟨v2, e3, h⟩ := bnr_some h
      refine kR.cVi [] dX7_keptPart_18 rfl (by decide) mwX7_44 zp4 (by decide) rfl rfl (Nat.le_of_ble_eq_true rfl) (lX7_keptCount σ _ e3) ?_
      refine zR.isub dX7_keptPart_21 ?_
      refine kR.iload_n dX7_keptPart_22 1 rfl ?_
      refine zR.iadd dX7_keptPart_23 ?_
      refine zR.bipush (v := 48) dX7_keptPart_24 (by decide) ?_
      refine zR.irem dX7_keptPart_26 (by decide) ?_
      refine zR.istore_n (i := 3) (ls' := [(3, .int (((v1 - v2) + p1) - ((v1 - v2) + p1) / 48 * 48)), (0, .ref 4), (1, .int p1), (2, .int p2)]) dX7_keptPart_27 rfl (by decide) rfl ?_
      refine kR.aload_n dX7_keptPart_28 1 rfl ?_
      refine kR.getR (v := 5) dX7_keptPart_29 flX7_11 zcf7 zp4 (Or.inr ⟨_, rfl⟩) rfl ?_
      refine zR.iconst (v := 2) dX7_keptPart_32 (by decide) ?_
      refine kR.iload_n dX7_keptPart_33 0 rfl ?_
      refine zR.iadd dX7_keptPart_34 ?_
      refine kR.iald dX7_keptPart_35 zp5 rfl h (fun v4 h => ?_)
      refine zR.bipush (v := 24) dX7_keptPart_36 (by decide) ?_
      refine zR.bipush (v := 8) dX7_keptPart_38 (by decide) ?_
      refine kR.iload_n dX7_keptPart_40 3 rfl ?_
      refine zR.imul dX7_keptPart_41 ?_
      refine zR.isub dX7_keptPart_42 ?_
      refine zR.ishr dX7_keptPart_43 ?_
      refine zR.sipush (v := 255) dX7_keptPart_44 (by decide) ?_
      refine zR.iand dX7_keptPart_47 ?_
      exact kR.iretO dX7_keptPart_48 (nzI rfl _) h
    · refine zR.iconst (v := (-1)) dX7_keptPart_9 (by decide) ?_
      exact kR.iretO dX7_keptPart_10 (nzI rfl _) h
theorem lX7_keptPart {sc : Nat × (Nat → Int32)} (σ : zS) (p1 : Int32) (p2 : Int32) (w : Int32) (h : fX7_keptPart σ p1 p2 = some w) : zC (zY0 sc) 3 0 0 mX7_keptPart [.ref 4, .int p1, .int p2] (zE σ) (some (.int w), zE σ) := zC.of (by decide +kernel) (Nat.le_of_ble_eq_true rfl) ⟨_, rfl⟩ (eX7_keptPart σ p1 p2 w h)
theorem dX10_kept_0 : decode cX10_kept 0 = .ok (.iload_n 1, 1) := by decide +kernel
theorem dX10_kept_1 : decode cX10_kept 1 = .ok (.ifCond .lt 14, 3) := by decide +kernel
theorem dX10_kept_4 : decode cX10_kept 4 = .ok (.iload_n 1, 1) := by decide +kernel
theorem dX10_kept_5 : decode cX10_kept 5 = .ok (.aload_n 0, 1) := by decide +kernel
theorem dX10_kept_6 : decode cX10_kept 6 = .ok (.getfield 19, 3) := by decide +kernel
theorem dX10_kept_9 : decode cX10_kept 9 = .ok (.invokevirtual 144, 3) := by decide +kernel
theorem dX10_kept_12 : decode cX10_kept 12 = .ok (.if_icmp .lt 5, 3) := by decide +kernel
theorem dX10_kept_15 : decode cX10_kept 15 = .ok (.iconst (-1), 1) := by decide +kernel
theorem dX10_kept_16 : decode cX10_kept 16 = .ok (.ireturn, 1) := by decide +kernel
theorem dX10_kept_17 : decode cX10_kept 17 = .ok (.aload_n 0, 1) := by decide +kernel
theorem dX10_kept_18 : decode cX10_kept 18 = .ok (.getfield 19, 3) := by decide +kernel
theorem dX10_kept_21 : decode cX10_kept 21 = .ok (.iload_n 1, 1) := by decide +kernel
theorem dX10_kept_22 : decode cX10_kept 22 = .ok (.iload_n 2, 1) := by decide +kernel
theorem dX10_kept_23 : decode cX10_kept 23 = .ok (.invokevirtual 304, 3) := by decide +kernel
theorem dX10_kept_26 : decode cX10_kept 26 = .ok (.ireturn, 1) := by decide +kernel
def fX10_kept (σ : zS) (p1 : Int32) (p2 : Int32) : Option Int32 := if p1 < 0 then some ((-1)) else bnr (fX7_keptCount σ) fun v1 => if p1 < v1 then bnr (fX7_keptPart σ p1 p2) fun v3 => some v3 else some ((-1))
theorem eX10_kept {sc : Nat × (Nat → Int32)} (σ : zS) (p1 : Int32) (p2 : Int32) (w : Int32) (h : fX10_kept σ p1 p2 = some w) : zR (zY0 sc) 4 0 0 mX10_kept 0 [(0, .ref 1), (1, .int p1), (2, .int p2)] [] (zE σ) (some (.int w), zE σ) := by
  unfold fX10_kept at h
  refine kR.iload_n dX10_kept_0 1 rfl ?_
  refine kR.if_lt (tgt := 15) dX10_kept_1 (by decide) h (fun h => ?_) (fun h => ?_)
  · refine zR.iconst (v := (-1)) dX10_kept_15 (by decide) ?_
    exact kR.iretO dX10_kept_16 (nzI rfl _) h
  · refine kR.iload_n dX10_kept_4 1 rfl ?_
    refine kR.aload_n dX10_kept_5 0 rfl ?_
    refine kR.getR (v := 4) dX10_kept_6 flX10_19 zcf10 zp1 (Or.inl ⟨_, rfl⟩) rfl ?_
    obtain ⟨v1, e2, h⟩ := bnr_some h
    refine kR.cVi [] dX10_kept_9 rfl (by decide) mwX10_144 zp4 (by decide) rfl rfl (Nat.le_of_ble_eq_true rfl) (lX7_keptCount σ _ e2) ?_
    refine kR.icmp_lt (tgt := 17) dX10_kept_12 (by decide) h (fun h => ?_) (fun h => ?_)
    · refine kR.aload_n dX10_kept_17 0 rfl ?_
      refine kR.getR (v := 4) dX10_kept_18 flX10_19 zcf10 zp1 (Or.inl ⟨_, rfl⟩) rfl ?_
      refine kR.iload_n dX10_kept_21 1 rfl ?_
      refine kR.iload_n dX10_kept_22 2 rfl ?_
      obtain ⟨v3, e4, h⟩ := bnr_some h
      refine kR.cVi [.int p1, .int p2] dX10_kept_23 rfl (by decide) mwX10_304 zp4 (by decide) rfl rfl (Nat.le_of_ble_eq_true rfl) (lX7_keptPart σ p1 p2 _ e4) ?_
      exact kR.iretO dX10_kept_26 (nzI rfl _) h
    · refine zR.iconst (v := (-1)) dX10_kept_15 (by decide) ?_
      exact kR.iretO dX10_kept_16 (nzI rfl _) h
theorem lX10_kept {sc : Nat × (Nat → Int32)} (σ : zS) (p1 : Int32) (p2 : Int32) (w : Int32) (h : fX10_kept σ p1 p2 = some w) : zC (zY0 sc) 4 0 0 mX10_kept [.ref 1, .int p1, .int p2] (zE σ) (some (.int w), zE σ) := zC.of (by decide +kernel) (Nat.le_of_ble_eq_true rfl) ⟨_, rfl⟩ (eX10_kept σ p1 p2 w h)
theorem dX3_addByte_0 : decode cX3_addByte 0 = .ok (.aload_n 0, 1) := by decide +kernel
theorem dX3_addByte_1 : decode cX3_addByte 1 = .ok (.getfield 15, 3) := by decide +kernel
theorem dX3_addByte_4 : decode cX3_addByte 4 = .ok (.aload_n 0, 1) := by decide +kernel
theorem dX3_addByte_5 : decode cX3_addByte 5 = .ok (.getfield 11, 3) := by decide +kernel
theorem dX3_addByte_8 : decode cX3_addByte 8 = .ok (.arraylength, 1) := by decide +kernel
theorem dX3_addByte_9 : decode cX3_addByte 9 = .ok (.if_icmp .ge 23, 3) := by decide +kernel
theorem dX3_addByte_12 : decode cX3_addByte 12 = .ok (.aload_n 0, 1) := by decide +kernel
theorem dX3_addByte_13 : decode cX3_addByte 13 = .ok (.getfield 11, 3) := by decide +kernel
theorem dX3_addByte_16 : decode cX3_addByte 16 = .ok (.aload_n 0, 1) := by decide +kernel
theorem dX3_addByte_17 : decode cX3_addByte 17 = .ok (.getfield 15, 3) := by decide +kernel
theorem dX3_addByte_20 : decode cX3_addByte 20 = .ok (.iload_n 1, 1) := by decide +kernel
theorem dX3_addByte_21 : decode cX3_addByte 21 = .ok (.iastore, 1) := by decide +kernel
theorem dX3_addByte_22 : decode cX3_addByte 22 = .ok (.aload_n 0, 1) := by decide +kernel
theorem dX3_addByte_23 : decode cX3_addByte 23 = .ok (.dup, 1) := by decide +kernel
theorem dX3_addByte_24 : decode cX3_addByte 24 = .ok (.getfield 15, 3) := by decide +kernel
theorem dX3_addByte_27 : decode cX3_addByte 27 = .ok (.iconst 1, 1) := by decide +kernel
theorem dX3_addByte_28 : decode cX3_addByte 28 = .ok (.iadd, 1) := by decide +kernel
theorem dX3_addByte_29 : decode cX3_addByte 29 = .ok (.putfield 15, 3) := by decide +kernel
theorem dX3_addByte_32 : decode cX3_addByte 32 = .ok (.return_, 1) := by decide +kernel
def fX3_addByte (p1 : Int32) (σ : zS) : Option zS := if 68 ≤ (iG σ 35 1) then some σ else wI σ 36 68 (iG σ 35 1) p1 fun σ1 => bnd (iS σ1 35 1 ((iG σ1 35 1) + 1)) fun σ2 => some σ2
theorem eX3_addByte {sc : Nat × (Nat → Int32)} (p1 : Int32) (σ : zS) (w : zS) (h : fX3_addByte p1 σ = some w) : zR (zY0 sc) 1 0 0 mX3_addByte 0 [(0, .ref 35), (1, .int p1)] [] (zE σ) (none, zE w) := by
  unfold fX3_addByte at h
  refine kR.aload_n dX3_addByte_0 0 rfl ?_
  refine kR.getI dX3_addByte_1 flX3_15 zcf3 zp35 (Or.inl rfl) ?_
  refine kR.aload_n dX3_addByte_4 0 rfl ?_
  refine kR.getR (v := 36) dX3_addByte_5 flX3_11 zcf3 zp35 (Or.inr ⟨_, rfl⟩) rfl ?_
  refine zR.alen (v := 68) dX3_addByte_8 (Or.inl zp36) rfl ?_
  refine kR.icmp_ge (tgt := 32) dX3_addByte_9 (by decide) h (fun h => ?_) (fun h => ?_)
  · exact kR.vret dX3_addByte_32 h
  · refine kR.aload_n dX3_addByte_12 0 rfl ?_
    refine kR.getR (v := 36) dX3_addByte_13 flX3_11 zcf3 zp35 (Or.inr ⟨_, rfl⟩) rfl ?_
    refine kR.aload_n dX3_addByte_16 0 rfl ?_
    refine kR.getI dX3_addByte_17 flX3_15 zcf3 zp35 (Or.inl rfl) ?_
    refine kR.iload_n dX3_addByte_20 1 rfl ?_
    refine kR.iast dX3_addByte_21 zp36 rfl h (fun σ1 h => ?_)
    refine kR.aload_n dX3_addByte_22 0 rfl ?_
    refine zR.dup dX3_addByte_23 rfl ?_
    refine kR.getI dX3_addByte_24 flX3_15 zcf3 zp35 (Or.inl rfl) ?_
    refine zR.iconst (v := 1) dX3_addByte_27 (by decide) ?_
    refine zR.iadd dX3_addByte_28 ?_
    refine kR.putI dX3_addByte_29 fpX3_15 zcf3 zp35 rfl h (fun σ2 h => ?_)
    exact kR.vret dX3_addByte_32 h
theorem lX3_addByte {sc : Nat × (Nat → Int32)} (p1 : Int32) (σ : zS) (w : zS) (h : fX3_addByte p1 σ = some w) : zC (zY0 sc) 1 0 0 mX3_addByte [.ref 35, .int p1] (zE σ) (none, zE w) := zC.of (by decide +kernel) (Nat.le_of_ble_eq_true rfl) rfl (eX3_addByte p1 σ w h)
theorem dX3_withChecked_0 : decode cX3_withChecked 0 = .ok (.iconst 5, 1) := by decide +kernel
theorem dX3_withChecked_1 : decode cX3_withChecked 1 = .ok (.iload_n 0, 1) := by decide +kernel
theorem dX3_withChecked_2 : decode cX3_withChecked 2 = .ok (.imul, 1) := by decide +kernel
theorem dX3_withChecked_3 : decode cX3_withChecked 3 = .ok (.iload_n 1, 1) := by decide +kernel
theorem dX3_withChecked_4 : decode cX3_withChecked 4 = .ok (.iadd, 1) := by decide +kernel
theorem dX3_withChecked_5 : decode cX3_withChecked 5 = .ok (.sipush 251, 3) := by decide +kernel
theorem dX3_withChecked_8 : decode cX3_withChecked 8 = .ok (.irem, 1) := by decide +kernel
theorem dX3_withChecked_9 : decode cX3_withChecked 9 = .ok (.ireturn, 1) := by decide +kernel
def fX3_withChecked (p0 : Int32) (p1 : Int32) : Int32 := ((5 * p0) + p1) - ((5 * p0) + p1) / 251 * 251
theorem eX3_withChecked {sc : Nat × (Nat → Int32)} {μ : zM} (p0 : Int32) (p1 : Int32) (w : Int32) (h : fX3_withChecked p0 p1 = w) : zR (zY0 sc) 1 0 0 mX3_withChecked 0 [(0, .int p0), (1, .int p1)] [] μ (some (.int w), μ) := by
  unfold fX3_withChecked at h
  refine zR.iconst (v := 5) dX3_withChecked_0 (by decide) ?_
  refine kR.iload_n dX3_withChecked_1 0 rfl ?_
  refine zR.imul dX3_withChecked_2 ?_
  refine kR.iload_n dX3_withChecked_3 1 rfl ?_
  refine zR.iadd dX3_withChecked_4 ?_
  refine zR.sipush (v := 251) dX3_withChecked_5 (by decide) ?_
  refine zR.irem dX3_withChecked_8 (by decide) ?_
  exact kR.iret dX3_withChecked_9 (nzI rfl _) h
theorem lX3_withChecked {sc : Nat × (Nat → Int32)} {μ : zM} (p0 : Int32) (p1 : Int32) : zC (zY0 sc) 1 0 0 mX3_withChecked [.int p0, .int p1] μ (some (.int (fX3_withChecked p0 p1)), μ) := zC.of (by decide +kernel) (Nat.le_of_ble_eq_true rfl) ⟨_, rfl⟩ (eX3_withChecked p0 p1 _ rfl)
theorem dX3_write_0 : decode cX3_write 0 = .ok (.aload_n 0, 1) := by decide +kernel
theorem dX3_write_1 : decode cX3_write 1 = .ok (.iconst 0, 1) := by decide +kernel
theorem dX3_write_2 : decode cX3_write 2 = .ok (.putfield 15, 3) := by decide +kernel
theorem dX3_write_5 : decode cX3_write 5 = .ok (.aload_n 0, 1) := by decide +kernel
theorem dX3_write_6 : decode cX3_write 6 = .ok (.aload_n 1, 1) := by decide +kernel
theorem dX3_write_7 : decode cX3_write 7 = .ok (.invokevirtual 19, 3) := by decide +kernel
theorem dX3_write_10 : decode cX3_write 10 = .ok (.invokevirtual 25, 3) := by decide +kernel
theorem dX3_write_13 : decode cX3_write 13 = .ok (.iconst 0, 1) := by decide +kernel
theorem dX3_write_14 : decode cX3_write 14 = .ok (.istore_n 3, 1) := by decide +kernel
theorem dX3_write_15 : decode cX3_write 15 = .ok (.iload_n 3, 1) := by decide +kernel
theorem dX3_write_16 : decode cX3_write 16 = .ok (.aload_n 2, 1) := by decide +kernel
theorem dX3_write_17 : decode cX3_write 17 = .ok (.getfield 29, 3) := by decide +kernel
theorem dX3_write_20 : decode cX3_write 20 = .ok (.if_icmp .ge 98, 3) := by decide +kernel
theorem dX3_write_23 : decode cX3_write 23 = .ok (.aload_n 0, 1) := by decide +kernel
theorem dX3_write_24 : decode cX3_write 24 = .ok (.aload_n 1, 1) := by decide +kernel
theorem dX3_write_25 : decode cX3_write 25 = .ok (.iload_n 3, 1) := by decide +kernel
theorem dX3_write_26 : decode cX3_write 26 = .ok (.invokevirtual 34, 3) := by decide +kernel
theorem dX3_write_29 : decode cX3_write 29 = .ok (.invokevirtual 25, 3) := by decide +kernel
theorem dX3_write_32 : decode cX3_write 32 = .ok (.aload_n 0, 1) := by decide +kernel
theorem dX3_write_33 : decode cX3_write 33 = .ok (.aload_n 1, 1) := by decide +kernel
theorem dX3_write_34 : decode cX3_write 34 = .ok (.iload_n 3, 1) := by decide +kernel
theorem dX3_write_35 : decode cX3_write 35 = .ok (.invokevirtual 38, 3) := by decide +kernel
theorem dX3_write_38 : decode cX3_write 38 = .ok (.invokevirtual 25, 3) := by decide +kernel
theorem dX3_write_41 : decode cX3_write 41 = .ok (.aload_n 1, 1) := by decide +kernel
theorem dX3_write_42 : decode cX3_write 42 = .ok (.iload_n 3, 1) := by decide +kernel
theorem dX3_write_43 : decode cX3_write 43 = .ok (.invokevirtual 41, 3) := by decide +kernel
theorem dX3_write_46 : decode cX3_write 46 = .ok (.ldc 44, 2) := by decide +kernel
theorem dX3_write_48 : decode cX3_write 48 = .ok (.iadd, 1) := by decide +kernel
theorem dX3_write_49 : decode cX3_write 49 = .ok (.istore 4, 2) := by decide +kernel
theorem dX3_write_51 : decode cX3_write 51 = .ok (.aload_n 0, 1) := by decide +kernel
theorem dX3_write_52 : decode cX3_write 52 = .ok (.iload 4, 2) := by decide +kernel
theorem dX3_write_54 : decode cX3_write 54 = .ok (.bipush 16, 2) := by decide +kernel
theorem dX3_write_56 : decode cX3_write 56 = .ok (.ishr, 1) := by decide +kernel
theorem dX3_write_57 : decode cX3_write 57 = .ok (.invokevirtual 25, 3) := by decide +kernel
theorem dX3_write_60 : decode cX3_write 60 = .ok (.aload_n 0, 1) := by decide +kernel
theorem dX3_write_61 : decode cX3_write 61 = .ok (.iload 4, 2) := by decide +kernel
theorem dX3_write_63 : decode cX3_write 63 = .ok (.bipush 8, 2) := by decide +kernel
theorem dX3_write_65 : decode cX3_write 65 = .ok (.ishr, 1) := by decide +kernel
theorem dX3_write_66 : decode cX3_write 66 = .ok (.sipush 255, 3) := by decide +kernel
theorem dX3_write_69 : decode cX3_write 69 = .ok (.iand, 1) := by decide +kernel
theorem dX3_write_70 : decode cX3_write 70 = .ok (.invokevirtual 25, 3) := by decide +kernel
theorem dX3_write_73 : decode cX3_write 73 = .ok (.aload_n 0, 1) := by decide +kernel
theorem dX3_write_74 : decode cX3_write 74 = .ok (.iload 4, 2) := by decide +kernel
theorem dX3_write_76 : decode cX3_write 76 = .ok (.sipush 255, 3) := by decide +kernel
theorem dX3_write_79 : decode cX3_write 79 = .ok (.iand, 1) := by decide +kernel
theorem dX3_write_80 : decode cX3_write 80 = .ok (.invokevirtual 25, 3) := by decide +kernel
theorem dX3_write_83 : decode cX3_write 83 = .ok (.iconst 0, 1) := by decide +kernel
theorem dX3_write_84 : decode cX3_write 84 = .ok (.istore 5, 2) := by decide +kernel
theorem dX3_write_86 : decode cX3_write 86 = .ok (.iload 5, 2) := by decide +kernel
theorem dX3_write_88 : decode cX3_write 88 = .ok (.aload_n 2, 1) := by decide +kernel
theorem dX3_write_89 : decode cX3_write 89 = .ok (.getfield 45, 3) := by decide +kernel
theorem dX3_write_92 : decode cX3_write 92 = .ok (.if_icmp .ge 20, 3) := by decide +kernel
theorem dX3_write_95 : decode cX3_write 95 = .ok (.aload_n 0, 1) := by decide +kernel
theorem dX3_write_96 : decode cX3_write 96 = .ok (.aload_n 1, 1) := by decide +kernel
theorem dX3_write_97 : decode cX3_write 97 = .ok (.iload_n 3, 1) := by decide +kernel
theorem dX3_write_98 : decode cX3_write 98 = .ok (.iload 5, 2) := by decide +kernel
theorem dX3_write_100 : decode cX3_write 100 = .ok (.invokevirtual 48, 3) := by decide +kernel
theorem dX3_write_103 : decode cX3_write 103 = .ok (.invokevirtual 25, 3) := by decide +kernel
theorem dX3_write_106 : decode cX3_write 106 = .ok (.iinc 5 1, 3) := by decide +kernel
theorem dX3_write_109 : decode cX3_write 109 = .ok (.goto (-23), 3) := by decide +kernel
theorem dX3_write_112 : decode cX3_write 112 = .ok (.iinc 3 1, 3) := by decide +kernel
theorem dX3_write_115 : decode cX3_write 115 = .ok (.goto (-100), 3) := by decide +kernel
theorem dX3_write_118 : decode cX3_write 118 = .ok (.bipush 107, 2) := by decide +kernel
theorem dX3_write_120 : decode cX3_write 120 = .ok (.istore_n 3, 1) := by decide +kernel
theorem dX3_write_121 : decode cX3_write 121 = .ok (.iconst 0, 1) := by decide +kernel
theorem dX3_write_122 : decode cX3_write 122 = .ok (.istore 4, 2) := by decide +kernel
theorem dX3_write_124 : decode cX3_write 124 = .ok (.iload 4, 2) := by decide +kernel
theorem dX3_write_126 : decode cX3_write 126 = .ok (.aload_n 0, 1) := by decide +kernel
theorem dX3_write_127 : decode cX3_write 127 = .ok (.getfield 15, 3) := by decide +kernel
theorem dX3_write_130 : decode cX3_write 130 = .ok (.if_icmp .ge 21, 3) := by decide +kernel
theorem dX3_write_133 : decode cX3_write 133 = .ok (.iload_n 3, 1) := by decide +kernel
theorem dX3_write_134 : decode cX3_write 134 = .ok (.aload_n 0, 1) := by decide +kernel
theorem dX3_write_135 : decode cX3_write 135 = .ok (.getfield 11, 3) := by decide +kernel
theorem dX3_write_138 : decode cX3_write 138 = .ok (.iload 4, 2) := by decide +kernel
theorem dX3_write_140 : decode cX3_write 140 = .ok (.iaload, 1) := by decide +kernel
theorem dX3_write_141 : decode cX3_write 141 = .ok (.invokestatic 52, 3) := by decide +kernel
theorem dX3_write_144 : decode cX3_write 144 = .ok (.istore_n 3, 1) := by decide +kernel
theorem dX3_write_145 : decode cX3_write 145 = .ok (.iinc 4 1, 3) := by decide +kernel
theorem dX3_write_148 : decode cX3_write 148 = .ok (.goto (-24), 3) := by decide +kernel
theorem dX3_write_151 : decode cX3_write 151 = .ok (.aload_n 0, 1) := by decide +kernel
theorem dX3_write_152 : decode cX3_write 152 = .ok (.iload_n 3, 1) := by decide +kernel
theorem dX3_write_153 : decode cX3_write 153 = .ok (.invokevirtual 25, 3) := by decide +kernel
theorem dX3_write_156 : decode cX3_write 156 = .ok (.return_, 1) := by decide +kernel
def fX3_write_124 (b2 : Bool) : Nat → Int32 → Int32 → zS → Option zS
  | 0, _, _, _ => none
  | f + 1, x3, x4, σ => if (iG σ 35 1) ≤ x4 then bnr (fX3_addByte x3 σ) fun σ6 => some σ6 else aI σ 36 68 x4 fun v8 => fX3_write_124 b2 f (fX3_withChecked x3 v8) (x4 + 1) σ
theorem kX3_write_124 {sc : Nat × (Nat → Int32)} (b2 : Bool) : ∀ (fuel : Nat) (x3 : Int32) (x4 : Int32) (σ : zS) (w : zS) (h : fX3_write_124 b2 fuel x3 x4 σ = some w), zR (zY0 sc) 2 0 0 mX3_write 124 [(0, .ref 35), (3, .int x3), (4, .int x4)] [] (zE σ) (none, zE w) := by
  intro fuel
  induction fuel with
  | zero => intro x3 x4 σ w h; exact nomatch h
  | succ f ih =>
    intro x3 x4 σ w h
    rw [fX3_write_124] at h
    refine kR.iload dX3_write_124 2 rfl ?_
    refine kR.aload_n dX3_write_126 0 rfl ?_
    refine kR.getI dX3_write_127 flX3_15 zcf3 zp35 (Or.inl rfl) ?_
    refine kR.icmp_ge (tgt := 151) dX3_write_130 (by decide) h (fun h => ?_) (fun h => ?_)
    · refine kR.aload_n dX3_write_151 0 rfl ?_
      refine kR.iload_n dX3_write_152 1 rfl ?_
      obtain ⟨σ6, e7, h⟩ := bnr_some h
      refine kR.cVv [.int x3] dX3_write_153 rfl (by decide) mwX3_25 zp35 (by decide) rfl rfl (Nat.le_of_ble_eq_true rfl) (lX3_addByte x3 σ _ e7) ?_
      exact kR.vret dX3_write_156 h
    · refine kR.iload_n dX3_write_133 1 rfl ?_
      refine kR.aload_n dX3_write_134 0 rfl ?_
      refine kR.getR (v := 36) dX3_write_135 flX3_11 zcf3 zp35 (Or.inr ⟨_, rfl⟩) rfl ?_
      refine kR.iload dX3_write_138 2 rfl ?_
      refine kR.iald dX3_write_140 zp36 rfl h (fun v8 h => ?_)
      refine kR.cSi [.int x3, .int v8] dX3_write_141 rfl (by decide) (Or.inl mwX3_52) rfl (Nat.le_of_ble_eq_true rfl) (lX3_withChecked x3 v8) ?_
      refine zR.istore_n (i := 3) (ls' := [(3, .int (fX3_withChecked x3 v8)), (0, .ref 35), (4, .int x4)]) dX3_write_144 rfl (by decide) rfl ?_
      refine zR.iinc 2 (v := x4 + 1) (ls' := [(4, .int (x4 + 1)), (3, .int (fX3_withChecked x3 v8)), (0, .ref 35)]) dX3_write_145 rfl rfl (by decide) rfl ?_
      refine zR.goto (tgt := 124) dX3_write_148 (by decide) ?_
      refine zR.sub [2, 1, 0] rfl ?_
      exact ih _ _ _ _ h
def fX3_write_86 (b2 : Bool) (r15 : Int32 → zS → Option zS) : Nat → Int32 → Int32 → zS → Option zS
  | 0, _, _, _ => none
  | f + 1, x3, x5, σ => if (iG σ (rp b2 + 0) 1) ≤ x5 then r15 (x3 + 1) σ else bnr (fX7_thinksOf σ x3 x5) fun v25 => bnr (fX3_addByte v25 σ) fun σ27 => fX3_write_86 b2 r15 f x3 (x5 + 1) σ27
theorem kX3_write_86 {sc : Nat × (Nat → Int32)} (b2 : Bool) (r15 : Int32 → zS → Option zS) (hr15 : ∀ (x3 : Int32) (σ : zS) (w : zS), r15 x3 σ = some w → zR (zY0 sc) 2 0 0 mX3_write 15 [(0, .ref 35), (1, .ref 4), (2, .ref (rp b2 + 0)), (3, .int x3)] [] (zE σ) (none, zE w)) : ∀ (fuel : Nat) (x3 : Int32) (x5 : Int32) (σ : zS) (w : zS) (h : fX3_write_86 b2 r15 fuel x3 x5 σ = some w), zR (zY0 sc) 2 0 0 mX3_write 86 [(0, .ref 35), (1, .ref 4), (2, .ref (rp b2 + 0)), (3, .int x3), (5, .int x5)] [] (zE σ) (none, zE w) := by
  intro fuel
  induction fuel with
  | zero => intro x3 x5 σ w h; exact nomatch h
  | succ f ih =>
    intro x3 x5 σ w h
    rw [fX3_write_86] at h
    refine kR.iload dX3_write_86 4 rfl ?_
    refine kR.aload_n dX3_write_88 2 rfl ?_
    refine kR.getI dX3_write_89 flX3_45 zcf6 (zq0 b2) (Or.inl rfl) ?_
    refine kR.icmp_ge (tgt := 112) dX3_write_92 (by decide) h (fun h => ?_) (fun h => ?_)
    · refine zR.iinc 3 (v := x3 + 1) (ls' := [(3, .int (x3 + 1)), (0, .ref 35), (1, .ref 4), (2, .ref (rp b2 + 0)), (5, .int x5)]) dX3_write_112 rfl rfl (by decide) rfl ?_
      refine zR.goto (tgt := 15) dX3_write_115 (by decide) ?_
      refine zR.sub [1, 2, 3, 0] rfl ?_
      exact hr15 _ _ _ h
    · refine kR.aload_n dX3_write_95 0 rfl ?_
      refine kR.aload_n dX3_write_96 1 rfl ?_
      refine kR.iload_n dX3_write_97 3 rfl ?_
      refine kR.iload dX3_write_98 4 rfl ?_
      obtain ⟨v25, e26, h⟩ := bnr_some h
      refine kR.cVi [.int x3, .int x5] dX3_write_100 rfl (by decide) mwX3_48 zp4 (by decide) rfl rfl (Nat.le_of_ble_eq_true rfl) (lX7_thinksOf σ x3 x5 _ e26) ?_
      obtain ⟨σ27, e28, h⟩ := bnr_some h
      refine kR.cVv [.int v25] dX3_write_103 rfl (by decide) mwX3_25 zp35 (by decide) rfl rfl (Nat.le_of_ble_eq_true rfl) (lX3_addByte v25 σ _ e28) ?_
      refine zR.iinc 4 (v := x5 + 1) (ls' := [(5, .int (x5 + 1)), (0, .ref 35), (1, .ref 4), (2, .ref (rp b2 + 0)), (3, .int x3)]) dX3_write_106 rfl rfl (by decide) rfl ?_
      refine zR.goto (tgt := 86) dX3_write_109 (by decide) ?_
      refine zR.sub [1, 2, 3, 4, 0] rfl ?_
      exact ih _ _ _ _ h
def fX3_write_15 (b2 : Bool) : Nat → Int32 → zS → Option zS
  | 0, _, _ => none
  | f + 1, x3, σ => if (iG σ (rp b2 + 0) 2) ≤ x3 then fX3_write_124 b2 zF 107 0 σ else bnr (fX7_breathOf σ x3) fun v9 => bnr (fX3_addByte v9 σ) fun σ11 => bnr (fX7_givesOf σ11 x3) fun v13 => bnr (fX3_addByte v13 σ11) fun σ15 => bnr (fX7_scoreOf σ15 x3) fun v17 => bnr (fX3_addByte ((v17 + 100000) >>> (16 &&& 31)) σ15) fun σ19 => bnr (fX3_addByte (((v17 + 100000) >>> (8 &&& 31)) &&& 255) σ19) fun σ21 => bnr (fX3_addByte ((v17 + 100000) &&& 255) σ21) fun σ23 => fX3_write_86 b2 (fX3_write_15 b2 f) zF x3 0 σ23
theorem kX3_write_15 {sc : Nat × (Nat → Int32)} (b2 : Bool) : ∀ (fuel : Nat) (x3 : Int32) (σ : zS) (w : zS) (h : fX3_write_15 b2 fuel x3 σ = some w), zR (zY0 sc) 2 0 0 mX3_write 15 [(0, .ref 35), (1, .ref 4), (2, .ref (rp b2 + 0)), (3, .int x3)] [] (zE σ) (none, zE w) := by
  intro fuel
  induction fuel with
  | zero => intro x3 σ w h; exact nomatch h
  | succ f ih =>
    intro x3 σ w h
    rw [fX3_write_15] at h
    refine kR.iload_n dX3_write_15 3 rfl ?_
    refine kR.aload_n dX3_write_16 2 rfl ?_
    refine kR.getI dX3_write_17 flX3_29 zcf6 (zq0 b2) (Or.inl rfl) ?_
    refine kR.icmp_ge (tgt := 118) dX3_write_20 (by decide) h (fun h => ?_) (fun h => ?_)
    · refine zR.bipush (v := 107) dX3_write_118 (by decide) ?_
      refine zR.istore_n (i := 3) (ls' := [(3, .int 107), (0, .ref 35), (1, .ref 4), (2, .ref (rp b2 + 0))]) dX3_write_120 rfl (by decide) rfl ?_
      refine zR.iconst (v := 0) dX3_write_121 (by decide) ?_
      refine zR.istore (i := 4) (ls' := [(4, .int 0), (3, .int 107), (0, .ref 35), (1, .ref 4), (2, .ref (rp b2 + 0))]) dX3_write_122 (by decide) rfl ?_
      refine zR.sub [2, 1, 0] rfl ?_
      exact kX3_write_124 b2 zF _ _ _ _ h
    · refine kR.aload_n dX3_write_23 0 rfl ?_
      refine kR.aload_n dX3_write_24 1 rfl ?_
      refine kR.iload_n dX3_write_25 3 rfl ?_
      obtain ⟨v9, e10, h⟩ := bnr_some h
      refine kR.cVi [.int x3] dX3_write_26 rfl (by decide) mwX3_34 zp4 (by decide) rfl rfl (Nat.le_of_ble_eq_true rfl) (lX7_breathOf σ x3 _ e10) ?_
      obtain ⟨σ11, e12, h⟩ := bnr_some h
      refine kR.cVv [.int v9] dX3_write_29 rfl (by decide) mwX3_25 zp35 (by decide) rfl rfl (Nat.le_of_ble_eq_true rfl) (lX3_addByte v9 σ _ e12) ?_
      refine kR.aload_n dX3_write_32 0 rfl ?_
      refine kR.aload_n dX3_write_33 1 rfl ?_
      refine kR.iload_n dX3_write_34 3 rfl ?_
      obtain ⟨v13, e14, h⟩ := bnr_some h
      refine kR.cVi [.int x3] dX3_write_35 rfl (by decide) mwX3_38 zp4 (by decide) rfl rfl (Nat.le_of_ble_eq_true rfl) (lX7_givesOf σ11 x3 _ e14) ?_
      obtain ⟨σ15, e16, h⟩ := bnr_some h
      refine kR.cVv [.int v13] dX3_write_38 rfl (by decide) mwX3_25 zp35 (by decide) rfl rfl (Nat.le_of_ble_eq_true rfl) (lX3_addByte v13 σ11 _ e16) ?_
      refine kR.aload_n dX3_write_41 1 rfl ?_
      refine kR.iload_n dX3_write_42 3 rfl ?_
      obtain ⟨v17, e18, h⟩ := bnr_some h
      refine kR.cVi [.int x3] dX3_write_43 rfl (by decide) mwX3_41 zp4 (by decide) rfl rfl (Nat.le_of_ble_eq_true rfl) (lX7_scoreOf σ15 x3 _ e18) ?_
      refine zR.ldc (v := 100000) dX3_write_46 ciX3_44 ?_
      refine zR.iadd dX3_write_48 ?_
      refine zR.istore (i := 4) (ls' := [(4, .int (v17 + 100000)), (0, .ref 35), (1, .ref 4), (2, .ref (rp b2 + 0)), (3, .int x3)]) dX3_write_49 (by decide) rfl ?_
      refine kR.aload_n dX3_write_51 1 rfl ?_
      refine kR.iload dX3_write_52 0 rfl ?_
      refine zR.bipush (v := 16) dX3_write_54 (by decide) ?_
      refine zR.ishr dX3_write_56 ?_
      obtain ⟨σ19, e20, h⟩ := bnr_some h
      refine kR.cVv [.int ((v17 + 100000) >>> (16 &&& 31))] dX3_write_57 rfl (by decide) mwX3_25 zp35 (by decide) rfl rfl (Nat.le_of_ble_eq_true rfl) (lX3_addByte ((v17 + 100000) >>> (16 &&& 31)) σ15 _ e20) ?_
      refine kR.aload_n dX3_write_60 1 rfl ?_
      refine kR.iload dX3_write_61 0 rfl ?_
      refine zR.bipush (v := 8) dX3_write_63 (by decide) ?_
      refine zR.ishr dX3_write_65 ?_
      refine zR.sipush (v := 255) dX3_write_66 (by decide) ?_
      refine zR.iand dX3_write_69 ?_
      obtain ⟨σ21, e22, h⟩ := bnr_some h
      refine kR.cVv [.int (((v17 + 100000) >>> (8 &&& 31)) &&& 255)] dX3_write_70 rfl (by decide) mwX3_25 zp35 (by decide) rfl rfl (Nat.le_of_ble_eq_true rfl) (lX3_addByte (((v17 + 100000) >>> (8 &&& 31)) &&& 255) σ19 _ e22) ?_
      refine kR.aload_n dX3_write_73 1 rfl ?_
      refine kR.iload dX3_write_74 0 rfl ?_
      refine zR.sipush (v := 255) dX3_write_76 (by decide) ?_
      refine zR.iand dX3_write_79 ?_
      obtain ⟨σ23, e24, h⟩ := bnr_some h
      refine kR.cVv [.int ((v17 + 100000) &&& 255)] dX3_write_80 rfl (by decide) mwX3_25 zp35 (by decide) rfl rfl (Nat.le_of_ble_eq_true rfl) (lX3_addByte ((v17 + 100000) &&& 255) σ21 _ e24) ?_
      refine zR.iconst (v := 0) dX3_write_83 (by decide) ?_
      refine zR.istore (i := 5) (ls' := [(5, .int 0), (4, .int (v17 + 100000)), (0, .ref 35), (1, .ref 4), (2, .ref (rp b2 + 0)), (3, .int x3)]) dX3_write_84 (by decide) rfl ?_
      refine zR.sub [2, 3, 4, 5, 0] rfl ?_
      exact kX3_write_86 b2 (fX3_write_15 b2 f) ih zF _ _ _ _ h
def fX3_write (b2 : Bool) (σ : zS) : Option zS := bnd (iS σ 35 1 0) fun σ1 => bnr (fX7_nextTunnel σ1) fun v2 => bnr (fX3_addByte v2 σ1) fun σ4 => fX3_write_15 b2 zF 0 σ4
theorem eX3_write {sc : Nat × (Nat → Int32)} (b2 : Bool) (σ : zS) (w : zS) (h : fX3_write b2 σ = some w) : zR (zY0 sc) 2 0 0 mX3_write 0 [(0, .ref 35), (1, .ref 4), (2, .ref (rp b2 + 0))] [] (zE σ) (none, zE w) := by
  unfold fX3_write at h
  refine kR.aload_n dX3_write_0 0 rfl ?_
  refine zR.iconst (v := 0) dX3_write_1 (by decide) ?_
  refine kR.putI dX3_write_2 fpX3_15 zcf3 zp35 rfl h (fun σ1 h => ?_)
  refine kR.aload_n dX3_write_5 0 rfl ?_
  refine kR.aload_n dX3_write_6 1 rfl ?_
  obtain ⟨v2, e3, h⟩ := bnr_some h
  refine kR.cVi [] dX3_write_7 rfl (by decide) mwX3_19 zp4 (by decide) rfl rfl (Nat.le_of_ble_eq_true rfl) (lX7_nextTunnel σ1 _ e3) ?_
  obtain ⟨σ4, e5, h⟩ := bnr_some h
  refine kR.cVv [.int v2] dX3_write_10 rfl (by decide) mwX3_25 zp35 (by decide) rfl rfl (Nat.le_of_ble_eq_true rfl) (lX3_addByte v2 σ1 _ e5) ?_
  refine zR.iconst (v := 0) dX3_write_13 (by decide) ?_
  refine zR.istore_n (i := 3) (ls' := [(3, .int 0), (0, .ref 35), (1, .ref 4), (2, .ref (rp b2 + 0))]) dX3_write_14 rfl (by decide) rfl ?_
  refine zR.sub [1, 2, 3, 0] rfl ?_
  exact kX3_write_15 b2 zF _ _ _ h
theorem lX3_write {sc : Nat × (Nat → Int32)} (b2 : Bool) (σ : zS) (w : zS) (h : fX3_write b2 σ = some w) : zC (zY0 sc) 2 0 0 mX3_write [.ref 35, .ref 4, .ref (rp b2 + 0)] (zE σ) (none, zE w) := zC.of (by decide +kernel) (Nat.le_of_ble_eq_true rfl) rfl (eX3_write b2 σ w h)
theorem dX10_image_0 : decode cX10_image 0 = .ok (.aload_n 0, 1) := by decide +kernel
theorem dX10_image_1 : decode cX10_image 1 = .ok (.getfield 61, 3) := by decide +kernel
theorem dX10_image_4 : decode cX10_image 4 = .ok (.aload_n 0, 1) := by decide +kernel
theorem dX10_image_5 : decode cX10_image 5 = .ok (.getfield 19, 3) := by decide +kernel
theorem dX10_image_8 : decode cX10_image 8 = .ok (.aload_n 0, 1) := by decide +kernel
theorem dX10_image_9 : decode cX10_image 9 = .ok (.getfield 38, 3) := by decide +kernel
theorem dX10_image_12 : decode cX10_image 12 = .ok (.getfield 111, 3) := by decide +kernel
theorem dX10_image_15 : decode cX10_image 15 = .ok (.invokevirtual 307, 3) := by decide +kernel
theorem dX10_image_18 : decode cX10_image 18 = .ok (.aload_n 0, 1) := by decide +kernel
theorem dX10_image_19 : decode cX10_image 19 = .ok (.getfield 61, 3) := by decide +kernel
theorem dX10_image_22 : decode cX10_image 22 = .ok (.getfield 310, 3) := by decide +kernel
theorem dX10_image_25 : decode cX10_image 25 = .ok (.ireturn, 1) := by decide +kernel
def fX10_image (σ : zS) : Option (Int32 × zS) := bnr (fX3_write σ.2.2.2.1 σ) fun σ1 => some (iG σ1 35 1, σ1)
theorem eX10_image {sc : Nat × (Nat → Int32)} (σ : zS) (w : Int32 × zS) (h : fX10_image σ = some w) : zR (zY0 sc) 3 0 0 mX10_image 0 [(0, .ref 1)] [] (zE σ) (some (.int w.1), zE w.2) := by
  unfold fX10_image at h
  refine kR.aload_n dX10_image_0 0 rfl ?_
  refine kR.getR (v := 35) dX10_image_1 flX10_61 zcf10 zp1 (Or.inl ⟨_, rfl⟩) rfl ?_
  refine kR.aload_n dX10_image_4 0 rfl ?_
  refine kR.getR (v := 4) dX10_image_5 flX10_19 zcf10 zp1 (Or.inl ⟨_, rfl⟩) rfl ?_
  refine kR.aload_n dX10_image_8 0 rfl ?_
  refine kR.getR (v := 8) dX10_image_9 flX10_38 zcf10 zp1 (Or.inl ⟨_, rfl⟩) rfl ?_
  refine kR.getR (v := (rp σ.2.2.2.1 + 0)) dX10_image_12 flX10_111 zcf4 zp8 (Or.inl ⟨_, rfl⟩) rfl ?_
  obtain ⟨σ1, e2, h⟩ := bnr_some h
  refine kR.cVv [.ref 4, .ref (rp σ.2.2.2.1 + 0)] dX10_image_15 rfl (by decide) mwX10_307 zp35 (by decide) rfl rfl (Nat.le_of_ble_eq_true rfl) (lX3_write σ.2.2.2.1 σ _ e2) ?_
  refine kR.aload_n dX10_image_18 0 rfl ?_
  refine kR.getR (v := 35) dX10_image_19 flX10_61 zcf10 zp1 (Or.inl ⟨_, rfl⟩) rfl ?_
  refine kR.getI dX10_image_22 flX10_310 zcf3 zp35 (Or.inl rfl) ?_
  exact kR.iretW dX10_image_25 (nzI rfl _) h
theorem lX10_image {sc : Nat × (Nat → Int32)} (σ : zS) (w : Int32 × zS) (h : fX10_image σ = some w) : zC (zY0 sc) 3 0 0 mX10_image [.ref 1] (zE σ) (some (.int w.1), zE w.2) := zC.of (by decide +kernel) (Nat.le_of_ble_eq_true rfl) ⟨_, rfl⟩ (eX10_image σ w h)
theorem dX10_octet_0 : decode cX10_octet 0 = .ok (.iload_n 1, 1) := by decide +kernel
theorem dX10_octet_1 : decode cX10_octet 1 = .ok (.ifCond .lt 26, 3) := by decide +kernel
theorem dX10_octet_4 : decode cX10_octet 4 = .ok (.iload_n 1, 1) := by decide +kernel
theorem dX10_octet_5 : decode cX10_octet 5 = .ok (.aload_n 0, 1) := by decide +kernel
theorem dX10_octet_6 : decode cX10_octet 6 = .ok (.getfield 61, 3) := by decide +kernel
theorem dX10_octet_9 : decode cX10_octet 9 = .ok (.getfield 310, 3) := by decide +kernel
theorem dX10_octet_12 : decode cX10_octet 12 = .ok (.if_icmp .ge 15, 3) := by decide +kernel
theorem dX10_octet_15 : decode cX10_octet 15 = .ok (.aload_n 0, 1) := by decide +kernel
theorem dX10_octet_16 : decode cX10_octet 16 = .ok (.getfield 61, 3) := by decide +kernel
theorem dX10_octet_19 : decode cX10_octet 19 = .ok (.getfield 311, 3) := by decide +kernel
theorem dX10_octet_22 : decode cX10_octet 22 = .ok (.iload_n 1, 1) := by decide +kernel
theorem dX10_octet_23 : decode cX10_octet 23 = .ok (.iaload, 1) := by decide +kernel
theorem dX10_octet_24 : decode cX10_octet 24 = .ok (.goto 4, 3) := by decide +kernel
theorem dX10_octet_27 : decode cX10_octet 27 = .ok (.iconst (-1), 1) := by decide +kernel
theorem dX10_octet_28 : decode cX10_octet 28 = .ok (.ireturn, 1) := by decide +kernel
def fX10_octet (σ : zS) (p1 : Int32) : Option Int32 := if p1 < 0 then some ((-1)) else if (iG σ 35 1) ≤ p1 then some ((-1)) else aI σ 36 68 p1 fun v1 => some v1
theorem eX10_octet {sc : Nat × (Nat → Int32)} (σ : zS) (p1 : Int32) (w : Int32) (h : fX10_octet σ p1 = some w) : zR (zY0 sc) 1 0 0 mX10_octet 0 [(0, .ref 1), (1, .int p1)] [] (zE σ) (some (.int w), zE σ) := by
  unfold fX10_octet at h
  refine kR.iload_n dX10_octet_0 1 rfl ?_
  refine kR.if_lt (tgt := 27) dX10_octet_1 (by decide) h (fun h => ?_) (fun h => ?_)
  · refine zR.iconst (v := (-1)) dX10_octet_27 (by decide) ?_
    exact kR.iretO dX10_octet_28 (nzI rfl _) h
  · refine kR.iload_n dX10_octet_4 1 rfl ?_
    refine kR.aload_n dX10_octet_5 0 rfl ?_
    refine kR.getR (v := 35) dX10_octet_6 flX10_61 zcf10 zp1 (Or.inl ⟨_, rfl⟩) rfl ?_
    refine kR.getI dX10_octet_9 flX10_310 zcf3 zp35 (Or.inl rfl) ?_
    refine kR.icmp_ge (tgt := 27) dX10_octet_12 (by decide) h (fun h => ?_) (fun h => ?_)
    · refine zR.iconst (v := (-1)) dX10_octet_27 (by decide) ?_
      exact kR.iretO dX10_octet_28 (nzI rfl _) h
    · refine kR.aload_n dX10_octet_15 0 rfl ?_
      refine kR.getR (v := 35) dX10_octet_16 flX10_61 zcf10 zp1 (Or.inl ⟨_, rfl⟩) rfl ?_
      refine kR.getR (v := 36) dX10_octet_19 flX10_311 zcf3 zp35 (Or.inr ⟨_, rfl⟩) rfl ?_
      refine kR.iload_n dX10_octet_22 1 rfl ?_
      refine kR.iald dX10_octet_23 zp36 rfl h (fun v1 h => ?_)
      refine zR.goto (tgt := 28) dX10_octet_24 (by decide) ?_
      exact kR.iretO dX10_octet_28 (nzI rfl _) h
theorem lX10_octet {sc : Nat × (Nat → Int32)} (σ : zS) (p1 : Int32) (w : Int32) (h : fX10_octet σ p1 = some w) : zC (zY0 sc) 1 0 0 mX10_octet [.ref 1, .int p1] (zE σ) (some (.int w), zE σ) := zC.of (by decide +kernel) (Nat.le_of_ble_eq_true rfl) ⟨_, rfl⟩ (eX10_octet σ p1 w h)
theorem dX3_holderSize_0 : decode cX3_holderSize 0 = .ok (.iconst 5, 1) := by decide +kernel
theorem dX3_holderSize_1 : decode cX3_holderSize 1 = .ok (.aload_n 0, 1) := by decide +kernel
theorem dX3_holderSize_2 : decode cX3_holderSize 2 = .ok (.getfield 45, 3) := by decide +kernel
theorem dX3_holderSize_5 : decode cX3_holderSize 5 = .ok (.iadd, 1) := by decide +kernel
theorem dX3_holderSize_6 : decode cX3_holderSize 6 = .ok (.ireturn, 1) := by decide +kernel
def fX3_holderSize (b0 : Bool) (σ : zS) : Int32 := 5 + (iG σ (rp b0 + 0) 1)
theorem eX3_holderSize {sc : Nat × (Nat → Int32)} (b0 : Bool) (σ : zS) (w : Int32) (h : fX3_holderSize b0 σ = w) : zR (zY0 sc) 1 0 0 mX3_holderSize 0 [(0, .ref (rp b0 + 0))] [] (zE σ) (some (.int w), zE σ) := by
  unfold fX3_holderSize at h
  refine zR.iconst (v := 5) dX3_holderSize_0 (by decide) ?_
  refine kR.aload_n dX3_holderSize_1 0 rfl ?_
  refine kR.getI dX3_holderSize_2 flX3_45 zcf6 (zq0 b0) (Or.inl rfl) ?_
  refine zR.iadd dX3_holderSize_5 ?_
  exact kR.iret dX3_holderSize_6 (nzI rfl _) h
theorem lX3_holderSize {sc : Nat × (Nat → Int32)} (b0 : Bool) (σ : zS) : zC (zY0 sc) 1 0 0 mX3_holderSize [.ref (rp b0 + 0)] (zE σ) (some (.int (fX3_holderSize b0 σ)), zE σ) := zC.of (by decide +kernel) (Nat.le_of_ble_eq_true rfl) ⟨_, rfl⟩ (eX3_holderSize b0 σ _ rfl)
theorem dX3_scoreAt_0 : decode cX3_scoreAt 0 = .ok (.aload_n 0, 1) := by decide +kernel
theorem dX3_scoreAt_1 : decode cX3_scoreAt 1 = .ok (.iload_n 1, 1) := by decide +kernel
theorem dX3_scoreAt_2 : decode cX3_scoreAt 2 = .ok (.invokevirtual 62, 3) := by decide +kernel
theorem dX3_scoreAt_5 : decode cX3_scoreAt 5 = .ok (.bipush 16, 2) := by decide +kernel
theorem dX3_scoreAt_7 : decode cX3_scoreAt 7 = .ok (.ishl, 1) := by decide +kernel
theorem dX3_scoreAt_8 : decode cX3_scoreAt 8 = .ok (.aload_n 0, 1) := by decide +kernel
theorem dX3_scoreAt_9 : decode cX3_scoreAt 9 = .ok (.iload_n 1, 1) := by decide +kernel
theorem dX3_scoreAt_10 : decode cX3_scoreAt 10 = .ok (.iconst 1, 1) := by decide +kernel
theorem dX3_scoreAt_11 : decode cX3_scoreAt 11 = .ok (.iadd, 1) := by decide +kernel
theorem dX3_scoreAt_12 : decode cX3_scoreAt 12 = .ok (.invokevirtual 62, 3) := by decide +kernel
theorem dX3_scoreAt_15 : decode cX3_scoreAt 15 = .ok (.bipush 8, 2) := by decide +kernel
theorem dX3_scoreAt_17 : decode cX3_scoreAt 17 = .ok (.ishl, 1) := by decide +kernel
theorem dX3_scoreAt_18 : decode cX3_scoreAt 18 = .ok (.ior, 1) := by decide +kernel
theorem dX3_scoreAt_19 : decode cX3_scoreAt 19 = .ok (.aload_n 0, 1) := by decide +kernel
theorem dX3_scoreAt_20 : decode cX3_scoreAt 20 = .ok (.iload_n 1, 1) := by decide +kernel
theorem dX3_scoreAt_21 : decode cX3_scoreAt 21 = .ok (.iconst 2, 1) := by decide +kernel
theorem dX3_scoreAt_22 : decode cX3_scoreAt 22 = .ok (.iadd, 1) := by decide +kernel
theorem dX3_scoreAt_23 : decode cX3_scoreAt 23 = .ok (.invokevirtual 62, 3) := by decide +kernel
theorem dX3_scoreAt_26 : decode cX3_scoreAt 26 = .ok (.ior, 1) := by decide +kernel
theorem dX3_scoreAt_27 : decode cX3_scoreAt 27 = .ok (.ldc 44, 2) := by decide +kernel
theorem dX3_scoreAt_29 : decode cX3_scoreAt 29 = .ok (.isub, 1) := by decide +kernel
theorem dX3_scoreAt_30 : decode cX3_scoreAt 30 = .ok (.ireturn, 1) := by decide +kernel
def fX3_scoreAt (σ : zS) (p1 : Int32) : Option Int32 := bnr (fX9_byteAt σ p1) fun v1 => bnr (fX9_byteAt σ (p1 + 1)) fun v3 => bnr (fX9_byteAt σ (p1 + 2)) fun v5 => some ((((v1 <<< (16 &&& 31)) ||| (v3 <<< (8 &&& 31))) ||| v5) - 100000)
theorem eX3_scoreAt {sc : Nat × (Nat → Int32)} (σ : zS) (p1 : Int32) (w : Int32) (h : fX3_scoreAt σ p1 = some w) : zR (zY0 sc) 2 0 0 mX3_scoreAt 0 [(0, .ref 2), (1, .int p1)] [] (zE σ) (some (.int w), zE σ) := by
  unfold fX3_scoreAt at h
  refine kR.aload_n dX3_scoreAt_0 0 rfl ?_
  refine kR.iload_n dX3_scoreAt_1 1 rfl ?_
  obtain ⟨v1, e2, h⟩ := bnr_some h
  refine kR.cVi [.int p1] dX3_scoreAt_2 rfl (by decide) mwX3_62 zp2 (by decide) rfl rfl (Nat.le_of_ble_eq_true rfl) (lX9_byteAt σ p1 _ e2) ?_
  refine zR.bipush (v := 16) dX3_scoreAt_5 (by decide) ?_
  refine zR.ishl dX3_scoreAt_7 ?_
  refine kR.aload_n dX3_scoreAt_8 0 rfl ?_
  refine kR.iload_n dX3_scoreAt_9 1 rfl ?_
  refine zR.iconst (v := 1) dX3_scoreAt_10 (by decide) ?_
  refine zR.iadd dX3_scoreAt_11 ?_
  obtain ⟨v3, e4, h⟩ := bnr_some h
  refine kR.cVi [.int (p1 + 1)] dX3_scoreAt_12 rfl (by decide) mwX3_62 zp2 (by decide) rfl rfl (Nat.le_of_ble_eq_true rfl) (lX9_byteAt σ (p1 + 1) _ e4) ?_
  refine zR.bipush (v := 8) dX3_scoreAt_15 (by decide) ?_
  refine zR.ishl dX3_scoreAt_17 ?_
  refine zR.ior dX3_scoreAt_18 ?_
  refine kR.aload_n dX3_scoreAt_19 0 rfl ?_
  refine kR.iload_n dX3_scoreAt_20 1 rfl ?_
  refine zR.iconst (v := 2) dX3_scoreAt_21 (by decide) ?_
  refine zR.iadd dX3_scoreAt_22 ?_
  obtain ⟨v5, e6, h⟩ := bnr_some h
  refine kR.cVi [.int (p1 + 2)] dX3_scoreAt_23 rfl (by decide) mwX3_62 zp2 (by decide) rfl rfl (Nat.le_of_ble_eq_true rfl) (lX9_byteAt σ (p1 + 2) _ e6) ?_
  refine zR.ior dX3_scoreAt_26 ?_
  refine zR.ldc (v := 100000) dX3_scoreAt_27 ciX3_44 ?_
  refine zR.isub dX3_scoreAt_29 ?_
  exact kR.iretO dX3_scoreAt_30 (nzI rfl _) h
theorem lX3_scoreAt {sc : Nat × (Nat → Int32)} (σ : zS) (p1 : Int32) (w : Int32) (h : fX3_scoreAt σ p1 = some w) : zC (zY0 sc) 2 0 0 mX3_scoreAt [.ref 2, .int p1] (zE σ) (some (.int w), zE σ) := zC.of (by decide +kernel) (Nat.le_of_ble_eq_true rfl) ⟨_, rfl⟩ (eX3_scoreAt σ p1 w h)
theorem dX3_isHolderAt_0 : decode cX3_isHolderAt 0 = .ok (.aload_n 0, 1) := by decide +kernel
theorem dX3_isHolderAt_1 : decode cX3_isHolderAt 1 = .ok (.iload_n 1, 1) := by decide +kernel
theorem dX3_isHolderAt_2 : decode cX3_isHolderAt 2 = .ok (.invokevirtual 62, 3) := by decide +kernel
theorem dX3_isHolderAt_5 : decode cX3_isHolderAt 5 = .ok (.invokestatic 73, 3) := by decide +kernel
theorem dX3_isHolderAt_8 : decode cX3_isHolderAt 8 = .ok (.ifCond .eq 16, 3) := by decide +kernel
theorem dX3_isHolderAt_11 : decode cX3_isHolderAt 11 = .ok (.aload_n 0, 1) := by decide +kernel
theorem dX3_isHolderAt_12 : decode cX3_isHolderAt 12 = .ok (.iload_n 1, 1) := by decide +kernel
theorem dX3_isHolderAt_13 : decode cX3_isHolderAt 13 = .ok (.iconst 1, 1) := by decide +kernel
theorem dX3_isHolderAt_14 : decode cX3_isHolderAt 14 = .ok (.iadd, 1) := by decide +kernel
theorem dX3_isHolderAt_15 : decode cX3_isHolderAt 15 = .ok (.invokevirtual 62, 3) := by decide +kernel
theorem dX3_isHolderAt_18 : decode cX3_isHolderAt 18 = .ok (.invokestatic 73, 3) := by decide +kernel
theorem dX3_isHolderAt_21 : decode cX3_isHolderAt 21 = .ok (.ifCond .ne 5, 3) := by decide +kernel
theorem dX3_isHolderAt_24 : decode cX3_isHolderAt 24 = .ok (.iconst 0, 1) := by decide +kernel
theorem dX3_isHolderAt_25 : decode cX3_isHolderAt 25 = .ok (.ireturn, 1) := by decide +kernel
theorem dX3_isHolderAt_26 : decode cX3_isHolderAt 26 = .ok (.aload_n 0, 1) := by decide +kernel
theorem dX3_isHolderAt_27 : decode cX3_isHolderAt 27 = .ok (.iload_n 1, 1) := by decide +kernel
theorem dX3_isHolderAt_28 : decode cX3_isHolderAt 28 = .ok (.iconst 2, 1) := by decide +kernel
theorem dX3_isHolderAt_29 : decode cX3_isHolderAt 29 = .ok (.iadd, 1) := by decide +kernel
theorem dX3_isHolderAt_30 : decode cX3_isHolderAt 30 = .ok (.invokestatic 76, 3) := by decide +kernel
theorem dX3_isHolderAt_33 : decode cX3_isHolderAt 33 = .ok (.istore_n 3, 1) := by decide +kernel
theorem dX3_isHolderAt_34 : decode cX3_isHolderAt 34 = .ok (.iload_n 3, 1) := by decide +kernel
theorem dX3_isHolderAt_35 : decode cX3_isHolderAt 35 = .ok (.ldc 80, 2) := by decide +kernel
theorem dX3_isHolderAt_37 : decode cX3_isHolderAt 37 = .ok (.if_icmp .lt 9, 3) := by decide +kernel
theorem dX3_isHolderAt_40 : decode cX3_isHolderAt 40 = .ok (.iload_n 3, 1) := by decide +kernel
theorem dX3_isHolderAt_41 : decode cX3_isHolderAt 41 = .ok (.ldc 81, 2) := by decide +kernel
theorem dX3_isHolderAt_43 : decode cX3_isHolderAt 43 = .ok (.if_icmp .le 5, 3) := by decide +kernel
theorem dX3_isHolderAt_46 : decode cX3_isHolderAt 46 = .ok (.iconst 0, 1) := by decide +kernel
theorem dX3_isHolderAt_47 : decode cX3_isHolderAt 47 = .ok (.ireturn, 1) := by decide +kernel
theorem dX3_isHolderAt_48 : decode cX3_isHolderAt 48 = .ok (.iconst 0, 1) := by decide +kernel
theorem dX3_isHolderAt_49 : decode cX3_isHolderAt 49 = .ok (.istore 4, 2) := by decide +kernel
theorem dX3_isHolderAt_51 : decode cX3_isHolderAt 51 = .ok (.iload 4, 2) := by decide +kernel
theorem dX3_isHolderAt_53 : decode cX3_isHolderAt 53 = .ok (.iload_n 2, 1) := by decide +kernel
theorem dX3_isHolderAt_54 : decode cX3_isHolderAt 54 = .ok (.if_icmp .ge 27, 3) := by decide +kernel
theorem dX3_isHolderAt_57 : decode cX3_isHolderAt 57 = .ok (.aload_n 0, 1) := by decide +kernel
theorem dX3_isHolderAt_58 : decode cX3_isHolderAt 58 = .ok (.iload_n 1, 1) := by decide +kernel
theorem dX3_isHolderAt_59 : decode cX3_isHolderAt 59 = .ok (.iconst 5, 1) := by decide +kernel
theorem dX3_isHolderAt_60 : decode cX3_isHolderAt 60 = .ok (.iadd, 1) := by decide +kernel
theorem dX3_isHolderAt_61 : decode cX3_isHolderAt 61 = .ok (.iload 4, 2) := by decide +kernel
theorem dX3_isHolderAt_63 : decode cX3_isHolderAt 63 = .ok (.iadd, 1) := by decide +kernel
theorem dX3_isHolderAt_64 : decode cX3_isHolderAt 64 = .ok (.invokevirtual 62, 3) := by decide +kernel
theorem dX3_isHolderAt_67 : decode cX3_isHolderAt 67 = .ok (.invokestatic 73, 3) := by decide +kernel
theorem dX3_isHolderAt_70 : decode cX3_isHolderAt 70 = .ok (.ifCond .ne 5, 3) := by decide +kernel
theorem dX3_isHolderAt_73 : decode cX3_isHolderAt 73 = .ok (.iconst 0, 1) := by decide +kernel
theorem dX3_isHolderAt_74 : decode cX3_isHolderAt 74 = .ok (.ireturn, 1) := by decide +kernel
theorem dX3_isHolderAt_75 : decode cX3_isHolderAt 75 = .ok (.iinc 4 1, 3) := by decide +kernel
theorem dX3_isHolderAt_78 : decode cX3_isHolderAt 78 = .ok (.goto (-27), 3) := by decide +kernel
theorem dX3_isHolderAt_81 : decode cX3_isHolderAt 81 = .ok (.iconst 1, 1) := by decide +kernel
theorem dX3_isHolderAt_82 : decode cX3_isHolderAt 82 = .ok (.ireturn, 1) := by decide +kernel
def fX3_isHolderAt_51 (σ : zS) : Nat → Int32 → Int32 → Int32 → Option Int32
  | 0, _, _, _ => none
  | f + 1, x1, x2, x4 => if x2 ≤ x4 then some 1 else bnr (fX9_byteAt σ ((x1 + 5) + x4)) fun v7 => if (fX10_isSecond v7) = 0 then some 0 else fX3_isHolderAt_51 σ f x1 x2 (x4 + 1)
theorem kX3_isHolderAt_51 {sc : Nat × (Nat → Int32)} (σ : zS) : ∀ (fuel : Nat) (x1 : Int32) (x2 : Int32) (x4 : Int32) (w : Int32) (h : fX3_isHolderAt_51 σ fuel x1 x2 x4 = some w), zR (zY0 sc) 3 0 0 mX3_isHolderAt 51 [(0, .ref 2), (1, .int x1), (2, .int x2), (4, .int x4)] [] (zE σ) (some (.int w), zE σ) := by
  intro fuel
  induction fuel with
  | zero => intro x1 x2 x4 w h; exact nomatch h
  | succ f ih =>
    intro x1 x2 x4 w h
    rw [fX3_isHolderAt_51] at h
    refine kR.iload dX3_isHolderAt_51 3 rfl ?_
    refine kR.iload_n dX3_isHolderAt_53 2 rfl ?_
    refine kR.icmp_ge (tgt := 81) dX3_isHolderAt_54 (by decide) h (fun h => ?_) (fun h => ?_)
    · refine zR.iconst (v := 1) dX3_isHolderAt_81 (by decide) ?_
      exact kR.iretO dX3_isHolderAt_82 (nzZ rfl (Or.inr rfl)) h
    · refine kR.aload_n dX3_isHolderAt_57 0 rfl ?_
      refine kR.iload_n dX3_isHolderAt_58 1 rfl ?_
      refine zR.iconst (v := 5) dX3_isHolderAt_59 (by decide) ?_
      refine zR.iadd dX3_isHolderAt_60 ?_
      refine kR.iload dX3_isHolderAt_61 3 rfl ?_
      refine zR.iadd dX3_isHolderAt_63 ?_
      obtain ⟨v7, e8, h⟩ := bnr_some h
      refine kR.cVi [.int ((x1 + 5) + x4)] dX3_isHolderAt_64 rfl (by decide) mwX3_62 zp2 (by decide) rfl rfl (Nat.le_of_ble_eq_true rfl) (lX9_byteAt σ ((x1 + 5) + x4) _ e8) ?_
      refine kR.cSi [.int v7] dX3_isHolderAt_67 rfl (by decide) (Or.inr mwX3_73) rfl (Nat.le_of_ble_eq_true rfl) (lX10_isSecond v7) ?_
      refine kR.if_ne (tgt := 75) dX3_isHolderAt_70 (by decide) h (fun h => ?_) (fun h => ?_)
      · refine zR.iinc 3 (v := x4 + 1) (ls' := [(4, .int (x4 + 1)), (0, .ref 2), (1, .int x1), (2, .int x2)]) dX3_isHolderAt_75 rfl rfl (by decide) rfl ?_
        refine zR.goto (tgt := 51) dX3_isHolderAt_78 (by decide) ?_
        refine zR.sub [1, 2, 3, 0] rfl ?_
        exact ih _ _ _ _ h
      · refine zR.iconst (v := 0) dX3_isHolderAt_73 (by decide) ?_
        exact kR.iretO dX3_isHolderAt_74 (nzZ rfl (Or.inl rfl)) h
def fX3_isHolderAt (σ : zS) (p1 : Int32) (p2 : Int32) : Option Int32 := bnr (fX9_byteAt σ p1) fun v1 => if (fX10_isSecond v1) = 0 then some 0 else bnr (fX9_byteAt σ (p1 + 1)) fun v3 => if (fX10_isSecond v3) = 0 then some 0 else bnr (fX3_scoreAt σ (p1 + 2)) fun v5 => if v5 < ((-99999)) then some 0 else if v5 ≤ 99999 then fX3_isHolderAt_51 σ zF p1 p2 0 else some 0
theorem eX3_isHolderAt {sc : Nat × (Nat → Int32)} (σ : zS) (p1 : Int32) (p2 : Int32) (w : Int32) (h : fX3_isHolderAt σ p1 p2 = some w) : zR (zY0 sc) 3 0 0 mX3_isHolderAt 0 [(0, .ref 2), (1, .int p1), (2, .int p2)] [] (zE σ) (some (.int w), zE σ) := by
  unfold fX3_isHolderAt at h
  refine kR.aload_n dX3_isHolderAt_0 0 rfl ?_
  refine kR.iload_n dX3_isHolderAt_1 1 rfl ?_
  obtain ⟨v1, e2, h⟩ := bnr_some h
  refine kR.cVi [.int p1] dX3_isHolderAt_2 rfl (by decide) mwX3_62 zp2 (by decide) rfl rfl (Nat.le_of_ble_eq_true rfl) (lX9_byteAt σ p1 _ e2) ?_
  refine kR.cSi [.int v1] dX3_isHolderAt_5 rfl (by decide) (Or.inr mwX3_73) rfl (Nat.le_of_ble_eq_true rfl) (lX10_isSecond v1) ?_
  refine kR.if_eq (tgt := 24) dX3_isHolderAt_8 (by decide) h (fun h => ?_) (fun h => ?_)
  · refine zR.iconst (v := 0) dX3_isHolderAt_24 (by decide) ?_
    exact kR.iretO dX3_isHolderAt_25 (nzZ rfl (Or.inl rfl)) h
  · refine kR.aload_n dX3_isHolderAt_11 0 rfl ?_
    refine kR.iload_n dX3_isHolderAt_12 1 rfl ?_
    refine zR.iconst (v := 1) dX3_isHolderAt_13 (by decide) ?_
    refine zR.iadd dX3_isHolderAt_14 ?_
    obtain ⟨v3, e4, h⟩ := bnr_some h
    refine kR.cVi [.int (p1 + 1)] dX3_isHolderAt_15 rfl (by decide) mwX3_62 zp2 (by decide) rfl rfl (Nat.le_of_ble_eq_true rfl) (lX9_byteAt σ (p1 + 1) _ e4) ?_
    refine kR.cSi [.int v3] dX3_isHolderAt_18 rfl (by decide) (Or.inr mwX3_73) rfl (Nat.le_of_ble_eq_true rfl) (lX10_isSecond v3) ?_
    refine kR.if_ne (tgt := 26) dX3_isHolderAt_21 (by decide) h (fun h => ?_) (fun h => ?_)
    · refine kR.aload_n dX3_isHolderAt_26 0 rfl ?_
      refine kR.iload_n dX3_isHolderAt_27 1 rfl ?_
      refine zR.iconst (v := 2) dX3_isHolderAt_28 (by decide) ?_
      refine zR.iadd dX3_isHolderAt_29 ?_
      obtain ⟨v5, e6, h⟩ := bnr_some h
      refine kR.cSi [.ref 2, .int (p1 + 2)] dX3_isHolderAt_30 rfl (by decide) (Or.inl mwX3_76) rfl (Nat.le_of_ble_eq_true rfl) (lX3_scoreAt σ (p1 + 2) _ e6) ?_
      refine zR.istore_n (i := 3) (ls' := [(3, .int v5), (0, .ref 2), (1, .int p1), (2, .int p2)]) dX3_isHolderAt_33 rfl (by decide) rfl ?_
      refine kR.iload_n dX3_isHolderAt_34 0 rfl ?_
      refine zR.ldc (v := (-99999)) dX3_isHolderAt_35 ciX3_80 ?_
      refine kR.icmp_lt (tgt := 46) dX3_isHolderAt_37 (by decide) h (fun h => ?_) (fun h => ?_)
      · refine zR.iconst (v := 0) dX3_isHolderAt_46 (by decide) ?_
        exact kR.iretO dX3_isHolderAt_47 (nzZ rfl (Or.inl rfl)) h
      · refine kR.iload_n dX3_isHolderAt_40 0 rfl ?_
        refine zR.ldc (v := 99999) dX3_isHolderAt_41 ciX3_81 ?_
        refine kR.icmp_le (tgt := 48) dX3_isHolderAt_43 (by decide) h (fun h => ?_) (fun h => ?_)
        · refine zR.iconst (v := 0) dX3_isHolderAt_48 (by decide) ?_
          refine zR.istore (i := 4) (ls' := [(4, .int 0), (3, .int v5), (0, .ref 2), (1, .int p1), (2, .int p2)]) dX3_isHolderAt_49 (by decide) rfl ?_
          refine zR.sub [2, 3, 4, 0] rfl ?_
          exact kX3_isHolderAt_51 σ zF _ _ _ _ h
        · refine zR.iconst (v := 0) dX3_isHolderAt_46 (by decide) ?_
          exact kR.iretO dX3_isHolderAt_47 (nzZ rfl (Or.inl rfl)) h
    · refine zR.iconst (v := 0) dX3_isHolderAt_24 (by decide) ?_
      exact kR.iretO dX3_isHolderAt_25 (nzZ rfl (Or.inl rfl)) h
theorem lX3_isHolderAt {sc : Nat × (Nat → Int32)} (σ : zS) (p1 : Int32) (p2 : Int32) (w : Int32) (h : fX3_isHolderAt σ p1 p2 = some w) : zC (zY0 sc) 3 0 0 mX3_isHolderAt [.ref 2, .int p1, .int p2] (zE σ) (some (.int w), zE σ) := zC.of (by decide +kernel) (Nat.le_of_ble_eq_true rfl) ⟨_, rfl⟩ (eX3_isHolderAt σ p1 p2 w h)
theorem dX3_isOf_0 : decode cX3_isOf 0 = .ok (.iconst 1, 1) := by decide +kernel
theorem dX3_isOf_1 : decode cX3_isOf 1 = .ok (.aload_n 1, 1) := by decide +kernel
theorem dX3_isOf_2 : decode cX3_isOf 2 = .ok (.getfield 29, 3) := by decide +kernel
theorem dX3_isOf_5 : decode cX3_isOf 5 = .ok (.aload_n 1, 1) := by decide +kernel
theorem dX3_isOf_6 : decode cX3_isOf 6 = .ok (.invokestatic 55, 3) := by decide +kernel
theorem dX3_isOf_9 : decode cX3_isOf 9 = .ok (.imul, 1) := by decide +kernel
theorem dX3_isOf_10 : decode cX3_isOf 10 = .ok (.iadd, 1) := by decide +kernel
theorem dX3_isOf_11 : decode cX3_isOf 11 = .ok (.istore_n 2, 1) := by decide +kernel
theorem dX3_isOf_12 : decode cX3_isOf 12 = .ok (.aload_n 0, 1) := by decide +kernel
theorem dX3_isOf_13 : decode cX3_isOf 13 = .ok (.getfield 59, 3) := by decide +kernel
theorem dX3_isOf_16 : decode cX3_isOf 16 = .ok (.iload_n 2, 1) := by decide +kernel
theorem dX3_isOf_17 : decode cX3_isOf 17 = .ok (.iconst 1, 1) := by decide +kernel
theorem dX3_isOf_18 : decode cX3_isOf 18 = .ok (.iadd, 1) := by decide +kernel
theorem dX3_isOf_19 : decode cX3_isOf 19 = .ok (.if_icmp .eq 5, 3) := by decide +kernel
theorem dX3_isOf_22 : decode cX3_isOf 22 = .ok (.iconst 0, 1) := by decide +kernel
theorem dX3_isOf_23 : decode cX3_isOf 23 = .ok (.ireturn, 1) := by decide +kernel
theorem dX3_isOf_24 : decode cX3_isOf 24 = .ok (.bipush 107, 2) := by decide +kernel
theorem dX3_isOf_26 : decode cX3_isOf 26 = .ok (.istore_n 3, 1) := by decide +kernel
theorem dX3_isOf_27 : decode cX3_isOf 27 = .ok (.iconst 0, 1) := by decide +kernel
theorem dX3_isOf_28 : decode cX3_isOf 28 = .ok (.istore 4, 2) := by decide +kernel
theorem dX3_isOf_30 : decode cX3_isOf 30 = .ok (.iload 4, 2) := by decide +kernel
theorem dX3_isOf_32 : decode cX3_isOf 32 = .ok (.iload_n 2, 1) := by decide +kernel
theorem dX3_isOf_33 : decode cX3_isOf 33 = .ok (.if_icmp .ge 20, 3) := by decide +kernel
theorem dX3_isOf_36 : decode cX3_isOf 36 = .ok (.iload_n 3, 1) := by decide +kernel
theorem dX3_isOf_37 : decode cX3_isOf 37 = .ok (.aload_n 0, 1) := by decide +kernel
theorem dX3_isOf_38 : decode cX3_isOf 38 = .ok (.iload 4, 2) := by decide +kernel
theorem dX3_isOf_40 : decode cX3_isOf 40 = .ok (.invokevirtual 62, 3) := by decide +kernel
theorem dX3_isOf_43 : decode cX3_isOf 43 = .ok (.invokestatic 52, 3) := by decide +kernel
theorem dX3_isOf_46 : decode cX3_isOf 46 = .ok (.istore_n 3, 1) := by decide +kernel
theorem dX3_isOf_47 : decode cX3_isOf 47 = .ok (.iinc 4 1, 3) := by decide +kernel
theorem dX3_isOf_50 : decode cX3_isOf 50 = .ok (.goto (-20), 3) := by decide +kernel
theorem dX3_isOf_53 : decode cX3_isOf 53 = .ok (.iload_n 3, 1) := by decide +kernel
theorem dX3_isOf_54 : decode cX3_isOf 54 = .ok (.aload_n 0, 1) := by decide +kernel
theorem dX3_isOf_55 : decode cX3_isOf 55 = .ok (.iload_n 2, 1) := by decide +kernel
theorem dX3_isOf_56 : decode cX3_isOf 56 = .ok (.invokevirtual 62, 3) := by decide +kernel
theorem dX3_isOf_59 : decode cX3_isOf 59 = .ok (.if_icmp .eq 5, 3) := by decide +kernel
theorem dX3_isOf_62 : decode cX3_isOf 62 = .ok (.iconst 0, 1) := by decide +kernel
theorem dX3_isOf_63 : decode cX3_isOf 63 = .ok (.ireturn, 1) := by decide +kernel
theorem dX3_isOf_64 : decode cX3_isOf 64 = .ok (.aload_n 0, 1) := by decide +kernel
theorem dX3_isOf_65 : decode cX3_isOf 65 = .ok (.iconst 0, 1) := by decide +kernel
theorem dX3_isOf_66 : decode cX3_isOf 66 = .ok (.invokevirtual 62, 3) := by decide +kernel
theorem dX3_isOf_69 : decode cX3_isOf 69 = .ok (.ifCond .eq 17, 3) := by decide +kernel
theorem dX3_isOf_72 : decode cX3_isOf 72 = .ok (.aload_n 1, 1) := by decide +kernel
theorem dX3_isOf_73 : decode cX3_isOf 73 = .ok (.aload_n 0, 1) := by decide +kernel
theorem dX3_isOf_74 : decode cX3_isOf 74 = .ok (.iconst 0, 1) := by decide +kernel
theorem dX3_isOf_75 : decode cX3_isOf 75 = .ok (.invokevirtual 62, 3) := by decide +kernel
theorem dX3_isOf_78 : decode cX3_isOf 78 = .ok (.invokevirtual 65, 3) := by decide +kernel
theorem dX3_isOf_81 : decode cX3_isOf 81 = .ok (.ifCond .ne 5, 3) := by decide +kernel
theorem dX3_isOf_84 : decode cX3_isOf 84 = .ok (.iconst 0, 1) := by decide +kernel
theorem dX3_isOf_85 : decode cX3_isOf 85 = .ok (.ireturn, 1) := by decide +kernel
theorem dX3_isOf_86 : decode cX3_isOf 86 = .ok (.iconst 0, 1) := by decide +kernel
theorem dX3_isOf_87 : decode cX3_isOf 87 = .ok (.istore 4, 2) := by decide +kernel
theorem dX3_isOf_89 : decode cX3_isOf 89 = .ok (.iload 4, 2) := by decide +kernel
theorem dX3_isOf_91 : decode cX3_isOf 91 = .ok (.aload_n 1, 1) := by decide +kernel
theorem dX3_isOf_92 : decode cX3_isOf 92 = .ok (.getfield 29, 3) := by decide +kernel
theorem dX3_isOf_95 : decode cX3_isOf 95 = .ok (.if_icmp .ge 31, 3) := by decide +kernel
theorem dX3_isOf_98 : decode cX3_isOf 98 = .ok (.aload_n 0, 1) := by decide +kernel
theorem dX3_isOf_99 : decode cX3_isOf 99 = .ok (.iconst 1, 1) := by decide +kernel
theorem dX3_isOf_100 : decode cX3_isOf 100 = .ok (.iload 4, 2) := by decide +kernel
theorem dX3_isOf_102 : decode cX3_isOf 102 = .ok (.aload_n 1, 1) := by decide +kernel
theorem dX3_isOf_103 : decode cX3_isOf 103 = .ok (.invokestatic 55, 3) := by decide +kernel
theorem dX3_isOf_106 : decode cX3_isOf 106 = .ok (.imul, 1) := by decide +kernel
theorem dX3_isOf_107 : decode cX3_isOf 107 = .ok (.iadd, 1) := by decide +kernel
theorem dX3_isOf_108 : decode cX3_isOf 108 = .ok (.aload_n 1, 1) := by decide +kernel
theorem dX3_isOf_109 : decode cX3_isOf 109 = .ok (.getfield 45, 3) := by decide +kernel
theorem dX3_isOf_112 : decode cX3_isOf 112 = .ok (.invokestatic 69, 3) := by decide +kernel
theorem dX3_isOf_115 : decode cX3_isOf 115 = .ok (.ifCond .ne 5, 3) := by decide +kernel
theorem dX3_isOf_118 : decode cX3_isOf 118 = .ok (.iconst 0, 1) := by decide +kernel
theorem dX3_isOf_119 : decode cX3_isOf 119 = .ok (.ireturn, 1) := by decide +kernel
theorem dX3_isOf_120 : decode cX3_isOf 120 = .ok (.iinc 4 1, 3) := by decide +kernel
theorem dX3_isOf_123 : decode cX3_isOf 123 = .ok (.goto (-34), 3) := by decide +kernel
theorem dX3_isOf_126 : decode cX3_isOf 126 = .ok (.iconst 1, 1) := by decide +kernel
theorem dX3_isOf_127 : decode cX3_isOf 127 = .ok (.ireturn, 1) := by decide +kernel
def fX3_isOf_89 (b1 : Bool) (σ : zS) : Nat → Int32 → Option Int32
  | 0, _ => none
  | f + 1, x4 => if (iG σ (rp b1 + 0) 2) ≤ x4 then some 1 else bnr (fX3_isHolderAt σ (1 + (x4 * (fX3_holderSize b1 σ))) (iG σ (rp b1 + 0) 1)) fun v5 => if v5 = 0 then some 0 else fX3_isOf_89 b1 σ f (x4 + 1)
theorem kX3_isOf_89 {sc : Nat × (Nat → Int32)} (b1 : Bool) (σ : zS) : ∀ (fuel : Nat) (x4 : Int32) (w : Int32) (h : fX3_isOf_89 b1 σ fuel x4 = some w), zR (zY0 sc) 4 0 0 mX3_isOf 89 [(0, .ref 2), (1, .ref (rp b1 + 0)), (4, .int x4)] [] (zE σ) (some (.int w), zE σ) := by
  intro fuel
  induction fuel with
  | zero => intro x4 w h; exact nomatch h
  | succ f ih =>
    intro x4 w h
    rw [fX3_isOf_89] at h
    refine kR.iload dX3_isOf_89 2 rfl ?_
    refine kR.aload_n dX3_isOf_91 1 rfl ?_
    refine kR.getI dX3_isOf_92 flX3_29 zcf6 (zq0 b1) (Or.inl rfl) ?_
    refine kR.icmp_ge (tgt := 126) dX3_isOf_95 (by decide) h (fun h => ?_) (fun h => ?_)
    · refine zR.iconst (v := 1) dX3_isOf_126 (by decide) ?_
      exact kR.iretO dX3_isOf_127 (nzZ rfl (Or.inr rfl)) h
    · refine kR.aload_n dX3_isOf_98 0 rfl ?_
      refine zR.iconst (v := 1) dX3_isOf_99 (by decide) ?_
      refine kR.iload dX3_isOf_100 2 rfl ?_
      refine kR.aload_n dX3_isOf_102 1 rfl ?_
      refine kR.cSi [.ref (rp b1 + 0)] dX3_isOf_103 rfl (by decide) (Or.inl mwX3_55) rfl (Nat.le_of_ble_eq_true rfl) (lX3_holderSize b1 σ) ?_
      refine zR.imul dX3_isOf_106 ?_
      refine zR.iadd dX3_isOf_107 ?_
      refine kR.aload_n dX3_isOf_108 1 rfl ?_
      refine kR.getI dX3_isOf_109 flX3_45 zcf6 (zq0 b1) (Or.inl rfl) ?_
      obtain ⟨v5, e6, h⟩ := bnr_some h
      refine kR.cSi [.ref 2, .int (1 + (x4 * (fX3_holderSize b1 σ))), .int (iG σ (rp b1 + 0) 1)] dX3_isOf_112 rfl (by decide) (Or.inl mwX3_69) rfl (Nat.le_of_ble_eq_true rfl) (lX3_isHolderAt σ (1 + (x4 * (fX3_holderSize b1 σ))) (iG σ (rp b1 + 0) 1) _ e6) ?_
      refine kR.if_ne (tgt := 120) dX3_isOf_115 (by decide) h (fun h => ?_) (fun h => ?_)
      · refine zR.iinc 2 (v := x4 + 1) (ls' := [(4, .int (x4 + 1)), (0, .ref 2), (1, .ref (rp b1 + 0))]) dX3_isOf_120 rfl rfl (by decide) rfl ?_
        refine zR.goto (tgt := 89) dX3_isOf_123 (by decide) ?_
        refine zR.sub [1, 2, 0] rfl ?_
        exact ih _ _ h
      · refine zR.iconst (v := 0) dX3_isOf_118 (by decide) ?_
        exact kR.iretO dX3_isOf_119 (nzZ rfl (Or.inl rfl)) h
def fX3_isOf_86 (b1 : Bool) (σ : zS) : Option Int32 := fX3_isOf_89 b1 σ zF 0
theorem kX3_isOf_86 {sc : Nat × (Nat → Int32)} (b1 : Bool) (σ : zS) (w : Int32) (h : fX3_isOf_86 b1 σ = some w) : zR (zY0 sc) 4 0 0 mX3_isOf 86 [(0, .ref 2), (1, .ref (rp b1 + 0))] [] (zE σ) (some (.int w), zE σ) := by
  unfold fX3_isOf_86 at h
  refine zR.iconst (v := 0) dX3_isOf_86 (by decide) ?_
  refine zR.istore (i := 4) (ls' := [(4, .int 0), (0, .ref 2), (1, .ref (rp b1 + 0))]) dX3_isOf_87 (by decide) rfl ?_
  refine zR.sub [1, 2, 0] rfl ?_
  exact kX3_isOf_89 b1 σ zF _ _ h
def fX3_isOf_30 (b1 : Bool) (σ : zS) : Nat → Int32 → Int32 → Int32 → Option Int32
  | 0, _, _, _ => none
  | f + 1, x2, x3, x4 => if x2 ≤ x4 then bnr (fX9_byteAt σ x2) fun v1 => if x3 = v1 then bnr (fX9_byteAt σ 0) fun v3 => if v3 = 0 then fX3_isOf_86 b1 σ else bnr (fX9_byteAt σ 0) fun v7 => if (fX6_hasTunnel b1 σ v7) = 0 then some 0 else fX3_isOf_86 b1 σ else some 0 else bnr (fX9_byteAt σ x4) fun v9 => fX3_isOf_30 b1 σ f x2 (fX3_withChecked x3 v9) (x4 + 1)
theorem kX3_isOf_30 {sc : Nat × (Nat → Int32)} (b1 : Bool) (σ : zS) : ∀ (fuel : Nat) (x2 : Int32) (x3 : Int32) (x4 : Int32) (w : Int32) (h : fX3_isOf_30 b1 σ fuel x2 x3 x4 = some w), zR (zY0 sc) 4 0 0 mX3_isOf 30 [(0, .ref 2), (1, .ref (rp b1 + 0)), (2, .int x2), (3, .int x3), (4, .int x4)] [] (zE σ) (some (.int w), zE σ) := by
  intro fuel
  induction fuel with
  | zero => intro x2 x3 x4 w h; exact nomatch h
  | succ f ih =>
    intro x2 x3 x4 w h
    rw [fX3_isOf_30] at h
    refine kR.iload dX3_isOf_30 4 rfl ?_
    refine kR.iload_n dX3_isOf_32 2 rfl ?_
    refine kR.icmp_ge (tgt := 53) dX3_isOf_33 (by decide) h (fun h => ?_) (fun h => ?_)
    · refine kR.iload_n dX3_isOf_53 3 rfl ?_
      refine kR.aload_n dX3_isOf_54 0 rfl ?_
      refine kR.iload_n dX3_isOf_55 2 rfl ?_
      obtain ⟨v1, e2, h⟩ := bnr_some h
      refine kR.cVi [.int x2] dX3_isOf_56 rfl (by decide) mwX3_62 zp2 (by decide) rfl rfl (Nat.le_of_ble_eq_true rfl) (lX9_byteAt σ x2 _ e2) ?_
      refine kR.icmp_eq (tgt := 64) dX3_isOf_59 (by decide) h (fun h => ?_) (fun h => ?_)
      · refine kR.aload_n dX3_isOf_64 0 rfl ?_
        refine zR.iconst (v := 0) dX3_isOf_65 (by decide) ?_
        obtain ⟨v3, e4, h⟩ := bnr_some h
        refine kR.cVi [.int 0] dX3_isOf_66 rfl (by decide) mwX3_62 zp2 (by decide) rfl rfl (Nat.le_of_ble_eq_true rfl) (lX9_byteAt σ 0 _ e4) ?_
        refine kR.if_eq (tgt := 86) dX3_isOf_69 (by decide) h (fun h => ?_) (fun h => ?_)
        · refine zR.sub [0, 1] rfl ?_
          exact kX3_isOf_86 b1 σ _ h
        · refine kR.aload_n dX3_isOf_72 1 rfl ?_
          refine kR.aload_n dX3_isOf_73 0 rfl ?_
          refine zR.iconst (v := 0) dX3_isOf_74 (by decide) ?_
          obtain ⟨v7, e8, h⟩ := bnr_some h
          refine kR.cVi [.int 0] dX3_isOf_75 rfl (by decide) mwX3_62 zp2 (by decide) rfl rfl (Nat.le_of_ble_eq_true rfl) (lX9_byteAt σ 0 _ e8) ?_
          refine kR.cVi [.int v7] dX3_isOf_78 rfl (by decide) mwX3_65 (zq0 b1) (by decide) rfl rfl (Nat.le_of_ble_eq_true rfl) (lX6_hasTunnel b1 σ v7) ?_
          refine kR.if_ne (tgt := 86) dX3_isOf_81 (by decide) h (fun h => ?_) (fun h => ?_)
          · refine zR.sub [0, 1] rfl ?_
            exact kX3_isOf_86 b1 σ _ h
          · refine zR.iconst (v := 0) dX3_isOf_84 (by decide) ?_
            exact kR.iretO dX3_isOf_85 (nzZ rfl (Or.inl rfl)) h
      · refine zR.iconst (v := 0) dX3_isOf_62 (by decide) ?_
        exact kR.iretO dX3_isOf_63 (nzZ rfl (Or.inl rfl)) h
    · refine kR.iload_n dX3_isOf_36 3 rfl ?_
      refine kR.aload_n dX3_isOf_37 0 rfl ?_
      refine kR.iload dX3_isOf_38 4 rfl ?_
      obtain ⟨v9, e10, h⟩ := bnr_some h
      refine kR.cVi [.int x4] dX3_isOf_40 rfl (by decide) mwX3_62 zp2 (by decide) rfl rfl (Nat.le_of_ble_eq_true rfl) (lX9_byteAt σ x4 _ e10) ?_
      refine kR.cSi [.int x3, .int v9] dX3_isOf_43 rfl (by decide) (Or.inl mwX3_52) rfl (Nat.le_of_ble_eq_true rfl) (lX3_withChecked x3 v9) ?_
      refine zR.istore_n (i := 3) (ls' := [(3, .int (fX3_withChecked x3 v9)), (0, .ref 2), (1, .ref (rp b1 + 0)), (2, .int x2), (4, .int x4)]) dX3_isOf_46 rfl (by decide) rfl ?_
      refine zR.iinc 4 (v := x4 + 1) (ls' := [(4, .int (x4 + 1)), (3, .int (fX3_withChecked x3 v9)), (0, .ref 2), (1, .ref (rp b1 + 0)), (2, .int x2)]) dX3_isOf_47 rfl rfl (by decide) rfl ?_
      refine zR.goto (tgt := 30) dX3_isOf_50 (by decide) ?_
      refine zR.sub [2, 3, 4, 1, 0] rfl ?_
      exact ih _ _ _ _ h
def fX3_isOf (b1 : Bool) (σ : zS) : Option Int32 := if (iG σ 2 1) = ((1 + ((iG σ (rp b1 + 0) 2) * (fX3_holderSize b1 σ))) + 1) then fX3_isOf_30 b1 σ zF (1 + ((iG σ (rp b1 + 0) 2) * (fX3_holderSize b1 σ))) 107 0 else some 0
theorem eX3_isOf {sc : Nat × (Nat → Int32)} (b1 : Bool) (σ : zS) (w : Int32) (h : fX3_isOf b1 σ = some w) : zR (zY0 sc) 4 0 0 mX3_isOf 0 [(0, .ref 2), (1, .ref (rp b1 + 0))] [] (zE σ) (some (.int w), zE σ) := by
  unfold fX3_isOf at h
  refine zR.iconst (v := 1) dX3_isOf_0 (by decide) ?_
  refine kR.aload_n dX3_isOf_1 1 rfl ?_
  refine kR.getI dX3_isOf_2 flX3_29 zcf6 (zq0 b1) (Or.inl rfl) ?_
  refine kR.aload_n dX3_isOf_5 1 rfl ?_
  refine kR.cSi [.ref (rp b1 + 0)] dX3_isOf_6 rfl (by decide) (Or.inl mwX3_55) rfl (Nat.le_of_ble_eq_true rfl) (lX3_holderSize b1 σ) ?_
  refine zR.imul dX3_isOf_9 ?_
  refine zR.iadd dX3_isOf_10 ?_
  refine zR.istore_n (i := 2) (ls' := [(2, .int (1 + ((iG σ (rp b1 + 0) 2) * (fX3_holderSize b1 σ)))), (0, .ref 2), (1, .ref (rp b1 + 0))]) dX3_isOf_11 rfl (by decide) rfl ?_
  refine kR.aload_n dX3_isOf_12 1 rfl ?_
  refine kR.getI dX3_isOf_13 flX3_59 zcf9 zp2 (Or.inl rfl) ?_
  refine kR.iload_n dX3_isOf_16 0 rfl ?_
  refine zR.iconst (v := 1) dX3_isOf_17 (by decide) ?_
  refine zR.iadd dX3_isOf_18 ?_
  refine kR.icmp_eq (tgt := 24) dX3_isOf_19 (by decide) h (fun h => ?_) (fun h => ?_)
  · refine zR.bipush (v := 107) dX3_isOf_24 (by decide) ?_
    refine zR.istore_n (i := 3) (ls' := [(3, .int 107), (2, .int (1 + ((iG σ (rp b1 + 0) 2) * (fX3_holderSize b1 σ)))), (0, .ref 2), (1, .ref (rp b1 + 0))]) dX3_isOf_26 rfl (by decide) rfl ?_
    refine zR.iconst (v := 0) dX3_isOf_27 (by decide) ?_
    refine zR.istore (i := 4) (ls' := [(4, .int 0), (3, .int 107), (2, .int (1 + ((iG σ (rp b1 + 0) 2) * (fX3_holderSize b1 σ)))), (0, .ref 2), (1, .ref (rp b1 + 0))]) dX3_isOf_28 (by decide) rfl ?_
    refine zR.sub [3, 4, 2, 1, 0] rfl ?_
    exact kX3_isOf_30 b1 σ zF _ _ _ _ h
  · refine zR.iconst (v := 0) dX3_isOf_22 (by decide) ?_
    exact kR.iretO dX3_isOf_23 (nzZ rfl (Or.inl rfl)) h
theorem lX3_isOf {sc : Nat × (Nat → Int32)} (b1 : Bool) (σ : zS) (w : Int32) (h : fX3_isOf b1 σ = some w) : zC (zY0 sc) 4 0 0 mX3_isOf [.ref 2, .ref (rp b1 + 0)] (zE σ) (some (.int w), zE σ) := zC.of (by decide +kernel) (Nat.le_of_ble_eq_true rfl) ⟨_, rfl⟩ (eX3_isOf b1 σ w h)

/-! MY OWN (by program): X11_opens, X11_isTest, X11_operand, X11_goesOn, X11_reads -/
theorem dX11_opens_0 : decode cX11_opens 0 = .ok (.aload_n 0, 1) := by decide +kernel
theorem dX11_opens_1 : decode cX11_opens 1 = .ok (.getfield 140, 3) := by decide +kernel
theorem dX11_opens_4 : decode cX11_opens 4 = .ok (.bipush 7, 2) := by decide +kernel
theorem dX11_opens_6 : decode cX11_opens 6 = .ok (.if_icmp .ne 12, 3) := by decide +kernel
theorem dX11_opens_9 : decode cX11_opens 9 = .ok (.aload_n 0, 1) := by decide +kernel
theorem dX11_opens_10 : decode cX11_opens 10 = .ok (.iconst 5, 1) := by decide +kernel
theorem dX11_opens_11 : decode cX11_opens 11 = .ok (.aload_n 0, 1) := by decide +kernel
theorem dX11_opens_12 : decode cX11_opens 12 = .ok (.getfield 23, 3) := by decide +kernel
theorem dX11_opens_15 : decode cX11_opens 15 = .ok (.invokevirtual 260, 3) := by decide +kernel
theorem dX11_opens_18 : decode cX11_opens 18 = .ok (.aload_n 0, 1) := by decide +kernel
theorem dX11_opens_19 : decode cX11_opens 19 = .ok (.getfield 36, 3) := by decide +kernel
theorem dX11_opens_22 : decode cX11_opens 22 = .ok (.ifCond .le 4, 3) := by decide +kernel
theorem dX11_opens_25 : decode cX11_opens 25 = .ok (.return_, 1) := by decide +kernel
theorem dX11_opens_26 : decode cX11_opens 26 = .ok (.aload_n 0, 1) := by decide +kernel
theorem dX11_opens_27 : decode cX11_opens 27 = .ok (.dup, 1) := by decide +kernel
theorem dX11_opens_28 : decode cX11_opens 28 = .ok (.getfield 140, 3) := by decide +kernel
theorem dX11_opens_31 : decode cX11_opens 31 = .ok (.iconst 1, 1) := by decide +kernel
theorem dX11_opens_32 : decode cX11_opens 32 = .ok (.iadd, 1) := by decide +kernel
theorem dX11_opens_33 : decode cX11_opens 33 = .ok (.putfield 140, 3) := by decide +kernel
theorem dX11_opens_36 : decode cX11_opens 36 = .ok (.aload_n 0, 1) := by decide +kernel
theorem dX11_opens_37 : decode cX11_opens 37 = .ok (.invokevirtual 277, 3) := by decide +kernel
theorem dX11_opens_40 : decode cX11_opens 40 = .ok (.aload_n 0, 1) := by decide +kernel
theorem dX11_opens_41 : decode cX11_opens 41 = .ok (.iload_n 1, 1) := by decide +kernel
theorem dX11_opens_42 : decode cX11_opens 42 = .ok (.invokevirtual 351, 3) := by decide +kernel
theorem dX11_opens_45 : decode cX11_opens 45 = .ok (.return_, 1) := by decide +kernel
def fX11_opens_18 (x1 : Int32) (σ : zS) : Option zS := if (iG σ 56 8) ≤ 0 then bnd (iS σ 56 42 ((iG σ 56 42) + 1)) fun σ1 => bnr (fX11_ahead σ1) fun σ2 => bnr (fX11_pushes x1 σ2) fun σ4 => some σ4 else some σ
theorem kX11_opens_18 {sc : Nat × (Nat → Int32)} (x1 : Int32) (σ : zS) (w : zS) (h : fX11_opens_18 x1 σ = some w) : zR (zY0 sc) 3 0 0 mX11_opens 18 [(0, .ref 56), (1, .int x1)] [] (zE σ) (none, zE w) := by
  unfold fX11_opens_18 at h
  refine kR.aload_n dX11_opens_18 0 rfl ?_
  refine kR.getI dX11_opens_19 flX11_36 zcf11 zp56 (Or.inl rfl) ?_
  refine kR.if_le (tgt := 26) dX11_opens_22 (by decide) h (fun h => ?_) (fun h => ?_)
  · refine kR.aload_n dX11_opens_26 0 rfl ?_
    refine zR.dup dX11_opens_27 rfl ?_
    refine kR.getI dX11_opens_28 flX11_140 zcf11 zp56 (Or.inl rfl) ?_
    refine zR.iconst (v := 1) dX11_opens_31 (by decide) ?_
    refine zR.iadd dX11_opens_32 ?_
    refine kR.putI dX11_opens_33 fpX11_140 zcf11 zp56 rfl h (fun σ1 h => ?_)
    refine kR.aload_n dX11_opens_36 0 rfl ?_
    obtain ⟨σ2, e3, h⟩ := bnr_some h
    refine kR.cVv [] dX11_opens_37 rfl (by decide) mwX11_277 zp56 (by decide) rfl rfl (Nat.le_of_ble_eq_true rfl) (lX11_ahead σ1 _ e3) ?_
    refine kR.aload_n dX11_opens_40 0 rfl ?_
    refine kR.iload_n dX11_opens_41 1 rfl ?_
    obtain ⟨σ4, e5, h⟩ := bnr_some h
    refine kR.cVv [.int x1] dX11_opens_42 rfl (by decide) mwX11_351 zp56 (by decide) rfl rfl (Nat.le_of_ble_eq_true rfl) (lX11_pushes x1 σ2 _ e5) ?_
    exact kR.vret dX11_opens_45 h
  · exact kR.vret dX11_opens_25 h
def fX11_opens (p1 : Int32) (σ : zS) : Option zS := if (iG σ 56 42) = 7 then bnr (fX11_blame 5 (iG σ 56 4) σ) fun σ6 => fX11_opens_18 p1 σ6 else fX11_opens_18 p1 σ
theorem eX11_opens {sc : Nat × (Nat → Int32)} (p1 : Int32) (σ : zS) (w : zS) (h : fX11_opens p1 σ = some w) : zR (zY0 sc) 3 0 0 mX11_opens 0 [(0, .ref 56), (1, .int p1)] [] (zE σ) (none, zE w) := by
  unfold fX11_opens at h
  refine kR.aload_n dX11_opens_0 0 rfl ?_
  refine kR.getI dX11_opens_1 flX11_140 zcf11 zp56 (Or.inl rfl) ?_
  refine zR.bipush (v := 7) dX11_opens_4 (by decide) ?_
  refine kR.icmp_ne (tgt := 18) dX11_opens_6 (by decide) h (fun h => ?_) (fun h => ?_)
  · exact kX11_opens_18 _ _ _ h
  · refine kR.aload_n dX11_opens_9 0 rfl ?_
    refine zR.iconst (v := 5) dX11_opens_10 (by decide) ?_
    refine kR.aload_n dX11_opens_11 0 rfl ?_
    refine kR.getI dX11_opens_12 flX11_23 zcf11 zp56 (Or.inl rfl) ?_
    obtain ⟨σ6, e7, h⟩ := bnr_some h
    refine kR.cVv [.int 5, .int (iG σ 56 4)] dX11_opens_15 rfl (by decide) mwX11_260 zp56 (by decide) rfl rfl (Nat.le_of_ble_eq_true rfl) (lX11_blame 5 (iG σ 56 4) σ _ e7) ?_
    exact kX11_opens_18 _ _ _ h
theorem lX11_opens {sc : Nat × (Nat → Int32)} (p1 : Int32) (σ : zS) (w : zS) (h : fX11_opens p1 σ = some w) : zC (zY0 sc) 3 0 0 mX11_opens [.ref 56, .int p1] (zE σ) (none, zE w) := zC.of (by decide +kernel) (Nat.le_of_ble_eq_true rfl) rfl (eX11_opens p1 σ w h)
theorem dX11_isTest_0 : decode cX11_isTest 0 = .ok (.iload_n 0, 1) := by decide +kernel
theorem dX11_isTest_1 : decode cX11_isTest 1 = .ok (.iconst 1, 1) := by decide +kernel
theorem dX11_isTest_2 : decode cX11_isTest 2 = .ok (.if_icmp .eq 14, 3) := by decide +kernel
theorem dX11_isTest_5 : decode cX11_isTest 5 = .ok (.iload_n 0, 1) := by decide +kernel
theorem dX11_isTest_6 : decode cX11_isTest 6 = .ok (.iconst 5, 1) := by decide +kernel
theorem dX11_isTest_7 : decode cX11_isTest 7 = .ok (.if_icmp .eq 9, 3) := by decide +kernel
theorem dX11_isTest_10 : decode cX11_isTest 10 = .ok (.iload_n 0, 1) := by decide +kernel
theorem dX11_isTest_11 : decode cX11_isTest 11 = .ok (.bipush 6, 2) := by decide +kernel
theorem dX11_isTest_13 : decode cX11_isTest 13 = .ok (.if_icmp .ne 7, 3) := by decide +kernel
theorem dX11_isTest_16 : decode cX11_isTest 16 = .ok (.iconst 1, 1) := by decide +kernel
theorem dX11_isTest_17 : decode cX11_isTest 17 = .ok (.goto 4, 3) := by decide +kernel
theorem dX11_isTest_20 : decode cX11_isTest 20 = .ok (.iconst 0, 1) := by decide +kernel
theorem dX11_isTest_21 : decode cX11_isTest 21 = .ok (.ireturn, 1) := by decide +kernel
def fX11_isTest_16 : Int32 := 1
theorem kX11_isTest_16 {sc : Nat × (Nat → Int32)} {μ : zM} (w : Int32) (h : fX11_isTest_16 = w) : zR (zY0 sc) 1 0 0 mX11_isTest 16 [] [] μ (some (.int w), μ) := by
  unfold fX11_isTest_16 at h
  refine zR.iconst (v := 1) dX11_isTest_16 (by decide) ?_
  refine zR.goto (tgt := 21) dX11_isTest_17 (by decide) ?_
  exact kR.iret dX11_isTest_21 (nzZ rfl (Or.inr rfl)) h
def fX11_isTest (p0 : Int32) : Int32 := if p0 = 1 then fX11_isTest_16 else if p0 = 5 then fX11_isTest_16 else if p0 = 6 then fX11_isTest_16 else 0
theorem eX11_isTest {sc : Nat × (Nat → Int32)} {μ : zM} (p0 : Int32) (w : Int32) (h : fX11_isTest p0 = w) : zR (zY0 sc) 1 0 0 mX11_isTest 0 [(0, .int p0)] [] μ (some (.int w), μ) := by
  unfold fX11_isTest at h
  refine kR.iload_n dX11_isTest_0 0 rfl ?_
  refine zR.iconst (v := 1) dX11_isTest_1 (by decide) ?_
  refine kR.icmp_eq (tgt := 16) dX11_isTest_2 (by decide) h (fun h => ?_) (fun h => ?_)
  · refine zR.sub [] rfl ?_
    exact kX11_isTest_16 _ h
  · refine kR.iload_n dX11_isTest_5 0 rfl ?_
    refine zR.iconst (v := 5) dX11_isTest_6 (by decide) ?_
    refine kR.icmp_eq (tgt := 16) dX11_isTest_7 (by decide) h (fun h => ?_) (fun h => ?_)
    · refine zR.sub [] rfl ?_
      exact kX11_isTest_16 _ h
    · refine kR.iload_n dX11_isTest_10 0 rfl ?_
      refine zR.bipush (v := 6) dX11_isTest_11 (by decide) ?_
      refine kR.icmp_ne (tgt := 20) dX11_isTest_13 (by decide) h (fun h => ?_) (fun h => ?_)
      · refine zR.iconst (v := 0) dX11_isTest_20 (by decide) ?_
        exact kR.iret dX11_isTest_21 (nzZ rfl (Or.inl rfl)) h
      · refine zR.sub [] rfl ?_
        exact kX11_isTest_16 _ h
theorem lX11_isTest {sc : Nat × (Nat → Int32)} {μ : zM} (p0 : Int32) : zC (zY0 sc) 1 0 0 mX11_isTest [.int p0] μ (some (.int (fX11_isTest p0)), μ) := zC.of (by decide +kernel) (Nat.le_of_ble_eq_true rfl) ⟨_, rfl⟩ (eX11_isTest p0 _ rfl)
theorem dX11_operand_0 : decode cX11_operand 0 = .ok (.aload_n 0, 1) := by decide +kernel
theorem dX11_operand_1 : decode cX11_operand 1 = .ok (.invokevirtual 271, 3) := by decide +kernel
theorem dX11_operand_4 : decode cX11_operand 4 = .ok (.aload_n 0, 1) := by decide +kernel
theorem dX11_operand_5 : decode cX11_operand 5 = .ok (.getfield 36, 3) := by decide +kernel
theorem dX11_operand_8 : decode cX11_operand 8 = .ok (.ifCond .le 5, 3) := by decide +kernel
theorem dX11_operand_11 : decode cX11_operand 11 = .ok (.iconst 1, 1) := by decide +kernel
theorem dX11_operand_12 : decode cX11_operand 12 = .ok (.ireturn, 1) := by decide +kernel
theorem dX11_operand_13 : decode cX11_operand 13 = .ok (.aload_n 0, 1) := by decide +kernel
theorem dX11_operand_14 : decode cX11_operand 14 = .ok (.getfield 137, 3) := by decide +kernel
theorem dX11_operand_17 : decode cX11_operand 17 = .ok (.iconst 1, 1) := by decide +kernel
theorem dX11_operand_18 : decode cX11_operand 18 = .ok (.isub, 1) := by decide +kernel
theorem dX11_operand_19 : decode cX11_operand 19 = .ok (.istore_n 1, 1) := by decide +kernel
theorem dX11_operand_20 : decode cX11_operand 20 = .ok (.aload_n 0, 1) := by decide +kernel
theorem dX11_operand_21 : decode cX11_operand 21 = .ok (.getfield 121, 3) := by decide +kernel
theorem dX11_operand_24 : decode cX11_operand 24 = .ok (.iload_n 1, 1) := by decide +kernel
theorem dX11_operand_25 : decode cX11_operand 25 = .ok (.iaload, 1) := by decide +kernel
theorem dX11_operand_26 : decode cX11_operand 26 = .ok (.invokestatic 354, 3) := by decide +kernel
theorem dX11_operand_29 : decode cX11_operand 29 = .ok (.ifCond .eq 16, 3) := by decide +kernel
theorem dX11_operand_32 : decode cX11_operand 32 = .ok (.aload_n 0, 1) := by decide +kernel
theorem dX11_operand_33 : decode cX11_operand 33 = .ok (.getfield 127, 3) := by decide +kernel
theorem dX11_operand_36 : decode cX11_operand 36 = .ok (.iload_n 1, 1) := by decide +kernel
theorem dX11_operand_37 : decode cX11_operand 37 = .ok (.baload, 1) := by decide +kernel
theorem dX11_operand_38 : decode cX11_operand 38 = .ok (.ifCond .eq 7, 3) := by decide +kernel
theorem dX11_operand_41 : decode cX11_operand 41 = .ok (.iconst 1, 1) := by decide +kernel
theorem dX11_operand_42 : decode cX11_operand 42 = .ok (.goto 4, 3) := by decide +kernel
theorem dX11_operand_45 : decode cX11_operand 45 = .ok (.iconst 0, 1) := by decide +kernel
theorem dX11_operand_46 : decode cX11_operand 46 = .ok (.istore_n 2, 1) := by decide +kernel
theorem dX11_operand_47 : decode cX11_operand 47 = .ok (.iload_n 2, 1) := by decide +kernel
theorem dX11_operand_48 : decode cX11_operand 48 = .ok (.ifCond .eq 62, 3) := by decide +kernel
theorem dX11_operand_51 : decode cX11_operand 51 = .ok (.aload_n 0, 1) := by decide +kernel
theorem dX11_operand_52 : decode cX11_operand 52 = .ok (.ldc2_w 322, 3) := by decide +kernel
theorem dX11_operand_55 : decode cX11_operand 55 = .ok (.invokevirtual 357, 3) := by decide +kernel
theorem dX11_operand_58 : decode cX11_operand 58 = .ok (.ifCond .eq 52, 3) := by decide +kernel
theorem dX11_operand_61 : decode cX11_operand 61 = .ok (.aload_n 0, 1) := by decide +kernel
theorem dX11_operand_62 : decode cX11_operand 62 = .ok (.getfield 140, 3) := by decide +kernel
theorem dX11_operand_65 : decode cX11_operand 65 = .ok (.bipush 7, 2) := by decide +kernel
theorem dX11_operand_67 : decode cX11_operand 67 = .ok (.if_icmp .ne 12, 3) := by decide +kernel
theorem dX11_operand_70 : decode cX11_operand 70 = .ok (.aload_n 0, 1) := by decide +kernel
theorem dX11_operand_71 : decode cX11_operand 71 = .ok (.iconst 5, 1) := by decide +kernel
theorem dX11_operand_72 : decode cX11_operand 72 = .ok (.aload_n 0, 1) := by decide +kernel
theorem dX11_operand_73 : decode cX11_operand 73 = .ok (.getfield 23, 3) := by decide +kernel
theorem dX11_operand_76 : decode cX11_operand 76 = .ok (.invokevirtual 260, 3) := by decide +kernel
theorem dX11_operand_79 : decode cX11_operand 79 = .ok (.aload_n 0, 1) := by decide +kernel
theorem dX11_operand_80 : decode cX11_operand 80 = .ok (.getfield 36, 3) := by decide +kernel
theorem dX11_operand_83 : decode cX11_operand 83 = .ok (.ifCond .le 5, 3) := by decide +kernel
theorem dX11_operand_86 : decode cX11_operand 86 = .ok (.iconst 1, 1) := by decide +kernel
theorem dX11_operand_87 : decode cX11_operand 87 = .ok (.ireturn, 1) := by decide +kernel
theorem dX11_operand_88 : decode cX11_operand 88 = .ok (.aload_n 0, 1) := by decide +kernel
theorem dX11_operand_89 : decode cX11_operand 89 = .ok (.dup, 1) := by decide +kernel
theorem dX11_operand_90 : decode cX11_operand 90 = .ok (.getfield 140, 3) := by decide +kernel
theorem dX11_operand_93 : decode cX11_operand 93 = .ok (.iconst 1, 1) := by decide +kernel
theorem dX11_operand_94 : decode cX11_operand 94 = .ok (.iadd, 1) := by decide +kernel
theorem dX11_operand_95 : decode cX11_operand 95 = .ok (.putfield 140, 3) := by decide +kernel
theorem dX11_operand_98 : decode cX11_operand 98 = .ok (.aload_n 0, 1) := by decide +kernel
theorem dX11_operand_99 : decode cX11_operand 99 = .ok (.bipush 22, 2) := by decide +kernel
theorem dX11_operand_101 : decode cX11_operand 101 = .ok (.invokevirtual 361, 3) := by decide +kernel
theorem dX11_operand_104 : decode cX11_operand 104 = .ok (.aload_n 0, 1) := by decide +kernel
theorem dX11_operand_105 : decode cX11_operand 105 = .ok (.invokevirtual 277, 3) := by decide +kernel
theorem dX11_operand_108 : decode cX11_operand 108 = .ok (.iconst 0, 1) := by decide +kernel
theorem dX11_operand_109 : decode cX11_operand 109 = .ok (.ireturn, 1) := by decide +kernel
theorem dX11_operand_110 : decode cX11_operand 110 = .ok (.aload_n 0, 1) := by decide +kernel
theorem dX11_operand_111 : decode cX11_operand 111 = .ok (.getfield 127, 3) := by decide +kernel
theorem dX11_operand_114 : decode cX11_operand 114 = .ok (.iload_n 1, 1) := by decide +kernel
theorem dX11_operand_115 : decode cX11_operand 115 = .ok (.iconst 0, 1) := by decide +kernel
theorem dX11_operand_116 : decode cX11_operand 116 = .ok (.bastore, 1) := by decide +kernel
theorem dX11_operand_117 : decode cX11_operand 117 = .ok (.iload_n 2, 1) := by decide +kernel
theorem dX11_operand_118 : decode cX11_operand 118 = .ok (.ifCond .eq 19, 3) := by decide +kernel
theorem dX11_operand_121 : decode cX11_operand 121 = .ok (.aload_n 0, 1) := by decide +kernel
theorem dX11_operand_122 : decode cX11_operand 122 = .ok (.bipush 91, 2) := by decide +kernel
theorem dX11_operand_124 : decode cX11_operand 124 = .ok (.invokevirtual 274, 3) := by decide +kernel
theorem dX11_operand_127 : decode cX11_operand 127 = .ok (.ifCond .eq 10, 3) := by decide +kernel
theorem dX11_operand_130 : decode cX11_operand 130 = .ok (.aload_n 0, 1) := by decide +kernel
theorem dX11_operand_131 : decode cX11_operand 131 = .ok (.iconst 5, 1) := by decide +kernel
theorem dX11_operand_132 : decode cX11_operand 132 = .ok (.invokevirtual 364, 3) := by decide +kernel
theorem dX11_operand_135 : decode cX11_operand 135 = .ok (.iconst 0, 1) := by decide +kernel
theorem dX11_operand_136 : decode cX11_operand 136 = .ok (.ireturn, 1) := by decide +kernel
theorem dX11_operand_137 : decode cX11_operand 137 = .ok (.iload_n 2, 1) := by decide +kernel
theorem dX11_operand_138 : decode cX11_operand 138 = .ok (.ifCond .eq 33, 3) := by decide +kernel
theorem dX11_operand_141 : decode cX11_operand 141 = .ok (.aload_n 0, 1) := by decide +kernel
theorem dX11_operand_142 : decode cX11_operand 142 = .ok (.ldc2_w 324, 3) := by decide +kernel
theorem dX11_operand_145 : decode cX11_operand 145 = .ok (.invokevirtual 357, 3) := by decide +kernel
theorem dX11_operand_148 : decode cX11_operand 148 = .ok (.ifCond .eq 23, 3) := by decide +kernel
theorem dX11_operand_151 : decode cX11_operand 151 = .ok (.aload_n 0, 1) := by decide +kernel
theorem dX11_operand_152 : decode cX11_operand 152 = .ok (.bipush 9, 2) := by decide +kernel
theorem dX11_operand_154 : decode cX11_operand 154 = .ok (.iconst 0, 1) := by decide +kernel
theorem dX11_operand_155 : decode cX11_operand 155 = .ok (.invokevirtual 348, 3) := by decide +kernel
theorem dX11_operand_158 : decode cX11_operand 158 = .ok (.aload_n 0, 1) := by decide +kernel
theorem dX11_operand_159 : decode cX11_operand 159 = .ok (.getfield 124, 3) := by decide +kernel
theorem dX11_operand_162 : decode cX11_operand 162 = .ok (.iload_n 1, 1) := by decide +kernel
theorem dX11_operand_163 : decode cX11_operand 163 = .ok (.iconst 2, 1) := by decide +kernel
theorem dX11_operand_164 : decode cX11_operand 164 = .ok (.iastore, 1) := by decide +kernel
theorem dX11_operand_165 : decode cX11_operand 165 = .ok (.aload_n 0, 1) := by decide +kernel
theorem dX11_operand_166 : decode cX11_operand 166 = .ok (.invokevirtual 277, 3) := by decide +kernel
theorem dX11_operand_169 : decode cX11_operand 169 = .ok (.iconst 1, 1) := by decide +kernel
theorem dX11_operand_170 : decode cX11_operand 170 = .ok (.ireturn, 1) := by decide +kernel
theorem dX11_operand_171 : decode cX11_operand 171 = .ok (.aload_n 0, 1) := by decide +kernel
theorem dX11_operand_172 : decode cX11_operand 172 = .ok (.bipush 40, 2) := by decide +kernel
theorem dX11_operand_174 : decode cX11_operand 174 = .ok (.invokevirtual 274, 3) := by decide +kernel
theorem dX11_operand_177 : decode cX11_operand 177 = .ok (.ifCond .eq 10, 3) := by decide +kernel
theorem dX11_operand_180 : decode cX11_operand 180 = .ok (.aload_n 0, 1) := by decide +kernel
theorem dX11_operand_181 : decode cX11_operand 181 = .ok (.iconst 2, 1) := by decide +kernel
theorem dX11_operand_182 : decode cX11_operand 182 = .ok (.invokevirtual 364, 3) := by decide +kernel
theorem dX11_operand_185 : decode cX11_operand 185 = .ok (.iconst 0, 1) := by decide +kernel
theorem dX11_operand_186 : decode cX11_operand 186 = .ok (.ireturn, 1) := by decide +kernel
theorem dX11_operand_187 : decode cX11_operand 187 = .ok (.aload_n 0, 1) := by decide +kernel
theorem dX11_operand_188 : decode cX11_operand 188 = .ok (.ldc2_w 326, 3) := by decide +kernel
theorem dX11_operand_191 : decode cX11_operand 191 = .ok (.invokevirtual 357, 3) := by decide +kernel
theorem dX11_operand_194 : decode cX11_operand 194 = .ok (.ifCond .ne 23, 3) := by decide +kernel
theorem dX11_operand_197 : decode cX11_operand 197 = .ok (.aload_n 0, 1) := by decide +kernel
theorem dX11_operand_198 : decode cX11_operand 198 = .ok (.ldc2_w 328, 3) := by decide +kernel
theorem dX11_operand_201 : decode cX11_operand 201 = .ok (.invokevirtual 357, 3) := by decide +kernel
theorem dX11_operand_204 : decode cX11_operand 204 = .ok (.ifCond .ne 13, 3) := by decide +kernel
theorem dX11_operand_207 : decode cX11_operand 207 = .ok (.aload_n 0, 1) := by decide +kernel
theorem dX11_operand_208 : decode cX11_operand 208 = .ok (.ldc2_w 316, 3) := by decide +kernel
theorem dX11_operand_211 : decode cX11_operand 211 = .ok (.invokevirtual 357, 3) := by decide +kernel
theorem dX11_operand_214 : decode cX11_operand 214 = .ok (.ifCond .eq 99, 3) := by decide +kernel
theorem dX11_operand_217 : decode cX11_operand 217 = .ok (.aload_n 0, 1) := by decide +kernel
theorem dX11_operand_218 : decode cX11_operand 218 = .ok (.ldc2_w 326, 3) := by decide +kernel
theorem dX11_operand_221 : decode cX11_operand 221 = .ok (.invokevirtual 357, 3) := by decide +kernel
theorem dX11_operand_224 : decode cX11_operand 224 = .ok (.ifCond .eq 8, 3) := by decide +kernel
theorem dX11_operand_227 : decode cX11_operand 227 = .ok (.bipush 15, 2) := by decide +kernel
theorem dX11_operand_229 : decode cX11_operand 229 = .ok (.goto 20, 3) := by decide +kernel
theorem dX11_operand_232 : decode cX11_operand 232 = .ok (.aload_n 0, 1) := by decide +kernel
theorem dX11_operand_233 : decode cX11_operand 233 = .ok (.ldc2_w 328, 3) := by decide +kernel
theorem dX11_operand_236 : decode cX11_operand 236 = .ok (.invokevirtual 357, 3) := by decide +kernel
theorem dX11_operand_239 : decode cX11_operand 239 = .ok (.ifCond .eq 8, 3) := by decide +kernel
theorem dX11_operand_242 : decode cX11_operand 242 = .ok (.bipush 16, 2) := by decide +kernel
theorem dX11_operand_244 : decode cX11_operand 244 = .ok (.goto 5, 3) := by decide +kernel
theorem dX11_operand_247 : decode cX11_operand 247 = .ok (.bipush 23, 2) := by decide +kernel
theorem dX11_operand_249 : decode cX11_operand 249 = .ok (.istore_n 3, 1) := by decide +kernel
theorem dX11_operand_250 : decode cX11_operand 250 = .ok (.aload_n 0, 1) := by decide +kernel
theorem dX11_operand_251 : decode cX11_operand 251 = .ok (.invokevirtual 277, 3) := by decide +kernel
theorem dX11_operand_254 : decode cX11_operand 254 = .ok (.aload_n 0, 1) := by decide +kernel
theorem dX11_operand_255 : decode cX11_operand 255 = .ok (.invokevirtual 271, 3) := by decide +kernel
theorem dX11_operand_258 : decode cX11_operand 258 = .ok (.aload_n 0, 1) := by decide +kernel
theorem dX11_operand_259 : decode cX11_operand 259 = .ok (.bipush 40, 2) := by decide +kernel
theorem dX11_operand_261 : decode cX11_operand 261 = .ok (.invokevirtual 274, 3) := by decide +kernel
theorem dX11_operand_264 : decode cX11_operand 264 = .ok (.ifCond .ne 12, 3) := by decide +kernel
theorem dX11_operand_267 : decode cX11_operand 267 = .ok (.aload_n 0, 1) := by decide +kernel
theorem dX11_operand_268 : decode cX11_operand 268 = .ok (.iconst 1, 1) := by decide +kernel
theorem dX11_operand_269 : decode cX11_operand 269 = .ok (.aload_n 0, 1) := by decide +kernel
theorem dX11_operand_270 : decode cX11_operand 270 = .ok (.getfield 23, 3) := by decide +kernel
theorem dX11_operand_273 : decode cX11_operand 273 = .ok (.invokevirtual 260, 3) := by decide +kernel
theorem dX11_operand_276 : decode cX11_operand 276 = .ok (.aload_n 0, 1) := by decide +kernel
theorem dX11_operand_277 : decode cX11_operand 277 = .ok (.iload_n 3, 1) := by decide +kernel
theorem dX11_operand_278 : decode cX11_operand 278 = .ok (.bipush 23, 2) := by decide +kernel
theorem dX11_operand_280 : decode cX11_operand 280 = .ok (.if_icmp .ne 8, 3) := by decide +kernel
theorem dX11_operand_283 : decode cX11_operand 283 = .ok (.bipush 6, 2) := by decide +kernel
theorem dX11_operand_285 : decode cX11_operand 285 = .ok (.goto 4, 3) := by decide +kernel
theorem dX11_operand_288 : decode cX11_operand 288 = .ok (.iconst 3, 1) := by decide +kernel
theorem dX11_operand_289 : decode cX11_operand 289 = .ok (.invokevirtual 364, 3) := by decide +kernel
theorem dX11_operand_292 : decode cX11_operand 292 = .ok (.aload_n 0, 1) := by decide +kernel
theorem dX11_operand_293 : decode cX11_operand 293 = .ok (.getfield 36, 3) := by decide +kernel
theorem dX11_operand_296 : decode cX11_operand 296 = .ok (.ifCond .ne 15, 3) := by decide +kernel
theorem dX11_operand_299 : decode cX11_operand 299 = .ok (.aload_n 0, 1) := by decide +kernel
theorem dX11_operand_300 : decode cX11_operand 300 = .ok (.getfield 131, 3) := by decide +kernel
theorem dX11_operand_303 : decode cX11_operand 303 = .ok (.aload_n 0, 1) := by decide +kernel
theorem dX11_operand_304 : decode cX11_operand 304 = .ok (.getfield 137, 3) := by decide +kernel
theorem dX11_operand_307 : decode cX11_operand 307 = .ok (.iconst 1, 1) := by decide +kernel
theorem dX11_operand_308 : decode cX11_operand 308 = .ok (.isub, 1) := by decide +kernel
theorem dX11_operand_309 : decode cX11_operand 309 = .ok (.iload_n 3, 1) := by decide +kernel
theorem dX11_operand_310 : decode cX11_operand 310 = .ok (.iastore, 1) := by decide +kernel
theorem dX11_operand_311 : decode cX11_operand 311 = .ok (.iconst 0, 1) := by decide +kernel
theorem dX11_operand_312 : decode cX11_operand 312 = .ok (.ireturn, 1) := by decide +kernel
theorem dX11_operand_313 : decode cX11_operand 313 = .ok (.aload_n 0, 1) := by decide +kernel
theorem dX11_operand_314 : decode cX11_operand 314 = .ok (.getfield 20, 3) := by decide +kernel
theorem dX11_operand_317 : decode cX11_operand 317 = .ok (.iconst 2, 1) := by decide +kernel
theorem dX11_operand_318 : decode cX11_operand 318 = .ok (.if_icmp .ne 7, 3) := by decide +kernel
theorem dX11_operand_321 : decode cX11_operand 321 = .ok (.iconst 0, 1) := by decide +kernel
theorem dX11_operand_322 : decode cX11_operand 322 = .ok (.goto 104, 3) := by decide +kernel
theorem dX11_operand_325 : decode cX11_operand 325 = .ok (.aload_n 0, 1) := by decide +kernel
theorem dX11_operand_326 : decode cX11_operand 326 = .ok (.ldc2_w 306, 3) := by decide +kernel
theorem dX11_operand_329 : decode cX11_operand 329 = .ok (.invokevirtual 357, 3) := by decide +kernel
theorem dX11_operand_332 : decode cX11_operand 332 = .ok (.ifCond .eq 7, 3) := by decide +kernel
theorem dX11_operand_335 : decode cX11_operand 335 = .ok (.iconst 1, 1) := by decide +kernel
theorem dX11_operand_336 : decode cX11_operand 336 = .ok (.goto 90, 3) := by decide +kernel
theorem dX11_operand_339 : decode cX11_operand 339 = .ok (.aload_n 0, 1) := by decide +kernel
theorem dX11_operand_340 : decode cX11_operand 340 = .ok (.ldc2_w 308, 3) := by decide +kernel
theorem dX11_operand_343 : decode cX11_operand 343 = .ok (.invokevirtual 357, 3) := by decide +kernel
theorem dX11_operand_346 : decode cX11_operand 346 = .ok (.ifCond .eq 7, 3) := by decide +kernel
theorem dX11_operand_349 : decode cX11_operand 349 = .ok (.iconst 2, 1) := by decide +kernel
theorem dX11_operand_350 : decode cX11_operand 350 = .ok (.goto 76, 3) := by decide +kernel
theorem dX11_operand_353 : decode cX11_operand 353 = .ok (.aload_n 0, 1) := by decide +kernel
theorem dX11_operand_354 : decode cX11_operand 354 = .ok (.ldc2_w 310, 3) := by decide +kernel
theorem dX11_operand_357 : decode cX11_operand 357 = .ok (.invokevirtual 357, 3) := by decide +kernel
theorem dX11_operand_360 : decode cX11_operand 360 = .ok (.ifCond .eq 7, 3) := by decide +kernel
theorem dX11_operand_363 : decode cX11_operand 363 = .ok (.iconst 3, 1) := by decide +kernel
theorem dX11_operand_364 : decode cX11_operand 364 = .ok (.goto 62, 3) := by decide +kernel
theorem dX11_operand_367 : decode cX11_operand 367 = .ok (.aload_n 0, 1) := by decide +kernel
theorem dX11_operand_368 : decode cX11_operand 368 = .ok (.ldc2_w 312, 3) := by decide +kernel
theorem dX11_operand_371 : decode cX11_operand 371 = .ok (.invokevirtual 357, 3) := by decide +kernel
theorem dX11_operand_374 : decode cX11_operand 374 = .ok (.ifCond .eq 7, 3) := by decide +kernel
theorem dX11_operand_377 : decode cX11_operand 377 = .ok (.iconst 4, 1) := by decide +kernel
theorem dX11_operand_378 : decode cX11_operand 378 = .ok (.goto 48, 3) := by decide +kernel
theorem dX11_operand_381 : decode cX11_operand 381 = .ok (.aload_n 0, 1) := by decide +kernel
theorem dX11_operand_382 : decode cX11_operand 382 = .ok (.ldc2_w 314, 3) := by decide +kernel
theorem dX11_operand_385 : decode cX11_operand 385 = .ok (.invokevirtual 357, 3) := by decide +kernel
theorem dX11_operand_388 : decode cX11_operand 388 = .ok (.ifCond .eq 7, 3) := by decide +kernel
theorem dX11_operand_391 : decode cX11_operand 391 = .ok (.iconst 5, 1) := by decide +kernel
theorem dX11_operand_392 : decode cX11_operand 392 = .ok (.goto 34, 3) := by decide +kernel
theorem dX11_operand_395 : decode cX11_operand 395 = .ok (.aload_n 0, 1) := by decide +kernel
theorem dX11_operand_396 : decode cX11_operand 396 = .ok (.ldc2_w 290, 3) := by decide +kernel
theorem dX11_operand_399 : decode cX11_operand 399 = .ok (.invokevirtual 357, 3) := by decide +kernel
theorem dX11_operand_402 : decode cX11_operand 402 = .ok (.ifCond .eq 8, 3) := by decide +kernel
theorem dX11_operand_405 : decode cX11_operand 405 = .ok (.bipush 6, 2) := by decide +kernel
theorem dX11_operand_407 : decode cX11_operand 407 = .ok (.goto 19, 3) := by decide +kernel
theorem dX11_operand_410 : decode cX11_operand 410 = .ok (.aload_n 0, 1) := by decide +kernel
theorem dX11_operand_411 : decode cX11_operand 411 = .ok (.ldc2_w 282, 3) := by decide +kernel
theorem dX11_operand_414 : decode cX11_operand 414 = .ok (.invokevirtual 357, 3) := by decide +kernel
theorem dX11_operand_417 : decode cX11_operand 417 = .ok (.ifCond .eq 8, 3) := by decide +kernel
theorem dX11_operand_420 : decode cX11_operand 420 = .ok (.bipush 7, 2) := by decide +kernel
theorem dX11_operand_422 : decode cX11_operand 422 = .ok (.goto 4, 3) := by decide +kernel
theorem dX11_operand_425 : decode cX11_operand 425 = .ok (.iconst (-1), 1) := by decide +kernel
theorem dX11_operand_426 : decode cX11_operand 426 = .ok (.istore_n 3, 1) := by decide +kernel
theorem dX11_operand_427 : decode cX11_operand 427 = .ok (.iload_n 3, 1) := by decide +kernel
theorem dX11_operand_428 : decode cX11_operand 428 = .ok (.iconst (-1), 1) := by decide +kernel
theorem dX11_operand_429 : decode cX11_operand 429 = .ok (.if_icmp .ne 12, 3) := by decide +kernel
theorem dX11_operand_432 : decode cX11_operand 432 = .ok (.aload_n 0, 1) := by decide +kernel
theorem dX11_operand_433 : decode cX11_operand 433 = .ok (.iconst 1, 1) := by decide +kernel
theorem dX11_operand_434 : decode cX11_operand 434 = .ok (.aload_n 0, 1) := by decide +kernel
theorem dX11_operand_435 : decode cX11_operand 435 = .ok (.getfield 23, 3) := by decide +kernel
theorem dX11_operand_438 : decode cX11_operand 438 = .ok (.invokevirtual 260, 3) := by decide +kernel
theorem dX11_operand_441 : decode cX11_operand 441 = .ok (.aload_n 0, 1) := by decide +kernel
theorem dX11_operand_442 : decode cX11_operand 442 = .ok (.getfield 36, 3) := by decide +kernel
theorem dX11_operand_445 : decode cX11_operand 445 = .ok (.ifCond .le 5, 3) := by decide +kernel
theorem dX11_operand_448 : decode cX11_operand 448 = .ok (.iconst 1, 1) := by decide +kernel
theorem dX11_operand_449 : decode cX11_operand 449 = .ok (.ireturn, 1) := by decide +kernel
theorem dX11_operand_450 : decode cX11_operand 450 = .ok (.aload_n 0, 1) := by decide +kernel
theorem dX11_operand_451 : decode cX11_operand 451 = .ok (.iload_n 3, 1) := by decide +kernel
theorem dX11_operand_452 : decode cX11_operand 452 = .ok (.aload_n 0, 1) := by decide +kernel
theorem dX11_operand_453 : decode cX11_operand 453 = .ok (.getfield 29, 3) := by decide +kernel
theorem dX11_operand_456 : decode cX11_operand 456 = .ok (.invokevirtual 348, 3) := by decide +kernel
theorem dX11_operand_459 : decode cX11_operand 459 = .ok (.aload_n 0, 1) := by decide +kernel
theorem dX11_operand_460 : decode cX11_operand 460 = .ok (.invokevirtual 277, 3) := by decide +kernel
theorem dX11_operand_463 : decode cX11_operand 463 = .ok (.iconst 1, 1) := by decide +kernel
theorem dX11_operand_464 : decode cX11_operand 464 = .ok (.ireturn, 1) := by decide +kernel
def fX11_operand_289 (x3 : Int32) (s0 : Int32) (σ : zS) : Option (Int32 × zS) := bnr (fX11_opens s0 σ) fun σ9 => if (iG σ9 56 8) = 0 then wI σ9 81 20 ((iG σ9 56 41) - 1) x3 fun σ11 => some (0, σ11) else some (0, σ9)
theorem kX11_operand_289 {sc : Nat × (Nat → Int32)} (x3 : Int32) (s0 : Int32) (σ : zS) (w : Int32 × zS) (h : fX11_operand_289 x3 s0 σ = some w) : zR (zY0 sc) 4 0 0 mX11_operand 289 [(0, .ref 56), (3, .int x3)] [.int s0, .ref 56] (zE σ) (some (.int w.1), zE w.2) := by
  unfold fX11_operand_289 at h
  obtain ⟨σ9, e10, h⟩ := bnr_some h
  refine kR.cVv [.int s0] dX11_operand_289 rfl (by decide) mwX11_364 zp56 (by decide) rfl rfl (Nat.le_of_ble_eq_true rfl) (lX11_opens s0 σ _ e10) ?_
  refine kR.aload_n dX11_operand_292 0 rfl ?_
  refine kR.getI dX11_operand_293 flX11_36 zcf11 zp56 (Or.inl rfl) ?_
  refine kR.if_ne (tgt := 311) dX11_operand_296 (by decide) h (fun h => ?_) (fun h => ?_)
  · refine zR.iconst (v := 0) dX11_operand_311 (by decide) ?_
    exact kR.iretW dX11_operand_312 (nzZ rfl (Or.inl rfl)) h
  · refine kR.aload_n dX11_operand_299 0 rfl ?_
    refine kR.getR (v := 81) dX11_operand_300 flX11_131 zcf11 zp56 (Or.inr ⟨_, rfl⟩) rfl ?_
    refine kR.aload_n dX11_operand_303 0 rfl ?_
    refine kR.getI dX11_operand_304 flX11_137 zcf11 zp56 (Or.inl rfl) ?_
    refine zR.iconst (v := 1) dX11_operand_307 (by decide) ?_
    refine zR.isub dX11_operand_308 ?_
    refine kR.iload_n dX11_operand_309 1 rfl ?_
    refine kR.iast dX11_operand_310 zp81 rfl h (fun σ11 h => ?_)
    refine zR.iconst (v := 0) dX11_operand_311 (by decide) ?_
    exact kR.iretW dX11_operand_312 (nzZ rfl (Or.inl rfl)) h
def fX11_operand_276 (x3 : Int32) (σ : zS) : Option (Int32 × zS) := if x3 = 23 then fX11_operand_289 x3 6 σ else fX11_operand_289 x3 3 σ
theorem kX11_operand_276 {sc : Nat × (Nat → Int32)} (x3 : Int32) (σ : zS) (w : Int32 × zS) (h : fX11_operand_276 x3 σ = some w) : zR (zY0 sc) 4 0 0 mX11_operand 276 [(0, .ref 56), (3, .int x3)] [] (zE σ) (some (.int w.1), zE w.2) := by
  unfold fX11_operand_276 at h
  refine kR.aload_n dX11_operand_276 0 rfl ?_
  refine kR.iload_n dX11_operand_277 1 rfl ?_
  refine zR.bipush (v := 23) dX11_operand_278 (by decide) ?_
  refine kR.icmp_ne (tgt := 288) dX11_operand_280 (by decide) h (fun h => ?_) (fun h => ?_)
  · refine zR.iconst (v := 3) dX11_operand_288 (by decide) ?_
    exact kX11_operand_289 _ _ _ _ h
  · refine zR.bipush (v := 6) dX11_operand_283 (by decide) ?_
    refine zR.goto (tgt := 289) dX11_operand_285 (by decide) ?_
    exact kX11_operand_289 _ _ _ _ h
def fX11_operand_249 (s0 : Int32) (σ : zS) : Option (Int32 × zS) := bnr (fX11_ahead σ) fun σ5 => bnr (fX11_lex σ5) fun σ7 => if (fX11_isSign σ7 40) = 0 then bnr (fX11_blame 1 (iG σ7 56 4) σ7) fun σ12 => fX11_operand_276 s0 σ12 else fX11_operand_276 s0 σ7
theorem kX11_operand_249 {sc : Nat × (Nat → Int32)} (s0 : Int32) (σ : zS) (w : Int32 × zS) (h : fX11_operand_249 s0 σ = some w) : zR (zY0 sc) 4 0 0 mX11_operand 249 [(0, .ref 56)] [.int s0] (zE σ) (some (.int w.1), zE w.2) := by
  unfold fX11_operand_249 at h
  refine zR.istore_n (i := 3) (ls' := [(3, .int s0), (0, .ref 56)]) dX11_operand_249 rfl (by decide) rfl ?_
  refine kR.aload_n dX11_operand_250 1 rfl ?_
  obtain ⟨σ5, e6, h⟩ := bnr_some h
  refine kR.cVv [] dX11_operand_251 rfl (by decide) mwX11_277 zp56 (by decide) rfl rfl (Nat.le_of_ble_eq_true rfl) (lX11_ahead σ _ e6) ?_
  refine kR.aload_n dX11_operand_254 1 rfl ?_
  obtain ⟨σ7, e8, h⟩ := bnr_some h
  refine kR.cVv [] dX11_operand_255 rfl (by decide) mwX11_271 zp56 (by decide) rfl rfl (Nat.le_of_ble_eq_true rfl) (lX11_lex σ5 _ e8) ?_
  refine kR.aload_n dX11_operand_258 1 rfl ?_
  refine zR.bipush (v := 40) dX11_operand_259 (by decide) ?_
  refine kR.cVi [.int 40] dX11_operand_261 rfl (by decide) mwX11_274 zp56 (by decide) rfl rfl (Nat.le_of_ble_eq_true rfl) (lX11_isSign σ7 40) ?_
  refine kR.if_ne (tgt := 276) dX11_operand_264 (by decide) h (fun h => ?_) (fun h => ?_)
  · refine zR.sub [1, 0] rfl ?_
    exact kX11_operand_276 _ _ _ h
  · refine kR.aload_n dX11_operand_267 1 rfl ?_
    refine zR.iconst (v := 1) dX11_operand_268 (by decide) ?_
    refine kR.aload_n dX11_operand_269 1 rfl ?_
    refine kR.getI dX11_operand_270 flX11_23 zcf11 zp56 (Or.inl rfl) ?_
    obtain ⟨σ12, e13, h⟩ := bnr_some h
    refine kR.cVv [.int 1, .int (iG σ7 56 4)] dX11_operand_273 rfl (by decide) mwX11_260 zp56 (by decide) rfl rfl (Nat.le_of_ble_eq_true rfl) (lX11_blame 1 (iG σ7 56 4) σ7 _ e13) ?_
    refine zR.sub [1, 0] rfl ?_
    exact kX11_operand_276 _ _ _ h
def fX11_operand_217 (σ : zS) : Option (Int32 × zS) := if (fX11_isWord σ 7170414) = 0 then if (fX11_isWord σ 7168376) = 0 then fX11_operand_249 23 σ else fX11_operand_249 16 σ else fX11_operand_249 15 σ
theorem kX11_operand_217 {sc : Nat × (Nat → Int32)} (σ : zS) (w : Int32 × zS) (h : fX11_operand_217 σ = some w) : zR (zY0 sc) 4 0 0 mX11_operand 217 [(0, .ref 56)] [] (zE σ) (some (.int w.1), zE w.2) := by
  unfold fX11_operand_217 at h
  refine kR.aload_n dX11_operand_217 0 rfl ?_
  refine zR.ldc2 (v := 7170414) dX11_operand_218 clX11_326 ?_
  refine kR.cVi [.long 7170414] dX11_operand_221 rfl (by decide) mwX11_357 zp56 (by decide) rfl rfl (Nat.le_of_ble_eq_true rfl) (lX11_isWord σ 7170414) ?_
  refine kR.if_eq (tgt := 232) dX11_operand_224 (by decide) h (fun h => ?_) (fun h => ?_)
  · refine kR.aload_n dX11_operand_232 0 rfl ?_
    refine zR.ldc2 (v := 7168376) dX11_operand_233 clX11_328 ?_
    refine kR.cVi [.long 7168376] dX11_operand_236 rfl (by decide) mwX11_357 zp56 (by decide) rfl rfl (Nat.le_of_ble_eq_true rfl) (lX11_isWord σ 7168376) ?_
    refine kR.if_eq (tgt := 247) dX11_operand_239 (by decide) h (fun h => ?_) (fun h => ?_)
    · refine zR.bipush (v := 23) dX11_operand_247 (by decide) ?_
      exact kX11_operand_249 _ _ _ h
    · refine zR.bipush (v := 16) dX11_operand_242 (by decide) ?_
      refine zR.goto (tgt := 249) dX11_operand_244 (by decide) ?_
      exact kX11_operand_249 _ _ _ h
  · refine zR.bipush (v := 15) dX11_operand_227 (by decide) ?_
    refine zR.goto (tgt := 249) dX11_operand_229 (by decide) ?_
    exact kX11_operand_249 _ _ _ h
def fX11_operand_441 (x3 : Int32) (σ : zS) : Option (Int32 × zS) := if (iG σ 56 8) ≤ 0 then bnr (fX11_add x3 (iG σ 56 6) σ) fun σ14 => bnr (fX11_ahead σ14) fun σ16 => some (1, σ16) else some (1, σ)
theorem kX11_operand_441 {sc : Nat × (Nat → Int32)} (x3 : Int32) (σ : zS) (w : Int32 × zS) (h : fX11_operand_441 x3 σ = some w) : zR (zY0 sc) 4 0 0 mX11_operand 441 [(0, .ref 56), (3, .int x3)] [] (zE σ) (some (.int w.1), zE w.2) := by
  unfold fX11_operand_441 at h
  refine kR.aload_n dX11_operand_441 0 rfl ?_
  refine kR.getI dX11_operand_442 flX11_36 zcf11 zp56 (Or.inl rfl) ?_
  refine kR.if_le (tgt := 450) dX11_operand_445 (by decide) h (fun h => ?_) (fun h => ?_)
  · refine kR.aload_n dX11_operand_450 0 rfl ?_
    refine kR.iload_n dX11_operand_451 1 rfl ?_
    refine kR.aload_n dX11_operand_452 0 rfl ?_
    refine kR.getI dX11_operand_453 flX11_29 zcf11 zp56 (Or.inl rfl) ?_
    obtain ⟨σ14, e15, h⟩ := bnr_some h
    refine kR.cVv [.int x3, .int (iG σ 56 6)] dX11_operand_456 rfl (by decide) mwX11_348 zp56 (by decide) rfl rfl (Nat.le_of_ble_eq_true rfl) (lX11_add x3 (iG σ 56 6) σ _ e15) ?_
    refine kR.aload_n dX11_operand_459 0 rfl ?_
    obtain ⟨σ16, e17, h⟩ := bnr_some h
    refine kR.cVv [] dX11_operand_460 rfl (by decide) mwX11_277 zp56 (by decide) rfl rfl (Nat.le_of_ble_eq_true rfl) (lX11_ahead σ14 _ e17) ?_
    refine zR.iconst (v := 1) dX11_operand_463 (by decide) ?_
    exact kR.iretW dX11_operand_464 (nzZ rfl (Or.inr rfl)) h
  · refine zR.iconst (v := 1) dX11_operand_448 (by decide) ?_
    exact kR.iretW dX11_operand_449 (nzZ rfl (Or.inr rfl)) h
def fX11_operand_426 (s0 : Int32) (σ : zS) : Option (Int32 × zS) := if s0 = ((-1)) then bnr (fX11_blame 1 (iG σ 56 4) σ) fun σ18 => fX11_operand_441 s0 σ18 else fX11_operand_441 s0 σ
theorem kX11_operand_426 {sc : Nat × (Nat → Int32)} (s0 : Int32) (σ : zS) (w : Int32 × zS) (h : fX11_operand_426 s0 σ = some w) : zR (zY0 sc) 4 0 0 mX11_operand 426 [(0, .ref 56)] [.int s0] (zE σ) (some (.int w.1), zE w.2) := by
  unfold fX11_operand_426 at h
  refine zR.istore_n (i := 3) (ls' := [(3, .int s0), (0, .ref 56)]) dX11_operand_426 rfl (by decide) rfl ?_
  refine kR.iload_n dX11_operand_427 0 rfl ?_
  refine zR.iconst (v := (-1)) dX11_operand_428 (by decide) ?_
  refine kR.icmp_ne (tgt := 441) dX11_operand_429 (by decide) h (fun h => ?_) (fun h => ?_)
  · refine zR.sub [1, 0] rfl ?_
    exact kX11_operand_441 _ _ _ h
  · refine kR.aload_n dX11_operand_432 1 rfl ?_
    refine zR.iconst (v := 1) dX11_operand_433 (by decide) ?_
    refine kR.aload_n dX11_operand_434 1 rfl ?_
    refine kR.getI dX11_operand_435 flX11_23 zcf11 zp56 (Or.inl rfl) ?_
    obtain ⟨σ18, e19, h⟩ := bnr_some h
    refine kR.cVv [.int 1, .int (iG σ 56 4)] dX11_operand_438 rfl (by decide) mwX11_260 zp56 (by decide) rfl rfl (Nat.le_of_ble_eq_true rfl) (lX11_blame 1 (iG σ 56 4) σ _ e19) ?_
    refine zR.sub [1, 0] rfl ?_
    exact kX11_operand_441 _ _ _ h
def fX11_operand_171 (σ : zS) : Option (Int32 × zS) := if (fX11_isSign σ 40) = 0 then if (fX11_isWord σ 7170414) = 0 then if (fX11_isWord σ 7168376) = 0 then if (fX11_isWord σ 26982) = 0 then if (iG σ 56 3) = 2 then fX11_operand_426 0 σ else if (fX11_isWord σ 1751477348) = 0 then if (fX11_isWord σ 1819242087) = 0 then if (fX11_isWord σ 1835099237) = 0 then if (fX11_isWord σ 1818325876) = 0 then if (fX11_isWord σ 108187566237038) = 0 then if (fX11_isWord σ 108243466679400) = 0 then if (fX11_isWord σ 6775152) = 0 then fX11_operand_426 ((-1)) σ else fX11_operand_426 7 σ else fX11_operand_426 6 σ else fX11_operand_426 5 σ else fX11_operand_426 4 σ else fX11_operand_426 3 σ else fX11_operand_426 2 σ else fX11_operand_426 1 σ else fX11_operand_217 σ else fX11_operand_217 σ else fX11_operand_217 σ else bnr (fX11_opens 2 σ) fun σ20 => some (0, σ20)
theorem kX11_operand_171 {sc : Nat × (Nat → Int32)} (σ : zS) (w : Int32 × zS) (h : fX11_operand_171 σ = some w) : zR (zY0 sc) 4 0 0 mX11_operand 171 [(0, .ref 56)] [] (zE σ) (some (.int w.1), zE w.2) := by
  unfold fX11_operand_171 at h
  refine kR.aload_n dX11_operand_171 0 rfl ?_
  refine zR.bipush (v := 40) dX11_operand_172 (by decide) ?_
  refine kR.cVi [.int 40] dX11_operand_174 rfl (by decide) mwX11_274 zp56 (by decide) rfl rfl (Nat.le_of_ble_eq_true rfl) (lX11_isSign σ 40) ?_
  refine kR.if_eq (tgt := 187) dX11_operand_177 (by decide) h (fun h => ?_) (fun h => ?_)
  · refine kR.aload_n dX11_operand_187 0 rfl ?_
    refine zR.ldc2 (v := 7170414) dX11_operand_188 clX11_326 ?_
    refine kR.cVi [.long 7170414] dX11_operand_191 rfl (by decide) mwX11_357 zp56 (by decide) rfl rfl (Nat.le_of_ble_eq_true rfl) (lX11_isWord σ 7170414) ?_
    refine kR.if_ne (tgt := 217) dX11_operand_194 (by decide) h (fun h => ?_) (fun h => ?_)
    · exact kX11_operand_217 _ _ h
    · refine kR.aload_n dX11_operand_197 0 rfl ?_
      refine zR.ldc2 (v := 7168376) dX11_operand_198 clX11_328 ?_
      refine kR.cVi [.long 7168376] dX11_operand_201 rfl (by decide) mwX11_357 zp56 (by decide) rfl rfl (Nat.le_of_ble_eq_true rfl) (lX11_isWord σ 7168376) ?_
      refine kR.if_ne (tgt := 217) dX11_operand_204 (by decide) h (fun h => ?_) (fun h => ?_)
      · exact kX11_operand_217 _ _ h
      · refine kR.aload_n dX11_operand_207 0 rfl ?_
        refine zR.ldc2 (v := 26982) dX11_operand_208 clX11_316 ?_
        refine kR.cVi [.long 26982] dX11_operand_211 rfl (by decide) mwX11_357 zp56 (by decide) rfl rfl (Nat.le_of_ble_eq_true rfl) (lX11_isWord σ 26982) ?_
        refine kR.if_eq (tgt := 313) dX11_operand_214 (by decide) h (fun h => ?_) (fun h => ?_)
        · refine kR.aload_n dX11_operand_313 0 rfl ?_
          refine kR.getI dX11_operand_314 flX11_20 zcf11 zp56 (Or.inl rfl) ?_
          refine zR.iconst (v := 2) dX11_operand_317 (by decide) ?_
          refine kR.icmp_ne (tgt := 325) dX11_operand_318 (by decide) h (fun h => ?_) (fun h => ?_)
          · refine kR.aload_n dX11_operand_325 0 rfl ?_
            refine zR.ldc2 (v := 1751477348) dX11_operand_326 clX11_306 ?_
            refine kR.cVi [.long 1751477348] dX11_operand_329 rfl (by decide) mwX11_357 zp56 (by decide) rfl rfl (Nat.le_of_ble_eq_true rfl) (lX11_isWord σ 1751477348) ?_
            refine kR.if_eq (tgt := 339) dX11_operand_332 (by decide) h (fun h => ?_) (fun h => ?_)
            · refine kR.aload_n dX11_operand_339 0 rfl ?_
              refine zR.ldc2 (v := 1819242087) dX11_operand_340 clX11_308 ?_
              refine kR.cVi [.long 1819242087] dX11_operand_343 rfl (by decide) mwX11_357 zp56 (by decide) rfl rfl (Nat.le_of_ble_eq_true rfl) (lX11_isWord σ 1819242087) ?_
              refine kR.if_eq (tgt := 353) dX11_operand_346 (by decide) h (fun h => ?_) (fun h => ?_)
              · refine kR.aload_n dX11_operand_353 0 rfl ?_
                refine zR.ldc2 (v := 1835099237) dX11_operand_354 clX11_310 ?_
                refine kR.cVi [.long 1835099237] dX11_operand_357 rfl (by decide) mwX11_357 zp56 (by decide) rfl rfl (Nat.le_of_ble_eq_true rfl) (lX11_isWord σ 1835099237) ?_
                refine kR.if_eq (tgt := 367) dX11_operand_360 (by decide) h (fun h => ?_) (fun h => ?_)
                · refine kR.aload_n dX11_operand_367 0 rfl ?_
                  refine zR.ldc2 (v := 1818325876) dX11_operand_368 clX11_312 ?_
                  refine kR.cVi [.long 1818325876] dX11_operand_371 rfl (by decide) mwX11_357 zp56 (by decide) rfl rfl (Nat.le_of_ble_eq_true rfl) (lX11_isWord σ 1818325876) ?_
                  refine kR.if_eq (tgt := 381) dX11_operand_374 (by decide) h (fun h => ?_) (fun h => ?_)
                  · refine kR.aload_n dX11_operand_381 0 rfl ?_
                    refine zR.ldc2 (v := 108187566237038) dX11_operand_382 clX11_314 ?_
                    refine kR.cVi [.long 108187566237038] dX11_operand_385 rfl (by decide) mwX11_357 zp56 (by decide) rfl rfl (Nat.le_of_ble_eq_true rfl) (lX11_isWord σ 108187566237038) ?_
                    refine kR.if_eq (tgt := 395) dX11_operand_388 (by decide) h (fun h => ?_) (fun h => ?_)
                    · refine kR.aload_n dX11_operand_395 0 rfl ?_
                      refine zR.ldc2 (v := 108243466679400) dX11_operand_396 clX11_290 ?_
                      refine kR.cVi [.long 108243466679400] dX11_operand_399 rfl (by decide) mwX11_357 zp56 (by decide) rfl rfl (Nat.le_of_ble_eq_true rfl) (lX11_isWord σ 108243466679400) ?_
                      refine kR.if_eq (tgt := 410) dX11_operand_402 (by decide) h (fun h => ?_) (fun h => ?_)
                      · refine kR.aload_n dX11_operand_410 0 rfl ?_
                        refine zR.ldc2 (v := 6775152) dX11_operand_411 clX11_282 ?_
                        refine kR.cVi [.long 6775152] dX11_operand_414 rfl (by decide) mwX11_357 zp56 (by decide) rfl rfl (Nat.le_of_ble_eq_true rfl) (lX11_isWord σ 6775152) ?_
                        refine kR.if_eq (tgt := 425) dX11_operand_417 (by decide) h (fun h => ?_) (fun h => ?_)
                        · refine zR.iconst (v := (-1)) dX11_operand_425 (by decide) ?_
                          exact kX11_operand_426 _ _ _ h
                        · refine zR.bipush (v := 7) dX11_operand_420 (by decide) ?_
                          refine zR.goto (tgt := 426) dX11_operand_422 (by decide) ?_
                          exact kX11_operand_426 _ _ _ h
                      · refine zR.bipush (v := 6) dX11_operand_405 (by decide) ?_
                        refine zR.goto (tgt := 426) dX11_operand_407 (by decide) ?_
                        exact kX11_operand_426 _ _ _ h
                    · refine zR.iconst (v := 5) dX11_operand_391 (by decide) ?_
                      refine zR.goto (tgt := 426) dX11_operand_392 (by decide) ?_
                      exact kX11_operand_426 _ _ _ h
                  · refine zR.iconst (v := 4) dX11_operand_377 (by decide) ?_
                    refine zR.goto (tgt := 426) dX11_operand_378 (by decide) ?_
                    exact kX11_operand_426 _ _ _ h
                · refine zR.iconst (v := 3) dX11_operand_363 (by decide) ?_
                  refine zR.goto (tgt := 426) dX11_operand_364 (by decide) ?_
                  exact kX11_operand_426 _ _ _ h
              · refine zR.iconst (v := 2) dX11_operand_349 (by decide) ?_
                refine zR.goto (tgt := 426) dX11_operand_350 (by decide) ?_
                exact kX11_operand_426 _ _ _ h
            · refine zR.iconst (v := 1) dX11_operand_335 (by decide) ?_
              refine zR.goto (tgt := 426) dX11_operand_336 (by decide) ?_
              exact kX11_operand_426 _ _ _ h
          · refine zR.iconst (v := 0) dX11_operand_321 (by decide) ?_
            refine zR.goto (tgt := 426) dX11_operand_322 (by decide) ?_
            exact kX11_operand_426 _ _ _ h
        · exact kX11_operand_217 _ _ h
  · refine kR.aload_n dX11_operand_180 0 rfl ?_
    refine zR.iconst (v := 2) dX11_operand_181 (by decide) ?_
    obtain ⟨σ20, e21, h⟩ := bnr_some h
    refine kR.cVv [.int 2] dX11_operand_182 rfl (by decide) mwX11_364 zp56 (by decide) rfl rfl (Nat.le_of_ble_eq_true rfl) (lX11_opens 2 σ _ e21) ?_
    refine zR.iconst (v := 0) dX11_operand_185 (by decide) ?_
    exact kR.iretW dX11_operand_186 (nzZ rfl (Or.inl rfl)) h
def fX11_operand_137 (x1 : Int32) (x2 : Int32) (σ : zS) : Option (Int32 × zS) := if x2 = 0 then fX11_operand_171 σ else if (fX11_isWord σ 6384748) = 0 then fX11_operand_171 σ else bnr (fX11_add 9 0 σ) fun σ22 => wI σ22 79 20 x1 2 fun σ24 => bnr (fX11_ahead σ24) fun σ25 => some (1, σ25)
theorem kX11_operand_137 {sc : Nat × (Nat → Int32)} (x1 : Int32) (x2 : Int32) (σ : zS) (w : Int32 × zS) (h : fX11_operand_137 x1 x2 σ = some w) : zR (zY0 sc) 4 0 0 mX11_operand 137 [(0, .ref 56), (1, .int x1), (2, .int x2)] [] (zE σ) (some (.int w.1), zE w.2) := by
  unfold fX11_operand_137 at h
  refine kR.iload_n dX11_operand_137 2 rfl ?_
  refine kR.if_eq (tgt := 171) dX11_operand_138 (by decide) h (fun h => ?_) (fun h => ?_)
  · refine zR.sub [0] rfl ?_
    exact kX11_operand_171 _ _ h
  · refine kR.aload_n dX11_operand_141 0 rfl ?_
    refine zR.ldc2 (v := 6384748) dX11_operand_142 clX11_324 ?_
    refine kR.cVi [.long 6384748] dX11_operand_145 rfl (by decide) mwX11_357 zp56 (by decide) rfl rfl (Nat.le_of_ble_eq_true rfl) (lX11_isWord σ 6384748) ?_
    refine kR.if_eq (tgt := 171) dX11_operand_148 (by decide) h (fun h => ?_) (fun h => ?_)
    · refine zR.sub [0] rfl ?_
      exact kX11_operand_171 _ _ h
    · refine kR.aload_n dX11_operand_151 0 rfl ?_
      refine zR.bipush (v := 9) dX11_operand_152 (by decide) ?_
      refine zR.iconst (v := 0) dX11_operand_154 (by decide) ?_
      obtain ⟨σ22, e23, h⟩ := bnr_some h
      refine kR.cVv [.int 9, .int 0] dX11_operand_155 rfl (by decide) mwX11_348 zp56 (by decide) rfl rfl (Nat.le_of_ble_eq_true rfl) (lX11_add 9 0 σ _ e23) ?_
      refine kR.aload_n dX11_operand_158 0 rfl ?_
      refine kR.getR (v := 79) dX11_operand_159 flX11_124 zcf11 zp56 (Or.inr ⟨_, rfl⟩) rfl ?_
      refine kR.iload_n dX11_operand_162 1 rfl ?_
      refine zR.iconst (v := 2) dX11_operand_163 (by decide) ?_
      refine kR.iast dX11_operand_164 zp79 rfl h (fun σ24 h => ?_)
      refine kR.aload_n dX11_operand_165 0 rfl ?_
      obtain ⟨σ25, e26, h⟩ := bnr_some h
      refine kR.cVv [] dX11_operand_166 rfl (by decide) mwX11_277 zp56 (by decide) rfl rfl (Nat.le_of_ble_eq_true rfl) (lX11_ahead σ24 _ e26) ?_
      refine zR.iconst (v := 1) dX11_operand_169 (by decide) ?_
      exact kR.iretW dX11_operand_170 (nzZ rfl (Or.inr rfl)) h
def fX11_operand_110 (x1 : Int32) (x2 : Int32) (σ : zS) : Option (Int32 × zS) := wI σ 80 20 x1 (vp_nar .boolean 0) fun σ4 => if x2 = 0 then fX11_operand_137 x1 x2 σ4 else if (fX11_isSign σ4 91) = 0 then fX11_operand_137 x1 x2 σ4 else bnr (fX11_opens 5 σ4) fun σ27 => some (0, σ27)
theorem kX11_operand_110 {sc : Nat × (Nat → Int32)} (x1 : Int32) (x2 : Int32) (σ : zS) (w : Int32 × zS) (h : fX11_operand_110 x1 x2 σ = some w) : zR (zY0 sc) 4 0 0 mX11_operand 110 [(0, .ref 56), (1, .int x1), (2, .int x2)] [] (zE σ) (some (.int w.1), zE w.2) := by
  unfold fX11_operand_110 at h
  refine kR.aload_n dX11_operand_110 0 rfl ?_
  refine kR.getR (v := 80) dX11_operand_111 flX11_127 zcf11 zp56 (Or.inr ⟨_, rfl⟩) rfl ?_
  refine kR.iload_n dX11_operand_114 1 rfl ?_
  refine zR.iconst (v := 0) dX11_operand_115 (by decide) ?_
  refine kR.zast dX11_operand_116 zp80 rfl h (fun σ4 h => ?_)
  refine kR.iload_n dX11_operand_117 2 rfl ?_
  refine kR.if_eq (tgt := 137) dX11_operand_118 (by decide) h (fun h => ?_) (fun h => ?_)
  · exact kX11_operand_137 _ _ _ _ h
  · refine kR.aload_n dX11_operand_121 0 rfl ?_
    refine zR.bipush (v := 91) dX11_operand_122 (by decide) ?_
    refine kR.cVi [.int 91] dX11_operand_124 rfl (by decide) mwX11_274 zp56 (by decide) rfl rfl (Nat.le_of_ble_eq_true rfl) (lX11_isSign σ4 91) ?_
    refine kR.if_eq (tgt := 137) dX11_operand_127 (by decide) h (fun h => ?_) (fun h => ?_)
    · exact kX11_operand_137 _ _ _ _ h
    · refine kR.aload_n dX11_operand_130 0 rfl ?_
      refine zR.iconst (v := 5) dX11_operand_131 (by decide) ?_
      obtain ⟨σ27, e28, h⟩ := bnr_some h
      refine kR.cVv [.int 5] dX11_operand_132 rfl (by decide) mwX11_364 zp56 (by decide) rfl rfl (Nat.le_of_ble_eq_true rfl) (lX11_opens 5 σ4 _ e28) ?_
      refine zR.iconst (v := 0) dX11_operand_135 (by decide) ?_
      exact kR.iretW dX11_operand_136 (nzZ rfl (Or.inl rfl)) h
def fX11_operand_79 (σ : zS) : Option (Int32 × zS) := if (iG σ 56 8) ≤ 0 then bnd (iS σ 56 42 ((iG σ 56 42) + 1)) fun σ29 => bnr (fX11_holdsBack 22 σ29) fun σ30 => bnr (fX11_ahead σ30) fun σ32 => some (0, σ32) else some (1, σ)
theorem kX11_operand_79 {sc : Nat × (Nat → Int32)} (σ : zS) (w : Int32 × zS) (h : fX11_operand_79 σ = some w) : zR (zY0 sc) 4 0 0 mX11_operand 79 [(0, .ref 56)] [] (zE σ) (some (.int w.1), zE w.2) := by
  unfold fX11_operand_79 at h
  refine kR.aload_n dX11_operand_79 0 rfl ?_
  refine kR.getI dX11_operand_80 flX11_36 zcf11 zp56 (Or.inl rfl) ?_
  refine kR.if_le (tgt := 88) dX11_operand_83 (by decide) h (fun h => ?_) (fun h => ?_)
  · refine kR.aload_n dX11_operand_88 0 rfl ?_
    refine zR.dup dX11_operand_89 rfl ?_
    refine kR.getI dX11_operand_90 flX11_140 zcf11 zp56 (Or.inl rfl) ?_
    refine zR.iconst (v := 1) dX11_operand_93 (by decide) ?_
    refine zR.iadd dX11_operand_94 ?_
    refine kR.putI dX11_operand_95 fpX11_140 zcf11 zp56 rfl h (fun σ29 h => ?_)
    refine kR.aload_n dX11_operand_98 0 rfl ?_
    refine zR.bipush (v := 22) dX11_operand_99 (by decide) ?_
    obtain ⟨σ30, e31, h⟩ := bnr_some h
    refine kR.cVv [.int 22] dX11_operand_101 rfl (by decide) mwX11_361 zp56 (by decide) rfl rfl (Nat.le_of_ble_eq_true rfl) (lX11_holdsBack 22 σ29 _ e31) ?_
    refine kR.aload_n dX11_operand_104 0 rfl ?_
    obtain ⟨σ32, e33, h⟩ := bnr_some h
    refine kR.cVv [] dX11_operand_105 rfl (by decide) mwX11_277 zp56 (by decide) rfl rfl (Nat.le_of_ble_eq_true rfl) (lX11_ahead σ30 _ e33) ?_
    refine zR.iconst (v := 0) dX11_operand_108 (by decide) ?_
    exact kR.iretW dX11_operand_109 (nzZ rfl (Or.inl rfl)) h
  · refine zR.iconst (v := 1) dX11_operand_86 (by decide) ?_
    exact kR.iretW dX11_operand_87 (nzZ rfl (Or.inr rfl)) h
def fX11_operand_46 (x1 : Int32) (s0 : Int32) (σ : zS) : Option (Int32 × zS) := if s0 = 0 then fX11_operand_110 x1 s0 σ else if (fX11_isWord σ 7237492) = 0 then fX11_operand_110 x1 s0 σ else if (iG σ 56 42) = 7 then bnr (fX11_blame 5 (iG σ 56 4) σ) fun σ34 => fX11_operand_79 σ34 else fX11_operand_79 σ
theorem kX11_operand_46 {sc : Nat × (Nat → Int32)} (x1 : Int32) (s0 : Int32) (σ : zS) (w : Int32 × zS) (h : fX11_operand_46 x1 s0 σ = some w) : zR (zY0 sc) 4 0 0 mX11_operand 46 [(0, .ref 56), (1, .int x1)] [.int s0] (zE σ) (some (.int w.1), zE w.2) := by
  unfold fX11_operand_46 at h
  refine zR.istore_n (i := 2) (ls' := [(2, .int s0), (0, .ref 56), (1, .int x1)]) dX11_operand_46 rfl (by decide) rfl ?_
  refine kR.iload_n dX11_operand_47 0 rfl ?_
  refine kR.if_eq (tgt := 110) dX11_operand_48 (by decide) h (fun h => ?_) (fun h => ?_)
  · refine zR.sub [1, 2, 0] rfl ?_
    exact kX11_operand_110 _ _ _ _ h
  · refine kR.aload_n dX11_operand_51 1 rfl ?_
    refine zR.ldc2 (v := 7237492) dX11_operand_52 clX11_322 ?_
    refine kR.cVi [.long 7237492] dX11_operand_55 rfl (by decide) mwX11_357 zp56 (by decide) rfl rfl (Nat.le_of_ble_eq_true rfl) (lX11_isWord σ 7237492) ?_
    refine kR.if_eq (tgt := 110) dX11_operand_58 (by decide) h (fun h => ?_) (fun h => ?_)
    · refine zR.sub [1, 2, 0] rfl ?_
      exact kX11_operand_110 _ _ _ _ h
    · refine kR.aload_n dX11_operand_61 1 rfl ?_
      refine kR.getI dX11_operand_62 flX11_140 zcf11 zp56 (Or.inl rfl) ?_
      refine zR.bipush (v := 7) dX11_operand_65 (by decide) ?_
      refine kR.icmp_ne (tgt := 79) dX11_operand_67 (by decide) h (fun h => ?_) (fun h => ?_)
      · refine zR.sub [1] rfl ?_
        exact kX11_operand_79 _ _ h
      · refine kR.aload_n dX11_operand_70 1 rfl ?_
        refine zR.iconst (v := 5) dX11_operand_71 (by decide) ?_
        refine kR.aload_n dX11_operand_72 1 rfl ?_
        refine kR.getI dX11_operand_73 flX11_23 zcf11 zp56 (Or.inl rfl) ?_
        obtain ⟨σ34, e35, h⟩ := bnr_some h
        refine kR.cVv [.int 5, .int (iG σ 56 4)] dX11_operand_76 rfl (by decide) mwX11_260 zp56 (by decide) rfl rfl (Nat.le_of_ble_eq_true rfl) (lX11_blame 5 (iG σ 56 4) σ _ e35) ?_
        refine zR.sub [1] rfl ?_
        exact kX11_operand_79 _ _ h
def fX11_operand_45 (x1 : Int32) (σ : zS) : Option (Int32 × zS) := fX11_operand_46 x1 0 σ
theorem kX11_operand_45 {sc : Nat × (Nat → Int32)} (x1 : Int32) (σ : zS) (w : Int32 × zS) (h : fX11_operand_45 x1 σ = some w) : zR (zY0 sc) 4 0 0 mX11_operand 45 [(0, .ref 56), (1, .int x1)] [] (zE σ) (some (.int w.1), zE w.2) := by
  unfold fX11_operand_45 at h
  refine zR.iconst (v := 0) dX11_operand_45 (by decide) ?_
  exact kX11_operand_46 _ _ _ _ h
def fX11_operand (σ : zS) : Option (Int32 × zS) := bnr (fX11_lex σ) fun σ1 => if (iG σ1 56 8) ≤ 0 then aI σ1 78 20 ((iG σ1 56 41) - 1) fun v3 => if (fX11_isTest v3) = 0 then fX11_operand_45 ((iG σ1 56 41) - 1) σ1 else aI σ1 80 20 ((iG σ1 56 41) - 1) fun v36 => if v36 = 0 then fX11_operand_45 ((iG σ1 56 41) - 1) σ1 else fX11_operand_46 ((iG σ1 56 41) - 1) 1 σ1 else some (1, σ1)
theorem eX11_operand {sc : Nat × (Nat → Int32)} (σ : zS) (w : Int32 × zS) (h : fX11_operand σ = some w) : zR (zY0 sc) 4 0 0 mX11_operand 0 [(0, .ref 56)] [] (zE σ) (some (.int w.1), zE w.2) := by
  unfold fX11_operand at h
  refine kR.aload_n dX11_operand_0 0 rfl ?_
  obtain ⟨σ1, e2, h⟩ := bnr_some h
  refine kR.cVv [] dX11_operand_1 rfl (by decide) mwX11_271 zp56 (by decide) rfl rfl (Nat.le_of_ble_eq_true rfl) (lX11_lex σ _ e2) ?_
  refine kR.aload_n dX11_operand_4 0 rfl ?_
  refine kR.getI dX11_operand_5 flX11_36 zcf11 zp56 (Or.inl rfl) ?_
  refine kR.if_le (tgt := 13) dX11_operand_8 (by decide) h (fun h => ?_) (fun h => ?_)
  · refine kR.aload_n dX11_operand_13 0 rfl ?_
    refine kR.getI dX11_operand_14 flX11_137 zcf11 zp56 (Or.inl rfl) ?_
    refine zR.iconst (v := 1) dX11_operand_17 (by decide) ?_
    refine zR.isub dX11_operand_18 ?_
    refine zR.istore_n (i := 1) (ls' := [(1, .int ((iG σ1 56 41) - 1)), (0, .ref 56)]) dX11_operand_19 rfl (by decide) rfl ?_
    refine kR.aload_n dX11_operand_20 1 rfl ?_
    refine kR.getR (v := 78) dX11_operand_21 flX11_121 zcf11 zp56 (Or.inr ⟨_, rfl⟩) rfl ?_
    refine kR.iload_n dX11_operand_24 0 rfl ?_
    refine kR.iald dX11_operand_25 zp78 rfl h (fun v3 h => ?_)
    refine kR.cSi [.int v3] dX11_operand_26 rfl (by decide) (Or.inl mwX11_354) rfl (Nat.le_of_ble_eq_true rfl) (lX11_isTest v3) ?_
    refine kR.if_eq (tgt := 45) dX11_operand_29 (by decide) h (fun h => ?_) (fun h => ?_)
    · refine zR.sub [1, 0] rfl ?_
      exact kX11_operand_45 _ _ _ h
    · refine kR.aload_n dX11_operand_32 1 rfl ?_
      refine kR.getR (v := 80) dX11_operand_33 flX11_127 zcf11 zp56 (Or.inr ⟨_, rfl⟩) rfl ?_
      refine kR.iload_n dX11_operand_36 0 rfl ?_
      refine kR.zald dX11_operand_37 zp80 rfl h (fun v36 h => ?_)
      refine kR.if_eq (tgt := 45) dX11_operand_38 (by decide) h (fun h => ?_) (fun h => ?_)
      · refine zR.sub [1, 0] rfl ?_
        exact kX11_operand_45 _ _ _ h
      · refine zR.iconst (v := 1) dX11_operand_41 (by decide) ?_
        refine zR.goto (tgt := 46) dX11_operand_42 (by decide) ?_
        refine zR.sub [1, 0] rfl ?_
        exact kX11_operand_46 _ _ _ _ h
  · refine zR.iconst (v := 1) dX11_operand_11 (by decide) ?_
    exact kR.iretW dX11_operand_12 (nzZ rfl (Or.inr rfl)) h
theorem lX11_operand {sc : Nat × (Nat → Int32)} (σ : zS) (w : Int32 × zS) (h : fX11_operand σ = some w) : zC (zY0 sc) 4 0 0 mX11_operand [.ref 56] (zE σ) (some (.int w.1), zE w.2) := zC.of (by decide +kernel) (Nat.le_of_ble_eq_true rfl) ⟨_, rfl⟩ (eX11_operand σ w h)
theorem dX11_goesOn_0 : decode cX11_goesOn 0 = .ok (.aload_n 0, 1) := by decide +kernel
theorem dX11_goesOn_1 : decode cX11_goesOn 1 = .ok (.invokevirtual 271, 3) := by decide +kernel
theorem dX11_goesOn_4 : decode cX11_goesOn 4 = .ok (.aload_n 0, 1) := by decide +kernel
theorem dX11_goesOn_5 : decode cX11_goesOn 5 = .ok (.getfield 36, 3) := by decide +kernel
theorem dX11_goesOn_8 : decode cX11_goesOn 8 = .ok (.ifCond .le 5, 3) := by decide +kernel
theorem dX11_goesOn_11 : decode cX11_goesOn 11 = .ok (.iconst 0, 1) := by decide +kernel
theorem dX11_goesOn_12 : decode cX11_goesOn 12 = .ok (.ireturn, 1) := by decide +kernel
theorem dX11_goesOn_13 : decode cX11_goesOn 13 = .ok (.aload_n 0, 1) := by decide +kernel
theorem dX11_goesOn_14 : decode cX11_goesOn 14 = .ok (.getfield 137, 3) := by decide +kernel
theorem dX11_goesOn_17 : decode cX11_goesOn 17 = .ok (.iconst 1, 1) := by decide +kernel
theorem dX11_goesOn_18 : decode cX11_goesOn 18 = .ok (.isub, 1) := by decide +kernel
theorem dX11_goesOn_19 : decode cX11_goesOn 19 = .ok (.istore_n 1, 1) := by decide +kernel
theorem dX11_goesOn_20 : decode cX11_goesOn 20 = .ok (.aload_n 0, 1) := by decide +kernel
theorem dX11_goesOn_21 : decode cX11_goesOn 21 = .ok (.getfield 121, 3) := by decide +kernel
theorem dX11_goesOn_24 : decode cX11_goesOn 24 = .ok (.iload_n 1, 1) := by decide +kernel
theorem dX11_goesOn_25 : decode cX11_goesOn 25 = .ok (.iaload, 1) := by decide +kernel
theorem dX11_goesOn_26 : decode cX11_goesOn 26 = .ok (.istore_n 2, 1) := by decide +kernel
theorem dX11_goesOn_27 : decode cX11_goesOn 27 = .ok (.iload_n 2, 1) := by decide +kernel
theorem dX11_goesOn_28 : decode cX11_goesOn 28 = .ok (.invokestatic 354, 3) := by decide +kernel
theorem dX11_goesOn_31 : decode cX11_goesOn 31 = .ok (.istore_n 3, 1) := by decide +kernel
theorem dX11_goesOn_32 : decode cX11_goesOn 32 = .ok (.aload_n 0, 1) := by decide +kernel
theorem dX11_goesOn_33 : decode cX11_goesOn 33 = .ok (.getfield 124, 3) := by decide +kernel
theorem dX11_goesOn_36 : decode cX11_goesOn 36 = .ok (.iload_n 1, 1) := by decide +kernel
theorem dX11_goesOn_37 : decode cX11_goesOn 37 = .ok (.iaload, 1) := by decide +kernel
theorem dX11_goesOn_38 : decode cX11_goesOn 38 = .ok (.iconst 2, 1) := by decide +kernel
theorem dX11_goesOn_39 : decode cX11_goesOn 39 = .ok (.if_icmp .ge 149, 3) := by decide +kernel
theorem dX11_goesOn_42 : decode cX11_goesOn 42 = .ok (.aload_n 0, 1) := by decide +kernel
theorem dX11_goesOn_43 : decode cX11_goesOn 43 = .ok (.bipush 43, 2) := by decide +kernel
theorem dX11_goesOn_45 : decode cX11_goesOn 45 = .ok (.invokevirtual 274, 3) := by decide +kernel
theorem dX11_goesOn_48 : decode cX11_goesOn 48 = .ok (.ifCond .ne 39, 3) := by decide +kernel
theorem dX11_goesOn_51 : decode cX11_goesOn 51 = .ok (.aload_n 0, 1) := by decide +kernel
theorem dX11_goesOn_52 : decode cX11_goesOn 52 = .ok (.bipush 45, 2) := by decide +kernel
theorem dX11_goesOn_54 : decode cX11_goesOn 54 = .ok (.invokevirtual 274, 3) := by decide +kernel
theorem dX11_goesOn_57 : decode cX11_goesOn 57 = .ok (.ifCond .ne 30, 3) := by decide +kernel
theorem dX11_goesOn_60 : decode cX11_goesOn 60 = .ok (.aload_n 0, 1) := by decide +kernel
theorem dX11_goesOn_61 : decode cX11_goesOn 61 = .ok (.bipush 42, 2) := by decide +kernel
theorem dX11_goesOn_63 : decode cX11_goesOn 63 = .ok (.invokevirtual 274, 3) := by decide +kernel
theorem dX11_goesOn_66 : decode cX11_goesOn 66 = .ok (.ifCond .ne 21, 3) := by decide +kernel
theorem dX11_goesOn_69 : decode cX11_goesOn 69 = .ok (.aload_n 0, 1) := by decide +kernel
theorem dX11_goesOn_70 : decode cX11_goesOn 70 = .ok (.bipush 47, 2) := by decide +kernel
theorem dX11_goesOn_72 : decode cX11_goesOn 72 = .ok (.invokevirtual 274, 3) := by decide +kernel
theorem dX11_goesOn_75 : decode cX11_goesOn 75 = .ok (.ifCond .ne 12, 3) := by decide +kernel
theorem dX11_goesOn_78 : decode cX11_goesOn 78 = .ok (.aload_n 0, 1) := by decide +kernel
theorem dX11_goesOn_79 : decode cX11_goesOn 79 = .ok (.bipush 37, 2) := by decide +kernel
theorem dX11_goesOn_81 : decode cX11_goesOn 81 = .ok (.invokevirtual 274, 3) := by decide +kernel
theorem dX11_goesOn_84 : decode cX11_goesOn 84 = .ok (.ifCond .eq 104, 3) := by decide +kernel
theorem dX11_goesOn_87 : decode cX11_goesOn 87 = .ok (.aload_n 0, 1) := by decide +kernel
theorem dX11_goesOn_88 : decode cX11_goesOn 88 = .ok (.aload_n 0, 1) := by decide +kernel
theorem dX11_goesOn_89 : decode cX11_goesOn 89 = .ok (.bipush 43, 2) := by decide +kernel
theorem dX11_goesOn_91 : decode cX11_goesOn 91 = .ok (.invokevirtual 274, 3) := by decide +kernel
theorem dX11_goesOn_94 : decode cX11_goesOn 94 = .ok (.ifCond .ne 12, 3) := by decide +kernel
theorem dX11_goesOn_97 : decode cX11_goesOn 97 = .ok (.aload_n 0, 1) := by decide +kernel
theorem dX11_goesOn_98 : decode cX11_goesOn 98 = .ok (.bipush 45, 2) := by decide +kernel
theorem dX11_goesOn_100 : decode cX11_goesOn 100 = .ok (.invokevirtual 274, 3) := by decide +kernel
theorem dX11_goesOn_103 : decode cX11_goesOn 103 = .ok (.ifCond .eq 7, 3) := by decide +kernel
theorem dX11_goesOn_106 : decode cX11_goesOn 106 = .ok (.iconst 5, 1) := by decide +kernel
theorem dX11_goesOn_107 : decode cX11_goesOn 107 = .ok (.goto 5, 3) := by decide +kernel
theorem dX11_goesOn_110 : decode cX11_goesOn 110 = .ok (.bipush 6, 2) := by decide +kernel
theorem dX11_goesOn_112 : decode cX11_goesOn 112 = .ok (.invokevirtual 367, 3) := by decide +kernel
theorem dX11_goesOn_115 : decode cX11_goesOn 115 = .ok (.aload_n 0, 1) := by decide +kernel
theorem dX11_goesOn_116 : decode cX11_goesOn 116 = .ok (.aload_n 0, 1) := by decide +kernel
theorem dX11_goesOn_117 : decode cX11_goesOn 117 = .ok (.bipush 43, 2) := by decide +kernel
theorem dX11_goesOn_119 : decode cX11_goesOn 119 = .ok (.invokevirtual 274, 3) := by decide +kernel
theorem dX11_goesOn_122 : decode cX11_goesOn 122 = .ok (.ifCond .eq 8, 3) := by decide +kernel
theorem dX11_goesOn_125 : decode cX11_goesOn 125 = .ok (.bipush 10, 2) := by decide +kernel
theorem dX11_goesOn_127 : decode cX11_goesOn 127 = .ok (.goto 47, 3) := by decide +kernel
theorem dX11_goesOn_130 : decode cX11_goesOn 130 = .ok (.aload_n 0, 1) := by decide +kernel
theorem dX11_goesOn_131 : decode cX11_goesOn 131 = .ok (.bipush 45, 2) := by decide +kernel
theorem dX11_goesOn_133 : decode cX11_goesOn 133 = .ok (.invokevirtual 274, 3) := by decide +kernel
theorem dX11_goesOn_136 : decode cX11_goesOn 136 = .ok (.ifCond .eq 8, 3) := by decide +kernel
theorem dX11_goesOn_139 : decode cX11_goesOn 139 = .ok (.bipush 11, 2) := by decide +kernel
theorem dX11_goesOn_141 : decode cX11_goesOn 141 = .ok (.goto 33, 3) := by decide +kernel
theorem dX11_goesOn_144 : decode cX11_goesOn 144 = .ok (.aload_n 0, 1) := by decide +kernel
theorem dX11_goesOn_145 : decode cX11_goesOn 145 = .ok (.bipush 42, 2) := by decide +kernel
theorem dX11_goesOn_147 : decode cX11_goesOn 147 = .ok (.invokevirtual 274, 3) := by decide +kernel
theorem dX11_goesOn_150 : decode cX11_goesOn 150 = .ok (.ifCond .eq 8, 3) := by decide +kernel
theorem dX11_goesOn_153 : decode cX11_goesOn 153 = .ok (.bipush 12, 2) := by decide +kernel
theorem dX11_goesOn_155 : decode cX11_goesOn 155 = .ok (.goto 19, 3) := by decide +kernel
theorem dX11_goesOn_158 : decode cX11_goesOn 158 = .ok (.aload_n 0, 1) := by decide +kernel
theorem dX11_goesOn_159 : decode cX11_goesOn 159 = .ok (.bipush 47, 2) := by decide +kernel
theorem dX11_goesOn_161 : decode cX11_goesOn 161 = .ok (.invokevirtual 274, 3) := by decide +kernel
theorem dX11_goesOn_164 : decode cX11_goesOn 164 = .ok (.ifCond .eq 8, 3) := by decide +kernel
theorem dX11_goesOn_167 : decode cX11_goesOn 167 = .ok (.bipush 13, 2) := by decide +kernel
theorem dX11_goesOn_169 : decode cX11_goesOn 169 = .ok (.goto 5, 3) := by decide +kernel
theorem dX11_goesOn_172 : decode cX11_goesOn 172 = .ok (.bipush 14, 2) := by decide +kernel
theorem dX11_goesOn_174 : decode cX11_goesOn 174 = .ok (.invokevirtual 361, 3) := by decide +kernel
theorem dX11_goesOn_177 : decode cX11_goesOn 177 = .ok (.aload_n 0, 1) := by decide +kernel
theorem dX11_goesOn_178 : decode cX11_goesOn 178 = .ok (.invokevirtual 277, 3) := by decide +kernel
theorem dX11_goesOn_181 : decode cX11_goesOn 181 = .ok (.aload_n 0, 1) := by decide +kernel
theorem dX11_goesOn_182 : decode cX11_goesOn 182 = .ok (.iconst 0, 1) := by decide +kernel
theorem dX11_goesOn_183 : decode cX11_goesOn 183 = .ok (.putfield 149, 3) := by decide +kernel
theorem dX11_goesOn_186 : decode cX11_goesOn 186 = .ok (.iconst 1, 1) := by decide +kernel
theorem dX11_goesOn_187 : decode cX11_goesOn 187 = .ok (.ireturn, 1) := by decide +kernel
theorem dX11_goesOn_188 : decode cX11_goesOn 188 = .ok (.iload_n 3, 1) := by decide +kernel
theorem dX11_goesOn_189 : decode cX11_goesOn 189 = .ok (.ifCond .eq 96, 3) := by decide +kernel
theorem dX11_goesOn_192 : decode cX11_goesOn 192 = .ok (.aload_n 0, 1) := by decide +kernel
theorem dX11_goesOn_193 : decode cX11_goesOn 193 = .ok (.getfield 124, 3) := by decide +kernel
theorem dX11_goesOn_196 : decode cX11_goesOn 196 = .ok (.iload_n 1, 1) := by decide +kernel
theorem dX11_goesOn_197 : decode cX11_goesOn 197 = .ok (.iaload, 1) := by decide +kernel
theorem dX11_goesOn_198 : decode cX11_goesOn 198 = .ok (.ifCond .ne 87, 3) := by decide +kernel
theorem dX11_goesOn_201 : decode cX11_goesOn 201 = .ok (.aload_n 0, 1) := by decide +kernel
theorem dX11_goesOn_202 : decode cX11_goesOn 202 = .ok (.bipush 60, 2) := by decide +kernel
theorem dX11_goesOn_204 : decode cX11_goesOn 204 = .ok (.invokevirtual 274, 3) := by decide +kernel
theorem dX11_goesOn_207 : decode cX11_goesOn 207 = .ok (.ifCond .ne 21, 3) := by decide +kernel
theorem dX11_goesOn_210 : decode cX11_goesOn 210 = .ok (.aload_n 0, 1) := by decide +kernel
theorem dX11_goesOn_211 : decode cX11_goesOn 211 = .ok (.bipush 62, 2) := by decide +kernel
theorem dX11_goesOn_213 : decode cX11_goesOn 213 = .ok (.invokevirtual 274, 3) := by decide +kernel
theorem dX11_goesOn_216 : decode cX11_goesOn 216 = .ok (.ifCond .ne 12, 3) := by decide +kernel
theorem dX11_goesOn_219 : decode cX11_goesOn 219 = .ok (.aload_n 0, 1) := by decide +kernel
theorem dX11_goesOn_220 : decode cX11_goesOn 220 = .ok (.bipush 61, 2) := by decide +kernel
theorem dX11_goesOn_222 : decode cX11_goesOn 222 = .ok (.invokevirtual 274, 3) := by decide +kernel
theorem dX11_goesOn_225 : decode cX11_goesOn 225 = .ok (.ifCond .eq 60, 3) := by decide +kernel
theorem dX11_goesOn_228 : decode cX11_goesOn 228 = .ok (.aload_n 0, 1) := by decide +kernel
theorem dX11_goesOn_229 : decode cX11_goesOn 229 = .ok (.iconst 5, 1) := by decide +kernel
theorem dX11_goesOn_230 : decode cX11_goesOn 230 = .ok (.invokevirtual 367, 3) := by decide +kernel
theorem dX11_goesOn_233 : decode cX11_goesOn 233 = .ok (.aload_n 0, 1) := by decide +kernel
theorem dX11_goesOn_234 : decode cX11_goesOn 234 = .ok (.aload_n 0, 1) := by decide +kernel
theorem dX11_goesOn_235 : decode cX11_goesOn 235 = .ok (.bipush 60, 2) := by decide +kernel
theorem dX11_goesOn_237 : decode cX11_goesOn 237 = .ok (.invokevirtual 274, 3) := by decide +kernel
theorem dX11_goesOn_240 : decode cX11_goesOn 240 = .ok (.ifCond .eq 8, 3) := by decide +kernel
theorem dX11_goesOn_243 : decode cX11_goesOn 243 = .ok (.bipush 17, 2) := by decide +kernel
theorem dX11_goesOn_245 : decode cX11_goesOn 245 = .ok (.goto 19, 3) := by decide +kernel
theorem dX11_goesOn_248 : decode cX11_goesOn 248 = .ok (.aload_n 0, 1) := by decide +kernel
theorem dX11_goesOn_249 : decode cX11_goesOn 249 = .ok (.bipush 62, 2) := by decide +kernel
theorem dX11_goesOn_251 : decode cX11_goesOn 251 = .ok (.invokevirtual 274, 3) := by decide +kernel
theorem dX11_goesOn_254 : decode cX11_goesOn 254 = .ok (.ifCond .eq 8, 3) := by decide +kernel
theorem dX11_goesOn_257 : decode cX11_goesOn 257 = .ok (.bipush 18, 2) := by decide +kernel
theorem dX11_goesOn_259 : decode cX11_goesOn 259 = .ok (.goto 5, 3) := by decide +kernel
theorem dX11_goesOn_262 : decode cX11_goesOn 262 = .ok (.bipush 19, 2) := by decide +kernel
theorem dX11_goesOn_264 : decode cX11_goesOn 264 = .ok (.invokevirtual 361, 3) := by decide +kernel
theorem dX11_goesOn_267 : decode cX11_goesOn 267 = .ok (.aload_n 0, 1) := by decide +kernel
theorem dX11_goesOn_268 : decode cX11_goesOn 268 = .ok (.getfield 124, 3) := by decide +kernel
theorem dX11_goesOn_271 : decode cX11_goesOn 271 = .ok (.iload_n 1, 1) := by decide +kernel
theorem dX11_goesOn_272 : decode cX11_goesOn 272 = .ok (.iconst 1, 1) := by decide +kernel
theorem dX11_goesOn_273 : decode cX11_goesOn 273 = .ok (.iastore, 1) := by decide +kernel
theorem dX11_goesOn_274 : decode cX11_goesOn 274 = .ok (.aload_n 0, 1) := by decide +kernel
theorem dX11_goesOn_275 : decode cX11_goesOn 275 = .ok (.invokevirtual 277, 3) := by decide +kernel
theorem dX11_goesOn_278 : decode cX11_goesOn 278 = .ok (.aload_n 0, 1) := by decide +kernel
theorem dX11_goesOn_279 : decode cX11_goesOn 279 = .ok (.iconst 0, 1) := by decide +kernel
theorem dX11_goesOn_280 : decode cX11_goesOn 280 = .ok (.putfield 149, 3) := by decide +kernel
theorem dX11_goesOn_283 : decode cX11_goesOn 283 = .ok (.iconst 1, 1) := by decide +kernel
theorem dX11_goesOn_284 : decode cX11_goesOn 284 = .ok (.ireturn, 1) := by decide +kernel
theorem dX11_goesOn_285 : decode cX11_goesOn 285 = .ok (.iload_n 3, 1) := by decide +kernel
theorem dX11_goesOn_286 : decode cX11_goesOn 286 = .ok (.ifCond .eq 114, 3) := by decide +kernel
theorem dX11_goesOn_289 : decode cX11_goesOn 289 = .ok (.aload_n 0, 1) := by decide +kernel
theorem dX11_goesOn_290 : decode cX11_goesOn 290 = .ok (.ldc2_w 320, 3) := by decide +kernel
theorem dX11_goesOn_293 : decode cX11_goesOn 293 = .ok (.invokevirtual 357, 3) := by decide +kernel
theorem dX11_goesOn_296 : decode cX11_goesOn 296 = .ok (.ifCond .ne 13, 3) := by decide +kernel
theorem dX11_goesOn_299 : decode cX11_goesOn 299 = .ok (.aload_n 0, 1) := by decide +kernel
theorem dX11_goesOn_300 : decode cX11_goesOn 300 = .ok (.ldc2_w 318, 3) := by decide +kernel
theorem dX11_goesOn_303 : decode cX11_goesOn 303 = .ok (.invokevirtual 357, 3) := by decide +kernel
theorem dX11_goesOn_306 : decode cX11_goesOn 306 = .ok (.ifCond .eq 94, 3) := by decide +kernel
theorem dX11_goesOn_309 : decode cX11_goesOn 309 = .ok (.aload_n 0, 1) := by decide +kernel
theorem dX11_goesOn_310 : decode cX11_goesOn 310 = .ok (.getfield 124, 3) := by decide +kernel
theorem dX11_goesOn_313 : decode cX11_goesOn 313 = .ok (.iload_n 1, 1) := by decide +kernel
theorem dX11_goesOn_314 : decode cX11_goesOn 314 = .ok (.iaload, 1) := by decide +kernel
theorem dX11_goesOn_315 : decode cX11_goesOn 315 = .ok (.ifCond .ne 12, 3) := by decide +kernel
theorem dX11_goesOn_318 : decode cX11_goesOn 318 = .ok (.aload_n 0, 1) := by decide +kernel
theorem dX11_goesOn_319 : decode cX11_goesOn 319 = .ok (.iconst 1, 1) := by decide +kernel
theorem dX11_goesOn_320 : decode cX11_goesOn 320 = .ok (.aload_n 0, 1) := by decide +kernel
theorem dX11_goesOn_321 : decode cX11_goesOn 321 = .ok (.getfield 23, 3) := by decide +kernel
theorem dX11_goesOn_324 : decode cX11_goesOn 324 = .ok (.invokevirtual 260, 3) := by decide +kernel
theorem dX11_goesOn_327 : decode cX11_goesOn 327 = .ok (.aload_n 0, 1) := by decide +kernel
theorem dX11_goesOn_328 : decode cX11_goesOn 328 = .ok (.getfield 36, 3) := by decide +kernel
theorem dX11_goesOn_331 : decode cX11_goesOn 331 = .ok (.ifCond .le 5, 3) := by decide +kernel
theorem dX11_goesOn_334 : decode cX11_goesOn 334 = .ok (.iconst 0, 1) := by decide +kernel
theorem dX11_goesOn_335 : decode cX11_goesOn 335 = .ok (.ireturn, 1) := by decide +kernel
theorem dX11_goesOn_336 : decode cX11_goesOn 336 = .ok (.aload_n 0, 1) := by decide +kernel
theorem dX11_goesOn_337 : decode cX11_goesOn 337 = .ok (.ldc2_w 320, 3) := by decide +kernel
theorem dX11_goesOn_340 : decode cX11_goesOn 340 = .ok (.invokevirtual 357, 3) := by decide +kernel
theorem dX11_goesOn_343 : decode cX11_goesOn 343 = .ok (.istore 4, 2) := by decide +kernel
theorem dX11_goesOn_345 : decode cX11_goesOn 345 = .ok (.aload_n 0, 1) := by decide +kernel
theorem dX11_goesOn_346 : decode cX11_goesOn 346 = .ok (.iload 4, 2) := by decide +kernel
theorem dX11_goesOn_348 : decode cX11_goesOn 348 = .ok (.ifCond .eq 7, 3) := by decide +kernel
theorem dX11_goesOn_351 : decode cX11_goesOn 351 = .ok (.iconst 2, 1) := by decide +kernel
theorem dX11_goesOn_352 : decode cX11_goesOn 352 = .ok (.goto 4, 3) := by decide +kernel
theorem dX11_goesOn_355 : decode cX11_goesOn 355 = .ok (.iconst 1, 1) := by decide +kernel
theorem dX11_goesOn_356 : decode cX11_goesOn 356 = .ok (.invokevirtual 367, 3) := by decide +kernel
theorem dX11_goesOn_359 : decode cX11_goesOn 359 = .ok (.aload_n 0, 1) := by decide +kernel
theorem dX11_goesOn_360 : decode cX11_goesOn 360 = .ok (.iload 4, 2) := by decide +kernel
theorem dX11_goesOn_362 : decode cX11_goesOn 362 = .ok (.ifCond .eq 8, 3) := by decide +kernel
theorem dX11_goesOn_365 : decode cX11_goesOn 365 = .ok (.bipush 20, 2) := by decide +kernel
theorem dX11_goesOn_367 : decode cX11_goesOn 367 = .ok (.goto 5, 3) := by decide +kernel
theorem dX11_goesOn_370 : decode cX11_goesOn 370 = .ok (.bipush 21, 2) := by decide +kernel
theorem dX11_goesOn_372 : decode cX11_goesOn 372 = .ok (.invokevirtual 361, 3) := by decide +kernel
theorem dX11_goesOn_375 : decode cX11_goesOn 375 = .ok (.aload_n 0, 1) := by decide +kernel
theorem dX11_goesOn_376 : decode cX11_goesOn 376 = .ok (.getfield 124, 3) := by decide +kernel
theorem dX11_goesOn_379 : decode cX11_goesOn 379 = .ok (.iload_n 1, 1) := by decide +kernel
theorem dX11_goesOn_380 : decode cX11_goesOn 380 = .ok (.iconst 0, 1) := by decide +kernel
theorem dX11_goesOn_381 : decode cX11_goesOn 381 = .ok (.iastore, 1) := by decide +kernel
theorem dX11_goesOn_382 : decode cX11_goesOn 382 = .ok (.aload_n 0, 1) := by decide +kernel
theorem dX11_goesOn_383 : decode cX11_goesOn 383 = .ok (.getfield 127, 3) := by decide +kernel
theorem dX11_goesOn_386 : decode cX11_goesOn 386 = .ok (.iload_n 1, 1) := by decide +kernel
theorem dX11_goesOn_387 : decode cX11_goesOn 387 = .ok (.iconst 1, 1) := by decide +kernel
theorem dX11_goesOn_388 : decode cX11_goesOn 388 = .ok (.bastore, 1) := by decide +kernel
theorem dX11_goesOn_389 : decode cX11_goesOn 389 = .ok (.aload_n 0, 1) := by decide +kernel
theorem dX11_goesOn_390 : decode cX11_goesOn 390 = .ok (.invokevirtual 277, 3) := by decide +kernel
theorem dX11_goesOn_393 : decode cX11_goesOn 393 = .ok (.aload_n 0, 1) := by decide +kernel
theorem dX11_goesOn_394 : decode cX11_goesOn 394 = .ok (.iconst 0, 1) := by decide +kernel
theorem dX11_goesOn_395 : decode cX11_goesOn 395 = .ok (.putfield 149, 3) := by decide +kernel
theorem dX11_goesOn_398 : decode cX11_goesOn 398 = .ok (.iconst 1, 1) := by decide +kernel
theorem dX11_goesOn_399 : decode cX11_goesOn 399 = .ok (.ireturn, 1) := by decide +kernel
theorem dX11_goesOn_400 : decode cX11_goesOn 400 = .ok (.iload_n 3, 1) := by decide +kernel
theorem dX11_goesOn_401 : decode cX11_goesOn 401 = .ok (.ifCond .eq 21, 3) := by decide +kernel
theorem dX11_goesOn_404 : decode cX11_goesOn 404 = .ok (.aload_n 0, 1) := by decide +kernel
theorem dX11_goesOn_405 : decode cX11_goesOn 405 = .ok (.getfield 124, 3) := by decide +kernel
theorem dX11_goesOn_408 : decode cX11_goesOn 408 = .ok (.iload_n 1, 1) := by decide +kernel
theorem dX11_goesOn_409 : decode cX11_goesOn 409 = .ok (.iaload, 1) := by decide +kernel
theorem dX11_goesOn_410 : decode cX11_goesOn 410 = .ok (.ifCond .ne 12, 3) := by decide +kernel
theorem dX11_goesOn_413 : decode cX11_goesOn 413 = .ok (.aload_n 0, 1) := by decide +kernel
theorem dX11_goesOn_414 : decode cX11_goesOn 414 = .ok (.iconst 1, 1) := by decide +kernel
theorem dX11_goesOn_415 : decode cX11_goesOn 415 = .ok (.aload_n 0, 1) := by decide +kernel
theorem dX11_goesOn_416 : decode cX11_goesOn 416 = .ok (.getfield 23, 3) := by decide +kernel
theorem dX11_goesOn_419 : decode cX11_goesOn 419 = .ok (.invokevirtual 260, 3) := by decide +kernel
theorem dX11_goesOn_422 : decode cX11_goesOn 422 = .ok (.iload_n 2, 1) := by decide +kernel
theorem dX11_goesOn_423 : decode cX11_goesOn 423 = .ok (.iconst 2, 1) := by decide +kernel
theorem dX11_goesOn_424 : decode cX11_goesOn 424 = .ok (.if_icmp .ge 17, 3) := by decide +kernel
theorem dX11_goesOn_427 : decode cX11_goesOn 427 = .ok (.aload_n 0, 1) := by decide +kernel
theorem dX11_goesOn_428 : decode cX11_goesOn 428 = .ok (.getfield 36, 3) := by decide +kernel
theorem dX11_goesOn_431 : decode cX11_goesOn 431 = .ok (.ifCond .ne 8, 3) := by decide +kernel
theorem dX11_goesOn_434 : decode cX11_goesOn 434 = .ok (.aload_n 0, 1) := by decide +kernel
theorem dX11_goesOn_435 : decode cX11_goesOn 435 = .ok (.iconst 1, 1) := by decide +kernel
theorem dX11_goesOn_436 : decode cX11_goesOn 436 = .ok (.invokevirtual 367, 3) := by decide +kernel
theorem dX11_goesOn_439 : decode cX11_goesOn 439 = .ok (.iconst 0, 1) := by decide +kernel
theorem dX11_goesOn_440 : decode cX11_goesOn 440 = .ok (.ireturn, 1) := by decide +kernel
theorem dX11_goesOn_441 : decode cX11_goesOn 441 = .ok (.iload_n 2, 1) := by decide +kernel
theorem dX11_goesOn_442 : decode cX11_goesOn 442 = .ok (.iconst 3, 1) := by decide +kernel
theorem dX11_goesOn_443 : decode cX11_goesOn 443 = .ok (.if_icmp .eq 9, 3) := by decide +kernel
theorem dX11_goesOn_446 : decode cX11_goesOn 446 = .ok (.iload_n 2, 1) := by decide +kernel
theorem dX11_goesOn_447 : decode cX11_goesOn 447 = .ok (.bipush 6, 2) := by decide +kernel
theorem dX11_goesOn_449 : decode cX11_goesOn 449 = .ok (.if_icmp .ne 69, 3) := by decide +kernel
theorem dX11_goesOn_452 : decode cX11_goesOn 452 = .ok (.aload_n 0, 1) := by decide +kernel
theorem dX11_goesOn_453 : decode cX11_goesOn 453 = .ok (.bipush 44, 2) := by decide +kernel
theorem dX11_goesOn_455 : decode cX11_goesOn 455 = .ok (.invokevirtual 274, 3) := by decide +kernel
theorem dX11_goesOn_458 : decode cX11_goesOn 458 = .ok (.ifCond .ne 12, 3) := by decide +kernel
theorem dX11_goesOn_461 : decode cX11_goesOn 461 = .ok (.aload_n 0, 1) := by decide +kernel
theorem dX11_goesOn_462 : decode cX11_goesOn 462 = .ok (.iconst 1, 1) := by decide +kernel
theorem dX11_goesOn_463 : decode cX11_goesOn 463 = .ok (.aload_n 0, 1) := by decide +kernel
theorem dX11_goesOn_464 : decode cX11_goesOn 464 = .ok (.getfield 23, 3) := by decide +kernel
theorem dX11_goesOn_467 : decode cX11_goesOn 467 = .ok (.invokevirtual 260, 3) := by decide +kernel
theorem dX11_goesOn_470 : decode cX11_goesOn 470 = .ok (.aload_n 0, 1) := by decide +kernel
theorem dX11_goesOn_471 : decode cX11_goesOn 471 = .ok (.getfield 36, 3) := by decide +kernel
theorem dX11_goesOn_474 : decode cX11_goesOn 474 = .ok (.ifCond .le 5, 3) := by decide +kernel
theorem dX11_goesOn_477 : decode cX11_goesOn 477 = .ok (.iconst 0, 1) := by decide +kernel
theorem dX11_goesOn_478 : decode cX11_goesOn 478 = .ok (.ireturn, 1) := by decide +kernel
theorem dX11_goesOn_479 : decode cX11_goesOn 479 = .ok (.aload_n 0, 1) := by decide +kernel
theorem dX11_goesOn_480 : decode cX11_goesOn 480 = .ok (.iconst 1, 1) := by decide +kernel
theorem dX11_goesOn_481 : decode cX11_goesOn 481 = .ok (.invokevirtual 367, 3) := by decide +kernel
theorem dX11_goesOn_484 : decode cX11_goesOn 484 = .ok (.aload_n 0, 1) := by decide +kernel
theorem dX11_goesOn_485 : decode cX11_goesOn 485 = .ok (.getfield 121, 3) := by decide +kernel
theorem dX11_goesOn_488 : decode cX11_goesOn 488 = .ok (.iload_n 1, 1) := by decide +kernel
theorem dX11_goesOn_489 : decode cX11_goesOn 489 = .ok (.iload_n 2, 1) := by decide +kernel
theorem dX11_goesOn_490 : decode cX11_goesOn 490 = .ok (.iconst 3, 1) := by decide +kernel
theorem dX11_goesOn_491 : decode cX11_goesOn 491 = .ok (.if_icmp .ne 7, 3) := by decide +kernel
theorem dX11_goesOn_494 : decode cX11_goesOn 494 = .ok (.iconst 4, 1) := by decide +kernel
theorem dX11_goesOn_495 : decode cX11_goesOn 495 = .ok (.goto 4, 3) := by decide +kernel
theorem dX11_goesOn_498 : decode cX11_goesOn 498 = .ok (.iconst 3, 1) := by decide +kernel
theorem dX11_goesOn_499 : decode cX11_goesOn 499 = .ok (.iastore, 1) := by decide +kernel
theorem dX11_goesOn_500 : decode cX11_goesOn 500 = .ok (.aload_n 0, 1) := by decide +kernel
theorem dX11_goesOn_501 : decode cX11_goesOn 501 = .ok (.getfield 124, 3) := by decide +kernel
theorem dX11_goesOn_504 : decode cX11_goesOn 504 = .ok (.iload_n 1, 1) := by decide +kernel
theorem dX11_goesOn_505 : decode cX11_goesOn 505 = .ok (.iconst 0, 1) := by decide +kernel
theorem dX11_goesOn_506 : decode cX11_goesOn 506 = .ok (.iastore, 1) := by decide +kernel
theorem dX11_goesOn_507 : decode cX11_goesOn 507 = .ok (.aload_n 0, 1) := by decide +kernel
theorem dX11_goesOn_508 : decode cX11_goesOn 508 = .ok (.invokevirtual 277, 3) := by decide +kernel
theorem dX11_goesOn_511 : decode cX11_goesOn 511 = .ok (.aload_n 0, 1) := by decide +kernel
theorem dX11_goesOn_512 : decode cX11_goesOn 512 = .ok (.iconst 0, 1) := by decide +kernel
theorem dX11_goesOn_513 : decode cX11_goesOn 513 = .ok (.putfield 149, 3) := by decide +kernel
theorem dX11_goesOn_516 : decode cX11_goesOn 516 = .ok (.iconst 1, 1) := by decide +kernel
theorem dX11_goesOn_517 : decode cX11_goesOn 517 = .ok (.ireturn, 1) := by decide +kernel
theorem dX11_goesOn_518 : decode cX11_goesOn 518 = .ok (.aload_n 0, 1) := by decide +kernel
theorem dX11_goesOn_519 : decode cX11_goesOn 519 = .ok (.iload_n 2, 1) := by decide +kernel
theorem dX11_goesOn_520 : decode cX11_goesOn 520 = .ok (.iconst 5, 1) := by decide +kernel
theorem dX11_goesOn_521 : decode cX11_goesOn 521 = .ok (.if_icmp .ne 8, 3) := by decide +kernel
theorem dX11_goesOn_524 : decode cX11_goesOn 524 = .ok (.bipush 93, 2) := by decide +kernel
theorem dX11_goesOn_526 : decode cX11_goesOn 526 = .ok (.goto 5, 3) := by decide +kernel
theorem dX11_goesOn_529 : decode cX11_goesOn 529 = .ok (.bipush 41, 2) := by decide +kernel
theorem dX11_goesOn_531 : decode cX11_goesOn 531 = .ok (.invokevirtual 274, 3) := by decide +kernel
theorem dX11_goesOn_534 : decode cX11_goesOn 534 = .ok (.ifCond .ne 12, 3) := by decide +kernel
theorem dX11_goesOn_537 : decode cX11_goesOn 537 = .ok (.aload_n 0, 1) := by decide +kernel
theorem dX11_goesOn_538 : decode cX11_goesOn 538 = .ok (.iconst 1, 1) := by decide +kernel
theorem dX11_goesOn_539 : decode cX11_goesOn 539 = .ok (.aload_n 0, 1) := by decide +kernel
theorem dX11_goesOn_540 : decode cX11_goesOn 540 = .ok (.getfield 23, 3) := by decide +kernel
theorem dX11_goesOn_543 : decode cX11_goesOn 543 = .ok (.invokevirtual 260, 3) := by decide +kernel
theorem dX11_goesOn_546 : decode cX11_goesOn 546 = .ok (.aload_n 0, 1) := by decide +kernel
theorem dX11_goesOn_547 : decode cX11_goesOn 547 = .ok (.getfield 36, 3) := by decide +kernel
theorem dX11_goesOn_550 : decode cX11_goesOn 550 = .ok (.ifCond .le 5, 3) := by decide +kernel
theorem dX11_goesOn_553 : decode cX11_goesOn 553 = .ok (.iconst 0, 1) := by decide +kernel
theorem dX11_goesOn_554 : decode cX11_goesOn 554 = .ok (.ireturn, 1) := by decide +kernel
theorem dX11_goesOn_555 : decode cX11_goesOn 555 = .ok (.aload_n 0, 1) := by decide +kernel
theorem dX11_goesOn_556 : decode cX11_goesOn 556 = .ok (.iconst 1, 1) := by decide +kernel
theorem dX11_goesOn_557 : decode cX11_goesOn 557 = .ok (.invokevirtual 367, 3) := by decide +kernel
theorem dX11_goesOn_560 : decode cX11_goesOn 560 = .ok (.aload_n 0, 1) := by decide +kernel
theorem dX11_goesOn_561 : decode cX11_goesOn 561 = .ok (.dup, 1) := by decide +kernel
theorem dX11_goesOn_562 : decode cX11_goesOn 562 = .ok (.getfield 137, 3) := by decide +kernel
theorem dX11_goesOn_565 : decode cX11_goesOn 565 = .ok (.iconst 1, 1) := by decide +kernel
theorem dX11_goesOn_566 : decode cX11_goesOn 566 = .ok (.isub, 1) := by decide +kernel
theorem dX11_goesOn_567 : decode cX11_goesOn 567 = .ok (.putfield 137, 3) := by decide +kernel
theorem dX11_goesOn_570 : decode cX11_goesOn 570 = .ok (.aload_n 0, 1) := by decide +kernel
theorem dX11_goesOn_571 : decode cX11_goesOn 571 = .ok (.dup, 1) := by decide +kernel
theorem dX11_goesOn_572 : decode cX11_goesOn 572 = .ok (.getfield 140, 3) := by decide +kernel
theorem dX11_goesOn_575 : decode cX11_goesOn 575 = .ok (.iconst 1, 1) := by decide +kernel
theorem dX11_goesOn_576 : decode cX11_goesOn 576 = .ok (.isub, 1) := by decide +kernel
theorem dX11_goesOn_577 : decode cX11_goesOn 577 = .ok (.putfield 140, 3) := by decide +kernel
theorem dX11_goesOn_580 : decode cX11_goesOn 580 = .ok (.iload_n 2, 1) := by decide +kernel
theorem dX11_goesOn_581 : decode cX11_goesOn 581 = .ok (.iconst 4, 1) := by decide +kernel
theorem dX11_goesOn_582 : decode cX11_goesOn 582 = .ok (.if_icmp .ne 14, 3) := by decide +kernel
theorem dX11_goesOn_585 : decode cX11_goesOn 585 = .ok (.aload_n 0, 1) := by decide +kernel
theorem dX11_goesOn_586 : decode cX11_goesOn 586 = .ok (.aload_n 0, 1) := by decide +kernel
theorem dX11_goesOn_587 : decode cX11_goesOn 587 = .ok (.getfield 131, 3) := by decide +kernel
theorem dX11_goesOn_590 : decode cX11_goesOn 590 = .ok (.iload_n 1, 1) := by decide +kernel
theorem dX11_goesOn_591 : decode cX11_goesOn 591 = .ok (.iaload, 1) := by decide +kernel
theorem dX11_goesOn_592 : decode cX11_goesOn 592 = .ok (.iconst 0, 1) := by decide +kernel
theorem dX11_goesOn_593 : decode cX11_goesOn 593 = .ok (.invokevirtual 348, 3) := by decide +kernel
theorem dX11_goesOn_596 : decode cX11_goesOn 596 = .ok (.iload_n 2, 1) := by decide +kernel
theorem dX11_goesOn_597 : decode cX11_goesOn 597 = .ok (.iconst 5, 1) := by decide +kernel
theorem dX11_goesOn_598 : decode cX11_goesOn 598 = .ok (.if_icmp .ne 15, 3) := by decide +kernel
theorem dX11_goesOn_601 : decode cX11_goesOn 601 = .ok (.aload_n 0, 1) := by decide +kernel
theorem dX11_goesOn_602 : decode cX11_goesOn 602 = .ok (.getfield 124, 3) := by decide +kernel
theorem dX11_goesOn_605 : decode cX11_goesOn 605 = .ok (.aload_n 0, 1) := by decide +kernel
theorem dX11_goesOn_606 : decode cX11_goesOn 606 = .ok (.getfield 137, 3) := by decide +kernel
theorem dX11_goesOn_609 : decode cX11_goesOn 609 = .ok (.iconst 1, 1) := by decide +kernel
theorem dX11_goesOn_610 : decode cX11_goesOn 610 = .ok (.isub, 1) := by decide +kernel
theorem dX11_goesOn_611 : decode cX11_goesOn 611 = .ok (.iconst 2, 1) := by decide +kernel
theorem dX11_goesOn_612 : decode cX11_goesOn 612 = .ok (.iastore, 1) := by decide +kernel
theorem dX11_goesOn_613 : decode cX11_goesOn 613 = .ok (.aload_n 0, 1) := by decide +kernel
theorem dX11_goesOn_614 : decode cX11_goesOn 614 = .ok (.invokevirtual 277, 3) := by decide +kernel
theorem dX11_goesOn_617 : decode cX11_goesOn 617 = .ok (.iconst 1, 1) := by decide +kernel
theorem dX11_goesOn_618 : decode cX11_goesOn 618 = .ok (.ireturn, 1) := by decide +kernel
def fX11_goesOn_499 (x1 : Int32) (s0 : Int32) (s1 : Int32) (σ : zS) : Option (Int32 × zS) := wI σ 78 20 s1 s0 fun σ7 => wI σ7 79 20 x1 0 fun σ8 => bnr (fX11_ahead σ8) fun σ9 => gd (0 = 0 ∨ 0 = 1) (bnd (iS σ9 56 45 0) fun σ11 => some (1, σ11))
theorem kX11_goesOn_499 {sc : Nat × (Nat → Int32)} (x1 : Int32) (s0 : Int32) (s1 : Int32) (σ : zS) (w : Int32 × zS) (h : fX11_goesOn_499 x1 s0 s1 σ = some w) : zR (zY0 sc) 3 0 0 mX11_goesOn 499 [(0, .ref 56), (1, .int x1)] [.int s0, .int s1, .ref 78] (zE σ) (some (.int w.1), zE w.2) := by
  unfold fX11_goesOn_499 at h
  refine kR.iast dX11_goesOn_499 zp78 rfl h (fun σ7 h => ?_)
  refine kR.aload_n dX11_goesOn_500 0 rfl ?_
  refine kR.getR (v := 79) dX11_goesOn_501 flX11_124 zcf11 zp56 (Or.inr ⟨_, rfl⟩) rfl ?_
  refine kR.iload_n dX11_goesOn_504 1 rfl ?_
  refine zR.iconst (v := 0) dX11_goesOn_505 (by decide) ?_
  refine kR.iast dX11_goesOn_506 zp79 rfl h (fun σ8 h => ?_)
  refine kR.aload_n dX11_goesOn_507 0 rfl ?_
  obtain ⟨σ9, e10, h⟩ := bnr_some h
  refine kR.cVv [] dX11_goesOn_508 rfl (by decide) mwX11_277 zp56 (by decide) rfl rfl (Nat.le_of_ble_eq_true rfl) (lX11_ahead σ8 _ e10) ?_
  refine kR.aload_n dX11_goesOn_511 0 rfl ?_
  refine zR.iconst (v := 0) dX11_goesOn_512 (by decide) ?_
  refine kR.putZ dX11_goesOn_513 fpX11_149 zcf11 zp56 rfl h (fun σ11 h => ?_)
  refine zR.iconst (v := 1) dX11_goesOn_516 (by decide) ?_
  exact kR.iretW dX11_goesOn_517 (nzZ rfl (Or.inr rfl)) h
def fX11_goesOn_470 (x1 : Int32) (x2 : Int32) (σ : zS) : Option (Int32 × zS) := if (iG σ 56 8) ≤ 0 then bnr (fX11_joins 1 σ) fun σ5 => if x2 = 3 then fX11_goesOn_499 x1 4 x1 σ5 else fX11_goesOn_499 x1 3 x1 σ5 else some (0, σ)
theorem kX11_goesOn_470 {sc : Nat × (Nat → Int32)} (x1 : Int32) (x2 : Int32) (σ : zS) (w : Int32 × zS) (h : fX11_goesOn_470 x1 x2 σ = some w) : zR (zY0 sc) 3 0 0 mX11_goesOn 470 [(0, .ref 56), (1, .int x1), (2, .int x2)] [] (zE σ) (some (.int w.1), zE w.2) := by
  unfold fX11_goesOn_470 at h
  refine kR.aload_n dX11_goesOn_470 0 rfl ?_
  refine kR.getI dX11_goesOn_471 flX11_36 zcf11 zp56 (Or.inl rfl) ?_
  refine kR.if_le (tgt := 479) dX11_goesOn_474 (by decide) h (fun h => ?_) (fun h => ?_)
  · refine kR.aload_n dX11_goesOn_479 0 rfl ?_
    refine zR.iconst (v := 1) dX11_goesOn_480 (by decide) ?_
    obtain ⟨σ5, e6, h⟩ := bnr_some h
    refine kR.cVv [.int 1] dX11_goesOn_481 rfl (by decide) mwX11_367 zp56 (by decide) rfl rfl (Nat.le_of_ble_eq_true rfl) (lX11_joins 1 σ _ e6) ?_
    refine kR.aload_n dX11_goesOn_484 0 rfl ?_
    refine kR.getR (v := 78) dX11_goesOn_485 flX11_121 zcf11 zp56 (Or.inr ⟨_, rfl⟩) rfl ?_
    refine kR.iload_n dX11_goesOn_488 1 rfl ?_
    refine kR.iload_n dX11_goesOn_489 2 rfl ?_
    refine zR.iconst (v := 3) dX11_goesOn_490 (by decide) ?_
    refine kR.icmp_ne (tgt := 498) dX11_goesOn_491 (by decide) h (fun h => ?_) (fun h => ?_)
    · refine zR.iconst (v := 3) dX11_goesOn_498 (by decide) ?_
      refine zR.sub [0, 1] rfl ?_
      exact kX11_goesOn_499 _ _ _ _ _ h
    · refine zR.iconst (v := 4) dX11_goesOn_494 (by decide) ?_
      refine zR.goto (tgt := 499) dX11_goesOn_495 (by decide) ?_
      refine zR.sub [0, 1] rfl ?_
      exact kX11_goesOn_499 _ _ _ _ _ h
  · refine zR.iconst (v := 0) dX11_goesOn_477 (by decide) ?_
    exact kR.iretW dX11_goesOn_478 (nzZ rfl (Or.inl rfl)) h
def fX11_goesOn_452 (x1 : Int32) (x2 : Int32) (σ : zS) : Option (Int32 × zS) := if (fX11_isSign σ 44) = 0 then bnr (fX11_blame 1 (iG σ 56 4) σ) fun σ12 => fX11_goesOn_470 x1 x2 σ12 else fX11_goesOn_470 x1 x2 σ
theorem kX11_goesOn_452 {sc : Nat × (Nat → Int32)} (x1 : Int32) (x2 : Int32) (σ : zS) (w : Int32 × zS) (h : fX11_goesOn_452 x1 x2 σ = some w) : zR (zY0 sc) 3 0 0 mX11_goesOn 452 [(0, .ref 56), (1, .int x1), (2, .int x2)] [] (zE σ) (some (.int w.1), zE w.2) := by
  unfold fX11_goesOn_452 at h
  refine kR.aload_n dX11_goesOn_452 0 rfl ?_
  refine zR.bipush (v := 44) dX11_goesOn_453 (by decide) ?_
  refine kR.cVi [.int 44] dX11_goesOn_455 rfl (by decide) mwX11_274 zp56 (by decide) rfl rfl (Nat.le_of_ble_eq_true rfl) (lX11_isSign σ 44) ?_
  refine kR.if_ne (tgt := 470) dX11_goesOn_458 (by decide) h (fun h => ?_) (fun h => ?_)
  · exact kX11_goesOn_470 _ _ _ _ h
  · refine kR.aload_n dX11_goesOn_461 0 rfl ?_
    refine zR.iconst (v := 1) dX11_goesOn_462 (by decide) ?_
    refine kR.aload_n dX11_goesOn_463 0 rfl ?_
    refine kR.getI dX11_goesOn_464 flX11_23 zcf11 zp56 (Or.inl rfl) ?_
    obtain ⟨σ12, e13, h⟩ := bnr_some h
    refine kR.cVv [.int 1, .int (iG σ 56 4)] dX11_goesOn_467 rfl (by decide) mwX11_260 zp56 (by decide) rfl rfl (Nat.le_of_ble_eq_true rfl) (lX11_blame 1 (iG σ 56 4) σ _ e13) ?_
    exact kX11_goesOn_470 _ _ _ _ h
def fX11_goesOn_613 (σ : zS) : Option (Int32 × zS) := bnr (fX11_ahead σ) fun σ18 => some (1, σ18)
theorem kX11_goesOn_613 {sc : Nat × (Nat → Int32)} (σ : zS) (w : Int32 × zS) (h : fX11_goesOn_613 σ = some w) : zR (zY0 sc) 3 0 0 mX11_goesOn 613 [(0, .ref 56)] [] (zE σ) (some (.int w.1), zE w.2) := by
  unfold fX11_goesOn_613 at h
  refine kR.aload_n dX11_goesOn_613 0 rfl ?_
  obtain ⟨σ18, e19, h⟩ := bnr_some h
  refine kR.cVv [] dX11_goesOn_614 rfl (by decide) mwX11_277 zp56 (by decide) rfl rfl (Nat.le_of_ble_eq_true rfl) (lX11_ahead σ _ e19) ?_
  refine zR.iconst (v := 1) dX11_goesOn_617 (by decide) ?_
  exact kR.iretW dX11_goesOn_618 (nzZ rfl (Or.inr rfl)) h
def fX11_goesOn_596 (x2 : Int32) (σ : zS) : Option (Int32 × zS) := if x2 = 5 then wI σ 79 20 ((iG σ 56 41) - 1) 2 fun σ20 => fX11_goesOn_613 σ20 else fX11_goesOn_613 σ
theorem kX11_goesOn_596 {sc : Nat × (Nat → Int32)} (x2 : Int32) (σ : zS) (w : Int32 × zS) (h : fX11_goesOn_596 x2 σ = some w) : zR (zY0 sc) 3 0 0 mX11_goesOn 596 [(0, .ref 56), (2, .int x2)] [] (zE σ) (some (.int w.1), zE w.2) := by
  unfold fX11_goesOn_596 at h
  refine kR.iload_n dX11_goesOn_596 1 rfl ?_
  refine zR.iconst (v := 5) dX11_goesOn_597 (by decide) ?_
  refine kR.icmp_ne (tgt := 613) dX11_goesOn_598 (by decide) h (fun h => ?_) (fun h => ?_)
  · refine zR.sub [0] rfl ?_
    exact kX11_goesOn_613 _ _ h
  · refine kR.aload_n dX11_goesOn_601 0 rfl ?_
    refine kR.getR (v := 79) dX11_goesOn_602 flX11_124 zcf11 zp56 (Or.inr ⟨_, rfl⟩) rfl ?_
    refine kR.aload_n dX11_goesOn_605 0 rfl ?_
    refine kR.getI dX11_goesOn_606 flX11_137 zcf11 zp56 (Or.inl rfl) ?_
    refine zR.iconst (v := 1) dX11_goesOn_609 (by decide) ?_
    refine zR.isub dX11_goesOn_610 ?_
    refine zR.iconst (v := 2) dX11_goesOn_611 (by decide) ?_
    refine kR.iast dX11_goesOn_612 zp79 rfl h (fun σ20 h => ?_)
    refine zR.sub [0] rfl ?_
    exact kX11_goesOn_613 _ _ h
def fX11_goesOn_546 (x1 : Int32) (x2 : Int32) (σ : zS) : Option (Int32 × zS) := if (iG σ 56 8) ≤ 0 then bnr (fX11_joins 1 σ) fun σ14 => bnd (iS σ14 56 41 ((iG σ14 56 41) - 1)) fun σ16 => bnd (iS σ16 56 42 ((iG σ16 56 42) - 1)) fun σ17 => if x2 = 4 then aI σ17 81 20 x1 fun v21 => bnr (fX11_add v21 0 σ17) fun σ22 => fX11_goesOn_596 x2 σ22 else fX11_goesOn_596 x2 σ17 else some (0, σ)
theorem kX11_goesOn_546 {sc : Nat × (Nat → Int32)} (x1 : Int32) (x2 : Int32) (σ : zS) (w : Int32 × zS) (h : fX11_goesOn_546 x1 x2 σ = some w) : zR (zY0 sc) 3 0 0 mX11_goesOn 546 [(0, .ref 56), (1, .int x1), (2, .int x2)] [] (zE σ) (some (.int w.1), zE w.2) := by
  unfold fX11_goesOn_546 at h
  refine kR.aload_n dX11_goesOn_546 0 rfl ?_
  refine kR.getI dX11_goesOn_547 flX11_36 zcf11 zp56 (Or.inl rfl) ?_
  refine kR.if_le (tgt := 555) dX11_goesOn_550 (by decide) h (fun h => ?_) (fun h => ?_)
  · refine kR.aload_n dX11_goesOn_555 0 rfl ?_
    refine zR.iconst (v := 1) dX11_goesOn_556 (by decide) ?_
    obtain ⟨σ14, e15, h⟩ := bnr_some h
    refine kR.cVv [.int 1] dX11_goesOn_557 rfl (by decide) mwX11_367 zp56 (by decide) rfl rfl (Nat.le_of_ble_eq_true rfl) (lX11_joins 1 σ _ e15) ?_
    refine kR.aload_n dX11_goesOn_560 0 rfl ?_
    refine zR.dup dX11_goesOn_561 rfl ?_
    refine kR.getI dX11_goesOn_562 flX11_137 zcf11 zp56 (Or.inl rfl) ?_
    refine zR.iconst (v := 1) dX11_goesOn_565 (by decide) ?_
    refine zR.isub dX11_goesOn_566 ?_
    refine kR.putI dX11_goesOn_567 fpX11_137 zcf11 zp56 rfl h (fun σ16 h => ?_)
    refine kR.aload_n dX11_goesOn_570 0 rfl ?_
    refine zR.dup dX11_goesOn_571 rfl ?_
    refine kR.getI dX11_goesOn_572 flX11_140 zcf11 zp56 (Or.inl rfl) ?_
    refine zR.iconst (v := 1) dX11_goesOn_575 (by decide) ?_
    refine zR.isub dX11_goesOn_576 ?_
    refine kR.putI dX11_goesOn_577 fpX11_140 zcf11 zp56 rfl h (fun σ17 h => ?_)
    refine kR.iload_n dX11_goesOn_580 2 rfl ?_
    refine zR.iconst (v := 4) dX11_goesOn_581 (by decide) ?_
    refine kR.icmp_ne (tgt := 596) dX11_goesOn_582 (by decide) h (fun h => ?_) (fun h => ?_)
    · refine zR.sub [0, 2] rfl ?_
      exact kX11_goesOn_596 _ _ _ h
    · refine kR.aload_n dX11_goesOn_585 0 rfl ?_
      refine kR.aload_n dX11_goesOn_586 0 rfl ?_
      refine kR.getR (v := 81) dX11_goesOn_587 flX11_131 zcf11 zp56 (Or.inr ⟨_, rfl⟩) rfl ?_
      refine kR.iload_n dX11_goesOn_590 1 rfl ?_
      refine kR.iald dX11_goesOn_591 zp81 rfl h (fun v21 h => ?_)
      refine zR.iconst (v := 0) dX11_goesOn_592 (by decide) ?_
      obtain ⟨σ22, e23, h⟩ := bnr_some h
      refine kR.cVv [.int v21, .int 0] dX11_goesOn_593 rfl (by decide) mwX11_348 zp56 (by decide) rfl rfl (Nat.le_of_ble_eq_true rfl) (lX11_add v21 0 σ17 _ e23) ?_
      refine zR.sub [0, 2] rfl ?_
      exact kX11_goesOn_596 _ _ _ h
  · refine zR.iconst (v := 0) dX11_goesOn_553 (by decide) ?_
    exact kR.iretW dX11_goesOn_554 (nzZ rfl (Or.inl rfl)) h
def fX11_goesOn_531 (x1 : Int32) (x2 : Int32) (s0 : Int32) (σ : zS) : Option (Int32 × zS) := if (fX11_isSign σ s0) = 0 then bnr (fX11_blame 1 (iG σ 56 4) σ) fun σ24 => fX11_goesOn_546 x1 x2 σ24 else fX11_goesOn_546 x1 x2 σ
theorem kX11_goesOn_531 {sc : Nat × (Nat → Int32)} (x1 : Int32) (x2 : Int32) (s0 : Int32) (σ : zS) (w : Int32 × zS) (h : fX11_goesOn_531 x1 x2 s0 σ = some w) : zR (zY0 sc) 3 0 0 mX11_goesOn 531 [(0, .ref 56), (1, .int x1), (2, .int x2)] [.int s0, .ref 56] (zE σ) (some (.int w.1), zE w.2) := by
  unfold fX11_goesOn_531 at h
  refine kR.cVi [.int s0] dX11_goesOn_531 rfl (by decide) mwX11_274 zp56 (by decide) rfl rfl (Nat.le_of_ble_eq_true rfl) (lX11_isSign σ s0) ?_
  refine kR.if_ne (tgt := 546) dX11_goesOn_534 (by decide) h (fun h => ?_) (fun h => ?_)
  · exact kX11_goesOn_546 _ _ _ _ h
  · refine kR.aload_n dX11_goesOn_537 0 rfl ?_
    refine zR.iconst (v := 1) dX11_goesOn_538 (by decide) ?_
    refine kR.aload_n dX11_goesOn_539 0 rfl ?_
    refine kR.getI dX11_goesOn_540 flX11_23 zcf11 zp56 (Or.inl rfl) ?_
    obtain ⟨σ24, e25, h⟩ := bnr_some h
    refine kR.cVv [.int 1, .int (iG σ 56 4)] dX11_goesOn_543 rfl (by decide) mwX11_260 zp56 (by decide) rfl rfl (Nat.le_of_ble_eq_true rfl) (lX11_blame 1 (iG σ 56 4) σ _ e25) ?_
    exact kX11_goesOn_546 _ _ _ _ h
def fX11_goesOn_422 (x1 : Int32) (x2 : Int32) (σ : zS) : Option (Int32 × zS) := if 2 ≤ x2 then if x2 = 3 then fX11_goesOn_452 x1 x2 σ else if x2 = 6 then fX11_goesOn_452 x1 x2 σ else if x2 = 5 then fX11_goesOn_531 x1 x2 93 σ else fX11_goesOn_531 x1 x2 41 σ else if (iG σ 56 8) = 0 then bnr (fX11_joins 1 σ) fun σ26 => some (0, σ26) else some (0, σ)
theorem kX11_goesOn_422 {sc : Nat × (Nat → Int32)} (x1 : Int32) (x2 : Int32) (σ : zS) (w : Int32 × zS) (h : fX11_goesOn_422 x1 x2 σ = some w) : zR (zY0 sc) 3 0 0 mX11_goesOn 422 [(0, .ref 56), (1, .int x1), (2, .int x2)] [] (zE σ) (some (.int w.1), zE w.2) := by
  unfold fX11_goesOn_422 at h
  refine kR.iload_n dX11_goesOn_422 2 rfl ?_
  refine zR.iconst (v := 2) dX11_goesOn_423 (by decide) ?_
  refine kR.icmp_ge (tgt := 441) dX11_goesOn_424 (by decide) h (fun h => ?_) (fun h => ?_)
  · refine kR.iload_n dX11_goesOn_441 2 rfl ?_
    refine zR.iconst (v := 3) dX11_goesOn_442 (by decide) ?_
    refine kR.icmp_eq (tgt := 452) dX11_goesOn_443 (by decide) h (fun h => ?_) (fun h => ?_)
    · exact kX11_goesOn_452 _ _ _ _ h
    · refine kR.iload_n dX11_goesOn_446 2 rfl ?_
      refine zR.bipush (v := 6) dX11_goesOn_447 (by decide) ?_
      refine kR.icmp_ne (tgt := 518) dX11_goesOn_449 (by decide) h (fun h => ?_) (fun h => ?_)
      · refine kR.aload_n dX11_goesOn_518 0 rfl ?_
        refine kR.iload_n dX11_goesOn_519 2 rfl ?_
        refine zR.iconst (v := 5) dX11_goesOn_520 (by decide) ?_
        refine kR.icmp_ne (tgt := 529) dX11_goesOn_521 (by decide) h (fun h => ?_) (fun h => ?_)
        · refine zR.bipush (v := 41) dX11_goesOn_529 (by decide) ?_
          exact kX11_goesOn_531 _ _ _ _ _ h
        · refine zR.bipush (v := 93) dX11_goesOn_524 (by decide) ?_
          refine zR.goto (tgt := 531) dX11_goesOn_526 (by decide) ?_
          exact kX11_goesOn_531 _ _ _ _ _ h
      · exact kX11_goesOn_452 _ _ _ _ h
  · refine kR.aload_n dX11_goesOn_427 0 rfl ?_
    refine kR.getI dX11_goesOn_428 flX11_36 zcf11 zp56 (Or.inl rfl) ?_
    refine kR.if_ne (tgt := 439) dX11_goesOn_431 (by decide) h (fun h => ?_) (fun h => ?_)
    · refine zR.iconst (v := 0) dX11_goesOn_439 (by decide) ?_
      exact kR.iretW dX11_goesOn_440 (nzZ rfl (Or.inl rfl)) h
    · refine kR.aload_n dX11_goesOn_434 0 rfl ?_
      refine zR.iconst (v := 1) dX11_goesOn_435 (by decide) ?_
      obtain ⟨σ26, e27, h⟩ := bnr_some h
      refine kR.cVv [.int 1] dX11_goesOn_436 rfl (by decide) mwX11_367 zp56 (by decide) rfl rfl (Nat.le_of_ble_eq_true rfl) (lX11_joins 1 σ _ e27) ?_
      refine zR.iconst (v := 0) dX11_goesOn_439 (by decide) ?_
      exact kR.iretW dX11_goesOn_440 (nzZ rfl (Or.inl rfl)) h
def fX11_goesOn_400 (x1 : Int32) (x2 : Int32) (x3 : Int32) (σ : zS) : Option (Int32 × zS) := if x3 = 0 then fX11_goesOn_422 x1 x2 σ else aI σ 79 20 x1 fun v28 => if v28 = 0 then bnr (fX11_blame 1 (iG σ 56 4) σ) fun σ29 => fX11_goesOn_422 x1 x2 σ29 else fX11_goesOn_422 x1 x2 σ
theorem kX11_goesOn_400 {sc : Nat × (Nat → Int32)} (x1 : Int32) (x2 : Int32) (x3 : Int32) (σ : zS) (w : Int32 × zS) (h : fX11_goesOn_400 x1 x2 x3 σ = some w) : zR (zY0 sc) 3 0 0 mX11_goesOn 400 [(0, .ref 56), (1, .int x1), (2, .int x2), (3, .int x3)] [] (zE σ) (some (.int w.1), zE w.2) := by
  unfold fX11_goesOn_400 at h
  refine kR.iload_n dX11_goesOn_400 3 rfl ?_
  refine kR.if_eq (tgt := 422) dX11_goesOn_401 (by decide) h (fun h => ?_) (fun h => ?_)
  · refine zR.sub [0, 1, 2] rfl ?_
    exact kX11_goesOn_422 _ _ _ _ h
  · refine kR.aload_n dX11_goesOn_404 0 rfl ?_
    refine kR.getR (v := 79) dX11_goesOn_405 flX11_124 zcf11 zp56 (Or.inr ⟨_, rfl⟩) rfl ?_
    refine kR.iload_n dX11_goesOn_408 1 rfl ?_
    refine kR.iald dX11_goesOn_409 zp79 rfl h (fun v28 h => ?_)
    refine kR.if_ne (tgt := 422) dX11_goesOn_410 (by decide) h (fun h => ?_) (fun h => ?_)
    · refine zR.sub [0, 1, 2] rfl ?_
      exact kX11_goesOn_422 _ _ _ _ h
    · refine kR.aload_n dX11_goesOn_413 0 rfl ?_
      refine zR.iconst (v := 1) dX11_goesOn_414 (by decide) ?_
      refine kR.aload_n dX11_goesOn_415 0 rfl ?_
      refine kR.getI dX11_goesOn_416 flX11_23 zcf11 zp56 (Or.inl rfl) ?_
      obtain ⟨σ29, e30, h⟩ := bnr_some h
      refine kR.cVv [.int 1, .int (iG σ 56 4)] dX11_goesOn_419 rfl (by decide) mwX11_260 zp56 (by decide) rfl rfl (Nat.le_of_ble_eq_true rfl) (lX11_blame 1 (iG σ 56 4) σ _ e30) ?_
      refine zR.sub [0, 1, 2] rfl ?_
      exact kX11_goesOn_422 _ _ _ _ h
def fX11_goesOn_372 (x1 : Int32) (s0 : Int32) (σ : zS) : Option (Int32 × zS) := bnr (fX11_holdsBack s0 σ) fun σ34 => wI σ34 79 20 x1 0 fun σ36 => wI σ36 80 20 x1 (vp_nar .boolean 1) fun σ37 => bnr (fX11_ahead σ37) fun σ38 => gd (0 = 0 ∨ 0 = 1) (bnd (iS σ38 56 45 0) fun σ40 => some (1, σ40))
theorem kX11_goesOn_372 {sc : Nat × (Nat → Int32)} (x1 : Int32) (s0 : Int32) (σ : zS) (w : Int32 × zS) (h : fX11_goesOn_372 x1 s0 σ = some w) : zR (zY0 sc) 3 0 0 mX11_goesOn 372 [(0, .ref 56), (1, .int x1)] [.int s0, .ref 56] (zE σ) (some (.int w.1), zE w.2) := by
  unfold fX11_goesOn_372 at h
  obtain ⟨σ34, e35, h⟩ := bnr_some h
  refine kR.cVv [.int s0] dX11_goesOn_372 rfl (by decide) mwX11_361 zp56 (by decide) rfl rfl (Nat.le_of_ble_eq_true rfl) (lX11_holdsBack s0 σ _ e35) ?_
  refine kR.aload_n dX11_goesOn_375 0 rfl ?_
  refine kR.getR (v := 79) dX11_goesOn_376 flX11_124 zcf11 zp56 (Or.inr ⟨_, rfl⟩) rfl ?_
  refine kR.iload_n dX11_goesOn_379 1 rfl ?_
  refine zR.iconst (v := 0) dX11_goesOn_380 (by decide) ?_
  refine kR.iast dX11_goesOn_381 zp79 rfl h (fun σ36 h => ?_)
  refine kR.aload_n dX11_goesOn_382 0 rfl ?_
  refine kR.getR (v := 80) dX11_goesOn_383 flX11_127 zcf11 zp56 (Or.inr ⟨_, rfl⟩) rfl ?_
  refine kR.iload_n dX11_goesOn_386 1 rfl ?_
  refine zR.iconst (v := 1) dX11_goesOn_387 (by decide) ?_
  refine kR.zast dX11_goesOn_388 zp80 rfl h (fun σ37 h => ?_)
  refine kR.aload_n dX11_goesOn_389 0 rfl ?_
  obtain ⟨σ38, e39, h⟩ := bnr_some h
  refine kR.cVv [] dX11_goesOn_390 rfl (by decide) mwX11_277 zp56 (by decide) rfl rfl (Nat.le_of_ble_eq_true rfl) (lX11_ahead σ37 _ e39) ?_
  refine kR.aload_n dX11_goesOn_393 0 rfl ?_
  refine zR.iconst (v := 0) dX11_goesOn_394 (by decide) ?_
  refine kR.putZ dX11_goesOn_395 fpX11_149 zcf11 zp56 rfl h (fun σ40 h => ?_)
  refine zR.iconst (v := 1) dX11_goesOn_398 (by decide) ?_
  exact kR.iretW dX11_goesOn_399 (nzZ rfl (Or.inr rfl)) h
def fX11_goesOn_356 (x1 : Int32) (x4 : Int32) (s0 : Int32) (σ : zS) : Option (Int32 × zS) := bnr (fX11_joins s0 σ) fun σ32 => if x4 = 0 then fX11_goesOn_372 x1 21 σ32 else fX11_goesOn_372 x1 20 σ32
theorem kX11_goesOn_356 {sc : Nat × (Nat → Int32)} (x1 : Int32) (x4 : Int32) (s0 : Int32) (σ : zS) (w : Int32 × zS) (h : fX11_goesOn_356 x1 x4 s0 σ = some w) : zR (zY0 sc) 3 0 0 mX11_goesOn 356 [(0, .ref 56), (1, .int x1), (4, .int x4)] [.int s0, .ref 56] (zE σ) (some (.int w.1), zE w.2) := by
  unfold fX11_goesOn_356 at h
  obtain ⟨σ32, e33, h⟩ := bnr_some h
  refine kR.cVv [.int s0] dX11_goesOn_356 rfl (by decide) mwX11_367 zp56 (by decide) rfl rfl (Nat.le_of_ble_eq_true rfl) (lX11_joins s0 σ _ e33) ?_
  refine kR.aload_n dX11_goesOn_359 0 rfl ?_
  refine kR.iload dX11_goesOn_360 2 rfl ?_
  refine kR.if_eq (tgt := 370) dX11_goesOn_362 (by decide) h (fun h => ?_) (fun h => ?_)
  · refine zR.bipush (v := 21) dX11_goesOn_370 (by decide) ?_
    refine zR.sub [0, 1] rfl ?_
    exact kX11_goesOn_372 _ _ _ _ h
  · refine zR.bipush (v := 20) dX11_goesOn_365 (by decide) ?_
    refine zR.goto (tgt := 372) dX11_goesOn_367 (by decide) ?_
    refine zR.sub [0, 1] rfl ?_
    exact kX11_goesOn_372 _ _ _ _ h
def fX11_goesOn_327 (x1 : Int32) (σ : zS) : Option (Int32 × zS) := if (iG σ 56 8) ≤ 0 then if (fX11_isWord σ 6385252) = 0 then fX11_goesOn_356 x1 (fX11_isWord σ 6385252) 1 σ else fX11_goesOn_356 x1 (fX11_isWord σ 6385252) 2 σ else some (0, σ)
theorem kX11_goesOn_327 {sc : Nat × (Nat → Int32)} (x1 : Int32) (σ : zS) (w : Int32 × zS) (h : fX11_goesOn_327 x1 σ = some w) : zR (zY0 sc) 3 0 0 mX11_goesOn 327 [(0, .ref 56), (1, .int x1)] [] (zE σ) (some (.int w.1), zE w.2) := by
  unfold fX11_goesOn_327 at h
  refine kR.aload_n dX11_goesOn_327 0 rfl ?_
  refine kR.getI dX11_goesOn_328 flX11_36 zcf11 zp56 (Or.inl rfl) ?_
  refine kR.if_le (tgt := 336) dX11_goesOn_331 (by decide) h (fun h => ?_) (fun h => ?_)
  · refine kR.aload_n dX11_goesOn_336 0 rfl ?_
    refine zR.ldc2 (v := 6385252) dX11_goesOn_337 clX11_320 ?_
    refine kR.cVi [.long 6385252] dX11_goesOn_340 rfl (by decide) mwX11_357 zp56 (by decide) rfl rfl (Nat.le_of_ble_eq_true rfl) (lX11_isWord σ 6385252) ?_
    refine zR.istore (i := 4) (ls' := [(4, .int (fX11_isWord σ 6385252)), (0, .ref 56), (1, .int x1)]) dX11_goesOn_343 (by decide) rfl ?_
    refine kR.aload_n dX11_goesOn_345 1 rfl ?_
    refine kR.iload dX11_goesOn_346 0 rfl ?_
    refine kR.if_eq (tgt := 355) dX11_goesOn_348 (by decide) h (fun h => ?_) (fun h => ?_)
    · refine zR.iconst (v := 1) dX11_goesOn_355 (by decide) ?_
      refine zR.sub [1, 2, 0] rfl ?_
      exact kX11_goesOn_356 _ _ _ _ _ h
    · refine zR.iconst (v := 2) dX11_goesOn_351 (by decide) ?_
      refine zR.goto (tgt := 356) dX11_goesOn_352 (by decide) ?_
      refine zR.sub [1, 2, 0] rfl ?_
      exact kX11_goesOn_356 _ _ _ _ _ h
  · refine zR.iconst (v := 0) dX11_goesOn_334 (by decide) ?_
    exact kR.iretW dX11_goesOn_335 (nzZ rfl (Or.inl rfl)) h
def fX11_goesOn_309 (x1 : Int32) (σ : zS) : Option (Int32 × zS) := aI σ 79 20 x1 fun v31 => if v31 = 0 then bnr (fX11_blame 1 (iG σ 56 4) σ) fun σ41 => fX11_goesOn_327 x1 σ41 else fX11_goesOn_327 x1 σ
theorem kX11_goesOn_309 {sc : Nat × (Nat → Int32)} (x1 : Int32) (σ : zS) (w : Int32 × zS) (h : fX11_goesOn_309 x1 σ = some w) : zR (zY0 sc) 3 0 0 mX11_goesOn 309 [(0, .ref 56), (1, .int x1)] [] (zE σ) (some (.int w.1), zE w.2) := by
  unfold fX11_goesOn_309 at h
  refine kR.aload_n dX11_goesOn_309 0 rfl ?_
  refine kR.getR (v := 79) dX11_goesOn_310 flX11_124 zcf11 zp56 (Or.inr ⟨_, rfl⟩) rfl ?_
  refine kR.iload_n dX11_goesOn_313 1 rfl ?_
  refine kR.iald dX11_goesOn_314 zp79 rfl h (fun v31 h => ?_)
  refine kR.if_ne (tgt := 327) dX11_goesOn_315 (by decide) h (fun h => ?_) (fun h => ?_)
  · exact kX11_goesOn_327 _ _ _ h
  · refine kR.aload_n dX11_goesOn_318 0 rfl ?_
    refine zR.iconst (v := 1) dX11_goesOn_319 (by decide) ?_
    refine kR.aload_n dX11_goesOn_320 0 rfl ?_
    refine kR.getI dX11_goesOn_321 flX11_23 zcf11 zp56 (Or.inl rfl) ?_
    obtain ⟨σ41, e42, h⟩ := bnr_some h
    refine kR.cVv [.int 1, .int (iG σ 56 4)] dX11_goesOn_324 rfl (by decide) mwX11_260 zp56 (by decide) rfl rfl (Nat.le_of_ble_eq_true rfl) (lX11_blame 1 (iG σ 56 4) σ _ e42) ?_
    exact kX11_goesOn_327 _ _ _ h
def fX11_goesOn_285 (x1 : Int32) (x2 : Int32) (x3 : Int32) (σ : zS) : Option (Int32 × zS) := if x3 = 0 then fX11_goesOn_400 x1 x2 x3 σ else if (fX11_isWord σ 6385252) = 0 then if (fX11_isWord σ 28530) = 0 then fX11_goesOn_400 x1 x2 x3 σ else fX11_goesOn_309 x1 σ else fX11_goesOn_309 x1 σ
theorem kX11_goesOn_285 {sc : Nat × (Nat → Int32)} (x1 : Int32) (x2 : Int32) (x3 : Int32) (σ : zS) (w : Int32 × zS) (h : fX11_goesOn_285 x1 x2 x3 σ = some w) : zR (zY0 sc) 3 0 0 mX11_goesOn 285 [(0, .ref 56), (1, .int x1), (2, .int x2), (3, .int x3)] [] (zE σ) (some (.int w.1), zE w.2) := by
  unfold fX11_goesOn_285 at h
  refine kR.iload_n dX11_goesOn_285 3 rfl ?_
  refine kR.if_eq (tgt := 400) dX11_goesOn_286 (by decide) h (fun h => ?_) (fun h => ?_)
  · exact kX11_goesOn_400 _ _ _ _ _ h
  · refine kR.aload_n dX11_goesOn_289 0 rfl ?_
    refine zR.ldc2 (v := 6385252) dX11_goesOn_290 clX11_320 ?_
    refine kR.cVi [.long 6385252] dX11_goesOn_293 rfl (by decide) mwX11_357 zp56 (by decide) rfl rfl (Nat.le_of_ble_eq_true rfl) (lX11_isWord σ 6385252) ?_
    refine kR.if_ne (tgt := 309) dX11_goesOn_296 (by decide) h (fun h => ?_) (fun h => ?_)
    · refine zR.sub [0, 1] rfl ?_
      exact kX11_goesOn_309 _ _ _ h
    · refine kR.aload_n dX11_goesOn_299 0 rfl ?_
      refine zR.ldc2 (v := 28530) dX11_goesOn_300 clX11_318 ?_
      refine kR.cVi [.long 28530] dX11_goesOn_303 rfl (by decide) mwX11_357 zp56 (by decide) rfl rfl (Nat.le_of_ble_eq_true rfl) (lX11_isWord σ 28530) ?_
      refine kR.if_eq (tgt := 400) dX11_goesOn_306 (by decide) h (fun h => ?_) (fun h => ?_)
      · exact kX11_goesOn_400 _ _ _ _ _ h
      · refine zR.sub [0, 1] rfl ?_
        exact kX11_goesOn_309 _ _ _ h
def fX11_goesOn_264 (x1 : Int32) (s0 : Int32) (σ : zS) : Option (Int32 × zS) := bnr (fX11_holdsBack s0 σ) fun σ46 => wI σ46 79 20 x1 1 fun σ48 => bnr (fX11_ahead σ48) fun σ49 => gd (0 = 0 ∨ 0 = 1) (bnd (iS σ49 56 45 0) fun σ51 => some (1, σ51))
theorem kX11_goesOn_264 {sc : Nat × (Nat → Int32)} (x1 : Int32) (s0 : Int32) (σ : zS) (w : Int32 × zS) (h : fX11_goesOn_264 x1 s0 σ = some w) : zR (zY0 sc) 3 0 0 mX11_goesOn 264 [(0, .ref 56), (1, .int x1)] [.int s0, .ref 56] (zE σ) (some (.int w.1), zE w.2) := by
  unfold fX11_goesOn_264 at h
  obtain ⟨σ46, e47, h⟩ := bnr_some h
  refine kR.cVv [.int s0] dX11_goesOn_264 rfl (by decide) mwX11_361 zp56 (by decide) rfl rfl (Nat.le_of_ble_eq_true rfl) (lX11_holdsBack s0 σ _ e47) ?_
  refine kR.aload_n dX11_goesOn_267 0 rfl ?_
  refine kR.getR (v := 79) dX11_goesOn_268 flX11_124 zcf11 zp56 (Or.inr ⟨_, rfl⟩) rfl ?_
  refine kR.iload_n dX11_goesOn_271 1 rfl ?_
  refine zR.iconst (v := 1) dX11_goesOn_272 (by decide) ?_
  refine kR.iast dX11_goesOn_273 zp79 rfl h (fun σ48 h => ?_)
  refine kR.aload_n dX11_goesOn_274 0 rfl ?_
  obtain ⟨σ49, e50, h⟩ := bnr_some h
  refine kR.cVv [] dX11_goesOn_275 rfl (by decide) mwX11_277 zp56 (by decide) rfl rfl (Nat.le_of_ble_eq_true rfl) (lX11_ahead σ48 _ e50) ?_
  refine kR.aload_n dX11_goesOn_278 0 rfl ?_
  refine zR.iconst (v := 0) dX11_goesOn_279 (by decide) ?_
  refine kR.putZ dX11_goesOn_280 fpX11_149 zcf11 zp56 rfl h (fun σ51 h => ?_)
  refine zR.iconst (v := 1) dX11_goesOn_283 (by decide) ?_
  exact kR.iretW dX11_goesOn_284 (nzZ rfl (Or.inr rfl)) h
def fX11_goesOn_228 (x1 : Int32) (σ : zS) : Option (Int32 × zS) := bnr (fX11_joins 5 σ) fun σ44 => if (fX11_isSign σ44 60) = 0 then if (fX11_isSign σ44 62) = 0 then fX11_goesOn_264 x1 19 σ44 else fX11_goesOn_264 x1 18 σ44 else fX11_goesOn_264 x1 17 σ44
theorem kX11_goesOn_228 {sc : Nat × (Nat → Int32)} (x1 : Int32) (σ : zS) (w : Int32 × zS) (h : fX11_goesOn_228 x1 σ = some w) : zR (zY0 sc) 3 0 0 mX11_goesOn 228 [(0, .ref 56), (1, .int x1)] [] (zE σ) (some (.int w.1), zE w.2) := by
  unfold fX11_goesOn_228 at h
  refine kR.aload_n dX11_goesOn_228 0 rfl ?_
  refine zR.iconst (v := 5) dX11_goesOn_229 (by decide) ?_
  obtain ⟨σ44, e45, h⟩ := bnr_some h
  refine kR.cVv [.int 5] dX11_goesOn_230 rfl (by decide) mwX11_367 zp56 (by decide) rfl rfl (Nat.le_of_ble_eq_true rfl) (lX11_joins 5 σ _ e45) ?_
  refine kR.aload_n dX11_goesOn_233 0 rfl ?_
  refine kR.aload_n dX11_goesOn_234 0 rfl ?_
  refine zR.bipush (v := 60) dX11_goesOn_235 (by decide) ?_
  refine kR.cVi [.int 60] dX11_goesOn_237 rfl (by decide) mwX11_274 zp56 (by decide) rfl rfl (Nat.le_of_ble_eq_true rfl) (lX11_isSign σ44 60) ?_
  refine kR.if_eq (tgt := 248) dX11_goesOn_240 (by decide) h (fun h => ?_) (fun h => ?_)
  · refine kR.aload_n dX11_goesOn_248 0 rfl ?_
    refine zR.bipush (v := 62) dX11_goesOn_249 (by decide) ?_
    refine kR.cVi [.int 62] dX11_goesOn_251 rfl (by decide) mwX11_274 zp56 (by decide) rfl rfl (Nat.le_of_ble_eq_true rfl) (lX11_isSign σ44 62) ?_
    refine kR.if_eq (tgt := 262) dX11_goesOn_254 (by decide) h (fun h => ?_) (fun h => ?_)
    · refine zR.bipush (v := 19) dX11_goesOn_262 (by decide) ?_
      exact kX11_goesOn_264 _ _ _ _ h
    · refine zR.bipush (v := 18) dX11_goesOn_257 (by decide) ?_
      refine zR.goto (tgt := 264) dX11_goesOn_259 (by decide) ?_
      exact kX11_goesOn_264 _ _ _ _ h
  · refine zR.bipush (v := 17) dX11_goesOn_243 (by decide) ?_
    refine zR.goto (tgt := 264) dX11_goesOn_245 (by decide) ?_
    exact kX11_goesOn_264 _ _ _ _ h
def fX11_goesOn_188 (x1 : Int32) (x2 : Int32) (x3 : Int32) (σ : zS) : Option (Int32 × zS) := if x3 = 0 then fX11_goesOn_285 x1 x2 x3 σ else aI σ 79 20 x1 fun v43 => if v43 = 0 then if (fX11_isSign σ 60) = 0 then if (fX11_isSign σ 62) = 0 then if (fX11_isSign σ 61) = 0 then fX11_goesOn_285 x1 x2 x3 σ else fX11_goesOn_228 x1 σ else fX11_goesOn_228 x1 σ else fX11_goesOn_228 x1 σ else fX11_goesOn_285 x1 x2 x3 σ
theorem kX11_goesOn_188 {sc : Nat × (Nat → Int32)} (x1 : Int32) (x2 : Int32) (x3 : Int32) (σ : zS) (w : Int32 × zS) (h : fX11_goesOn_188 x1 x2 x3 σ = some w) : zR (zY0 sc) 3 0 0 mX11_goesOn 188 [(0, .ref 56), (1, .int x1), (2, .int x2), (3, .int x3)] [] (zE σ) (some (.int w.1), zE w.2) := by
  unfold fX11_goesOn_188 at h
  refine kR.iload_n dX11_goesOn_188 3 rfl ?_
  refine kR.if_eq (tgt := 285) dX11_goesOn_189 (by decide) h (fun h => ?_) (fun h => ?_)
  · exact kX11_goesOn_285 _ _ _ _ _ h
  · refine kR.aload_n dX11_goesOn_192 0 rfl ?_
    refine kR.getR (v := 79) dX11_goesOn_193 flX11_124 zcf11 zp56 (Or.inr ⟨_, rfl⟩) rfl ?_
    refine kR.iload_n dX11_goesOn_196 1 rfl ?_
    refine kR.iald dX11_goesOn_197 zp79 rfl h (fun v43 h => ?_)
    refine kR.if_ne (tgt := 285) dX11_goesOn_198 (by decide) h (fun h => ?_) (fun h => ?_)
    · exact kX11_goesOn_285 _ _ _ _ _ h
    · refine kR.aload_n dX11_goesOn_201 0 rfl ?_
      refine zR.bipush (v := 60) dX11_goesOn_202 (by decide) ?_
      refine kR.cVi [.int 60] dX11_goesOn_204 rfl (by decide) mwX11_274 zp56 (by decide) rfl rfl (Nat.le_of_ble_eq_true rfl) (lX11_isSign σ 60) ?_
      refine kR.if_ne (tgt := 228) dX11_goesOn_207 (by decide) h (fun h => ?_) (fun h => ?_)
      · refine zR.sub [0, 1] rfl ?_
        exact kX11_goesOn_228 _ _ _ h
      · refine kR.aload_n dX11_goesOn_210 0 rfl ?_
        refine zR.bipush (v := 62) dX11_goesOn_211 (by decide) ?_
        refine kR.cVi [.int 62] dX11_goesOn_213 rfl (by decide) mwX11_274 zp56 (by decide) rfl rfl (Nat.le_of_ble_eq_true rfl) (lX11_isSign σ 62) ?_
        refine kR.if_ne (tgt := 228) dX11_goesOn_216 (by decide) h (fun h => ?_) (fun h => ?_)
        · refine zR.sub [0, 1] rfl ?_
          exact kX11_goesOn_228 _ _ _ h
        · refine kR.aload_n dX11_goesOn_219 0 rfl ?_
          refine zR.bipush (v := 61) dX11_goesOn_220 (by decide) ?_
          refine kR.cVi [.int 61] dX11_goesOn_222 rfl (by decide) mwX11_274 zp56 (by decide) rfl rfl (Nat.le_of_ble_eq_true rfl) (lX11_isSign σ 61) ?_
          refine kR.if_eq (tgt := 285) dX11_goesOn_225 (by decide) h (fun h => ?_) (fun h => ?_)
          · exact kX11_goesOn_285 _ _ _ _ _ h
          · refine zR.sub [0, 1] rfl ?_
            exact kX11_goesOn_228 _ _ _ h
def fX11_goesOn_174 (s0 : Int32) (σ : zS) : Option (Int32 × zS) := bnr (fX11_holdsBack s0 σ) fun σ54 => bnr (fX11_ahead σ54) fun σ56 => gd (0 = 0 ∨ 0 = 1) (bnd (iS σ56 56 45 0) fun σ58 => some (1, σ58))
theorem kX11_goesOn_174 {sc : Nat × (Nat → Int32)} (s0 : Int32) (σ : zS) (w : Int32 × zS) (h : fX11_goesOn_174 s0 σ = some w) : zR (zY0 sc) 3 0 0 mX11_goesOn 174 [(0, .ref 56)] [.int s0, .ref 56] (zE σ) (some (.int w.1), zE w.2) := by
  unfold fX11_goesOn_174 at h
  obtain ⟨σ54, e55, h⟩ := bnr_some h
  refine kR.cVv [.int s0] dX11_goesOn_174 rfl (by decide) mwX11_361 zp56 (by decide) rfl rfl (Nat.le_of_ble_eq_true rfl) (lX11_holdsBack s0 σ _ e55) ?_
  refine kR.aload_n dX11_goesOn_177 0 rfl ?_
  obtain ⟨σ56, e57, h⟩ := bnr_some h
  refine kR.cVv [] dX11_goesOn_178 rfl (by decide) mwX11_277 zp56 (by decide) rfl rfl (Nat.le_of_ble_eq_true rfl) (lX11_ahead σ54 _ e57) ?_
  refine kR.aload_n dX11_goesOn_181 0 rfl ?_
  refine zR.iconst (v := 0) dX11_goesOn_182 (by decide) ?_
  refine kR.putZ dX11_goesOn_183 fpX11_149 zcf11 zp56 rfl h (fun σ58 h => ?_)
  refine zR.iconst (v := 1) dX11_goesOn_186 (by decide) ?_
  exact kR.iretW dX11_goesOn_187 (nzZ rfl (Or.inr rfl)) h
def fX11_goesOn_112 (s0 : Int32) (σ : zS) : Option (Int32 × zS) := bnr (fX11_joins s0 σ) fun σ52 => if (fX11_isSign σ52 43) = 0 then if (fX11_isSign σ52 45) = 0 then if (fX11_isSign σ52 42) = 0 then if (fX11_isSign σ52 47) = 0 then fX11_goesOn_174 14 σ52 else fX11_goesOn_174 13 σ52 else fX11_goesOn_174 12 σ52 else fX11_goesOn_174 11 σ52 else fX11_goesOn_174 10 σ52
theorem kX11_goesOn_112 {sc : Nat × (Nat → Int32)} (s0 : Int32) (σ : zS) (w : Int32 × zS) (h : fX11_goesOn_112 s0 σ = some w) : zR (zY0 sc) 3 0 0 mX11_goesOn 112 [(0, .ref 56)] [.int s0, .ref 56] (zE σ) (some (.int w.1), zE w.2) := by
  unfold fX11_goesOn_112 at h
  obtain ⟨σ52, e53, h⟩ := bnr_some h
  refine kR.cVv [.int s0] dX11_goesOn_112 rfl (by decide) mwX11_367 zp56 (by decide) rfl rfl (Nat.le_of_ble_eq_true rfl) (lX11_joins s0 σ _ e53) ?_
  refine kR.aload_n dX11_goesOn_115 0 rfl ?_
  refine kR.aload_n dX11_goesOn_116 0 rfl ?_
  refine zR.bipush (v := 43) dX11_goesOn_117 (by decide) ?_
  refine kR.cVi [.int 43] dX11_goesOn_119 rfl (by decide) mwX11_274 zp56 (by decide) rfl rfl (Nat.le_of_ble_eq_true rfl) (lX11_isSign σ52 43) ?_
  refine kR.if_eq (tgt := 130) dX11_goesOn_122 (by decide) h (fun h => ?_) (fun h => ?_)
  · refine kR.aload_n dX11_goesOn_130 0 rfl ?_
    refine zR.bipush (v := 45) dX11_goesOn_131 (by decide) ?_
    refine kR.cVi [.int 45] dX11_goesOn_133 rfl (by decide) mwX11_274 zp56 (by decide) rfl rfl (Nat.le_of_ble_eq_true rfl) (lX11_isSign σ52 45) ?_
    refine kR.if_eq (tgt := 144) dX11_goesOn_136 (by decide) h (fun h => ?_) (fun h => ?_)
    · refine kR.aload_n dX11_goesOn_144 0 rfl ?_
      refine zR.bipush (v := 42) dX11_goesOn_145 (by decide) ?_
      refine kR.cVi [.int 42] dX11_goesOn_147 rfl (by decide) mwX11_274 zp56 (by decide) rfl rfl (Nat.le_of_ble_eq_true rfl) (lX11_isSign σ52 42) ?_
      refine kR.if_eq (tgt := 158) dX11_goesOn_150 (by decide) h (fun h => ?_) (fun h => ?_)
      · refine kR.aload_n dX11_goesOn_158 0 rfl ?_
        refine zR.bipush (v := 47) dX11_goesOn_159 (by decide) ?_
        refine kR.cVi [.int 47] dX11_goesOn_161 rfl (by decide) mwX11_274 zp56 (by decide) rfl rfl (Nat.le_of_ble_eq_true rfl) (lX11_isSign σ52 47) ?_
        refine kR.if_eq (tgt := 172) dX11_goesOn_164 (by decide) h (fun h => ?_) (fun h => ?_)
        · refine zR.bipush (v := 14) dX11_goesOn_172 (by decide) ?_
          exact kX11_goesOn_174 _ _ _ h
        · refine zR.bipush (v := 13) dX11_goesOn_167 (by decide) ?_
          refine zR.goto (tgt := 174) dX11_goesOn_169 (by decide) ?_
          exact kX11_goesOn_174 _ _ _ h
      · refine zR.bipush (v := 12) dX11_goesOn_153 (by decide) ?_
        refine zR.goto (tgt := 174) dX11_goesOn_155 (by decide) ?_
        exact kX11_goesOn_174 _ _ _ h
    · refine zR.bipush (v := 11) dX11_goesOn_139 (by decide) ?_
      refine zR.goto (tgt := 174) dX11_goesOn_141 (by decide) ?_
      exact kX11_goesOn_174 _ _ _ h
  · refine zR.bipush (v := 10) dX11_goesOn_125 (by decide) ?_
    refine zR.goto (tgt := 174) dX11_goesOn_127 (by decide) ?_
    exact kX11_goesOn_174 _ _ _ h
def fX11_goesOn_106 (σ : zS) : Option (Int32 × zS) := fX11_goesOn_112 5 σ
theorem kX11_goesOn_106 {sc : Nat × (Nat → Int32)} (σ : zS) (w : Int32 × zS) (h : fX11_goesOn_106 σ = some w) : zR (zY0 sc) 3 0 0 mX11_goesOn 106 [(0, .ref 56)] [.ref 56] (zE σ) (some (.int w.1), zE w.2) := by
  unfold fX11_goesOn_106 at h
  refine zR.iconst (v := 5) dX11_goesOn_106 (by decide) ?_
  refine zR.goto (tgt := 112) dX11_goesOn_107 (by decide) ?_
  exact kX11_goesOn_112 _ _ _ h
def fX11_goesOn_87 (σ : zS) : Option (Int32 × zS) := if (fX11_isSign σ 43) = 0 then if (fX11_isSign σ 45) = 0 then fX11_goesOn_112 6 σ else fX11_goesOn_106 σ else fX11_goesOn_106 σ
theorem kX11_goesOn_87 {sc : Nat × (Nat → Int32)} (σ : zS) (w : Int32 × zS) (h : fX11_goesOn_87 σ = some w) : zR (zY0 sc) 3 0 0 mX11_goesOn 87 [(0, .ref 56)] [] (zE σ) (some (.int w.1), zE w.2) := by
  unfold fX11_goesOn_87 at h
  refine kR.aload_n dX11_goesOn_87 0 rfl ?_
  refine kR.aload_n dX11_goesOn_88 0 rfl ?_
  refine zR.bipush (v := 43) dX11_goesOn_89 (by decide) ?_
  refine kR.cVi [.int 43] dX11_goesOn_91 rfl (by decide) mwX11_274 zp56 (by decide) rfl rfl (Nat.le_of_ble_eq_true rfl) (lX11_isSign σ 43) ?_
  refine kR.if_ne (tgt := 106) dX11_goesOn_94 (by decide) h (fun h => ?_) (fun h => ?_)
  · exact kX11_goesOn_106 _ _ h
  · refine kR.aload_n dX11_goesOn_97 0 rfl ?_
    refine zR.bipush (v := 45) dX11_goesOn_98 (by decide) ?_
    refine kR.cVi [.int 45] dX11_goesOn_100 rfl (by decide) mwX11_274 zp56 (by decide) rfl rfl (Nat.le_of_ble_eq_true rfl) (lX11_isSign σ 45) ?_
    refine kR.if_eq (tgt := 110) dX11_goesOn_103 (by decide) h (fun h => ?_) (fun h => ?_)
    · refine zR.bipush (v := 6) dX11_goesOn_110 (by decide) ?_
      exact kX11_goesOn_112 _ _ _ h
    · exact kX11_goesOn_106 _ _ h
def fX11_goesOn (σ : zS) : Option (Int32 × zS) := bnr (fX11_lex σ) fun σ1 => if (iG σ1 56 8) ≤ 0 then aI σ1 78 20 ((iG σ1 56 41) - 1) fun v3 => aI σ1 79 20 ((iG σ1 56 41) - 1) fun v4 => if 2 ≤ v4 then fX11_goesOn_188 ((iG σ1 56 41) - 1) v3 (fX11_isTest v3) σ1 else if (fX11_isSign σ1 43) = 0 then if (fX11_isSign σ1 45) = 0 then if (fX11_isSign σ1 42) = 0 then if (fX11_isSign σ1 47) = 0 then if (fX11_isSign σ1 37) = 0 then fX11_goesOn_188 ((iG σ1 56 41) - 1) v3 (fX11_isTest v3) σ1 else fX11_goesOn_87 σ1 else fX11_goesOn_87 σ1 else fX11_goesOn_87 σ1 else fX11_goesOn_87 σ1 else fX11_goesOn_87 σ1 else some (0, σ1)
theorem eX11_goesOn {sc : Nat × (Nat → Int32)} (σ : zS) (w : Int32 × zS) (h : fX11_goesOn σ = some w) : zR (zY0 sc) 3 0 0 mX11_goesOn 0 [(0, .ref 56)] [] (zE σ) (some (.int w.1), zE w.2) := by
  unfold fX11_goesOn at h
  refine kR.aload_n dX11_goesOn_0 0 rfl ?_
  obtain ⟨σ1, e2, h⟩ := bnr_some h
  refine kR.cVv [] dX11_goesOn_1 rfl (by decide) mwX11_271 zp56 (by decide) rfl rfl (Nat.le_of_ble_eq_true rfl) (lX11_lex σ _ e2) ?_
  refine kR.aload_n dX11_goesOn_4 0 rfl ?_
  refine kR.getI dX11_goesOn_5 flX11_36 zcf11 zp56 (Or.inl rfl) ?_
  refine kR.if_le (tgt := 13) dX11_goesOn_8 (by decide) h (fun h => ?_) (fun h => ?_)
  · refine kR.aload_n dX11_goesOn_13 0 rfl ?_
    refine kR.getI dX11_goesOn_14 flX11_137 zcf11 zp56 (Or.inl rfl) ?_
    refine zR.iconst (v := 1) dX11_goesOn_17 (by decide) ?_
    refine zR.isub dX11_goesOn_18 ?_
    refine zR.istore_n (i := 1) (ls' := [(1, .int ((iG σ1 56 41) - 1)), (0, .ref 56)]) dX11_goesOn_19 rfl (by decide) rfl ?_
    refine kR.aload_n dX11_goesOn_20 1 rfl ?_
    refine kR.getR (v := 78) dX11_goesOn_21 flX11_121 zcf11 zp56 (Or.inr ⟨_, rfl⟩) rfl ?_
    refine kR.iload_n dX11_goesOn_24 0 rfl ?_
    refine kR.iald dX11_goesOn_25 zp78 rfl h (fun v3 h => ?_)
    refine zR.istore_n (i := 2) (ls' := [(2, .int v3), (1, .int ((iG σ1 56 41) - 1)), (0, .ref 56)]) dX11_goesOn_26 rfl (by decide) rfl ?_
    refine kR.iload_n dX11_goesOn_27 0 rfl ?_
    refine kR.cSi [.int v3] dX11_goesOn_28 rfl (by decide) (Or.inl mwX11_354) rfl (Nat.le_of_ble_eq_true rfl) (lX11_isTest v3) ?_
    refine zR.istore_n (i := 3) (ls' := [(3, .int (fX11_isTest v3)), (2, .int v3), (1, .int ((iG σ1 56 41) - 1)), (0, .ref 56)]) dX11_goesOn_31 rfl (by decide) rfl ?_
    refine kR.aload_n dX11_goesOn_32 3 rfl ?_
    refine kR.getR (v := 79) dX11_goesOn_33 flX11_124 zcf11 zp56 (Or.inr ⟨_, rfl⟩) rfl ?_
    refine kR.iload_n dX11_goesOn_36 2 rfl ?_
    refine kR.iald dX11_goesOn_37 zp79 rfl h (fun v4 h => ?_)
    refine zR.iconst (v := 2) dX11_goesOn_38 (by decide) ?_
    refine kR.icmp_ge (tgt := 188) dX11_goesOn_39 (by decide) h (fun h => ?_) (fun h => ?_)
    · refine zR.sub [3, 2, 1, 0] rfl ?_
      exact kX11_goesOn_188 _ _ _ _ _ h
    · refine kR.aload_n dX11_goesOn_42 3 rfl ?_
      refine zR.bipush (v := 43) dX11_goesOn_43 (by decide) ?_
      refine kR.cVi [.int 43] dX11_goesOn_45 rfl (by decide) mwX11_274 zp56 (by decide) rfl rfl (Nat.le_of_ble_eq_true rfl) (lX11_isSign σ1 43) ?_
      refine kR.if_ne (tgt := 87) dX11_goesOn_48 (by decide) h (fun h => ?_) (fun h => ?_)
      · refine zR.sub [3] rfl ?_
        exact kX11_goesOn_87 _ _ h
      · refine kR.aload_n dX11_goesOn_51 3 rfl ?_
        refine zR.bipush (v := 45) dX11_goesOn_52 (by decide) ?_
        refine kR.cVi [.int 45] dX11_goesOn_54 rfl (by decide) mwX11_274 zp56 (by decide) rfl rfl (Nat.le_of_ble_eq_true rfl) (lX11_isSign σ1 45) ?_
        refine kR.if_ne (tgt := 87) dX11_goesOn_57 (by decide) h (fun h => ?_) (fun h => ?_)
        · refine zR.sub [3] rfl ?_
          exact kX11_goesOn_87 _ _ h
        · refine kR.aload_n dX11_goesOn_60 3 rfl ?_
          refine zR.bipush (v := 42) dX11_goesOn_61 (by decide) ?_
          refine kR.cVi [.int 42] dX11_goesOn_63 rfl (by decide) mwX11_274 zp56 (by decide) rfl rfl (Nat.le_of_ble_eq_true rfl) (lX11_isSign σ1 42) ?_
          refine kR.if_ne (tgt := 87) dX11_goesOn_66 (by decide) h (fun h => ?_) (fun h => ?_)
          · refine zR.sub [3] rfl ?_
            exact kX11_goesOn_87 _ _ h
          · refine kR.aload_n dX11_goesOn_69 3 rfl ?_
            refine zR.bipush (v := 47) dX11_goesOn_70 (by decide) ?_
            refine kR.cVi [.int 47] dX11_goesOn_72 rfl (by decide) mwX11_274 zp56 (by decide) rfl rfl (Nat.le_of_ble_eq_true rfl) (lX11_isSign σ1 47) ?_
            refine kR.if_ne (tgt := 87) dX11_goesOn_75 (by decide) h (fun h => ?_) (fun h => ?_)
            · refine zR.sub [3] rfl ?_
              exact kX11_goesOn_87 _ _ h
            · refine kR.aload_n dX11_goesOn_78 3 rfl ?_
              refine zR.bipush (v := 37) dX11_goesOn_79 (by decide) ?_
              refine kR.cVi [.int 37] dX11_goesOn_81 rfl (by decide) mwX11_274 zp56 (by decide) rfl rfl (Nat.le_of_ble_eq_true rfl) (lX11_isSign σ1 37) ?_
              refine kR.if_eq (tgt := 188) dX11_goesOn_84 (by decide) h (fun h => ?_) (fun h => ?_)
              · refine zR.sub [3, 2, 1, 0] rfl ?_
                exact kX11_goesOn_188 _ _ _ _ _ h
              · refine zR.sub [3] rfl ?_
                exact kX11_goesOn_87 _ _ h
  · refine zR.iconst (v := 0) dX11_goesOn_11 (by decide) ?_
    exact kR.iretW dX11_goesOn_12 (nzZ rfl (Or.inl rfl)) h
theorem lX11_goesOn {sc : Nat × (Nat → Int32)} (σ : zS) (w : Int32 × zS) (h : fX11_goesOn σ = some w) : zC (zY0 sc) 3 0 0 mX11_goesOn [.ref 56] (zE σ) (some (.int w.1), zE w.2) := zC.of (by decide +kernel) (Nat.le_of_ble_eq_true rfl) ⟨_, rfl⟩ (eX11_goesOn σ w h)
theorem dX11_reads_0 : decode cX11_reads 0 = .ok (.aload_n 0, 1) := by decide +kernel
theorem dX11_reads_1 : decode cX11_reads 1 = .ok (.getfield 36, 3) := by decide +kernel
theorem dX11_reads_4 : decode cX11_reads 4 = .ok (.ifCond .le 4, 3) := by decide +kernel
theorem dX11_reads_7 : decode cX11_reads 7 = .ok (.return_, 1) := by decide +kernel
theorem dX11_reads_8 : decode cX11_reads 8 = .ok (.aload_n 0, 1) := by decide +kernel
theorem dX11_reads_9 : decode cX11_reads 9 = .ok (.iconst 0, 1) := by decide +kernel
theorem dX11_reads_10 : decode cX11_reads 10 = .ok (.putfield 137, 3) := by decide +kernel
theorem dX11_reads_13 : decode cX11_reads 13 = .ok (.aload_n 0, 1) := by decide +kernel
theorem dX11_reads_14 : decode cX11_reads 14 = .ok (.iconst 0, 1) := by decide +kernel
theorem dX11_reads_15 : decode cX11_reads 15 = .ok (.putfield 140, 3) := by decide +kernel
theorem dX11_reads_18 : decode cX11_reads 18 = .ok (.aload_n 0, 1) := by decide +kernel
theorem dX11_reads_19 : decode cX11_reads 19 = .ok (.iconst 0, 1) := by decide +kernel
theorem dX11_reads_20 : decode cX11_reads 20 = .ok (.putfield 146, 3) := by decide +kernel
theorem dX11_reads_23 : decode cX11_reads 23 = .ok (.aload_n 0, 1) := by decide +kernel
theorem dX11_reads_24 : decode cX11_reads 24 = .ok (.iconst 0, 1) := by decide +kernel
theorem dX11_reads_25 : decode cX11_reads 25 = .ok (.putfield 149, 3) := by decide +kernel
theorem dX11_reads_28 : decode cX11_reads 28 = .ok (.aload_n 0, 1) := by decide +kernel
theorem dX11_reads_29 : decode cX11_reads 29 = .ok (.iload_n 1, 1) := by decide +kernel
theorem dX11_reads_30 : decode cX11_reads 30 = .ok (.ifCond .eq 7, 3) := by decide +kernel
theorem dX11_reads_33 : decode cX11_reads 33 = .ok (.iconst 1, 1) := by decide +kernel
theorem dX11_reads_34 : decode cX11_reads 34 = .ok (.goto 4, 3) := by decide +kernel
theorem dX11_reads_37 : decode cX11_reads 37 = .ok (.iconst 0, 1) := by decide +kernel
theorem dX11_reads_38 : decode cX11_reads 38 = .ok (.invokevirtual 351, 3) := by decide +kernel
theorem dX11_reads_41 : decode cX11_reads 41 = .ok (.iconst 1, 1) := by decide +kernel
theorem dX11_reads_42 : decode cX11_reads 42 = .ok (.istore_n 2, 1) := by decide +kernel
theorem dX11_reads_43 : decode cX11_reads 43 = .ok (.iload_n 2, 1) := by decide +kernel
theorem dX11_reads_44 : decode cX11_reads 44 = .ok (.ifCond .eq 46, 3) := by decide +kernel
theorem dX11_reads_47 : decode cX11_reads 47 = .ok (.aload_n 0, 1) := by decide +kernel
theorem dX11_reads_48 : decode cX11_reads 48 = .ok (.getfield 149, 3) := by decide +kernel
theorem dX11_reads_51 : decode cX11_reads 51 = .ok (.ifCond .ne 14, 3) := by decide +kernel
theorem dX11_reads_54 : decode cX11_reads 54 = .ok (.aload_n 0, 1) := by decide +kernel
theorem dX11_reads_55 : decode cX11_reads 55 = .ok (.aload_n 0, 1) := by decide +kernel
theorem dX11_reads_56 : decode cX11_reads 56 = .ok (.invokevirtual 370, 3) := by decide +kernel
theorem dX11_reads_59 : decode cX11_reads 59 = .ok (.putfield 149, 3) := by decide +kernel
theorem dX11_reads_62 : decode cX11_reads 62 = .ok (.goto 8, 3) := by decide +kernel
theorem dX11_reads_65 : decode cX11_reads 65 = .ok (.aload_n 0, 1) := by decide +kernel
theorem dX11_reads_66 : decode cX11_reads 66 = .ok (.invokevirtual 373, 3) := by decide +kernel
theorem dX11_reads_69 : decode cX11_reads 69 = .ok (.istore_n 2, 1) := by decide +kernel
theorem dX11_reads_70 : decode cX11_reads 70 = .ok (.iload_n 2, 1) := by decide +kernel
theorem dX11_reads_71 : decode cX11_reads 71 = .ok (.ifCond .eq 14, 3) := by decide +kernel
theorem dX11_reads_74 : decode cX11_reads 74 = .ok (.aload_n 0, 1) := by decide +kernel
theorem dX11_reads_75 : decode cX11_reads 75 = .ok (.getfield 36, 3) := by decide +kernel
theorem dX11_reads_78 : decode cX11_reads 78 = .ok (.ifCond .ne 7, 3) := by decide +kernel
theorem dX11_reads_81 : decode cX11_reads 81 = .ok (.iconst 1, 1) := by decide +kernel
theorem dX11_reads_82 : decode cX11_reads 82 = .ok (.goto 4, 3) := by decide +kernel
theorem dX11_reads_85 : decode cX11_reads 85 = .ok (.iconst 0, 1) := by decide +kernel
theorem dX11_reads_86 : decode cX11_reads 86 = .ok (.istore_n 2, 1) := by decide +kernel
theorem dX11_reads_87 : decode cX11_reads 87 = .ok (.goto (-44), 3) := by decide +kernel
theorem dX11_reads_90 : decode cX11_reads 90 = .ok (.return_, 1) := by decide +kernel
def fX11_reads_86 (r43 : Int32 → zS → Option zS) (s0 : Int32) (σ : zS) : Option zS := r43 s0 σ
theorem kX11_reads_86 {sc : Nat × (Nat → Int32)} (r43 : Int32 → zS → Option zS) (hr43 : ∀ (x2 : Int32) (σ : zS) (w : zS), r43 x2 σ = some w → zR (zY0 sc) 5 0 0 mX11_reads 43 [(0, .ref 56), (2, .int x2)] [] (zE σ) (none, zE w)) (s0 : Int32) (σ : zS) (w : zS) (h : fX11_reads_86 r43 s0 σ = some w) : zR (zY0 sc) 5 0 0 mX11_reads 86 [(0, .ref 56)] [.int s0] (zE σ) (none, zE w) := by
  unfold fX11_reads_86 at h
  refine zR.istore_n (i := 2) (ls' := [(2, .int s0), (0, .ref 56)]) dX11_reads_86 rfl (by decide) rfl ?_
  refine zR.goto (tgt := 43) dX11_reads_87 (by decide) ?_
  refine zR.sub [1, 0] rfl ?_
  exact hr43 _ _ _ h
def fX11_reads_85 (r43 : Int32 → zS → Option zS) (σ : zS) : Option zS := fX11_reads_86 r43 0 σ
theorem kX11_reads_85 {sc : Nat × (Nat → Int32)} (r43 : Int32 → zS → Option zS) (hr43 : ∀ (x2 : Int32) (σ : zS) (w : zS), r43 x2 σ = some w → zR (zY0 sc) 5 0 0 mX11_reads 43 [(0, .ref 56), (2, .int x2)] [] (zE σ) (none, zE w)) (σ : zS) (w : zS) (h : fX11_reads_85 r43 σ = some w) : zR (zY0 sc) 5 0 0 mX11_reads 85 [(0, .ref 56)] [] (zE σ) (none, zE w) := by
  unfold fX11_reads_85 at h
  refine zR.iconst (v := 0) dX11_reads_85 (by decide) ?_
  exact kX11_reads_86 r43 hr43 _ _ _ h
def fX11_reads_70 (r43 : Int32 → zS → Option zS) (x2 : Int32) (σ : zS) : Option zS := if x2 = 0 then fX11_reads_85 r43 σ else if (iG σ 56 8) = 0 then fX11_reads_86 r43 1 σ else fX11_reads_85 r43 σ
theorem kX11_reads_70 {sc : Nat × (Nat → Int32)} (r43 : Int32 → zS → Option zS) (hr43 : ∀ (x2 : Int32) (σ : zS) (w : zS), r43 x2 σ = some w → zR (zY0 sc) 5 0 0 mX11_reads 43 [(0, .ref 56), (2, .int x2)] [] (zE σ) (none, zE w)) (x2 : Int32) (σ : zS) (w : zS) (h : fX11_reads_70 r43 x2 σ = some w) : zR (zY0 sc) 5 0 0 mX11_reads 70 [(0, .ref 56), (2, .int x2)] [] (zE σ) (none, zE w) := by
  unfold fX11_reads_70 at h
  refine kR.iload_n dX11_reads_70 1 rfl ?_
  refine kR.if_eq (tgt := 85) dX11_reads_71 (by decide) h (fun h => ?_) (fun h => ?_)
  · refine zR.sub [0] rfl ?_
    exact kX11_reads_85 r43 hr43 _ _ h
  · refine kR.aload_n dX11_reads_74 0 rfl ?_
    refine kR.getI dX11_reads_75 flX11_36 zcf11 zp56 (Or.inl rfl) ?_
    refine kR.if_ne (tgt := 85) dX11_reads_78 (by decide) h (fun h => ?_) (fun h => ?_)
    · refine zR.sub [0] rfl ?_
      exact kX11_reads_85 r43 hr43 _ _ h
    · refine zR.iconst (v := 1) dX11_reads_81 (by decide) ?_
      refine zR.goto (tgt := 86) dX11_reads_82 (by decide) ?_
      refine zR.sub [0] rfl ?_
      exact kX11_reads_86 r43 hr43 _ _ _ h
def fX11_reads_43 : Nat → Int32 → zS → Option zS
  | 0, _, _ => none
  | f + 1, x2, σ => if x2 = 0 then some σ else if (iG σ 56 45) = 0 then bnc (fX11_operand σ) fun v12 σ10 => gd (v12 = 0 ∨ v12 = 1) (bnd (iS σ10 56 45 v12) fun σ13 => fX11_reads_70 (fX11_reads_43 f) x2 σ13) else bnc (fX11_goesOn σ) fun v9 σ7 => fX11_reads_70 (fX11_reads_43 f) v9 σ7
theorem kX11_reads_43 {sc : Nat × (Nat → Int32)} : ∀ (fuel : Nat) (x2 : Int32) (σ : zS) (w : zS) (h : fX11_reads_43 fuel x2 σ = some w), zR (zY0 sc) 5 0 0 mX11_reads 43 [(0, .ref 56), (2, .int x2)] [] (zE σ) (none, zE w) := by
  intro fuel
  induction fuel with
  | zero => intro x2 σ w h; exact nomatch h
  | succ f ih =>
    intro x2 σ w h
    rw [fX11_reads_43] at h
    refine kR.iload_n dX11_reads_43 1 rfl ?_
    refine kR.if_eq (tgt := 90) dX11_reads_44 (by decide) h (fun h => ?_) (fun h => ?_)
    · exact kR.vret dX11_reads_90 h
    · refine kR.aload_n dX11_reads_47 0 rfl ?_
      refine kR.getI dX11_reads_48 flX11_149 zcf11 zp56 (Or.inr rfl) ?_
      refine kR.if_ne (tgt := 65) dX11_reads_51 (by decide) h (fun h => ?_) (fun h => ?_)
      · refine kR.aload_n dX11_reads_65 0 rfl ?_
        obtain ⟨v9, σ7, e8, h⟩ := bnc_some h
        refine kR.cVi [] dX11_reads_66 rfl (by decide) mwX11_373 zp56 (by decide) rfl rfl (Nat.le_of_ble_eq_true rfl) (lX11_goesOn σ _ e8) ?_
        refine zR.istore_n (i := 2) (ls' := [(2, .int v9), (0, .ref 56)]) dX11_reads_69 rfl (by decide) rfl ?_
        refine zR.sub [1, 0] rfl ?_
        exact kX11_reads_70 (fX11_reads_43 f) ih _ _ _ h
      · refine kR.aload_n dX11_reads_54 0 rfl ?_
        refine kR.aload_n dX11_reads_55 0 rfl ?_
        obtain ⟨v12, σ10, e11, h⟩ := bnc_some h
        refine kR.cVi [] dX11_reads_56 rfl (by decide) mwX11_370 zp56 (by decide) rfl rfl (Nat.le_of_ble_eq_true rfl) (lX11_operand σ _ e11) ?_
        refine kR.putZ dX11_reads_59 fpX11_149 zcf11 zp56 rfl h (fun σ13 h => ?_)
        refine zR.goto (tgt := 70) dX11_reads_62 (by decide) ?_
        exact kX11_reads_70 (fX11_reads_43 f) ih _ _ _ h
def fX11_reads_38 (s0 : Int32) (σ : zS) : Option zS := bnr (fX11_pushes s0 σ) fun σ5 => fX11_reads_43 zF 1 σ5
theorem kX11_reads_38 {sc : Nat × (Nat → Int32)} (s0 : Int32) (σ : zS) (w : zS) (h : fX11_reads_38 s0 σ = some w) : zR (zY0 sc) 5 0 0 mX11_reads 38 [(0, .ref 56)] [.int s0, .ref 56] (zE σ) (none, zE w) := by
  unfold fX11_reads_38 at h
  obtain ⟨σ5, e6, h⟩ := bnr_some h
  refine kR.cVv [.int s0] dX11_reads_38 rfl (by decide) mwX11_351 zp56 (by decide) rfl rfl (Nat.le_of_ble_eq_true rfl) (lX11_pushes s0 σ _ e6) ?_
  refine zR.iconst (v := 1) dX11_reads_41 (by decide) ?_
  refine zR.istore_n (i := 2) (ls' := [(2, .int 1), (0, .ref 56)]) dX11_reads_42 rfl (by decide) rfl ?_
  refine zR.sub [1, 0] rfl ?_
  exact kX11_reads_43 zF _ _ _ h
def fX11_reads (p1 : Int32) (σ : zS) : Option zS := if (iG σ 56 8) ≤ 0 then bnd (iS σ 56 41 0) fun σ1 => bnd (iS σ1 56 42 0) fun σ2 => bnd (iS σ2 56 44 0) fun σ3 => gd (0 = 0 ∨ 0 = 1) (bnd (iS σ3 56 45 0) fun σ4 => if p1 = 0 then fX11_reads_38 0 σ4 else fX11_reads_38 1 σ4) else some σ
theorem eX11_reads {sc : Nat × (Nat → Int32)} (p1 : Int32) (σ : zS) (w : zS) (h : fX11_reads p1 σ = some w) : zR (zY0 sc) 5 0 0 mX11_reads 0 [(0, .ref 56), (1, .int p1)] [] (zE σ) (none, zE w) := by
  unfold fX11_reads at h
  refine kR.aload_n dX11_reads_0 0 rfl ?_
  refine kR.getI dX11_reads_1 flX11_36 zcf11 zp56 (Or.inl rfl) ?_
  refine kR.if_le (tgt := 8) dX11_reads_4 (by decide) h (fun h => ?_) (fun h => ?_)
  · refine kR.aload_n dX11_reads_8 0 rfl ?_
    refine zR.iconst (v := 0) dX11_reads_9 (by decide) ?_
    refine kR.putI dX11_reads_10 fpX11_137 zcf11 zp56 rfl h (fun σ1 h => ?_)
    refine kR.aload_n dX11_reads_13 0 rfl ?_
    refine zR.iconst (v := 0) dX11_reads_14 (by decide) ?_
    refine kR.putI dX11_reads_15 fpX11_140 zcf11 zp56 rfl h (fun σ2 h => ?_)
    refine kR.aload_n dX11_reads_18 0 rfl ?_
    refine zR.iconst (v := 0) dX11_reads_19 (by decide) ?_
    refine kR.putI dX11_reads_20 fpX11_146 zcf11 zp56 rfl h (fun σ3 h => ?_)
    refine kR.aload_n dX11_reads_23 0 rfl ?_
    refine zR.iconst (v := 0) dX11_reads_24 (by decide) ?_
    refine kR.putZ dX11_reads_25 fpX11_149 zcf11 zp56 rfl h (fun σ4 h => ?_)
    refine kR.aload_n dX11_reads_28 0 rfl ?_
    refine kR.iload_n dX11_reads_29 1 rfl ?_
    refine kR.if_eq (tgt := 37) dX11_reads_30 (by decide) h (fun h => ?_) (fun h => ?_)
    · refine zR.iconst (v := 0) dX11_reads_37 (by decide) ?_
      refine zR.sub [0] rfl ?_
      exact kX11_reads_38 _ _ _ h
    · refine zR.iconst (v := 1) dX11_reads_33 (by decide) ?_
      refine zR.goto (tgt := 38) dX11_reads_34 (by decide) ?_
      refine zR.sub [0] rfl ?_
      exact kX11_reads_38 _ _ _ h
  · exact kR.vret dX11_reads_7 h
theorem lX11_reads {sc : Nat × (Nat → Int32)} (p1 : Int32) (σ : zS) (w : zS) (h : fX11_reads p1 σ = some w) : zC (zY0 sc) 5 0 0 mX11_reads [.ref 56, .int p1] (zE σ) (none, zE w) := zC.of (by decide +kernel) (Nat.le_of_ble_eq_true rfl) rfl (eX11_reads p1 σ w h)

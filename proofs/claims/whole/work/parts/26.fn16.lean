/-! MY OWN (by program): X11_octet, X11_holderOn, X11_comesOn, X11_goOn, J3_checkIndex_8e157, J0_checkIndex_df160, J1_charAt_3b067, J0_charAt_5068e -/
theorem dX11_octet_0 : decode cX11_octet 0 = .ok (.iload_n 1, 1) := by decide +kernel
theorem dX11_octet_1 : decode cX11_octet 1 = .ok (.iconst 0, 1) := by decide +kernel
theorem dX11_octet_2 : decode cX11_octet 2 = .ok (.aload_n 0, 1) := by decide +kernel
theorem dX11_octet_3 : decode cX11_octet 3 = .ok (.getfield 249, 3) := by decide +kernel
theorem dX11_octet_6 : decode cX11_octet 6 = .ok (.iconst 1, 1) := by decide +kernel
theorem dX11_octet_7 : decode cX11_octet 7 = .ok (.isub, 1) := by decide +kernel
theorem dX11_octet_8 : decode cX11_octet 8 = .ok (.invokestatic 338, 3) := by decide +kernel
theorem dX11_octet_11 : decode cX11_octet 11 = .ok (.ifCond .eq 12, 3) := by decide +kernel
theorem dX11_octet_14 : decode cX11_octet 14 = .ok (.aload_n 0, 1) := by decide +kernel
theorem dX11_octet_15 : decode cX11_octet 15 = .ok (.getfield 246, 3) := by decide +kernel
theorem dX11_octet_18 : decode cX11_octet 18 = .ok (.iload_n 1, 1) := by decide +kernel
theorem dX11_octet_19 : decode cX11_octet 19 = .ok (.iaload, 1) := by decide +kernel
theorem dX11_octet_20 : decode cX11_octet 20 = .ok (.goto 4, 3) := by decide +kernel
theorem dX11_octet_23 : decode cX11_octet 23 = .ok (.iconst (-1), 1) := by decide +kernel
theorem dX11_octet_24 : decode cX11_octet 24 = .ok (.ireturn, 1) := by decide +kernel
def fX11_octet (σ : zS) (p1 : Int32) : Option Int32 := if (fX11_is p1 0 ((iG σ 56 78) - 1)) = 0 then some ((-1)) else aI σ 102 70 p1 fun v1 => some v1
theorem eX11_octet {sc : Nat × (Nat → Int32)} (σ : zS) (p1 : Int32) (w : Int32) (h : fX11_octet σ p1 = some w) : zR (zY0 sc) 2 0 0 mX11_octet 0 [(0, .ref 56), (1, .int p1)] [] (zE σ) (some (.int w), zE σ) := by
  unfold fX11_octet at h
  refine kR.iload_n dX11_octet_0 1 rfl ?_
  refine zR.iconst (v := 0) dX11_octet_1 (by decide) ?_
  refine kR.aload_n dX11_octet_2 0 rfl ?_
  refine kR.getI dX11_octet_3 flX11_249 zcf11 zp56 (Or.inl rfl) ?_
  refine zR.iconst (v := 1) dX11_octet_6 (by decide) ?_
  refine zR.isub dX11_octet_7 ?_
  refine kR.cSi [.int p1, .int 0, .int ((iG σ 56 78) - 1)] dX11_octet_8 rfl (by decide) (Or.inl mwX11_338) rfl (Nat.le_of_ble_eq_true rfl) (lX11_is p1 0 ((iG σ 56 78) - 1)) ?_
  refine kR.if_eq (tgt := 23) dX11_octet_11 (by decide) h (fun h => ?_) (fun h => ?_)
  · refine zR.iconst (v := (-1)) dX11_octet_23 (by decide) ?_
    exact kR.iretO dX11_octet_24 (nzI rfl _) h
  · refine kR.aload_n dX11_octet_14 0 rfl ?_
    refine kR.getR (v := 102) dX11_octet_15 flX11_246 zcf11 zp56 (Or.inr ⟨_, rfl⟩) rfl ?_
    refine kR.iload_n dX11_octet_18 1 rfl ?_
    refine kR.iald dX11_octet_19 zp102 rfl h (fun v1 h => ?_)
    refine zR.goto (tgt := 24) dX11_octet_20 (by decide) ?_
    exact kR.iretO dX11_octet_24 (nzI rfl _) h
theorem lX11_octet {sc : Nat × (Nat → Int32)} (σ : zS) (p1 : Int32) (w : Int32) (h : fX11_octet σ p1 = some w) : zC (zY0 sc) 2 0 0 mX11_octet [.ref 56, .int p1] (zE σ) (some (.int w), zE σ) := zC.of (by decide +kernel) (Nat.le_of_ble_eq_true rfl) ⟨_, rfl⟩ (eX11_octet σ p1 w h)
theorem dX11_holderOn_0 : decode cX11_holderOn 0 = .ok (.bipush 6, 2) := by decide +kernel
theorem dX11_holderOn_2 : decode cX11_holderOn 2 = .ok (.iload_n 1, 1) := by decide +kernel
theorem dX11_holderOn_3 : decode cX11_holderOn 3 = .ok (.iadd, 1) := by decide +kernel
theorem dX11_holderOn_4 : decode cX11_holderOn 4 = .ok (.istore_n 3, 1) := by decide +kernel
theorem dX11_holderOn_5 : decode cX11_holderOn 5 = .ok (.aload_n 0, 1) := by decide +kernel
theorem dX11_holderOn_6 : decode cX11_holderOn 6 = .ok (.getfield 159, 3) := by decide +kernel
theorem dX11_holderOn_9 : decode cX11_holderOn 9 = .ok (.iload_n 3, 1) := by decide +kernel
theorem dX11_holderOn_10 : decode cX11_holderOn 10 = .ok (.aload_n 0, 1) := by decide +kernel
theorem dX11_holderOn_11 : decode cX11_holderOn 11 = .ok (.getfield 7, 3) := by decide +kernel
theorem dX11_holderOn_14 : decode cX11_holderOn 14 = .ok (.iload_n 2, 1) := by decide +kernel
theorem dX11_holderOn_15 : decode cX11_holderOn 15 = .ok (.iaload, 1) := by decide +kernel
theorem dX11_holderOn_16 : decode cX11_holderOn 16 = .ok (.iastore, 1) := by decide +kernel
theorem dX11_holderOn_17 : decode cX11_holderOn 17 = .ok (.aload_n 0, 1) := by decide +kernel
theorem dX11_holderOn_18 : decode cX11_holderOn 18 = .ok (.getfield 162, 3) := by decide +kernel
theorem dX11_holderOn_21 : decode cX11_holderOn 21 = .ok (.iload_n 3, 1) := by decide +kernel
theorem dX11_holderOn_22 : decode cX11_holderOn 22 = .ok (.aload_n 0, 1) := by decide +kernel
theorem dX11_holderOn_23 : decode cX11_holderOn 23 = .ok (.getfield 7, 3) := by decide +kernel
theorem dX11_holderOn_26 : decode cX11_holderOn 26 = .ok (.iload_n 2, 1) := by decide +kernel
theorem dX11_holderOn_27 : decode cX11_holderOn 27 = .ok (.iconst 1, 1) := by decide +kernel
theorem dX11_holderOn_28 : decode cX11_holderOn 28 = .ok (.iadd, 1) := by decide +kernel
theorem dX11_holderOn_29 : decode cX11_holderOn 29 = .ok (.iaload, 1) := by decide +kernel
theorem dX11_holderOn_30 : decode cX11_holderOn 30 = .ok (.iastore, 1) := by decide +kernel
theorem dX11_holderOn_31 : decode cX11_holderOn 31 = .ok (.aload_n 0, 1) := by decide +kernel
theorem dX11_holderOn_32 : decode cX11_holderOn 32 = .ok (.getfield 165, 3) := by decide +kernel
theorem dX11_holderOn_35 : decode cX11_holderOn 35 = .ok (.iload_n 3, 1) := by decide +kernel
theorem dX11_holderOn_36 : decode cX11_holderOn 36 = .ok (.aload_n 0, 1) := by decide +kernel
theorem dX11_holderOn_37 : decode cX11_holderOn 37 = .ok (.getfield 7, 3) := by decide +kernel
theorem dX11_holderOn_40 : decode cX11_holderOn 40 = .ok (.iload_n 2, 1) := by decide +kernel
theorem dX11_holderOn_41 : decode cX11_holderOn 41 = .ok (.iconst 2, 1) := by decide +kernel
theorem dX11_holderOn_42 : decode cX11_holderOn 42 = .ok (.iadd, 1) := by decide +kernel
theorem dX11_holderOn_43 : decode cX11_holderOn 43 = .ok (.iaload, 1) := by decide +kernel
theorem dX11_holderOn_44 : decode cX11_holderOn 44 = .ok (.bipush 16, 2) := by decide +kernel
theorem dX11_holderOn_46 : decode cX11_holderOn 46 = .ok (.ishl, 1) := by decide +kernel
theorem dX11_holderOn_47 : decode cX11_holderOn 47 = .ok (.aload_n 0, 1) := by decide +kernel
theorem dX11_holderOn_48 : decode cX11_holderOn 48 = .ok (.getfield 7, 3) := by decide +kernel
theorem dX11_holderOn_51 : decode cX11_holderOn 51 = .ok (.iload_n 2, 1) := by decide +kernel
theorem dX11_holderOn_52 : decode cX11_holderOn 52 = .ok (.iconst 3, 1) := by decide +kernel
theorem dX11_holderOn_53 : decode cX11_holderOn 53 = .ok (.iadd, 1) := by decide +kernel
theorem dX11_holderOn_54 : decode cX11_holderOn 54 = .ok (.iaload, 1) := by decide +kernel
theorem dX11_holderOn_55 : decode cX11_holderOn 55 = .ok (.bipush 8, 2) := by decide +kernel
theorem dX11_holderOn_57 : decode cX11_holderOn 57 = .ok (.ishl, 1) := by decide +kernel
theorem dX11_holderOn_58 : decode cX11_holderOn 58 = .ok (.ior, 1) := by decide +kernel
theorem dX11_holderOn_59 : decode cX11_holderOn 59 = .ok (.aload_n 0, 1) := by decide +kernel
theorem dX11_holderOn_60 : decode cX11_holderOn 60 = .ok (.getfield 7, 3) := by decide +kernel
theorem dX11_holderOn_63 : decode cX11_holderOn 63 = .ok (.iload_n 2, 1) := by decide +kernel
theorem dX11_holderOn_64 : decode cX11_holderOn 64 = .ok (.iconst 4, 1) := by decide +kernel
theorem dX11_holderOn_65 : decode cX11_holderOn 65 = .ok (.iadd, 1) := by decide +kernel
theorem dX11_holderOn_66 : decode cX11_holderOn 66 = .ok (.iaload, 1) := by decide +kernel
theorem dX11_holderOn_67 : decode cX11_holderOn 67 = .ok (.ior, 1) := by decide +kernel
theorem dX11_holderOn_68 : decode cX11_holderOn 68 = .ok (.ldc_w 582, 3) := by decide +kernel
theorem dX11_holderOn_71 : decode cX11_holderOn 71 = .ok (.isub, 1) := by decide +kernel
theorem dX11_holderOn_72 : decode cX11_holderOn 72 = .ok (.iastore, 1) := by decide +kernel
theorem dX11_holderOn_73 : decode cX11_holderOn 73 = .ok (.aload_n 0, 1) := by decide +kernel
theorem dX11_holderOn_74 : decode cX11_holderOn 74 = .ok (.getfield 7, 3) := by decide +kernel
theorem dX11_holderOn_77 : decode cX11_holderOn 77 = .ok (.iload_n 2, 1) := by decide +kernel
theorem dX11_holderOn_78 : decode cX11_holderOn 78 = .ok (.iaload, 1) := by decide +kernel
theorem dX11_holderOn_79 : decode cX11_holderOn 79 = .ok (.bipush 60, 2) := by decide +kernel
theorem dX11_holderOn_81 : decode cX11_holderOn 81 = .ok (.if_icmp .gt 34, 3) := by decide +kernel
theorem dX11_holderOn_84 : decode cX11_holderOn 84 = .ok (.aload_n 0, 1) := by decide +kernel
theorem dX11_holderOn_85 : decode cX11_holderOn 85 = .ok (.getfield 7, 3) := by decide +kernel
theorem dX11_holderOn_88 : decode cX11_holderOn 88 = .ok (.iload_n 2, 1) := by decide +kernel
theorem dX11_holderOn_89 : decode cX11_holderOn 89 = .ok (.iconst 1, 1) := by decide +kernel
theorem dX11_holderOn_90 : decode cX11_holderOn 90 = .ok (.iadd, 1) := by decide +kernel
theorem dX11_holderOn_91 : decode cX11_holderOn 91 = .ok (.iaload, 1) := by decide +kernel
theorem dX11_holderOn_92 : decode cX11_holderOn 92 = .ok (.bipush 60, 2) := by decide +kernel
theorem dX11_holderOn_94 : decode cX11_holderOn 94 = .ok (.if_icmp .gt 21, 3) := by decide +kernel
theorem dX11_holderOn_97 : decode cX11_holderOn 97 = .ok (.aload_n 0, 1) := by decide +kernel
theorem dX11_holderOn_98 : decode cX11_holderOn 98 = .ok (.getfield 165, 3) := by decide +kernel
theorem dX11_holderOn_101 : decode cX11_holderOn 101 = .ok (.iload_n 3, 1) := by decide +kernel
theorem dX11_holderOn_102 : decode cX11_holderOn 102 = .ok (.iaload, 1) := by decide +kernel
theorem dX11_holderOn_103 : decode cX11_holderOn 103 = .ok (.ldc_w 568, 3) := by decide +kernel
theorem dX11_holderOn_106 : decode cX11_holderOn 106 = .ok (.ldc_w 569, 3) := by decide +kernel
theorem dX11_holderOn_109 : decode cX11_holderOn 109 = .ok (.invokestatic 338, 3) := by decide +kernel
theorem dX11_holderOn_112 : decode cX11_holderOn 112 = .ok (.ifCond .ne 5, 3) := by decide +kernel
theorem dX11_holderOn_115 : decode cX11_holderOn 115 = .ok (.iconst 0, 1) := by decide +kernel
theorem dX11_holderOn_116 : decode cX11_holderOn 116 = .ok (.ireturn, 1) := by decide +kernel
theorem dX11_holderOn_117 : decode cX11_holderOn 117 = .ok (.iconst 0, 1) := by decide +kernel
theorem dX11_holderOn_118 : decode cX11_holderOn 118 = .ok (.istore 4, 2) := by decide +kernel
theorem dX11_holderOn_120 : decode cX11_holderOn 120 = .ok (.iload 4, 2) := by decide +kernel
theorem dX11_holderOn_122 : decode cX11_holderOn 122 = .ok (.aload_n 0, 1) := by decide +kernel
theorem dX11_holderOn_123 : decode cX11_holderOn 123 = .ok (.getfield 54, 3) := by decide +kernel
theorem dX11_holderOn_126 : decode cX11_holderOn 126 = .ok (.aload_n 0, 1) := by decide +kernel
theorem dX11_holderOn_127 : decode cX11_holderOn 127 = .ok (.getfield 51, 3) := by decide +kernel
theorem dX11_holderOn_130 : decode cX11_holderOn 130 = .ok (.iaload, 1) := by decide +kernel
theorem dX11_holderOn_131 : decode cX11_holderOn 131 = .ok (.if_icmp .ge 53, 3) := by decide +kernel
theorem dX11_holderOn_134 : decode cX11_holderOn 134 = .ok (.aload_n 0, 1) := by decide +kernel
theorem dX11_holderOn_135 : decode cX11_holderOn 135 = .ok (.getfield 168, 3) := by decide +kernel
theorem dX11_holderOn_138 : decode cX11_holderOn 138 = .ok (.bipush 36, 2) := by decide +kernel
theorem dX11_holderOn_140 : decode cX11_holderOn 140 = .ok (.bipush 6, 2) := by decide +kernel
theorem dX11_holderOn_142 : decode cX11_holderOn 142 = .ok (.iload_n 1, 1) := by decide +kernel
theorem dX11_holderOn_143 : decode cX11_holderOn 143 = .ok (.imul, 1) := by decide +kernel
theorem dX11_holderOn_144 : decode cX11_holderOn 144 = .ok (.iadd, 1) := by decide +kernel
theorem dX11_holderOn_145 : decode cX11_holderOn 145 = .ok (.iload 4, 2) := by decide +kernel
theorem dX11_holderOn_147 : decode cX11_holderOn 147 = .ok (.iadd, 1) := by decide +kernel
theorem dX11_holderOn_148 : decode cX11_holderOn 148 = .ok (.aload_n 0, 1) := by decide +kernel
theorem dX11_holderOn_149 : decode cX11_holderOn 149 = .ok (.getfield 7, 3) := by decide +kernel
theorem dX11_holderOn_152 : decode cX11_holderOn 152 = .ok (.iload_n 2, 1) := by decide +kernel
theorem dX11_holderOn_153 : decode cX11_holderOn 153 = .ok (.iconst 5, 1) := by decide +kernel
theorem dX11_holderOn_154 : decode cX11_holderOn 154 = .ok (.iadd, 1) := by decide +kernel
theorem dX11_holderOn_155 : decode cX11_holderOn 155 = .ok (.iload 4, 2) := by decide +kernel
theorem dX11_holderOn_157 : decode cX11_holderOn 157 = .ok (.iadd, 1) := by decide +kernel
theorem dX11_holderOn_158 : decode cX11_holderOn 158 = .ok (.iaload, 1) := by decide +kernel
theorem dX11_holderOn_159 : decode cX11_holderOn 159 = .ok (.iastore, 1) := by decide +kernel
theorem dX11_holderOn_160 : decode cX11_holderOn 160 = .ok (.aload_n 0, 1) := by decide +kernel
theorem dX11_holderOn_161 : decode cX11_holderOn 161 = .ok (.getfield 7, 3) := by decide +kernel
theorem dX11_holderOn_164 : decode cX11_holderOn 164 = .ok (.iload_n 2, 1) := by decide +kernel
theorem dX11_holderOn_165 : decode cX11_holderOn 165 = .ok (.iconst 5, 1) := by decide +kernel
theorem dX11_holderOn_166 : decode cX11_holderOn 166 = .ok (.iadd, 1) := by decide +kernel
theorem dX11_holderOn_167 : decode cX11_holderOn 167 = .ok (.iload 4, 2) := by decide +kernel
theorem dX11_holderOn_169 : decode cX11_holderOn 169 = .ok (.iadd, 1) := by decide +kernel
theorem dX11_holderOn_170 : decode cX11_holderOn 170 = .ok (.iaload, 1) := by decide +kernel
theorem dX11_holderOn_171 : decode cX11_holderOn 171 = .ok (.bipush 60, 2) := by decide +kernel
theorem dX11_holderOn_173 : decode cX11_holderOn 173 = .ok (.if_icmp .le 5, 3) := by decide +kernel
theorem dX11_holderOn_176 : decode cX11_holderOn 176 = .ok (.iconst 0, 1) := by decide +kernel
theorem dX11_holderOn_177 : decode cX11_holderOn 177 = .ok (.ireturn, 1) := by decide +kernel
theorem dX11_holderOn_178 : decode cX11_holderOn 178 = .ok (.iinc 4 1, 3) := by decide +kernel
theorem dX11_holderOn_181 : decode cX11_holderOn 181 = .ok (.goto (-61), 3) := by decide +kernel
theorem dX11_holderOn_184 : decode cX11_holderOn 184 = .ok (.iconst 1, 1) := by decide +kernel
theorem dX11_holderOn_185 : decode cX11_holderOn 185 = .ok (.ireturn, 1) := by decide +kernel
def fX11_holderOn_120 : Nat → Int32 → Int32 → Int32 → zS → Option (Int32 × zS)
  | 0, _, _, _, _ => none
  | f + 1, x1, x2, x4, σ => aI σ 58 2 (iG σ 56 13) fun v12 => if v12 ≤ x4 then some (1, σ) else aI σ 57 1800 ((x2 + 5) + x4) fun v13 => wI σ 89 792 ((36 + (6 * x1)) + x4) v13 fun σ14 => aI σ14 57 1800 ((x2 + 5) + x4) fun v15 => if v15 ≤ 60 then fX11_holderOn_120 f x1 x2 (x4 + 1) σ14 else some (0, σ14)
theorem kX11_holderOn_120 {sc : Nat × (Nat → Int32)} : ∀ (fuel : Nat) (x1 : Int32) (x2 : Int32) (x4 : Int32) (σ : zS) (w : Int32 × zS) (h : fX11_holderOn_120 fuel x1 x2 x4 σ = some w), zR (zY0 sc) 2 0 0 mX11_holderOn 120 [(0, .ref 56), (1, .int x1), (2, .int x2), (4, .int x4)] [] (zE σ) (some (.int w.1), zE w.2) := by
  intro fuel
  induction fuel with
  | zero => intro x1 x2 x4 σ w h; exact nomatch h
  | succ f ih =>
    intro x1 x2 x4 σ w h
    rw [fX11_holderOn_120] at h
    refine kR.iload dX11_holderOn_120 3 rfl ?_
    refine kR.aload_n dX11_holderOn_122 0 rfl ?_
    refine kR.getR (v := 58) dX11_holderOn_123 flX11_54 zcf11 zp56 (Or.inr ⟨_, rfl⟩) rfl ?_
    refine kR.aload_n dX11_holderOn_126 0 rfl ?_
    refine kR.getI dX11_holderOn_127 flX11_51 zcf11 zp56 (Or.inl rfl) ?_
    refine kR.iald dX11_holderOn_130 zp58 rfl h (fun v12 h => ?_)
    refine kR.icmp_ge (tgt := 184) dX11_holderOn_131 (by decide) h (fun h => ?_) (fun h => ?_)
    · refine zR.iconst (v := 1) dX11_holderOn_184 (by decide) ?_
      exact kR.iretW dX11_holderOn_185 (nzZ rfl (Or.inr rfl)) h
    · refine kR.aload_n dX11_holderOn_134 0 rfl ?_
      refine kR.getR (v := 89) dX11_holderOn_135 flX11_168 zcf11 zp56 (Or.inr ⟨_, rfl⟩) rfl ?_
      refine zR.bipush (v := 36) dX11_holderOn_138 (by decide) ?_
      refine zR.bipush (v := 6) dX11_holderOn_140 (by decide) ?_
      refine kR.iload_n dX11_holderOn_142 1 rfl ?_
      refine zR.imul dX11_holderOn_143 ?_
      refine zR.iadd dX11_holderOn_144 ?_
      refine kR.iload dX11_holderOn_145 3 rfl ?_
      refine zR.iadd dX11_holderOn_147 ?_
      refine kR.aload_n dX11_holderOn_148 0 rfl ?_
      refine kR.getR (v := 57) dX11_holderOn_149 flX11_7 zcf11 zp56 (Or.inr ⟨_, rfl⟩) rfl ?_
      refine kR.iload_n dX11_holderOn_152 2 rfl ?_
      refine zR.iconst (v := 5) dX11_holderOn_153 (by decide) ?_
      refine zR.iadd dX11_holderOn_154 ?_
      refine kR.iload dX11_holderOn_155 3 rfl ?_
      refine zR.iadd dX11_holderOn_157 ?_
      refine kR.iald dX11_holderOn_158 zp57 rfl h (fun v13 h => ?_)
      refine kR.iast dX11_holderOn_159 zp89 rfl h (fun σ14 h => ?_)
      refine kR.aload_n dX11_holderOn_160 0 rfl ?_
      refine kR.getR (v := 57) dX11_holderOn_161 flX11_7 zcf11 zp56 (Or.inr ⟨_, rfl⟩) rfl ?_
      refine kR.iload_n dX11_holderOn_164 2 rfl ?_
      refine zR.iconst (v := 5) dX11_holderOn_165 (by decide) ?_
      refine zR.iadd dX11_holderOn_166 ?_
      refine kR.iload dX11_holderOn_167 3 rfl ?_
      refine zR.iadd dX11_holderOn_169 ?_
      refine kR.iald dX11_holderOn_170 zp57 rfl h (fun v15 h => ?_)
      refine zR.bipush (v := 60) dX11_holderOn_171 (by decide) ?_
      refine kR.icmp_le (tgt := 178) dX11_holderOn_173 (by decide) h (fun h => ?_) (fun h => ?_)
      · refine zR.iinc 3 (v := x4 + 1) (ls' := [(4, .int (x4 + 1)), (0, .ref 56), (1, .int x1), (2, .int x2)]) dX11_holderOn_178 rfl rfl (by decide) rfl ?_
        refine zR.goto (tgt := 120) dX11_holderOn_181 (by decide) ?_
        refine zR.sub [1, 2, 3, 0] rfl ?_
        exact ih _ _ _ _ _ h
      · refine zR.iconst (v := 0) dX11_holderOn_176 (by decide) ?_
        exact kR.iretW dX11_holderOn_177 (nzZ rfl (Or.inl rfl)) h
def fX11_holderOn (p1 : Int32) (p2 : Int32) (σ : zS) : Option (Int32 × zS) := aI σ 57 1800 p2 fun v1 => wI σ 86 132 (6 + p1) v1 fun σ2 => aI σ2 57 1800 (p2 + 1) fun v3 => wI σ2 87 132 (6 + p1) v3 fun σ4 => aI σ4 57 1800 (p2 + 2) fun v5 => aI σ4 57 1800 (p2 + 3) fun v6 => aI σ4 57 1800 (p2 + 4) fun v7 => wI σ4 88 132 (6 + p1) ((((v5 <<< (16 &&& 31)) ||| (v6 <<< (8 &&& 31))) ||| v7) - 100000) fun σ8 => aI σ8 57 1800 p2 fun v9 => if 60 < v9 then some (0, σ8) else aI σ8 57 1800 (p2 + 1) fun v10 => if 60 < v10 then some (0, σ8) else aI σ8 88 132 (6 + p1) fun v11 => if (fX11_is v11 ((-99999)) 99999) = 0 then some (0, σ8) else fX11_holderOn_120 zF p1 p2 0 σ8
theorem eX11_holderOn {sc : Nat × (Nat → Int32)} (p1 : Int32) (p2 : Int32) (σ : zS) (w : Int32 × zS) (h : fX11_holderOn p1 p2 σ = some w) : zR (zY0 sc) 2 0 0 mX11_holderOn 0 [(0, .ref 56), (1, .int p1), (2, .int p2)] [] (zE σ) (some (.int w.1), zE w.2) := by
  unfold fX11_holderOn at h
  refine zR.bipush (v := 6) dX11_holderOn_0 (by decide) ?_
  refine kR.iload_n dX11_holderOn_2 1 rfl ?_
  refine zR.iadd dX11_holderOn_3 ?_
  refine zR.istore_n (i := 3) (ls' := [(3, .int (6 + p1)), (0, .ref 56), (1, .int p1), (2, .int p2)]) dX11_holderOn_4 rfl (by decide) rfl ?_
  refine kR.aload_n dX11_holderOn_5 1 rfl ?_
  refine kR.getR (v := 86) dX11_holderOn_6 flX11_159 zcf11 zp56 (Or.inr ⟨_, rfl⟩) rfl ?_
  refine kR.iload_n dX11_holderOn_9 0 rfl ?_
  refine kR.aload_n dX11_holderOn_10 1 rfl ?_
  refine kR.getR (v := 57) dX11_holderOn_11 flX11_7 zcf11 zp56 (Or.inr ⟨_, rfl⟩) rfl ?_
  refine kR.iload_n dX11_holderOn_14 3 rfl ?_
  refine kR.iald dX11_holderOn_15 zp57 rfl h (fun v1 h => ?_)
  refine kR.iast dX11_holderOn_16 zp86 rfl h (fun σ2 h => ?_)
  refine kR.aload_n dX11_holderOn_17 1 rfl ?_
  refine kR.getR (v := 87) dX11_holderOn_18 flX11_162 zcf11 zp56 (Or.inr ⟨_, rfl⟩) rfl ?_
  refine kR.iload_n dX11_holderOn_21 0 rfl ?_
  refine kR.aload_n dX11_holderOn_22 1 rfl ?_
  refine kR.getR (v := 57) dX11_holderOn_23 flX11_7 zcf11 zp56 (Or.inr ⟨_, rfl⟩) rfl ?_
  refine kR.iload_n dX11_holderOn_26 3 rfl ?_
  refine zR.iconst (v := 1) dX11_holderOn_27 (by decide) ?_
  refine zR.iadd dX11_holderOn_28 ?_
  refine kR.iald dX11_holderOn_29 zp57 rfl h (fun v3 h => ?_)
  refine kR.iast dX11_holderOn_30 zp87 rfl h (fun σ4 h => ?_)
  refine kR.aload_n dX11_holderOn_31 1 rfl ?_
  refine kR.getR (v := 88) dX11_holderOn_32 flX11_165 zcf11 zp56 (Or.inr ⟨_, rfl⟩) rfl ?_
  refine kR.iload_n dX11_holderOn_35 0 rfl ?_
  refine kR.aload_n dX11_holderOn_36 1 rfl ?_
  refine kR.getR (v := 57) dX11_holderOn_37 flX11_7 zcf11 zp56 (Or.inr ⟨_, rfl⟩) rfl ?_
  refine kR.iload_n dX11_holderOn_40 3 rfl ?_
  refine zR.iconst (v := 2) dX11_holderOn_41 (by decide) ?_
  refine zR.iadd dX11_holderOn_42 ?_
  refine kR.iald dX11_holderOn_43 zp57 rfl h (fun v5 h => ?_)
  refine zR.bipush (v := 16) dX11_holderOn_44 (by decide) ?_
  refine zR.ishl dX11_holderOn_46 ?_
  refine kR.aload_n dX11_holderOn_47 1 rfl ?_
  refine kR.getR (v := 57) dX11_holderOn_48 flX11_7 zcf11 zp56 (Or.inr ⟨_, rfl⟩) rfl ?_
  refine kR.iload_n dX11_holderOn_51 3 rfl ?_
  refine zR.iconst (v := 3) dX11_holderOn_52 (by decide) ?_
  refine zR.iadd dX11_holderOn_53 ?_
  refine kR.iald dX11_holderOn_54 zp57 rfl h (fun v6 h => ?_)
  refine zR.bipush (v := 8) dX11_holderOn_55 (by decide) ?_
  refine zR.ishl dX11_holderOn_57 ?_
  refine zR.ior dX11_holderOn_58 ?_
  refine kR.aload_n dX11_holderOn_59 1 rfl ?_
  refine kR.getR (v := 57) dX11_holderOn_60 flX11_7 zcf11 zp56 (Or.inr ⟨_, rfl⟩) rfl ?_
  refine kR.iload_n dX11_holderOn_63 3 rfl ?_
  refine zR.iconst (v := 4) dX11_holderOn_64 (by decide) ?_
  refine zR.iadd dX11_holderOn_65 ?_
  refine kR.iald dX11_holderOn_66 zp57 rfl h (fun v7 h => ?_)
  refine zR.ior dX11_holderOn_67 ?_
  refine zR.ldcw (v := 100000) dX11_holderOn_68 ciX11_582 ?_
  refine zR.isub dX11_holderOn_71 ?_
  refine kR.iast dX11_holderOn_72 zp88 rfl h (fun σ8 h => ?_)
  refine kR.aload_n dX11_holderOn_73 1 rfl ?_
  refine kR.getR (v := 57) dX11_holderOn_74 flX11_7 zcf11 zp56 (Or.inr ⟨_, rfl⟩) rfl ?_
  refine kR.iload_n dX11_holderOn_77 3 rfl ?_
  refine kR.iald dX11_holderOn_78 zp57 rfl h (fun v9 h => ?_)
  refine zR.bipush (v := 60) dX11_holderOn_79 (by decide) ?_
  refine kR.icmp_gt (tgt := 115) dX11_holderOn_81 (by decide) h (fun h => ?_) (fun h => ?_)
  · refine zR.iconst (v := 0) dX11_holderOn_115 (by decide) ?_
    exact kR.iretW dX11_holderOn_116 (nzZ rfl (Or.inl rfl)) h
  · refine kR.aload_n dX11_holderOn_84 1 rfl ?_
    refine kR.getR (v := 57) dX11_holderOn_85 flX11_7 zcf11 zp56 (Or.inr ⟨_, rfl⟩) rfl ?_
    refine kR.iload_n dX11_holderOn_88 3 rfl ?_
    refine zR.iconst (v := 1) dX11_holderOn_89 (by decide) ?_
    refine zR.iadd dX11_holderOn_90 ?_
    refine kR.iald dX11_holderOn_91 zp57 rfl h (fun v10 h => ?_)
    refine zR.bipush (v := 60) dX11_holderOn_92 (by decide) ?_
    refine kR.icmp_gt (tgt := 115) dX11_holderOn_94 (by decide) h (fun h => ?_) (fun h => ?_)
    · refine zR.iconst (v := 0) dX11_holderOn_115 (by decide) ?_
      exact kR.iretW dX11_holderOn_116 (nzZ rfl (Or.inl rfl)) h
    · refine kR.aload_n dX11_holderOn_97 1 rfl ?_
      refine kR.getR (v := 88) dX11_holderOn_98 flX11_165 zcf11 zp56 (Or.inr ⟨_, rfl⟩) rfl ?_
      refine kR.iload_n dX11_holderOn_101 0 rfl ?_
      refine kR.iald dX11_holderOn_102 zp88 rfl h (fun v11 h => ?_)
      refine zR.ldcw (v := (-99999)) dX11_holderOn_103 ciX11_568 ?_
      refine zR.ldcw (v := 99999) dX11_holderOn_106 ciX11_569 ?_
      refine kR.cSi [.int v11, .int ((-99999)), .int 99999] dX11_holderOn_109 rfl (by decide) (Or.inl mwX11_338) rfl (Nat.le_of_ble_eq_true rfl) (lX11_is v11 ((-99999)) 99999) ?_
      refine kR.if_ne (tgt := 117) dX11_holderOn_112 (by decide) h (fun h => ?_) (fun h => ?_)
      · refine zR.iconst (v := 0) dX11_holderOn_117 (by decide) ?_
        refine zR.istore (i := 4) (ls' := [(4, .int 0), (3, .int (6 + p1)), (0, .ref 56), (1, .int p1), (2, .int p2)]) dX11_holderOn_118 (by decide) rfl ?_
        refine zR.sub [2, 3, 4, 0] rfl ?_
        exact kX11_holderOn_120 zF _ _ _ _ _ h
      · refine zR.iconst (v := 0) dX11_holderOn_115 (by decide) ?_
        exact kR.iretW dX11_holderOn_116 (nzZ rfl (Or.inl rfl)) h
theorem lX11_holderOn {sc : Nat × (Nat → Int32)} (p1 : Int32) (p2 : Int32) (σ : zS) (w : Int32 × zS) (h : fX11_holderOn p1 p2 σ = some w) : zC (zY0 sc) 2 0 0 mX11_holderOn [.ref 56, .int p1, .int p2] (zE σ) (some (.int w.1), zE w.2) := zC.of (by decide +kernel) (Nat.le_of_ble_eq_true rfl) ⟨_, rfl⟩ (eX11_holderOn p1 p2 σ w h)
theorem dX11_comesOn_0 : decode cX11_comesOn 0 = .ok (.iconst 5, 1) := by decide +kernel
theorem dX11_comesOn_1 : decode cX11_comesOn 1 = .ok (.aload_n 0, 1) := by decide +kernel
theorem dX11_comesOn_2 : decode cX11_comesOn 2 = .ok (.getfield 54, 3) := by decide +kernel
theorem dX11_comesOn_5 : decode cX11_comesOn 5 = .ok (.aload_n 0, 1) := by decide +kernel
theorem dX11_comesOn_6 : decode cX11_comesOn 6 = .ok (.getfield 51, 3) := by decide +kernel
theorem dX11_comesOn_9 : decode cX11_comesOn 9 = .ok (.iaload, 1) := by decide +kernel
theorem dX11_comesOn_10 : decode cX11_comesOn 10 = .ok (.iadd, 1) := by decide +kernel
theorem dX11_comesOn_11 : decode cX11_comesOn 11 = .ok (.istore_n 2, 1) := by decide +kernel
theorem dX11_comesOn_12 : decode cX11_comesOn 12 = .ok (.iload_n 1, 1) := by decide +kernel
theorem dX11_comesOn_13 : decode cX11_comesOn 13 = .ok (.iconst 2, 1) := by decide +kernel
theorem dX11_comesOn_14 : decode cX11_comesOn 14 = .ok (.iload_n 2, 1) := by decide +kernel
theorem dX11_comesOn_15 : decode cX11_comesOn 15 = .ok (.aload_n 0, 1) := by decide +kernel
theorem dX11_comesOn_16 : decode cX11_comesOn 16 = .ok (.getfield 69, 3) := by decide +kernel
theorem dX11_comesOn_19 : decode cX11_comesOn 19 = .ok (.aload_n 0, 1) := by decide +kernel
theorem dX11_comesOn_20 : decode cX11_comesOn 20 = .ok (.getfield 51, 3) := by decide +kernel
theorem dX11_comesOn_23 : decode cX11_comesOn 23 = .ok (.iaload, 1) := by decide +kernel
theorem dX11_comesOn_24 : decode cX11_comesOn 24 = .ok (.imul, 1) := by decide +kernel
theorem dX11_comesOn_25 : decode cX11_comesOn 25 = .ok (.iadd, 1) := by decide +kernel
theorem dX11_comesOn_26 : decode cX11_comesOn 26 = .ok (.if_icmp .ne 37, 3) := by decide +kernel
theorem dX11_comesOn_29 : decode cX11_comesOn 29 = .ok (.aload_n 0, 1) := by decide +kernel
theorem dX11_comesOn_30 : decode cX11_comesOn 30 = .ok (.aload_n 0, 1) := by decide +kernel
theorem dX11_comesOn_31 : decode cX11_comesOn 31 = .ok (.getfield 7, 3) := by decide +kernel
theorem dX11_comesOn_34 : decode cX11_comesOn 34 = .ok (.iconst 0, 1) := by decide +kernel
theorem dX11_comesOn_35 : decode cX11_comesOn 35 = .ok (.iaload, 1) := by decide +kernel
theorem dX11_comesOn_36 : decode cX11_comesOn 36 = .ok (.invokevirtual 497, 3) := by decide +kernel
theorem dX11_comesOn_39 : decode cX11_comesOn 39 = .ok (.ifCond .ne 26, 3) := by decide +kernel
theorem dX11_comesOn_42 : decode cX11_comesOn 42 = .ok (.aload_n 0, 1) := by decide +kernel
theorem dX11_comesOn_43 : decode cX11_comesOn 43 = .ok (.getfield 54, 3) := by decide +kernel
theorem dX11_comesOn_46 : decode cX11_comesOn 46 = .ok (.aload_n 0, 1) := by decide +kernel
theorem dX11_comesOn_47 : decode cX11_comesOn 47 = .ok (.getfield 51, 3) := by decide +kernel
theorem dX11_comesOn_50 : decode cX11_comesOn 50 = .ok (.iaload, 1) := by decide +kernel
theorem dX11_comesOn_51 : decode cX11_comesOn 51 = .ok (.ifCond .gt 12, 3) := by decide +kernel
theorem dX11_comesOn_54 : decode cX11_comesOn 54 = .ok (.aload_n 0, 1) := by decide +kernel
theorem dX11_comesOn_55 : decode cX11_comesOn 55 = .ok (.getfield 7, 3) := by decide +kernel
theorem dX11_comesOn_58 : decode cX11_comesOn 58 = .ok (.iconst 0, 1) := by decide +kernel
theorem dX11_comesOn_59 : decode cX11_comesOn 59 = .ok (.iaload, 1) := by decide +kernel
theorem dX11_comesOn_60 : decode cX11_comesOn 60 = .ok (.ifCond .le 5, 3) := by decide +kernel
theorem dX11_comesOn_63 : decode cX11_comesOn 63 = .ok (.iconst 0, 1) := by decide +kernel
theorem dX11_comesOn_64 : decode cX11_comesOn 64 = .ok (.ireturn, 1) := by decide +kernel
theorem dX11_comesOn_65 : decode cX11_comesOn 65 = .ok (.bipush 107, 2) := by decide +kernel
theorem dX11_comesOn_67 : decode cX11_comesOn 67 = .ok (.istore_n 3, 1) := by decide +kernel
theorem dX11_comesOn_68 : decode cX11_comesOn 68 = .ok (.iconst 0, 1) := by decide +kernel
theorem dX11_comesOn_69 : decode cX11_comesOn 69 = .ok (.istore 4, 2) := by decide +kernel
theorem dX11_comesOn_71 : decode cX11_comesOn 71 = .ok (.iload 4, 2) := by decide +kernel
theorem dX11_comesOn_73 : decode cX11_comesOn 73 = .ok (.iload_n 1, 1) := by decide +kernel
theorem dX11_comesOn_74 : decode cX11_comesOn 74 = .ok (.iconst 1, 1) := by decide +kernel
theorem dX11_comesOn_75 : decode cX11_comesOn 75 = .ok (.isub, 1) := by decide +kernel
theorem dX11_comesOn_76 : decode cX11_comesOn 76 = .ok (.if_icmp .ge 25, 3) := by decide +kernel
theorem dX11_comesOn_79 : decode cX11_comesOn 79 = .ok (.iconst 5, 1) := by decide +kernel
theorem dX11_comesOn_80 : decode cX11_comesOn 80 = .ok (.iload_n 3, 1) := by decide +kernel
theorem dX11_comesOn_81 : decode cX11_comesOn 81 = .ok (.imul, 1) := by decide +kernel
theorem dX11_comesOn_82 : decode cX11_comesOn 82 = .ok (.aload_n 0, 1) := by decide +kernel
theorem dX11_comesOn_83 : decode cX11_comesOn 83 = .ok (.getfield 7, 3) := by decide +kernel
theorem dX11_comesOn_86 : decode cX11_comesOn 86 = .ok (.iload 4, 2) := by decide +kernel
theorem dX11_comesOn_88 : decode cX11_comesOn 88 = .ok (.iaload, 1) := by decide +kernel
theorem dX11_comesOn_89 : decode cX11_comesOn 89 = .ok (.iadd, 1) := by decide +kernel
theorem dX11_comesOn_90 : decode cX11_comesOn 90 = .ok (.sipush 251, 3) := by decide +kernel
theorem dX11_comesOn_93 : decode cX11_comesOn 93 = .ok (.irem, 1) := by decide +kernel
theorem dX11_comesOn_94 : decode cX11_comesOn 94 = .ok (.istore_n 3, 1) := by decide +kernel
theorem dX11_comesOn_95 : decode cX11_comesOn 95 = .ok (.iinc 4 1, 3) := by decide +kernel
theorem dX11_comesOn_98 : decode cX11_comesOn 98 = .ok (.goto (-27), 3) := by decide +kernel
theorem dX11_comesOn_101 : decode cX11_comesOn 101 = .ok (.aload_n 0, 1) := by decide +kernel
theorem dX11_comesOn_102 : decode cX11_comesOn 102 = .ok (.getfield 7, 3) := by decide +kernel
theorem dX11_comesOn_105 : decode cX11_comesOn 105 = .ok (.iload_n 1, 1) := by decide +kernel
theorem dX11_comesOn_106 : decode cX11_comesOn 106 = .ok (.iconst 1, 1) := by decide +kernel
theorem dX11_comesOn_107 : decode cX11_comesOn 107 = .ok (.isub, 1) := by decide +kernel
theorem dX11_comesOn_108 : decode cX11_comesOn 108 = .ok (.iaload, 1) := by decide +kernel
theorem dX11_comesOn_109 : decode cX11_comesOn 109 = .ok (.iload_n 3, 1) := by decide +kernel
theorem dX11_comesOn_110 : decode cX11_comesOn 110 = .ok (.if_icmp .eq 5, 3) := by decide +kernel
theorem dX11_comesOn_113 : decode cX11_comesOn 113 = .ok (.iconst 0, 1) := by decide +kernel
theorem dX11_comesOn_114 : decode cX11_comesOn 114 = .ok (.ireturn, 1) := by decide +kernel
theorem dX11_comesOn_115 : decode cX11_comesOn 115 = .ok (.aload_n 0, 1) := by decide +kernel
theorem dX11_comesOn_116 : decode cX11_comesOn 116 = .ok (.iconst 1, 1) := by decide +kernel
theorem dX11_comesOn_117 : decode cX11_comesOn 117 = .ok (.iconst 0, 1) := by decide +kernel
theorem dX11_comesOn_118 : decode cX11_comesOn 118 = .ok (.invokevirtual 446, 3) := by decide +kernel
theorem dX11_comesOn_121 : decode cX11_comesOn 121 = .ok (.aload_n 0, 1) := by decide +kernel
theorem dX11_comesOn_122 : decode cX11_comesOn 122 = .ok (.getfield 156, 3) := by decide +kernel
theorem dX11_comesOn_125 : decode cX11_comesOn 125 = .ok (.iconst 1, 1) := by decide +kernel
theorem dX11_comesOn_126 : decode cX11_comesOn 126 = .ok (.aload_n 0, 1) := by decide +kernel
theorem dX11_comesOn_127 : decode cX11_comesOn 127 = .ok (.getfield 7, 3) := by decide +kernel
theorem dX11_comesOn_130 : decode cX11_comesOn 130 = .ok (.iconst 0, 1) := by decide +kernel
theorem dX11_comesOn_131 : decode cX11_comesOn 131 = .ok (.iaload, 1) := by decide +kernel
theorem dX11_comesOn_132 : decode cX11_comesOn 132 = .ok (.iastore, 1) := by decide +kernel
theorem dX11_comesOn_133 : decode cX11_comesOn 133 = .ok (.aload_n 0, 1) := by decide +kernel
theorem dX11_comesOn_134 : decode cX11_comesOn 134 = .ok (.getfield 171, 3) := by decide +kernel
theorem dX11_comesOn_137 : decode cX11_comesOn 137 = .ok (.iconst 1, 1) := by decide +kernel
theorem dX11_comesOn_138 : decode cX11_comesOn 138 = .ok (.iconst 0, 1) := by decide +kernel
theorem dX11_comesOn_139 : decode cX11_comesOn 139 = .ok (.iastore, 1) := by decide +kernel
theorem dX11_comesOn_140 : decode cX11_comesOn 140 = .ok (.iconst 0, 1) := by decide +kernel
theorem dX11_comesOn_141 : decode cX11_comesOn 141 = .ok (.istore 4, 2) := by decide +kernel
theorem dX11_comesOn_143 : decode cX11_comesOn 143 = .ok (.iload 4, 2) := by decide +kernel
theorem dX11_comesOn_145 : decode cX11_comesOn 145 = .ok (.aload_n 0, 1) := by decide +kernel
theorem dX11_comesOn_146 : decode cX11_comesOn 146 = .ok (.getfield 69, 3) := by decide +kernel
theorem dX11_comesOn_149 : decode cX11_comesOn 149 = .ok (.aload_n 0, 1) := by decide +kernel
theorem dX11_comesOn_150 : decode cX11_comesOn 150 = .ok (.getfield 51, 3) := by decide +kernel
theorem dX11_comesOn_153 : decode cX11_comesOn 153 = .ok (.iaload, 1) := by decide +kernel
theorem dX11_comesOn_154 : decode cX11_comesOn 154 = .ok (.if_icmp .ge 26, 3) := by decide +kernel
theorem dX11_comesOn_157 : decode cX11_comesOn 157 = .ok (.aload_n 0, 1) := by decide +kernel
theorem dX11_comesOn_158 : decode cX11_comesOn 158 = .ok (.iload 4, 2) := by decide +kernel
theorem dX11_comesOn_160 : decode cX11_comesOn 160 = .ok (.iconst 1, 1) := by decide +kernel
theorem dX11_comesOn_161 : decode cX11_comesOn 161 = .ok (.iload_n 2, 1) := by decide +kernel
theorem dX11_comesOn_162 : decode cX11_comesOn 162 = .ok (.iload 4, 2) := by decide +kernel
theorem dX11_comesOn_164 : decode cX11_comesOn 164 = .ok (.imul, 1) := by decide +kernel
theorem dX11_comesOn_165 : decode cX11_comesOn 165 = .ok (.iadd, 1) := by decide +kernel
theorem dX11_comesOn_166 : decode cX11_comesOn 166 = .ok (.invokevirtual 583, 3) := by decide +kernel
theorem dX11_comesOn_169 : decode cX11_comesOn 169 = .ok (.ifCond .ne 5, 3) := by decide +kernel
theorem dX11_comesOn_172 : decode cX11_comesOn 172 = .ok (.iconst 0, 1) := by decide +kernel
theorem dX11_comesOn_173 : decode cX11_comesOn 173 = .ok (.ireturn, 1) := by decide +kernel
theorem dX11_comesOn_174 : decode cX11_comesOn 174 = .ok (.iinc 4 1, 3) := by decide +kernel
theorem dX11_comesOn_177 : decode cX11_comesOn 177 = .ok (.goto (-34), 3) := by decide +kernel
theorem dX11_comesOn_180 : decode cX11_comesOn 180 = .ok (.iconst 1, 1) := by decide +kernel
theorem dX11_comesOn_181 : decode cX11_comesOn 181 = .ok (.ireturn, 1) := by decide +kernel
def fX11_comesOn_143 : Nat → Int32 → Int32 → zS → Option (Int32 × zS)
  | 0, _, _, _ => none
  | f + 1, x2, x4, σ => aI σ 63 2 (iG σ 56 13) fun v12 => if v12 ≤ x4 then some (1, σ) else bnc (fX11_holderOn x4 (1 + (x2 * x4)) σ) fun v15 σ13 => if v15 = 0 then some (0, σ13) else fX11_comesOn_143 f x2 (x4 + 1) σ13
theorem kX11_comesOn_143 {sc : Nat × (Nat → Int32)} : ∀ (fuel : Nat) (x2 : Int32) (x4 : Int32) (σ : zS) (w : Int32 × zS) (h : fX11_comesOn_143 fuel x2 x4 σ = some w), zR (zY0 sc) 3 0 0 mX11_comesOn 143 [(0, .ref 56), (2, .int x2), (4, .int x4)] [] (zE σ) (some (.int w.1), zE w.2) := by
  intro fuel
  induction fuel with
  | zero => intro x2 x4 σ w h; exact nomatch h
  | succ f ih =>
    intro x2 x4 σ w h
    rw [fX11_comesOn_143] at h
    refine kR.iload dX11_comesOn_143 2 rfl ?_
    refine kR.aload_n dX11_comesOn_145 0 rfl ?_
    refine kR.getR (v := 63) dX11_comesOn_146 flX11_69 zcf11 zp56 (Or.inr ⟨_, rfl⟩) rfl ?_
    refine kR.aload_n dX11_comesOn_149 0 rfl ?_
    refine kR.getI dX11_comesOn_150 flX11_51 zcf11 zp56 (Or.inl rfl) ?_
    refine kR.iald dX11_comesOn_153 zp63 rfl h (fun v12 h => ?_)
    refine kR.icmp_ge (tgt := 180) dX11_comesOn_154 (by decide) h (fun h => ?_) (fun h => ?_)
    · refine zR.iconst (v := 1) dX11_comesOn_180 (by decide) ?_
      exact kR.iretW dX11_comesOn_181 (nzZ rfl (Or.inr rfl)) h
    · refine kR.aload_n dX11_comesOn_157 0 rfl ?_
      refine kR.iload dX11_comesOn_158 2 rfl ?_
      refine zR.iconst (v := 1) dX11_comesOn_160 (by decide) ?_
      refine kR.iload_n dX11_comesOn_161 1 rfl ?_
      refine kR.iload dX11_comesOn_162 2 rfl ?_
      refine zR.imul dX11_comesOn_164 ?_
      refine zR.iadd dX11_comesOn_165 ?_
      obtain ⟨v15, σ13, e14, h⟩ := bnc_some h
      refine kR.cVi [.int x4, .int (1 + (x2 * x4))] dX11_comesOn_166 rfl (by decide) mwX11_583 zp56 (by decide) rfl rfl (Nat.le_of_ble_eq_true rfl) (lX11_holderOn x4 (1 + (x2 * x4)) σ _ e14) ?_
      refine kR.if_ne (tgt := 174) dX11_comesOn_169 (by decide) h (fun h => ?_) (fun h => ?_)
      · refine zR.iinc 2 (v := x4 + 1) (ls' := [(4, .int (x4 + 1)), (0, .ref 56), (2, .int x2)]) dX11_comesOn_174 rfl rfl (by decide) rfl ?_
        refine zR.goto (tgt := 143) dX11_comesOn_177 (by decide) ?_
        refine zR.sub [1, 2, 0] rfl ?_
        exact ih _ _ _ _ h
      · refine zR.iconst (v := 0) dX11_comesOn_172 (by decide) ?_
        exact kR.iretW dX11_comesOn_173 (nzZ rfl (Or.inl rfl)) h
def fX11_comesOn_71 : Nat → Int32 → Int32 → Int32 → Int32 → zS → Option (Int32 × zS)
  | 0, _, _, _, _, _ => none
  | f + 1, x1, x2, x3, x4, σ => if (x1 - 1) ≤ x4 then aI σ 57 1800 (x1 - 1) fun v6 => if v6 = x3 then bnr (fX11_copies 1 0 σ) fun σ7 => aI σ7 57 1800 0 fun v9 => wI σ7 85 22 1 v9 fun σ10 => wI σ10 90 22 1 0 fun σ11 => fX11_comesOn_143 zF x2 0 σ11 else some (0, σ) else aI σ 57 1800 x4 fun v16 => fX11_comesOn_71 f x1 x2 (((5 * x3) + v16) - ((5 * x3) + v16) / 251 * 251) (x4 + 1) σ
theorem kX11_comesOn_71 {sc : Nat × (Nat → Int32)} : ∀ (fuel : Nat) (x1 : Int32) (x2 : Int32) (x3 : Int32) (x4 : Int32) (σ : zS) (w : Int32 × zS) (h : fX11_comesOn_71 fuel x1 x2 x3 x4 σ = some w), zR (zY0 sc) 3 0 0 mX11_comesOn 71 [(0, .ref 56), (1, .int x1), (2, .int x2), (3, .int x3), (4, .int x4)] [] (zE σ) (some (.int w.1), zE w.2) := by
  intro fuel
  induction fuel with
  | zero => intro x1 x2 x3 x4 σ w h; exact nomatch h
  | succ f ih =>
    intro x1 x2 x3 x4 σ w h
    rw [fX11_comesOn_71] at h
    refine kR.iload dX11_comesOn_71 4 rfl ?_
    refine kR.iload_n dX11_comesOn_73 1 rfl ?_
    refine zR.iconst (v := 1) dX11_comesOn_74 (by decide) ?_
    refine zR.isub dX11_comesOn_75 ?_
    refine kR.icmp_ge (tgt := 101) dX11_comesOn_76 (by decide) h (fun h => ?_) (fun h => ?_)
    · refine kR.aload_n dX11_comesOn_101 0 rfl ?_
      refine kR.getR (v := 57) dX11_comesOn_102 flX11_7 zcf11 zp56 (Or.inr ⟨_, rfl⟩) rfl ?_
      refine kR.iload_n dX11_comesOn_105 1 rfl ?_
      refine zR.iconst (v := 1) dX11_comesOn_106 (by decide) ?_
      refine zR.isub dX11_comesOn_107 ?_
      refine kR.iald dX11_comesOn_108 zp57 rfl h (fun v6 h => ?_)
      refine kR.iload_n dX11_comesOn_109 3 rfl ?_
      refine kR.icmp_eq (tgt := 115) dX11_comesOn_110 (by decide) h (fun h => ?_) (fun h => ?_)
      · refine kR.aload_n dX11_comesOn_115 0 rfl ?_
        refine zR.iconst (v := 1) dX11_comesOn_116 (by decide) ?_
        refine zR.iconst (v := 0) dX11_comesOn_117 (by decide) ?_
        obtain ⟨σ7, e8, h⟩ := bnr_some h
        refine kR.cVv [.int 1, .int 0] dX11_comesOn_118 rfl (by decide) mwX11_446 zp56 (by decide) rfl rfl (Nat.le_of_ble_eq_true rfl) (lX11_copies 1 0 σ _ e8) ?_
        refine kR.aload_n dX11_comesOn_121 0 rfl ?_
        refine kR.getR (v := 85) dX11_comesOn_122 flX11_156 zcf11 zp56 (Or.inr ⟨_, rfl⟩) rfl ?_
        refine zR.iconst (v := 1) dX11_comesOn_125 (by decide) ?_
        refine kR.aload_n dX11_comesOn_126 0 rfl ?_
        refine kR.getR (v := 57) dX11_comesOn_127 flX11_7 zcf11 zp56 (Or.inr ⟨_, rfl⟩) rfl ?_
        refine zR.iconst (v := 0) dX11_comesOn_130 (by decide) ?_
        refine kR.iald dX11_comesOn_131 zp57 rfl h (fun v9 h => ?_)
        refine kR.iast dX11_comesOn_132 zp85 rfl h (fun σ10 h => ?_)
        refine kR.aload_n dX11_comesOn_133 0 rfl ?_
        refine kR.getR (v := 90) dX11_comesOn_134 flX11_171 zcf11 zp56 (Or.inr ⟨_, rfl⟩) rfl ?_
        refine zR.iconst (v := 1) dX11_comesOn_137 (by decide) ?_
        refine zR.iconst (v := 0) dX11_comesOn_138 (by decide) ?_
        refine kR.iast dX11_comesOn_139 zp90 rfl h (fun σ11 h => ?_)
        refine zR.iconst (v := 0) dX11_comesOn_140 (by decide) ?_
        refine zR.istore (i := 4) (ls' := [(4, .int 0), (0, .ref 56), (1, .int x1), (2, .int x2), (3, .int x3)]) dX11_comesOn_141 (by decide) rfl ?_
        refine zR.sub [1, 3, 0] rfl ?_
        exact kX11_comesOn_143 zF _ _ _ _ h
      · refine zR.iconst (v := 0) dX11_comesOn_113 (by decide) ?_
        exact kR.iretW dX11_comesOn_114 (nzZ rfl (Or.inl rfl)) h
    · refine zR.iconst (v := 5) dX11_comesOn_79 (by decide) ?_
      refine kR.iload_n dX11_comesOn_80 3 rfl ?_
      refine zR.imul dX11_comesOn_81 ?_
      refine kR.aload_n dX11_comesOn_82 0 rfl ?_
      refine kR.getR (v := 57) dX11_comesOn_83 flX11_7 zcf11 zp56 (Or.inr ⟨_, rfl⟩) rfl ?_
      refine kR.iload dX11_comesOn_86 4 rfl ?_
      refine kR.iald dX11_comesOn_88 zp57 rfl h (fun v16 h => ?_)
      refine zR.iadd dX11_comesOn_89 ?_
      refine zR.sipush (v := 251) dX11_comesOn_90 (by decide) ?_
      refine zR.irem dX11_comesOn_93 (by decide) ?_
      refine zR.istore_n (i := 3) (ls' := [(3, .int (((5 * x3) + v16) - ((5 * x3) + v16) / 251 * 251)), (0, .ref 56), (1, .int x1), (2, .int x2), (4, .int x4)]) dX11_comesOn_94 rfl (by decide) rfl ?_
      refine zR.iinc 4 (v := x4 + 1) (ls' := [(4, .int (x4 + 1)), (3, .int (((5 * x3) + v16) - ((5 * x3) + v16) / 251 * 251)), (0, .ref 56), (1, .int x1), (2, .int x2)]) dX11_comesOn_95 rfl rfl (by decide) rfl ?_
      refine zR.goto (tgt := 71) dX11_comesOn_98 (by decide) ?_
      refine zR.sub [2, 3, 4, 1, 0] rfl ?_
      exact ih _ _ _ _ _ _ h
def fX11_comesOn_65 (x1 : Int32) (x2 : Int32) (σ : zS) : Option (Int32 × zS) := fX11_comesOn_71 zF x1 x2 107 0 σ
theorem kX11_comesOn_65 {sc : Nat × (Nat → Int32)} (x1 : Int32) (x2 : Int32) (σ : zS) (w : Int32 × zS) (h : fX11_comesOn_65 x1 x2 σ = some w) : zR (zY0 sc) 3 0 0 mX11_comesOn 65 [(0, .ref 56), (1, .int x1), (2, .int x2)] [] (zE σ) (some (.int w.1), zE w.2) := by
  unfold fX11_comesOn_65 at h
  refine zR.bipush (v := 107) dX11_comesOn_65 (by decide) ?_
  refine zR.istore_n (i := 3) (ls' := [(3, .int 107), (0, .ref 56), (1, .int x1), (2, .int x2)]) dX11_comesOn_67 rfl (by decide) rfl ?_
  refine zR.iconst (v := 0) dX11_comesOn_68 (by decide) ?_
  refine zR.istore (i := 4) (ls' := [(4, .int 0), (3, .int 107), (0, .ref 56), (1, .int x1), (2, .int x2)]) dX11_comesOn_69 (by decide) rfl ?_
  refine zR.sub [2, 3, 4, 1, 0] rfl ?_
  exact kX11_comesOn_71 zF _ _ _ _ _ _ h
def fX11_comesOn (p1 : Int32) (σ : zS) : Option (Int32 × zS) := aI σ 58 2 (iG σ 56 13) fun v1 => aI σ 63 2 (iG σ 56 13) fun v2 => if p1 = (2 + ((5 + v1) * v2)) then aI σ 57 1800 0 fun v3 => bnr (fX11_isTunnel σ v3) fun v4 => if v4 = 0 then aI σ 58 2 (iG σ 56 13) fun v17 => if 0 < v17 then some (0, σ) else aI σ 57 1800 0 fun v18 => if v18 ≤ 0 then fX11_comesOn_65 p1 (5 + v1) σ else some (0, σ) else fX11_comesOn_65 p1 (5 + v1) σ else some (0, σ)
theorem eX11_comesOn {sc : Nat × (Nat → Int32)} (p1 : Int32) (σ : zS) (w : Int32 × zS) (h : fX11_comesOn p1 σ = some w) : zR (zY0 sc) 3 0 0 mX11_comesOn 0 [(0, .ref 56), (1, .int p1)] [] (zE σ) (some (.int w.1), zE w.2) := by
  unfold fX11_comesOn at h
  refine zR.iconst (v := 5) dX11_comesOn_0 (by decide) ?_
  refine kR.aload_n dX11_comesOn_1 0 rfl ?_
  refine kR.getR (v := 58) dX11_comesOn_2 flX11_54 zcf11 zp56 (Or.inr ⟨_, rfl⟩) rfl ?_
  refine kR.aload_n dX11_comesOn_5 0 rfl ?_
  refine kR.getI dX11_comesOn_6 flX11_51 zcf11 zp56 (Or.inl rfl) ?_
  refine kR.iald dX11_comesOn_9 zp58 rfl h (fun v1 h => ?_)
  refine zR.iadd dX11_comesOn_10 ?_
  refine zR.istore_n (i := 2) (ls' := [(2, .int (5 + v1)), (0, .ref 56), (1, .int p1)]) dX11_comesOn_11 rfl (by decide) rfl ?_
  refine kR.iload_n dX11_comesOn_12 2 rfl ?_
  refine zR.iconst (v := 2) dX11_comesOn_13 (by decide) ?_
  refine kR.iload_n dX11_comesOn_14 0 rfl ?_
  refine kR.aload_n dX11_comesOn_15 1 rfl ?_
  refine kR.getR (v := 63) dX11_comesOn_16 flX11_69 zcf11 zp56 (Or.inr ⟨_, rfl⟩) rfl ?_
  refine kR.aload_n dX11_comesOn_19 1 rfl ?_
  refine kR.getI dX11_comesOn_20 flX11_51 zcf11 zp56 (Or.inl rfl) ?_
  refine kR.iald dX11_comesOn_23 zp63 rfl h (fun v2 h => ?_)
  refine zR.imul dX11_comesOn_24 ?_
  refine zR.iadd dX11_comesOn_25 ?_
  refine kR.icmp_ne (tgt := 63) dX11_comesOn_26 (by decide) h (fun h => ?_) (fun h => ?_)
  · refine zR.iconst (v := 0) dX11_comesOn_63 (by decide) ?_
    exact kR.iretW dX11_comesOn_64 (nzZ rfl (Or.inl rfl)) h
  · refine kR.aload_n dX11_comesOn_29 1 rfl ?_
    refine kR.aload_n dX11_comesOn_30 1 rfl ?_
    refine kR.getR (v := 57) dX11_comesOn_31 flX11_7 zcf11 zp56 (Or.inr ⟨_, rfl⟩) rfl ?_
    refine zR.iconst (v := 0) dX11_comesOn_34 (by decide) ?_
    refine kR.iald dX11_comesOn_35 zp57 rfl h (fun v3 h => ?_)
    obtain ⟨v4, e5, h⟩ := bnr_some h
    refine kR.cVi [.int v3] dX11_comesOn_36 rfl (by decide) mwX11_497 zp56 (by decide) rfl rfl (Nat.le_of_ble_eq_true rfl) (lX11_isTunnel σ v3 _ e5) ?_
    refine kR.if_ne (tgt := 65) dX11_comesOn_39 (by decide) h (fun h => ?_) (fun h => ?_)
    · refine zR.sub [1, 2, 0] rfl ?_
      exact kX11_comesOn_65 _ _ _ _ h
    · refine kR.aload_n dX11_comesOn_42 1 rfl ?_
      refine kR.getR (v := 58) dX11_comesOn_43 flX11_54 zcf11 zp56 (Or.inr ⟨_, rfl⟩) rfl ?_
      refine kR.aload_n dX11_comesOn_46 1 rfl ?_
      refine kR.getI dX11_comesOn_47 flX11_51 zcf11 zp56 (Or.inl rfl) ?_
      refine kR.iald dX11_comesOn_50 zp58 rfl h (fun v17 h => ?_)
      refine kR.if_gt (tgt := 63) dX11_comesOn_51 (by decide) h (fun h => ?_) (fun h => ?_)
      · refine zR.iconst (v := 0) dX11_comesOn_63 (by decide) ?_
        exact kR.iretW dX11_comesOn_64 (nzZ rfl (Or.inl rfl)) h
      · refine kR.aload_n dX11_comesOn_54 1 rfl ?_
        refine kR.getR (v := 57) dX11_comesOn_55 flX11_7 zcf11 zp56 (Or.inr ⟨_, rfl⟩) rfl ?_
        refine zR.iconst (v := 0) dX11_comesOn_58 (by decide) ?_
        refine kR.iald dX11_comesOn_59 zp57 rfl h (fun v18 h => ?_)
        refine kR.if_le (tgt := 65) dX11_comesOn_60 (by decide) h (fun h => ?_) (fun h => ?_)
        · refine zR.sub [1, 2, 0] rfl ?_
          exact kX11_comesOn_65 _ _ _ _ h
        · refine zR.iconst (v := 0) dX11_comesOn_63 (by decide) ?_
          exact kR.iretW dX11_comesOn_64 (nzZ rfl (Or.inl rfl)) h
theorem lX11_comesOn {sc : Nat × (Nat → Int32)} (p1 : Int32) (σ : zS) (w : Int32 × zS) (h : fX11_comesOn p1 σ = some w) : zC (zY0 sc) 3 0 0 mX11_comesOn [.ref 56, .int p1] (zE σ) (some (.int w.1), zE w.2) := zC.of (by decide +kernel) (Nat.le_of_ble_eq_true rfl) ⟨_, rfl⟩ (eX11_comesOn p1 σ w h)
theorem dX11_goOn_0 : decode cX11_goOn 0 = .ok (.aload_n 0, 1) := by decide +kernel
theorem dX11_goOn_1 : decode cX11_goOn 1 = .ok (.getfield 13, 3) := by decide +kernel
theorem dX11_goOn_4 : decode cX11_goOn 4 = .ok (.istore_n 1, 1) := by decide +kernel
theorem dX11_goOn_5 : decode cX11_goOn 5 = .ok (.aload_n 0, 1) := by decide +kernel
theorem dX11_goOn_6 : decode cX11_goOn 6 = .ok (.iconst 0, 1) := by decide +kernel
theorem dX11_goOn_7 : decode cX11_goOn 7 = .ok (.putfield 13, 3) := by decide +kernel
theorem dX11_goOn_10 : decode cX11_goOn 10 = .ok (.aload_n 0, 1) := by decide +kernel
theorem dX11_goOn_11 : decode cX11_goOn 11 = .ok (.iload_n 1, 1) := by decide +kernel
theorem dX11_goOn_12 : decode cX11_goOn 12 = .ok (.invokevirtual 586, 3) := by decide +kernel
theorem dX11_goOn_15 : decode cX11_goOn 15 = .ok (.ifCond .ne 17, 3) := by decide +kernel
theorem dX11_goOn_18 : decode cX11_goOn 18 = .ok (.aload_n 0, 1) := by decide +kernel
theorem dX11_goOn_19 : decode cX11_goOn 19 = .ok (.iconst 4, 1) := by decide +kernel
theorem dX11_goOn_20 : decode cX11_goOn 20 = .ok (.invokevirtual 252, 3) := by decide +kernel
theorem dX11_goOn_23 : decode cX11_goOn 23 = .ok (.ifCond .lt 7, 3) := by decide +kernel
theorem dX11_goOn_26 : decode cX11_goOn 26 = .ok (.iconst 1, 1) := by decide +kernel
theorem dX11_goOn_27 : decode cX11_goOn 27 = .ok (.goto 4, 3) := by decide +kernel
theorem dX11_goOn_30 : decode cX11_goOn 30 = .ok (.iconst 0, 1) := by decide +kernel
theorem dX11_goOn_31 : decode cX11_goOn 31 = .ok (.ireturn, 1) := by decide +kernel
theorem dX11_goOn_32 : decode cX11_goOn 32 = .ok (.aload_n 0, 1) := by decide +kernel
theorem dX11_goOn_33 : decode cX11_goOn 33 = .ok (.iconst 0, 1) := by decide +kernel
theorem dX11_goOn_34 : decode cX11_goOn 34 = .ok (.iconst 1, 1) := by decide +kernel
theorem dX11_goOn_35 : decode cX11_goOn 35 = .ok (.invokevirtual 446, 3) := by decide +kernel
theorem dX11_goOn_38 : decode cX11_goOn 38 = .ok (.aload_n 0, 1) := by decide +kernel
theorem dX11_goOn_39 : decode cX11_goOn 39 = .ok (.iconst 0, 1) := by decide +kernel
theorem dX11_goOn_40 : decode cX11_goOn 40 = .ok (.putfield 189, 3) := by decide +kernel
theorem dX11_goOn_43 : decode cX11_goOn 43 = .ok (.iconst 1, 1) := by decide +kernel
theorem dX11_goOn_44 : decode cX11_goOn 44 = .ok (.ireturn, 1) := by decide +kernel
def fX11_goOn (σ : zS) : Option (Int32 × zS) := bnd (iS σ 56 1 0) fun σ1 => bnc (fX11_comesOn (iG σ 56 1) σ1) fun v4 σ2 => if v4 = 0 then bnc (fX11_refuses 4 σ2) fun v10 σ8 => if v10 < 0 then some (0, σ8) else some (1, σ8) else bnr (fX11_copies 0 1 σ2) fun σ5 => bnd (iS σ5 56 58 0) fun σ7 => some (1, σ7)
theorem eX11_goOn {sc : Nat × (Nat → Int32)} (σ : zS) (w : Int32 × zS) (h : fX11_goOn σ = some w) : zR (zY0 sc) 4 0 0 mX11_goOn 0 [(0, .ref 56)] [] (zE σ) (some (.int w.1), zE w.2) := by
  unfold fX11_goOn at h
  refine kR.aload_n dX11_goOn_0 0 rfl ?_
  refine kR.getI dX11_goOn_1 flX11_13 zcf11 zp56 (Or.inl rfl) ?_
  refine zR.istore_n (i := 1) (ls' := [(1, .int (iG σ 56 1)), (0, .ref 56)]) dX11_goOn_4 rfl (by decide) rfl ?_
  refine kR.aload_n dX11_goOn_5 1 rfl ?_
  refine zR.iconst (v := 0) dX11_goOn_6 (by decide) ?_
  refine kR.putI dX11_goOn_7 fpX11_13 zcf11 zp56 rfl h (fun σ1 h => ?_)
  refine kR.aload_n dX11_goOn_10 1 rfl ?_
  refine kR.iload_n dX11_goOn_11 0 rfl ?_
  obtain ⟨v4, σ2, e3, h⟩ := bnc_some h
  refine kR.cVi [.int (iG σ 56 1)] dX11_goOn_12 rfl (by decide) mwX11_586 zp56 (by decide) rfl rfl (Nat.le_of_ble_eq_true rfl) (lX11_comesOn (iG σ 56 1) σ1 _ e3) ?_
  refine kR.if_ne (tgt := 32) dX11_goOn_15 (by decide) h (fun h => ?_) (fun h => ?_)
  · refine kR.aload_n dX11_goOn_32 1 rfl ?_
    refine zR.iconst (v := 0) dX11_goOn_33 (by decide) ?_
    refine zR.iconst (v := 1) dX11_goOn_34 (by decide) ?_
    obtain ⟨σ5, e6, h⟩ := bnr_some h
    refine kR.cVv [.int 0, .int 1] dX11_goOn_35 rfl (by decide) mwX11_446 zp56 (by decide) rfl rfl (Nat.le_of_ble_eq_true rfl) (lX11_copies 0 1 σ2 _ e6) ?_
    refine kR.aload_n dX11_goOn_38 1 rfl ?_
    refine zR.iconst (v := 0) dX11_goOn_39 (by decide) ?_
    refine kR.putI dX11_goOn_40 fpX11_189 zcf11 zp56 rfl h (fun σ7 h => ?_)
    refine zR.iconst (v := 1) dX11_goOn_43 (by decide) ?_
    exact kR.iretW dX11_goOn_44 (nzZ rfl (Or.inr rfl)) h
  · refine kR.aload_n dX11_goOn_18 1 rfl ?_
    refine zR.iconst (v := 4) dX11_goOn_19 (by decide) ?_
    obtain ⟨v10, σ8, e9, h⟩ := bnc_some h
    refine kR.cVi [.int 4] dX11_goOn_20 rfl (by decide) mwX11_252 zp56 (by decide) rfl rfl (Nat.le_of_ble_eq_true rfl) (lX11_refuses 4 σ2 _ e9) ?_
    refine kR.if_lt (tgt := 30) dX11_goOn_23 (by decide) h (fun h => ?_) (fun h => ?_)
    · refine zR.iconst (v := 0) dX11_goOn_30 (by decide) ?_
      exact kR.iretW dX11_goOn_31 (nzZ rfl (Or.inl rfl)) h
    · refine zR.iconst (v := 1) dX11_goOn_26 (by decide) ?_
      refine zR.goto (tgt := 31) dX11_goOn_27 (by decide) ?_
      exact kR.iretW dX11_goOn_31 (nzZ rfl (Or.inr rfl)) h
theorem lX11_goOn {sc : Nat × (Nat → Int32)} (σ : zS) (w : Int32 × zS) (h : fX11_goOn σ = some w) : zC (zY0 sc) 4 0 0 mX11_goOn [.ref 56] (zE σ) (some (.int w.1), zE w.2) := zC.of (by decide +kernel) (Nat.le_of_ble_eq_true rfl) ⟨_, rfl⟩ (eX11_goOn σ w h)
theorem dJ3_checkIndex_8e157_0 : decode cJ3_checkIndex_8e157 0 = .ok (.iload_n 0, 1) := by decide +kernel
theorem dJ3_checkIndex_8e157_1 : decode cJ3_checkIndex_8e157 1 = .ok (.ifCond .lt 8, 3) := by decide +kernel
theorem dJ3_checkIndex_8e157_4 : decode cJ3_checkIndex_8e157 4 = .ok (.iload_n 0, 1) := by decide +kernel
theorem dJ3_checkIndex_8e157_5 : decode cJ3_checkIndex_8e157 5 = .ok (.iload_n 1, 1) := by decide +kernel
theorem dJ3_checkIndex_8e157_6 : decode cJ3_checkIndex_8e157 6 = .ok (.if_icmp .lt 10, 3) := by decide +kernel
theorem dJ3_checkIndex_8e157_9 : decode cJ3_checkIndex_8e157 9 = .ok (.aload_n 2, 1) := by decide +kernel
theorem dJ3_checkIndex_8e157_10 : decode cJ3_checkIndex_8e157 10 = .ok (.iload_n 0, 1) := by decide +kernel
theorem dJ3_checkIndex_8e157_11 : decode cJ3_checkIndex_8e157 11 = .ok (.iload_n 1, 1) := by decide +kernel
theorem dJ3_checkIndex_8e157_12 : decode cJ3_checkIndex_8e157 12 = .ok (.invokestatic 95, 3) := by decide +kernel
theorem dJ3_checkIndex_8e157_15 : decode cJ3_checkIndex_8e157 15 = .ok (.athrow, 1) := by decide +kernel
theorem dJ3_checkIndex_8e157_16 : decode cJ3_checkIndex_8e157 16 = .ok (.iload_n 0, 1) := by decide +kernel
theorem dJ3_checkIndex_8e157_17 : decode cJ3_checkIndex_8e157 17 = .ok (.ireturn, 1) := by decide +kernel
def fJ3_checkIndex_8e157_9 (x0 : Int32) (x1 : Int32) : Option Int32 := none
theorem kJ3_checkIndex_8e157_9 {sc : Nat × (Nat → Int32)} {μ : zM} (x0 : Int32) (x1 : Int32) (w : Int32) (h : fJ3_checkIndex_8e157_9 x0 x1 = some w) : zR (zY0 sc) 1 0 0 mJ3_checkIndex_8e157 9 [(0, .int x0), (1, .int x1), (2, .ref (zFm (zY0 sc)))] [] μ (some (.int w), μ) := by
  unfold fJ3_checkIndex_8e157_9 at h
  refine kR.aload_n dJ3_checkIndex_8e157_9 2 rfl ?_
  refine kR.iload_n dJ3_checkIndex_8e157_10 0 rfl ?_
  refine kR.iload_n dJ3_checkIndex_8e157_11 1 rfl ?_
  exact nomatch h
def fJ3_checkIndex_8e157 (p0 : Int32) (p1 : Int32) : Option Int32 := if p0 < 0 then fJ3_checkIndex_8e157_9 p0 p1 else if p0 < p1 then some p0 else fJ3_checkIndex_8e157_9 p0 p1
theorem eJ3_checkIndex_8e157 {sc : Nat × (Nat → Int32)} {μ : zM} (p0 : Int32) (p1 : Int32) (w : Int32) (h : fJ3_checkIndex_8e157 p0 p1 = some w) : zR (zY0 sc) 1 0 0 mJ3_checkIndex_8e157 0 [(0, .int p0), (1, .int p1), (2, .ref (zFm (zY0 sc)))] [] μ (some (.int w), μ) := by
  unfold fJ3_checkIndex_8e157 at h
  refine kR.iload_n dJ3_checkIndex_8e157_0 0 rfl ?_
  refine kR.if_lt (tgt := 9) dJ3_checkIndex_8e157_1 (by decide) h (fun h => ?_) (fun h => ?_)
  · exact kJ3_checkIndex_8e157_9 _ _ _ h
  · refine kR.iload_n dJ3_checkIndex_8e157_4 0 rfl ?_
    refine kR.iload_n dJ3_checkIndex_8e157_5 1 rfl ?_
    refine kR.icmp_lt (tgt := 16) dJ3_checkIndex_8e157_6 (by decide) h (fun h => ?_) (fun h => ?_)
    · refine kR.iload_n dJ3_checkIndex_8e157_16 0 rfl ?_
      exact kR.iretO dJ3_checkIndex_8e157_17 (nzI rfl _) h
    · exact kJ3_checkIndex_8e157_9 _ _ _ h
theorem lJ3_checkIndex_8e157 {sc : Nat × (Nat → Int32)} {μ : zM} (p0 : Int32) (p1 : Int32) (w : Int32) (h : fJ3_checkIndex_8e157 p0 p1 = some w) : zC (zY0 sc) 1 0 0 mJ3_checkIndex_8e157 [.int p0, .int p1, .ref (zFm (zY0 sc))] μ (some (.int w), μ) := zC.of (by decide +kernel) (Nat.le_of_ble_eq_true rfl) ⟨_, rfl⟩ (eJ3_checkIndex_8e157 p0 p1 w h)
theorem dJ0_checkIndex_df160_0 : decode cJ0_checkIndex_df160 0 = .ok (.iload_n 0, 1) := by decide +kernel
theorem dJ0_checkIndex_df160_1 : decode cJ0_checkIndex_df160 1 = .ok (.iload_n 1, 1) := by decide +kernel
theorem dJ0_checkIndex_df160_2 : decode cJ0_checkIndex_df160 2 = .ok (.getstatic 1053, 3) := by decide +kernel
theorem dJ0_checkIndex_df160_5 : decode cJ0_checkIndex_df160 5 = .ok (.invokestatic 1059, 3) := by decide +kernel
theorem dJ0_checkIndex_df160_8 : decode cJ0_checkIndex_df160 8 = .ok (.pop, 1) := by decide +kernel
theorem dJ0_checkIndex_df160_9 : decode cJ0_checkIndex_df160 9 = .ok (.return_, 1) := by decide +kernel
def fJ0_checkIndex_df160 (p0 : Int32) (p1 : Int32) : Option Unit := bnr (fJ3_checkIndex_8e157 p0 p1) fun v1 => some ()
theorem eJ0_checkIndex_df160 {sc : Nat × (Nat → Int32)} {μ : zM} (p0 : Int32) (p1 : Int32) (w : Unit) (h : fJ0_checkIndex_df160 p0 p1 = some w) : zR (zY0 sc) 2 0 0 mJ0_checkIndex_df160 0 [(0, .int p0), (1, .int p1)] [] μ (none, μ) := by
  unfold fJ0_checkIndex_df160 at h
  refine kR.iload_n dJ0_checkIndex_df160_0 0 rfl ?_
  refine kR.iload_n dJ0_checkIndex_df160_1 1 rfl ?_
  refine zR.getFm dJ0_checkIndex_df160_2 (tb2 103 rfl rfl) ?_
  obtain ⟨v1, e2, h⟩ := bnr_some h
  refine kR.cSi [.int p0, .int p1, .ref (zFm (zY0 sc))] dJ0_checkIndex_df160_5 rfl (by decide) (Or.inl mwJ0_1059) rfl (Nat.le_of_ble_eq_true rfl) (lJ3_checkIndex_8e157 p0 p1 _ e2) ?_
  refine zR.pop dJ0_checkIndex_df160_8 rfl ?_
  exact kR.vretR dJ0_checkIndex_df160_9
theorem lJ0_checkIndex_df160 {sc : Nat × (Nat → Int32)} {μ : zM} (p0 : Int32) (p1 : Int32) (w : Unit) (h : fJ0_checkIndex_df160 p0 p1 = some w) : zC (zY0 sc) 2 0 0 mJ0_checkIndex_df160 [.int p0, .int p1] μ (none, μ) := zC.of (by decide +kernel) (Nat.le_of_ble_eq_true rfl) rfl (eJ0_checkIndex_df160 p0 p1 w h)
theorem dJ1_charAt_3b067_0 : decode cJ1_charAt_3b067 0 = .ok (.iload_n 1, 1) := by decide +kernel
theorem dJ1_charAt_3b067_1 : decode cJ1_charAt_3b067 1 = .ok (.aload_n 0, 1) := by decide +kernel
theorem dJ1_charAt_3b067_2 : decode cJ1_charAt_3b067 2 = .ok (.arraylength, 1) := by decide +kernel
theorem dJ1_charAt_3b067_3 : decode cJ1_charAt_3b067 3 = .ok (.invokestatic 9, 3) := by decide +kernel
theorem dJ1_charAt_3b067_6 : decode cJ1_charAt_3b067 6 = .ok (.aload_n 0, 1) := by decide +kernel
theorem dJ1_charAt_3b067_7 : decode cJ1_charAt_3b067 7 = .ok (.iload_n 1, 1) := by decide +kernel
theorem dJ1_charAt_3b067_8 : decode cJ1_charAt_3b067 8 = .ok (.baload, 1) := by decide +kernel
theorem dJ1_charAt_3b067_9 : decode cJ1_charAt_3b067 9 = .ok (.sipush 255, 3) := by decide +kernel
theorem dJ1_charAt_3b067_12 : decode cJ1_charAt_3b067 12 = .ok (.iand, 1) := by decide +kernel
theorem dJ1_charAt_3b067_13 : decode cJ1_charAt_3b067 13 = .ok (.i2c, 1) := by decide +kernel
theorem dJ1_charAt_3b067_14 : decode cJ1_charAt_3b067 14 = .ok (.ireturn, 1) := by decide +kernel
def fJ1_charAt_3b067 (i0 : Nat) (p1 : Int32) : Option Int32 := bnr (fJ0_checkIndex_df160 p1 (Int32.ofNat (zSl.getD i0 0))) fun v1 => aT i0 p1 fun v3 => some ((((v3 &&& 255) : Int32).toUInt32 % 65536).toInt32)
theorem eJ1_charAt_3b067 {sc : Nat × (Nat → Int32)} {μ : zM} (i0 : Nat) (hi0 : i0 < 2) (p1 : Int32) (w : Int32) (h : fJ1_charAt_3b067 i0 p1 = some w) : zR (zY0 sc) 3 0 0 mJ1_charAt_3b067 0 [(0, .ref (1010 + i0)), (1, .int p1)] [] μ (some (.int w), μ) := by
  unfold fJ1_charAt_3b067 at h
  refine kR.iload_n dJ1_charAt_3b067_0 1 rfl ?_
  refine kR.aload_n dJ1_charAt_3b067_1 0 rfl ?_
  refine zR.strN i0 (v := Int32.ofNat (zSl.getD i0 0)) dJ1_charAt_3b067_2 hi0 rfl ?_
  obtain ⟨v1, e2, h⟩ := bnr_some h
  refine kR.cSv [.int p1, .int (Int32.ofNat (zSl.getD i0 0))] dJ1_charAt_3b067_3 rfl (by decide) (Or.inl mwJ1_9) rfl (Nat.le_of_ble_eq_true rfl) (lJ0_checkIndex_df160 p1 (Int32.ofNat (zSl.getD i0 0)) _ e2) ?_
  refine kR.aload_n dJ1_charAt_3b067_6 0 rfl ?_
  refine kR.iload_n dJ1_charAt_3b067_7 1 rfl ?_
  refine kR.strB i0 dJ1_charAt_3b067_8 hi0 h (fun v3 h => ?_)
  refine zR.sipush (v := 255) dJ1_charAt_3b067_9 (by decide) ?_
  refine zR.iand dJ1_charAt_3b067_12 ?_
  refine zR.i2c dJ1_charAt_3b067_13 ?_
  exact kR.iretO dJ1_charAt_3b067_14 (nzC rfl (pk_nc _)) h
theorem lJ1_charAt_3b067 {sc : Nat × (Nat → Int32)} {μ : zM} (i0 : Nat) (hi0 : i0 < 2) (p1 : Int32) (w : Int32) (h : fJ1_charAt_3b067 i0 p1 = some w) : zC (zY0 sc) 3 0 0 mJ1_charAt_3b067 [.ref (1010 + i0), .int p1] μ (some (.int w), μ) := zC.of (by decide +kernel) (Nat.le_of_ble_eq_true rfl) ⟨_, rfl⟩ (eJ1_charAt_3b067 i0 hi0 p1 w h)
theorem dJ0_charAt_5068e_0 : decode cJ0_charAt_5068e 0 = .ok (.aload_n 0, 1) := by decide +kernel
theorem dJ0_charAt_5068e_1 : decode cJ0_charAt_5068e 1 = .ok (.invokevirtual 492, 3) := by decide +kernel
theorem dJ0_charAt_5068e_4 : decode cJ0_charAt_5068e 4 = .ok (.ifCond .eq 12, 3) := by decide +kernel
theorem dJ0_charAt_5068e_7 : decode cJ0_charAt_5068e 7 = .ok (.aload_n 0, 1) := by decide +kernel
theorem dJ0_charAt_5068e_8 : decode cJ0_charAt_5068e 8 = .ok (.getfield 9, 3) := by decide +kernel
theorem dJ0_charAt_5068e_11 : decode cJ0_charAt_5068e 11 = .ok (.iload_n 1, 1) := by decide +kernel
theorem dJ0_charAt_5068e_12 : decode cJ0_charAt_5068e 12 = .ok (.invokestatic 495, 3) := by decide +kernel
theorem dJ0_charAt_5068e_15 : decode cJ0_charAt_5068e 15 = .ok (.ireturn, 1) := by decide +kernel
theorem dJ0_charAt_5068e_16 : decode cJ0_charAt_5068e 16 = .ok (.aload_n 0, 1) := by decide +kernel
theorem dJ0_charAt_5068e_17 : decode cJ0_charAt_5068e 17 = .ok (.getfield 9, 3) := by decide +kernel
theorem dJ0_charAt_5068e_20 : decode cJ0_charAt_5068e 20 = .ok (.iload_n 1, 1) := by decide +kernel
theorem dJ0_charAt_5068e_21 : decode cJ0_charAt_5068e 21 = .ok (.invokestatic 498, 3) := by decide +kernel
theorem dJ0_charAt_5068e_24 : decode cJ0_charAt_5068e 24 = .ok (.ireturn, 1) := by decide +kernel
def fJ0_charAt_5068e (i0 : Nat) (p1 : Int32) : Option Int32 := if (fJ0_isLatin1_aae02 i0) = 0 then none else bnr (fJ1_charAt_3b067 i0 p1) fun v1 => gd (narrow .char (.int v1) = .int v1) (some v1)
theorem eJ0_charAt_5068e {sc : Nat × (Nat → Int32)} {μ : zM} (i0 : Nat) (hi0 : i0 < 2) (p1 : Int32) (w : Int32) (h : fJ0_charAt_5068e i0 p1 = some w) : zR (zY0 sc) 4 0 0 mJ0_charAt_5068e 0 [(0, .ref (1000 + i0)), (1, .int p1)] [] μ (some (.int w), μ) := by
  unfold fJ0_charAt_5068e at h
  refine kR.aload_n dJ0_charAt_5068e_0 0 rfl ?_
  refine kR.cTi i0 [] dJ0_charAt_5068e_1 rfl (by decide) mwJ0_492 hi0 rfl rfl (Nat.le_of_ble_eq_true rfl) (lJ0_isLatin1_aae02 i0 hi0) ?_
  refine kR.if_eq (tgt := 16) dJ0_charAt_5068e_4 (by decide) h (fun h => ?_) (fun h => ?_)
  · refine kR.aload_n dJ0_charAt_5068e_16 0 rfl ?_
    refine zR.strV i0 dJ0_charAt_5068e_17 hi0 (tb9 15 rfl rfl) ?_
    refine kR.iload_n dJ0_charAt_5068e_20 1 rfl ?_
    exact nomatch h
  · refine kR.aload_n dJ0_charAt_5068e_7 0 rfl ?_
    refine zR.strV i0 dJ0_charAt_5068e_8 hi0 (tb9 15 rfl rfl) ?_
    refine kR.iload_n dJ0_charAt_5068e_11 1 rfl ?_
    obtain ⟨v1, e2, h⟩ := bnr_some h
    refine kR.cSi [.ref (1010 + i0), .int p1] dJ0_charAt_5068e_12 rfl (by decide) (Or.inl mwJ0_495) rfl (Nat.le_of_ble_eq_true rfl) (lJ1_charAt_3b067 i0 hi0 p1 _ e2) ?_
    obtain ⟨gz, h⟩ := kR.guard h
    exact kR.iretO dJ0_charAt_5068e_15 (nzC rfl gz) h
theorem lJ0_charAt_5068e {sc : Nat × (Nat → Int32)} {μ : zM} (i0 : Nat) (hi0 : i0 < 2) (p1 : Int32) (w : Int32) (h : fJ0_charAt_5068e i0 p1 = some w) : zC (zY0 sc) 4 0 0 mJ0_charAt_5068e [.ref (1000 + i0), .int p1] μ (some (.int w), μ) := zC.of (by decide +kernel) (Nat.le_of_ble_eq_true rfl) ⟨_, rfl⟩ (eJ0_charAt_5068e i0 hi0 p1 w h)

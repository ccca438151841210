/-! MY OWN (by program): X11_hidden, X11_madeBy, X11_pace, X11_whom, X11_faces, X11_isByFaces, X11_fit, X11_draw, X11_writesDown -/
theorem dX11_hidden_0 : decode cX11_hidden 0 = .ok (.aload_n 0, 1) := by decide +kernel
theorem dX11_hidden_1 : decode cX11_hidden 1 = .ok (.iload_n 1, 1) := by decide +kernel
theorem dX11_hidden_2 : decode cX11_hidden 2 = .ok (.invokevirtual 506, 3) := by decide +kernel
theorem dX11_hidden_5 : decode cX11_hidden 5 = .ok (.ifCond .eq 20, 3) := by decide +kernel
theorem dX11_hidden_8 : decode cX11_hidden 8 = .ok (.aload_n 0, 1) := by decide +kernel
theorem dX11_hidden_9 : decode cX11_hidden 9 = .ok (.iload_n 2, 1) := by decide +kernel
theorem dX11_hidden_10 : decode cX11_hidden 10 = .ok (.invokevirtual 497, 3) := by decide +kernel
theorem dX11_hidden_13 : decode cX11_hidden 13 = .ok (.ifCond .eq 12, 3) := by decide +kernel
theorem dX11_hidden_16 : decode cX11_hidden 16 = .ok (.iload_n 3, 1) := by decide +kernel
theorem dX11_hidden_17 : decode cX11_hidden 17 = .ok (.iconst 0, 1) := by decide +kernel
theorem dX11_hidden_18 : decode cX11_hidden 18 = .ok (.iconst 1, 1) := by decide +kernel
theorem dX11_hidden_19 : decode cX11_hidden 19 = .ok (.invokestatic 338, 3) := by decide +kernel
theorem dX11_hidden_22 : decode cX11_hidden 22 = .ok (.ifCond .ne 7, 3) := by decide +kernel
theorem dX11_hidden_25 : decode cX11_hidden 25 = .ok (.ldc_w 509, 3) := by decide +kernel
theorem dX11_hidden_28 : decode cX11_hidden 28 = .ok (.ireturn, 1) := by decide +kernel
theorem dX11_hidden_29 : decode cX11_hidden 29 = .ok (.lconst 0, 1) := by decide +kernel
theorem dX11_hidden_30 : decode cX11_hidden 30 = .ok (.lstore 4, 2) := by decide +kernel
theorem dX11_hidden_32 : decode cX11_hidden 32 = .ok (.iconst 0, 1) := by decide +kernel
theorem dX11_hidden_33 : decode cX11_hidden 33 = .ok (.istore 6, 2) := by decide +kernel
theorem dX11_hidden_35 : decode cX11_hidden 35 = .ok (.iload 6, 2) := by decide +kernel
theorem dX11_hidden_37 : decode cX11_hidden 37 = .ok (.aload_n 0, 1) := by decide +kernel
theorem dX11_hidden_38 : decode cX11_hidden 38 = .ok (.iload_n 2, 1) := by decide +kernel
theorem dX11_hidden_39 : decode cX11_hidden 39 = .ok (.invokevirtual 437, 3) := by decide +kernel
theorem dX11_hidden_42 : decode cX11_hidden 42 = .ok (.if_icmp .ge 86, 3) := by decide +kernel
theorem dX11_hidden_45 : decode cX11_hidden 45 = .ok (.aload_n 0, 1) := by decide +kernel
theorem dX11_hidden_46 : decode cX11_hidden 46 = .ok (.iload_n 2, 1) := by decide +kernel
theorem dX11_hidden_47 : decode cX11_hidden 47 = .ok (.aload_n 0, 1) := by decide +kernel
theorem dX11_hidden_48 : decode cX11_hidden 48 = .ok (.iload_n 2, 1) := by decide +kernel
theorem dX11_hidden_49 : decode cX11_hidden 49 = .ok (.iload 6, 2) := by decide +kernel
theorem dX11_hidden_51 : decode cX11_hidden 51 = .ok (.invokevirtual 503, 3) := by decide +kernel
theorem dX11_hidden_54 : decode cX11_hidden 54 = .ok (.aload_n 0, 1) := by decide +kernel
theorem dX11_hidden_55 : decode cX11_hidden 55 = .ok (.iload_n 2, 1) := by decide +kernel
theorem dX11_hidden_56 : decode cX11_hidden 56 = .ok (.iload 6, 2) := by decide +kernel
theorem dX11_hidden_58 : decode cX11_hidden 58 = .ok (.invokevirtual 503, 3) := by decide +kernel
theorem dX11_hidden_61 : decode cX11_hidden 61 = .ok (.aload_n 0, 1) := by decide +kernel
theorem dX11_hidden_62 : decode cX11_hidden 62 = .ok (.getfield 159, 3) := by decide +kernel
theorem dX11_hidden_65 : decode cX11_hidden 65 = .ok (.iload_n 1, 1) := by decide +kernel
theorem dX11_hidden_66 : decode cX11_hidden 66 = .ok (.iaload, 1) := by decide +kernel
theorem dX11_hidden_67 : decode cX11_hidden 67 = .ok (.invokevirtual 524, 3) := by decide +kernel
theorem dX11_hidden_70 : decode cX11_hidden 70 = .ok (.istore 7, 2) := by decide +kernel
theorem dX11_hidden_72 : decode cX11_hidden 72 = .ok (.lload 4, 2) := by decide +kernel
theorem dX11_hidden_74 : decode cX11_hidden 74 = .ok (.aload_n 0, 1) := by decide +kernel
theorem dX11_hidden_75 : decode cX11_hidden 75 = .ok (.iload_n 2, 1) := by decide +kernel
theorem dX11_hidden_76 : decode cX11_hidden 76 = .ok (.iload 6, 2) := by decide +kernel
theorem dX11_hidden_78 : decode cX11_hidden 78 = .ok (.invokevirtual 440, 3) := by decide +kernel
theorem dX11_hidden_81 : decode cX11_hidden 81 = .ok (.aload_n 0, 1) := by decide +kernel
theorem dX11_hidden_82 : decode cX11_hidden 82 = .ok (.getfield 96, 3) := by decide +kernel
theorem dX11_hidden_85 : decode cX11_hidden 85 = .ok (.aload_n 0, 1) := by decide +kernel
theorem dX11_hidden_86 : decode cX11_hidden 86 = .ok (.getfield 51, 3) := by decide +kernel
theorem dX11_hidden_89 : decode cX11_hidden 89 = .ok (.iaload, 1) := by decide +kernel
theorem dX11_hidden_90 : decode cX11_hidden 90 = .ok (.ineg, 1) := by decide +kernel
theorem dX11_hidden_91 : decode cX11_hidden 91 = .ok (.aload_n 0, 1) := by decide +kernel
theorem dX11_hidden_92 : decode cX11_hidden 92 = .ok (.getfield 99, 3) := by decide +kernel
theorem dX11_hidden_95 : decode cX11_hidden 95 = .ok (.aload_n 0, 1) := by decide +kernel
theorem dX11_hidden_96 : decode cX11_hidden 96 = .ok (.getfield 51, 3) := by decide +kernel
theorem dX11_hidden_99 : decode cX11_hidden 99 = .ok (.iaload, 1) := by decide +kernel
theorem dX11_hidden_100 : decode cX11_hidden 100 = .ok (.imul, 1) := by decide +kernel
theorem dX11_hidden_101 : decode cX11_hidden 101 = .ok (.bipush 100, 2) := by decide +kernel
theorem dX11_hidden_103 : decode cX11_hidden 103 = .ok (.aload_n 0, 1) := by decide +kernel
theorem dX11_hidden_104 : decode cX11_hidden 104 = .ok (.getfield 96, 3) := by decide +kernel
theorem dX11_hidden_107 : decode cX11_hidden 107 = .ok (.aload_n 0, 1) := by decide +kernel
theorem dX11_hidden_108 : decode cX11_hidden 108 = .ok (.getfield 51, 3) := by decide +kernel
theorem dX11_hidden_111 : decode cX11_hidden 111 = .ok (.iaload, 1) := by decide +kernel
theorem dX11_hidden_112 : decode cX11_hidden 112 = .ok (.isub, 1) := by decide +kernel
theorem dX11_hidden_113 : decode cX11_hidden 113 = .ok (.iload 7, 2) := by decide +kernel
theorem dX11_hidden_115 : decode cX11_hidden 115 = .ok (.imul, 1) := by decide +kernel
theorem dX11_hidden_116 : decode cX11_hidden 116 = .ok (.iadd, 1) := by decide +kernel
theorem dX11_hidden_117 : decode cX11_hidden 117 = .ok (.imul, 1) := by decide +kernel
theorem dX11_hidden_118 : decode cX11_hidden 118 = .ok (.i2l, 1) := by decide +kernel
theorem dX11_hidden_119 : decode cX11_hidden 119 = .ok (.ladd, 1) := by decide +kernel
theorem dX11_hidden_120 : decode cX11_hidden 120 = .ok (.lstore 4, 2) := by decide +kernel
theorem dX11_hidden_122 : decode cX11_hidden 122 = .ok (.iinc 6 1, 3) := by decide +kernel
theorem dX11_hidden_125 : decode cX11_hidden 125 = .ok (.goto (-90), 3) := by decide +kernel
theorem dX11_hidden_128 : decode cX11_hidden 128 = .ok (.iload_n 3, 1) := by decide +kernel
theorem dX11_hidden_129 : decode cX11_hidden 129 = .ok (.iconst 1, 1) := by decide +kernel
theorem dX11_hidden_130 : decode cX11_hidden 130 = .ok (.if_icmp .ne 20, 3) := by decide +kernel
theorem dX11_hidden_133 : decode cX11_hidden 133 = .ok (.aload_n 0, 1) := by decide +kernel
theorem dX11_hidden_134 : decode cX11_hidden 134 = .ok (.lload 4, 2) := by decide +kernel
theorem dX11_hidden_136 : decode cX11_hidden 136 = .ok (.ldc2_w 546, 3) := by decide +kernel
theorem dX11_hidden_139 : decode cX11_hidden 139 = .ok (.aload_n 0, 1) := by decide +kernel
theorem dX11_hidden_140 : decode cX11_hidden 140 = .ok (.iload_n 2, 1) := by decide +kernel
theorem dX11_hidden_141 : decode cX11_hidden 141 = .ok (.invokevirtual 500, 3) := by decide +kernel
theorem dX11_hidden_144 : decode cX11_hidden 144 = .ok (.i2l, 1) := by decide +kernel
theorem dX11_hidden_145 : decode cX11_hidden 145 = .ok (.lmul, 1) := by decide +kernel
theorem dX11_hidden_146 : decode cX11_hidden 146 = .ok (.invokevirtual 531, 3) := by decide +kernel
theorem dX11_hidden_149 : decode cX11_hidden 149 = .ok (.ireturn, 1) := by decide +kernel
theorem dX11_hidden_150 : decode cX11_hidden 150 = .ok (.aload_n 0, 1) := by decide +kernel
theorem dX11_hidden_151 : decode cX11_hidden 151 = .ok (.iload_n 1, 1) := by decide +kernel
theorem dX11_hidden_152 : decode cX11_hidden 152 = .ok (.iload_n 2, 1) := by decide +kernel
theorem dX11_hidden_153 : decode cX11_hidden 153 = .ok (.invokevirtual 528, 3) := by decide +kernel
theorem dX11_hidden_156 : decode cX11_hidden 156 = .ok (.lload 4, 2) := by decide +kernel
theorem dX11_hidden_158 : decode cX11_hidden 158 = .ok (.ldc2_w 546, 3) := by decide +kernel
theorem dX11_hidden_161 : decode cX11_hidden 161 = .ok (.aload_n 0, 1) := by decide +kernel
theorem dX11_hidden_162 : decode cX11_hidden 162 = .ok (.getfield 222, 3) := by decide +kernel
theorem dX11_hidden_165 : decode cX11_hidden 165 = .ok (.lmul, 1) := by decide +kernel
theorem dX11_hidden_166 : decode cX11_hidden 166 = .ok (.lcmp, 1) := by decide +kernel
theorem dX11_hidden_167 : decode cX11_hidden 167 = .ok (.ifCond .le 7, 3) := by decide +kernel
theorem dX11_hidden_170 : decode cX11_hidden 170 = .ok (.iconst 1, 1) := by decide +kernel
theorem dX11_hidden_171 : decode cX11_hidden 171 = .ok (.goto 4, 3) := by decide +kernel
theorem dX11_hidden_174 : decode cX11_hidden 174 = .ok (.iconst 0, 1) := by decide +kernel
theorem dX11_hidden_175 : decode cX11_hidden 175 = .ok (.ireturn, 1) := by decide +kernel
def fX11_hidden_35 : Nat → Int32 → Int32 → Int32 → Int64 → Int32 → zS → Option (Int32 × zS)
  | 0, _, _, _, _, _, _ => none
  | f + 1, x1, x2, x3, x4, x6, σ => bnr (fX11_lengthsOf σ x2) fun v5 => if v5 ≤ x6 then if x3 = 1 then bnr (fX11_weights σ x2) fun v9 => bnr (fX11_thousandths x4 (100 * v9.toInt64)) fun v11 => some (v11, σ) else bnr (fX11_findsAlone x1 x2 σ) fun σ7 => if x4 ≤ (100 * (lG σ7 56 69)) then some (0, σ7) else some (1, σ7) else bnr (fX11_lengthAt σ x2 x6) fun v13 => bnr (fX11_lengthAt σ x2 x6) fun v15 => aI σ 86 132 x1 fun v17 => bnc (fX11_worthAlone x2 v13 v15 v17 σ) fun v20 σ18 => bnr (fX11_weightAt σ18 x2 x6) fun v21 => aI σ18 72 2 (iG σ18 56 13) fun v23 => aI σ18 73 2 (iG σ18 56 13) fun v24 => aI σ18 72 2 (iG σ18 56 13) fun v25 => bnd (x4 + (((v21 * (((-v23) * v24) + ((100 - v25) * v20))) : Int32).toInt64)) fun v26 => fX11_hidden_35 f x1 x2 x3 v26 (x6 + 1) σ18
theorem kX11_hidden_35 {sc : Nat × (Nat → Int32)} : ∀ (fuel : Nat) (x1 : Int32) (x2 : Int32) (x3 : Int32) (x4 : Int64) (x6 : Int32) (σ : zS) (w : Int32 × zS) (h : fX11_hidden_35 fuel x1 x2 x3 x4 x6 σ = some w), zR (zY0 sc) 7 0 0 mX11_hidden 35 [(0, .ref 56), (1, .int x1), (2, .int x2), (3, .int x3), (4, .long x4), (6, .int x6)] [] (zE σ) (some (.int w.1), zE w.2) := by
  intro fuel
  induction fuel with
  | zero => intro x1 x2 x3 x4 x6 σ w h; exact nomatch h
  | succ f ih =>
    intro x1 x2 x3 x4 x6 σ w h
    rw [fX11_hidden_35] at h
    refine kR.iload dX11_hidden_35 5 rfl ?_
    refine kR.aload_n dX11_hidden_37 0 rfl ?_
    refine kR.iload_n dX11_hidden_38 2 rfl ?_
    obtain ⟨v5, e6, h⟩ := bnr_some h
    refine kR.cVi [.int x2] dX11_hidden_39 rfl (by decide) mwX11_437 zp56 (by decide) rfl rfl (Nat.le_of_ble_eq_true rfl) (lX11_lengthsOf σ x2 _ e6) ?_
    refine kR.icmp_ge (tgt := 128) dX11_hidden_42 (by decide) h (fun h => ?_) (fun h => ?_)
    · refine kR.iload_n dX11_hidden_128 3 rfl ?_
      refine zR.iconst (v := 1) dX11_hidden_129 (by decide) ?_
      refine kR.icmp_ne (tgt := 150) dX11_hidden_130 (by decide) h (fun h => ?_) (fun h => ?_)
      · refine kR.aload_n dX11_hidden_150 0 rfl ?_
        refine kR.iload_n dX11_hidden_151 1 rfl ?_
        refine kR.iload_n dX11_hidden_152 2 rfl ?_
        obtain ⟨σ7, e8, h⟩ := bnr_some h
        refine kR.cVv [.int x1, .int x2] dX11_hidden_153 rfl (by decide) mwX11_528 zp56 (by decide) rfl rfl (Nat.le_of_ble_eq_true rfl) (lX11_findsAlone x1 x2 σ _ e8) ?_
        refine kR.lload dX11_hidden_156 4 rfl ?_
        refine zR.ldc2 (v := 100) dX11_hidden_158 clX11_546 ?_
        refine kR.aload_n dX11_hidden_161 0 rfl ?_
        refine kR.getL dX11_hidden_162 flX11_222 zcf11 zp56 rfl ?_
        refine zR.lmul dX11_hidden_165 ?_
        refine kR.lcmp_le (tgt := 174) dX11_hidden_166 dX11_hidden_167 (by decide) h (fun h => ?_) (fun h => ?_)
        · refine zR.iconst (v := 0) dX11_hidden_174 (by decide) ?_
          exact kR.iretW dX11_hidden_175 (nzI rfl _) h
        · refine zR.iconst (v := 1) dX11_hidden_170 (by decide) ?_
          refine zR.goto (tgt := 175) dX11_hidden_171 (by decide) ?_
          exact kR.iretW dX11_hidden_175 (nzI rfl _) h
      · refine kR.aload_n dX11_hidden_133 0 rfl ?_
        refine kR.lload dX11_hidden_134 4 rfl ?_
        refine zR.ldc2 (v := 100) dX11_hidden_136 clX11_546 ?_
        refine kR.aload_n dX11_hidden_139 0 rfl ?_
        refine kR.iload_n dX11_hidden_140 2 rfl ?_
        obtain ⟨v9, e10, h⟩ := bnr_some h
        refine kR.cVi [.int x2] dX11_hidden_141 rfl (by decide) mwX11_500 zp56 (by decide) rfl rfl (Nat.le_of_ble_eq_true rfl) (lX11_weights σ x2 _ e10) ?_
        refine zR.i2l dX11_hidden_144 ?_
        refine zR.lmul dX11_hidden_145 ?_
        obtain ⟨v11, e12, h⟩ := bnr_some h
        refine kR.cVi [.long x4, .long (100 * v9.toInt64)] dX11_hidden_146 rfl (by decide) mwX11_531 zp56 (by decide) rfl rfl (Nat.le_of_ble_eq_true rfl) (lX11_thousandths x4 (100 * v9.toInt64) _ e12) ?_
        exact kR.iretW dX11_hidden_149 (nzI rfl _) h
    · refine kR.aload_n dX11_hidden_45 0 rfl ?_
      refine kR.iload_n dX11_hidden_46 2 rfl ?_
      refine kR.aload_n dX11_hidden_47 0 rfl ?_
      refine kR.iload_n dX11_hidden_48 2 rfl ?_
      refine kR.iload dX11_hidden_49 5 rfl ?_
      obtain ⟨v13, e14, h⟩ := bnr_some h
      refine kR.cVi [.int x2, .int x6] dX11_hidden_51 rfl (by decide) mwX11_503 zp56 (by decide) rfl rfl (Nat.le_of_ble_eq_true rfl) (lX11_lengthAt σ x2 x6 _ e14) ?_
      refine kR.aload_n dX11_hidden_54 0 rfl ?_
      refine kR.iload_n dX11_hidden_55 2 rfl ?_
      refine kR.iload dX11_hidden_56 5 rfl ?_
      obtain ⟨v15, e16, h⟩ := bnr_some h
      refine kR.cVi [.int x2, .int x6] dX11_hidden_58 rfl (by decide) mwX11_503 zp56 (by decide) rfl rfl (Nat.le_of_ble_eq_true rfl) (lX11_lengthAt σ x2 x6 _ e16) ?_
      refine kR.aload_n dX11_hidden_61 0 rfl ?_
      refine kR.getR (v := 86) dX11_hidden_62 flX11_159 zcf11 zp56 (Or.inr ⟨_, rfl⟩) rfl ?_
      refine kR.iload_n dX11_hidden_65 1 rfl ?_
      refine kR.iald dX11_hidden_66 zp86 rfl h (fun v17 h => ?_)
      obtain ⟨v20, σ18, e19, h⟩ := bnc_some h
      refine kR.cVi [.int x2, .int v13, .int v15, .int v17] dX11_hidden_67 rfl (by decide) mwX11_524 zp56 (by decide) rfl rfl (Nat.le_of_ble_eq_true rfl) (lX11_worthAlone x2 v13 v15 v17 σ _ e19) ?_
      refine zR.istore (i := 7) (ls' := [(7, .int v20), (0, .ref 56), (1, .int x1), (2, .int x2), (3, .int x3), (4, .long x4), (6, .int x6)]) dX11_hidden_70 (by decide) rfl ?_
      refine kR.lload dX11_hidden_72 5 rfl ?_
      refine kR.aload_n dX11_hidden_74 1 rfl ?_
      refine kR.iload_n dX11_hidden_75 3 rfl ?_
      refine kR.iload dX11_hidden_76 6 rfl ?_
      obtain ⟨v21, e22, h⟩ := bnr_some h
      refine kR.cVi [.int x2, .int x6] dX11_hidden_78 rfl (by decide) mwX11_440 zp56 (by decide) rfl rfl (Nat.le_of_ble_eq_true rfl) (lX11_weightAt σ18 x2 x6 _ e22) ?_
      refine kR.aload_n dX11_hidden_81 1 rfl ?_
      refine kR.getR (v := 72) dX11_hidden_82 flX11_96 zcf11 zp56 (Or.inr ⟨_, rfl⟩) rfl ?_
      refine kR.aload_n dX11_hidden_85 1 rfl ?_
      refine kR.getI dX11_hidden_86 flX11_51 zcf11 zp56 (Or.inl rfl) ?_
      refine kR.iald dX11_hidden_89 zp72 rfl h (fun v23 h => ?_)
      refine zR.ineg dX11_hidden_90 ?_
      refine kR.aload_n dX11_hidden_91 1 rfl ?_
      refine kR.getR (v := 73) dX11_hidden_92 flX11_99 zcf11 zp56 (Or.inr ⟨_, rfl⟩) rfl ?_
      refine kR.aload_n dX11_hidden_95 1 rfl ?_
      refine kR.getI dX11_hidden_96 flX11_51 zcf11 zp56 (Or.inl rfl) ?_
      refine kR.iald dX11_hidden_99 zp73 rfl h (fun v24 h => ?_)
      refine zR.imul dX11_hidden_100 ?_
      refine zR.bipush (v := 100) dX11_hidden_101 (by decide) ?_
      refine kR.aload_n dX11_hidden_103 1 rfl ?_
      refine kR.getR (v := 72) dX11_hidden_104 flX11_96 zcf11 zp56 (Or.inr ⟨_, rfl⟩) rfl ?_
      refine kR.aload_n dX11_hidden_107 1 rfl ?_
      refine kR.getI dX11_hidden_108 flX11_51 zcf11 zp56 (Or.inl rfl) ?_
      refine kR.iald dX11_hidden_111 zp72 rfl h (fun v25 h => ?_)
      refine zR.isub dX11_hidden_112 ?_
      refine kR.iload dX11_hidden_113 0 rfl ?_
      refine zR.imul dX11_hidden_115 ?_
      refine zR.iadd dX11_hidden_116 ?_
      refine zR.imul dX11_hidden_117 ?_
      refine zR.i2l dX11_hidden_118 ?_
      refine zR.ladd dX11_hidden_119 ?_
      refine kR.nmL h (fun v26 h => ?_)
      refine zR.lstore (i := 4) (ls' := [(4, .long v26), (7, .int v20), (0, .ref 56), (1, .int x1), (2, .int x2), (3, .int x3), (6, .int x6)]) dX11_hidden_120 (by decide) rfl ?_
      refine zR.iinc 6 (v := x6 + 1) (ls' := [(6, .int (x6 + 1)), (4, .long v26), (7, .int v20), (0, .ref 56), (1, .int x1), (2, .int x2), (3, .int x3)]) dX11_hidden_122 rfl rfl (by decide) rfl ?_
      refine zR.goto (tgt := 35) dX11_hidden_125 (by decide) ?_
      refine zR.sub [3, 4, 5, 6, 1, 0] rfl ?_
      exact ih _ _ _ _ _ _ _ h
def fX11_hidden (p1 : Int32) (p2 : Int32) (p3 : Int32) (σ : zS) : Option (Int32 × zS) := bnr (fX11_isHolder σ p1) fun v1 => if v1 = 0 then some ((-1000000000), σ) else bnr (fX11_isTunnel σ p2) fun v3 => if v3 = 0 then some ((-1000000000), σ) else if (fX11_is p3 0 1) = 0 then some ((-1000000000), σ) else fX11_hidden_35 zF p1 p2 p3 0 0 σ
theorem eX11_hidden {sc : Nat × (Nat → Int32)} (p1 : Int32) (p2 : Int32) (p3 : Int32) (σ : zS) (w : Int32 × zS) (h : fX11_hidden p1 p2 p3 σ = some w) : zR (zY0 sc) 7 0 0 mX11_hidden 0 [(0, .ref 56), (1, .int p1), (2, .int p2), (3, .int p3)] [] (zE σ) (some (.int w.1), zE w.2) := by
  unfold fX11_hidden at h
  refine kR.aload_n dX11_hidden_0 0 rfl ?_
  refine kR.iload_n dX11_hidden_1 1 rfl ?_
  obtain ⟨v1, e2, h⟩ := bnr_some h
  refine kR.cVi [.int p1] dX11_hidden_2 rfl (by decide) mwX11_506 zp56 (by decide) rfl rfl (Nat.le_of_ble_eq_true rfl) (lX11_isHolder σ p1 _ e2) ?_
  refine kR.if_eq (tgt := 25) dX11_hidden_5 (by decide) h (fun h => ?_) (fun h => ?_)
  · refine zR.ldcw (v := (-1000000000)) dX11_hidden_25 ciX11_509 ?_
    exact kR.iretW dX11_hidden_28 (nzI rfl _) h
  · refine kR.aload_n dX11_hidden_8 0 rfl ?_
    refine kR.iload_n dX11_hidden_9 2 rfl ?_
    obtain ⟨v3, e4, h⟩ := bnr_some h
    refine kR.cVi [.int p2] dX11_hidden_10 rfl (by decide) mwX11_497 zp56 (by decide) rfl rfl (Nat.le_of_ble_eq_true rfl) (lX11_isTunnel σ p2 _ e4) ?_
    refine kR.if_eq (tgt := 25) dX11_hidden_13 (by decide) h (fun h => ?_) (fun h => ?_)
    · refine zR.ldcw (v := (-1000000000)) dX11_hidden_25 ciX11_509 ?_
      exact kR.iretW dX11_hidden_28 (nzI rfl _) h
    · refine kR.iload_n dX11_hidden_16 3 rfl ?_
      refine zR.iconst (v := 0) dX11_hidden_17 (by decide) ?_
      refine zR.iconst (v := 1) dX11_hidden_18 (by decide) ?_
      refine kR.cSi [.int p3, .int 0, .int 1] dX11_hidden_19 rfl (by decide) (Or.inl mwX11_338) rfl (Nat.le_of_ble_eq_true rfl) (lX11_is p3 0 1) ?_
      refine kR.if_ne (tgt := 29) dX11_hidden_22 (by decide) h (fun h => ?_) (fun h => ?_)
      · refine zR.lconst (v := 0) dX11_hidden_29 (by decide) ?_
        refine zR.lstore (i := 4) (ls' := [(4, .long 0), (0, .ref 56), (1, .int p1), (2, .int p2), (3, .int p3)]) dX11_hidden_30 (by decide) rfl ?_
        refine zR.iconst (v := 0) dX11_hidden_32 (by decide) ?_
        refine zR.istore (i := 6) (ls' := [(6, .int 0), (4, .long 0), (0, .ref 56), (1, .int p1), (2, .int p2), (3, .int p3)]) dX11_hidden_33 (by decide) rfl ?_
        refine zR.sub [2, 3, 4, 5, 1, 0] rfl ?_
        exact kX11_hidden_35 zF _ _ _ _ _ _ _ h
      · refine zR.ldcw (v := (-1000000000)) dX11_hidden_25 ciX11_509 ?_
        exact kR.iretW dX11_hidden_28 (nzI rfl _) h
theorem lX11_hidden {sc : Nat × (Nat → Int32)} (p1 : Int32) (p2 : Int32) (p3 : Int32) (σ : zS) (w : Int32 × zS) (h : fX11_hidden p1 p2 p3 σ = some w) : zC (zY0 sc) 7 0 0 mX11_hidden [.ref 56, .int p1, .int p2, .int p3] (zE σ) (some (.int w.1), zE w.2) := zC.of (by decide +kernel) (Nat.le_of_ble_eq_true rfl) ⟨_, rfl⟩ (eX11_hidden p1 p2 p3 σ w h)
theorem dX11_madeBy_0 : decode cX11_madeBy 0 = .ok (.iconst 0, 1) := by decide +kernel
theorem dX11_madeBy_1 : decode cX11_madeBy 1 = .ok (.istore_n 3, 1) := by decide +kernel
theorem dX11_madeBy_2 : decode cX11_madeBy 2 = .ok (.iconst 0, 1) := by decide +kernel
theorem dX11_madeBy_3 : decode cX11_madeBy 3 = .ok (.istore 4, 2) := by decide +kernel
theorem dX11_madeBy_5 : decode cX11_madeBy 5 = .ok (.iload 4, 2) := by decide +kernel
theorem dX11_madeBy_7 : decode cX11_madeBy 7 = .ok (.aload_n 0, 1) := by decide +kernel
theorem dX11_madeBy_8 : decode cX11_madeBy 8 = .ok (.getfield 69, 3) := by decide +kernel
theorem dX11_madeBy_11 : decode cX11_madeBy 11 = .ok (.aload_n 0, 1) := by decide +kernel
theorem dX11_madeBy_12 : decode cX11_madeBy 12 = .ok (.getfield 51, 3) := by decide +kernel
theorem dX11_madeBy_15 : decode cX11_madeBy 15 = .ok (.iaload, 1) := by decide +kernel
theorem dX11_madeBy_16 : decode cX11_madeBy 16 = .ok (.if_icmp .ge 32, 3) := by decide +kernel
theorem dX11_madeBy_19 : decode cX11_madeBy 19 = .ok (.iload_n 3, 1) := by decide +kernel
theorem dX11_madeBy_20 : decode cX11_madeBy 20 = .ok (.aload_n 0, 1) := by decide +kernel
theorem dX11_madeBy_21 : decode cX11_madeBy 21 = .ok (.iload 4, 2) := by decide +kernel
theorem dX11_madeBy_23 : decode cX11_madeBy 23 = .ok (.iload_n 1, 1) := by decide +kernel
theorem dX11_madeBy_24 : decode cX11_madeBy 24 = .ok (.iload_n 2, 1) := by decide +kernel
theorem dX11_madeBy_25 : decode cX11_madeBy 25 = .ok (.invokevirtual 487, 3) := by decide +kernel
theorem dX11_madeBy_28 : decode cX11_madeBy 28 = .ok (.iload_n 2, 1) := by decide +kernel
theorem dX11_madeBy_29 : decode cX11_madeBy 29 = .ok (.if_icmp .ne 10, 3) := by decide +kernel
theorem dX11_madeBy_32 : decode cX11_madeBy 32 = .ok (.iconst 1, 1) := by decide +kernel
theorem dX11_madeBy_33 : decode cX11_madeBy 33 = .ok (.iload 4, 2) := by decide +kernel
theorem dX11_madeBy_35 : decode cX11_madeBy 35 = .ok (.ishl, 1) := by decide +kernel
theorem dX11_madeBy_36 : decode cX11_madeBy 36 = .ok (.goto 4, 3) := by decide +kernel
theorem dX11_madeBy_39 : decode cX11_madeBy 39 = .ok (.iconst 0, 1) := by decide +kernel
theorem dX11_madeBy_40 : decode cX11_madeBy 40 = .ok (.ior, 1) := by decide +kernel
theorem dX11_madeBy_41 : decode cX11_madeBy 41 = .ok (.istore_n 3, 1) := by decide +kernel
theorem dX11_madeBy_42 : decode cX11_madeBy 42 = .ok (.iinc 4 1, 3) := by decide +kernel
theorem dX11_madeBy_45 : decode cX11_madeBy 45 = .ok (.goto (-40), 3) := by decide +kernel
theorem dX11_madeBy_48 : decode cX11_madeBy 48 = .ok (.iload_n 3, 1) := by decide +kernel
theorem dX11_madeBy_49 : decode cX11_madeBy 49 = .ok (.ireturn, 1) := by decide +kernel
def fX11_madeBy_40 (σ : zS) (r5 : Int32 → Int32 → Int32 → Int32 → Option Int32) (x1 : Int32) (x2 : Int32) (x4 : Int32) (s0 : Int32) (s1 : Int32) : Option Int32 := r5 x1 x2 (s1 ||| s0) (x4 + 1)
theorem kX11_madeBy_40 {sc : Nat × (Nat → Int32)} (σ : zS) (r5 : Int32 → Int32 → Int32 → Int32 → Option Int32) (hr5 : ∀ (x1 : Int32) (x2 : Int32) (x3 : Int32) (x4 : Int32) (w : Int32), r5 x1 x2 x3 x4 = some w → zR (zY0 sc) 3 0 0 mX11_madeBy 5 [(0, .ref 56), (1, .int x1), (2, .int x2), (3, .int x3), (4, .int x4)] [] (zE σ) (some (.int w), zE σ)) (x1 : Int32) (x2 : Int32) (x4 : Int32) (s0 : Int32) (s1 : Int32) (w : Int32) (h : fX11_madeBy_40 σ r5 x1 x2 x4 s0 s1 = some w) : zR (zY0 sc) 3 0 0 mX11_madeBy 40 [(0, .ref 56), (1, .int x1), (2, .int x2), (4, .int x4)] [.int s0, .int s1] (zE σ) (some (.int w), zE σ) := by
  unfold fX11_madeBy_40 at h
  refine zR.ior dX11_madeBy_40 ?_
  refine zR.istore_n (i := 3) (ls' := [(3, .int (s1 ||| s0)), (0, .ref 56), (1, .int x1), (2, .int x2), (4, .int x4)]) dX11_madeBy_41 rfl (by decide) rfl ?_
  refine zR.iinc 4 (v := x4 + 1) (ls' := [(4, .int (x4 + 1)), (3, .int (s1 ||| s0)), (0, .ref 56), (1, .int x1), (2, .int x2)]) dX11_madeBy_42 rfl rfl (by decide) rfl ?_
  refine zR.goto (tgt := 5) dX11_madeBy_45 (by decide) ?_
  refine zR.sub [2, 3, 4, 1, 0] rfl ?_
  exact hr5 _ _ _ _ _ h
def fX11_madeBy_5 (σ : zS) : Nat → Int32 → Int32 → Int32 → Int32 → Option Int32
  | 0, _, _, _, _ => none
  | f + 1, x1, x2, x3, x4 => aI σ 63 2 (iG σ 56 13) fun v1 => if v1 ≤ x4 then some x3 else bnr (fX11_holdOf σ x4 x1 x2) fun v2 => if v2 = x2 then fX11_madeBy_40 σ (fX11_madeBy_5 σ f) x1 x2 x4 (1 <<< (x4 &&& 31)) x3 else fX11_madeBy_40 σ (fX11_madeBy_5 σ f) x1 x2 x4 0 x3
theorem kX11_madeBy_5 {sc : Nat × (Nat → Int32)} (σ : zS) : ∀ (fuel : Nat) (x1 : Int32) (x2 : Int32) (x3 : Int32) (x4 : Int32) (w : Int32) (h : fX11_madeBy_5 σ fuel x1 x2 x3 x4 = some w), zR (zY0 sc) 3 0 0 mX11_madeBy 5 [(0, .ref 56), (1, .int x1), (2, .int x2), (3, .int x3), (4, .int x4)] [] (zE σ) (some (.int w), zE σ) := by
  intro fuel
  induction fuel with
  | zero => intro x1 x2 x3 x4 w h; exact nomatch h
  | succ f ih =>
    intro x1 x2 x3 x4 w h
    rw [fX11_madeBy_5] at h
    refine kR.iload dX11_madeBy_5 4 rfl ?_
    refine kR.aload_n dX11_madeBy_7 0 rfl ?_
    refine kR.getR (v := 63) dX11_madeBy_8 flX11_69 zcf11 zp56 (Or.inr ⟨_, rfl⟩) rfl ?_
    refine kR.aload_n dX11_madeBy_11 0 rfl ?_
    refine kR.getI dX11_madeBy_12 flX11_51 zcf11 zp56 (Or.inl rfl) ?_
    refine kR.iald dX11_madeBy_15 zp63 rfl h (fun v1 h => ?_)
    refine kR.icmp_ge (tgt := 48) dX11_madeBy_16 (by decide) h (fun h => ?_) (fun h => ?_)
    · refine kR.iload_n dX11_madeBy_48 3 rfl ?_
      exact kR.iretO dX11_madeBy_49 (nzI rfl _) h
    · refine kR.iload_n dX11_madeBy_19 3 rfl ?_
      refine kR.aload_n dX11_madeBy_20 0 rfl ?_
      refine kR.iload dX11_madeBy_21 4 rfl ?_
      refine kR.iload_n dX11_madeBy_23 1 rfl ?_
      refine kR.iload_n dX11_madeBy_24 2 rfl ?_
      obtain ⟨v2, e3, h⟩ := bnr_some h
      refine kR.cVi [.int x4, .int x1, .int x2] dX11_madeBy_25 rfl (by decide) mwX11_487 zp56 (by decide) rfl rfl (Nat.le_of_ble_eq_true rfl) (lX11_holdOf σ x4 x1 x2 _ e3) ?_
      refine kR.iload_n dX11_madeBy_28 2 rfl ?_
      refine kR.icmp_ne (tgt := 39) dX11_madeBy_29 (by decide) h (fun h => ?_) (fun h => ?_)
      · refine zR.iconst (v := 0) dX11_madeBy_39 (by decide) ?_
        refine zR.sub [0, 1, 2, 4] rfl ?_
        exact kX11_madeBy_40 σ (fX11_madeBy_5 σ f) ih _ _ _ _ _ _ h
      · refine zR.iconst (v := 1) dX11_madeBy_32 (by decide) ?_
        refine kR.iload dX11_madeBy_33 4 rfl ?_
        refine zR.ishl dX11_madeBy_35 ?_
        refine zR.goto (tgt := 40) dX11_madeBy_36 (by decide) ?_
        refine zR.sub [0, 1, 2, 4] rfl ?_
        exact kX11_madeBy_40 σ (fX11_madeBy_5 σ f) ih _ _ _ _ _ _ h
def fX11_madeBy (σ : zS) (p1 : Int32) (p2 : Int32) : Option Int32 := fX11_madeBy_5 σ zF p1 p2 0 0
theorem eX11_madeBy {sc : Nat × (Nat → Int32)} (σ : zS) (p1 : Int32) (p2 : Int32) (w : Int32) (h : fX11_madeBy σ p1 p2 = some w) : zR (zY0 sc) 3 0 0 mX11_madeBy 0 [(0, .ref 56), (1, .int p1), (2, .int p2)] [] (zE σ) (some (.int w), zE σ) := by
  unfold fX11_madeBy at h
  refine zR.iconst (v := 0) dX11_madeBy_0 (by decide) ?_
  refine zR.istore_n (i := 3) (ls' := [(3, .int 0), (0, .ref 56), (1, .int p1), (2, .int p2)]) dX11_madeBy_1 rfl (by decide) rfl ?_
  refine zR.iconst (v := 0) dX11_madeBy_2 (by decide) ?_
  refine zR.istore (i := 4) (ls' := [(4, .int 0), (3, .int 0), (0, .ref 56), (1, .int p1), (2, .int p2)]) dX11_madeBy_3 (by decide) rfl ?_
  refine zR.sub [2, 3, 4, 1, 0] rfl ?_
  exact kX11_madeBy_5 σ zF _ _ _ _ _ h
theorem lX11_madeBy {sc : Nat × (Nat → Int32)} (σ : zS) (p1 : Int32) (p2 : Int32) (w : Int32) (h : fX11_madeBy σ p1 p2 = some w) : zC (zY0 sc) 3 0 0 mX11_madeBy [.ref 56, .int p1, .int p2] (zE σ) (some (.int w), zE σ) := zC.of (by decide +kernel) (Nat.le_of_ble_eq_true rfl) ⟨_, rfl⟩ (eX11_madeBy σ p1 p2 w h)
theorem dX11_pace_0 : decode cX11_pace 0 = .ok (.aload_n 0, 1) := by decide +kernel
theorem dX11_pace_1 : decode cX11_pace 1 = .ok (.iload_n 1, 1) := by decide +kernel
theorem dX11_pace_2 : decode cX11_pace 2 = .ok (.invokevirtual 497, 3) := by decide +kernel
theorem dX11_pace_5 : decode cX11_pace 5 = .ok (.ifCond .eq 33, 3) := by decide +kernel
theorem dX11_pace_8 : decode cX11_pace 8 = .ok (.iload_n 2, 1) := by decide +kernel
theorem dX11_pace_9 : decode cX11_pace 9 = .ok (.iconst 0, 1) := by decide +kernel
theorem dX11_pace_10 : decode cX11_pace 10 = .ok (.iconst 1, 1) := by decide +kernel
theorem dX11_pace_11 : decode cX11_pace 11 = .ok (.aload_n 0, 1) := by decide +kernel
theorem dX11_pace_12 : decode cX11_pace 12 = .ok (.getfield 69, 3) := by decide +kernel
theorem dX11_pace_15 : decode cX11_pace 15 = .ok (.aload_n 0, 1) := by decide +kernel
theorem dX11_pace_16 : decode cX11_pace 16 = .ok (.getfield 51, 3) := by decide +kernel
theorem dX11_pace_19 : decode cX11_pace 19 = .ok (.iaload, 1) := by decide +kernel
theorem dX11_pace_20 : decode cX11_pace 20 = .ok (.ishl, 1) := by decide +kernel
theorem dX11_pace_21 : decode cX11_pace 21 = .ok (.iconst 1, 1) := by decide +kernel
theorem dX11_pace_22 : decode cX11_pace 22 = .ok (.isub, 1) := by decide +kernel
theorem dX11_pace_23 : decode cX11_pace 23 = .ok (.invokestatic 338, 3) := by decide +kernel
theorem dX11_pace_26 : decode cX11_pace 26 = .ok (.ifCond .eq 12, 3) := by decide +kernel
theorem dX11_pace_29 : decode cX11_pace 29 = .ok (.iload_n 3, 1) := by decide +kernel
theorem dX11_pace_30 : decode cX11_pace 30 = .ok (.iconst 0, 1) := by decide +kernel
theorem dX11_pace_31 : decode cX11_pace 31 = .ok (.iconst 1, 1) := by decide +kernel
theorem dX11_pace_32 : decode cX11_pace 32 = .ok (.invokestatic 338, 3) := by decide +kernel
theorem dX11_pace_35 : decode cX11_pace 35 = .ok (.ifCond .ne 5, 3) := by decide +kernel
theorem dX11_pace_38 : decode cX11_pace 38 = .ok (.iconst (-1), 1) := by decide +kernel
theorem dX11_pace_39 : decode cX11_pace 39 = .ok (.ireturn, 1) := by decide +kernel
theorem dX11_pace_40 : decode cX11_pace 40 = .ok (.iconst 1, 1) := by decide +kernel
theorem dX11_pace_41 : decode cX11_pace 41 = .ok (.istore 4, 2) := by decide +kernel
theorem dX11_pace_43 : decode cX11_pace 43 = .ok (.iconst (-1), 1) := by decide +kernel
theorem dX11_pace_44 : decode cX11_pace 44 = .ok (.istore 5, 2) := by decide +kernel
theorem dX11_pace_46 : decode cX11_pace 46 = .ok (.iconst 1, 1) := by decide +kernel
theorem dX11_pace_47 : decode cX11_pace 47 = .ok (.istore 6, 2) := by decide +kernel
theorem dX11_pace_49 : decode cX11_pace 49 = .ok (.iload 6, 2) := by decide +kernel
theorem dX11_pace_51 : decode cX11_pace 51 = .ok (.iconst 4, 1) := by decide +kernel
theorem dX11_pace_52 : decode cX11_pace 52 = .ok (.if_icmp .gt 98, 3) := by decide +kernel
theorem dX11_pace_55 : decode cX11_pace 55 = .ok (.iconst 0, 1) := by decide +kernel
theorem dX11_pace_56 : decode cX11_pace 56 = .ok (.istore 7, 2) := by decide +kernel
theorem dX11_pace_58 : decode cX11_pace 58 = .ok (.iconst 0, 1) := by decide +kernel
theorem dX11_pace_59 : decode cX11_pace 59 = .ok (.istore 8, 2) := by decide +kernel
theorem dX11_pace_61 : decode cX11_pace 61 = .ok (.iload 8, 2) := by decide +kernel
theorem dX11_pace_63 : decode cX11_pace 63 = .ok (.aload_n 0, 1) := by decide +kernel
theorem dX11_pace_64 : decode cX11_pace 64 = .ok (.iload_n 1, 1) := by decide +kernel
theorem dX11_pace_65 : decode cX11_pace 65 = .ok (.invokevirtual 437, 3) := by decide +kernel
theorem dX11_pace_68 : decode cX11_pace 68 = .ok (.if_icmp .ge 58, 3) := by decide +kernel
theorem dX11_pace_71 : decode cX11_pace 71 = .ok (.aload_n 0, 1) := by decide +kernel
theorem dX11_pace_72 : decode cX11_pace 72 = .ok (.iload_n 1, 1) := by decide +kernel
theorem dX11_pace_73 : decode cX11_pace 73 = .ok (.iload 8, 2) := by decide +kernel
theorem dX11_pace_75 : decode cX11_pace 75 = .ok (.invokevirtual 503, 3) := by decide +kernel
theorem dX11_pace_78 : decode cX11_pace 78 = .ok (.iload 6, 2) := by decide +kernel
theorem dX11_pace_80 : decode cX11_pace 80 = .ok (.idiv, 1) := by decide +kernel
theorem dX11_pace_81 : decode cX11_pace 81 = .ok (.istore 9, 2) := by decide +kernel
theorem dX11_pace_83 : decode cX11_pace 83 = .ok (.iload 7, 2) := by decide +kernel
theorem dX11_pace_85 : decode cX11_pace 85 = .ok (.aload_n 0, 1) := by decide +kernel
theorem dX11_pace_86 : decode cX11_pace 86 = .ok (.iload_n 1, 1) := by decide +kernel
theorem dX11_pace_87 : decode cX11_pace 87 = .ok (.iload 9, 2) := by decide +kernel
theorem dX11_pace_89 : decode cX11_pace 89 = .ok (.iconst 1, 1) := by decide +kernel
theorem dX11_pace_90 : decode cX11_pace 90 = .ok (.if_icmp .ge 7, 3) := by decide +kernel
theorem dX11_pace_93 : decode cX11_pace 93 = .ok (.iconst 1, 1) := by decide +kernel
theorem dX11_pace_94 : decode cX11_pace 94 = .ok (.goto 5, 3) := by decide +kernel
theorem dX11_pace_97 : decode cX11_pace 97 = .ok (.iload 9, 2) := by decide +kernel
theorem dX11_pace_99 : decode cX11_pace 99 = .ok (.invokevirtual 548, 3) := by decide +kernel
theorem dX11_pace_102 : decode cX11_pace 102 = .ok (.iload_n 2, 1) := by decide +kernel
theorem dX11_pace_103 : decode cX11_pace 103 = .ok (.if_icmp .ne 13, 3) := by decide +kernel
theorem dX11_pace_106 : decode cX11_pace 106 = .ok (.aload_n 0, 1) := by decide +kernel
theorem dX11_pace_107 : decode cX11_pace 107 = .ok (.iload_n 1, 1) := by decide +kernel
theorem dX11_pace_108 : decode cX11_pace 108 = .ok (.iload 8, 2) := by decide +kernel
theorem dX11_pace_110 : decode cX11_pace 110 = .ok (.invokevirtual 440, 3) := by decide +kernel
theorem dX11_pace_113 : decode cX11_pace 113 = .ok (.goto 4, 3) := by decide +kernel
theorem dX11_pace_116 : decode cX11_pace 116 = .ok (.iconst 0, 1) := by decide +kernel
theorem dX11_pace_117 : decode cX11_pace 117 = .ok (.iadd, 1) := by decide +kernel
theorem dX11_pace_118 : decode cX11_pace 118 = .ok (.istore 7, 2) := by decide +kernel
theorem dX11_pace_120 : decode cX11_pace 120 = .ok (.iinc 8 1, 3) := by decide +kernel
theorem dX11_pace_123 : decode cX11_pace 123 = .ok (.goto (-62), 3) := by decide +kernel
theorem dX11_pace_126 : decode cX11_pace 126 = .ok (.iload 7, 2) := by decide +kernel
theorem dX11_pace_128 : decode cX11_pace 128 = .ok (.iload 5, 2) := by decide +kernel
theorem dX11_pace_130 : decode cX11_pace 130 = .ok (.if_icmp .gt 6, 3) := by decide +kernel
theorem dX11_pace_133 : decode cX11_pace 133 = .ok (.goto 11, 3) := by decide +kernel
theorem dX11_pace_136 : decode cX11_pace 136 = .ok (.iload 7, 2) := by decide +kernel
theorem dX11_pace_138 : decode cX11_pace 138 = .ok (.istore 5, 2) := by decide +kernel
theorem dX11_pace_140 : decode cX11_pace 140 = .ok (.iload 6, 2) := by decide +kernel
theorem dX11_pace_142 : decode cX11_pace 142 = .ok (.istore 4, 2) := by decide +kernel
theorem dX11_pace_144 : decode cX11_pace 144 = .ok (.iinc 6 1, 3) := by decide +kernel
theorem dX11_pace_147 : decode cX11_pace 147 = .ok (.goto (-98), 3) := by decide +kernel
theorem dX11_pace_150 : decode cX11_pace 150 = .ok (.iload_n 3, 1) := by decide +kernel
theorem dX11_pace_151 : decode cX11_pace 151 = .ok (.ifCond .ne 8, 3) := by decide +kernel
theorem dX11_pace_154 : decode cX11_pace 154 = .ok (.iload 4, 2) := by decide +kernel
theorem dX11_pace_156 : decode cX11_pace 156 = .ok (.goto 15, 3) := by decide +kernel
theorem dX11_pace_159 : decode cX11_pace 159 = .ok (.sipush 1000, 3) := by decide +kernel
theorem dX11_pace_162 : decode cX11_pace 162 = .ok (.iload 5, 2) := by decide +kernel
theorem dX11_pace_164 : decode cX11_pace 164 = .ok (.imul, 1) := by decide +kernel
theorem dX11_pace_165 : decode cX11_pace 165 = .ok (.aload_n 0, 1) := by decide +kernel
theorem dX11_pace_166 : decode cX11_pace 166 = .ok (.iload_n 1, 1) := by decide +kernel
theorem dX11_pace_167 : decode cX11_pace 167 = .ok (.invokevirtual 500, 3) := by decide +kernel
theorem dX11_pace_170 : decode cX11_pace 170 = .ok (.idiv, 1) := by decide +kernel
theorem dX11_pace_171 : decode cX11_pace 171 = .ok (.ireturn, 1) := by decide +kernel
def fX11_pace_144 (σ : zS) (r49 : Int32 → Int32 → Int32 → Int32 → Int32 → Int32 → Option Int32) (x1 : Int32) (x2 : Int32) (x3 : Int32) (x4 : Int32) (x5 : Int32) (x6 : Int32) : Option Int32 := r49 x1 x2 x3 x4 x5 (x6 + 1)
theorem kX11_pace_144 {sc : Nat × (Nat → Int32)} (σ : zS) (r49 : Int32 → Int32 → Int32 → Int32 → Int32 → Int32 → Option Int32) (hr49 : ∀ (x1 : Int32) (x2 : Int32) (x3 : Int32) (x4 : Int32) (x5 : Int32) (x6 : Int32) (w : Int32), r49 x1 x2 x3 x4 x5 x6 = some w → zR (zY0 sc) 4 0 0 mX11_pace 49 [(0, .ref 56), (1, .int x1), (2, .int x2), (3, .int x3), (4, .int x4), (5, .int x5), (6, .int x6)] [] (zE σ) (some (.int w), zE σ)) (x1 : Int32) (x2 : Int32) (x3 : Int32) (x4 : Int32) (x5 : Int32) (x6 : Int32) (w : Int32) (h : fX11_pace_144 σ r49 x1 x2 x3 x4 x5 x6 = some w) : zR (zY0 sc) 4 0 0 mX11_pace 144 [(0, .ref 56), (1, .int x1), (2, .int x2), (3, .int x3), (4, .int x4), (5, .int x5), (6, .int x6)] [] (zE σ) (some (.int w), zE σ) := by
  unfold fX11_pace_144 at h
  refine zR.iinc 6 (v := x6 + 1) (ls' := [(6, .int (x6 + 1)), (0, .ref 56), (1, .int x1), (2, .int x2), (3, .int x3), (4, .int x4), (5, .int x5)]) dX11_pace_144 rfl rfl (by decide) rfl ?_
  refine zR.goto (tgt := 49) dX11_pace_147 (by decide) ?_
  refine zR.sub [1, 2, 3, 4, 5, 6, 0] rfl ?_
  exact hr49 _ _ _ _ _ _ _ h
def fX11_pace_117 (σ : zS) (r49 : Int32 → Int32 → Int32 → Int32 → Int32 → Int32 → Option Int32) (r61 : Int32 → Int32 → Int32 → Int32 → Int32 → Int32 → Int32 → Int32 → Option Int32) (x1 : Int32) (x2 : Int32) (x3 : Int32) (x4 : Int32) (x5 : Int32) (x6 : Int32) (x8 : Int32) (s0 : Int32) (s1 : Int32) : Option Int32 := r61 x1 x2 x3 x4 x5 x6 (s1 + s0) (x8 + 1)
theorem kX11_pace_117 {sc : Nat × (Nat → Int32)} (σ : zS) (r49 : Int32 → Int32 → Int32 → Int32 → Int32 → Int32 → Option Int32) (r61 : Int32 → Int32 → Int32 → Int32 → Int32 → Int32 → Int32 → Int32 → Option Int32) (hr49 : ∀ (x1 : Int32) (x2 : Int32) (x3 : Int32) (x4 : Int32) (x5 : Int32) (x6 : Int32) (w : Int32), r49 x1 x2 x3 x4 x5 x6 = some w → zR (zY0 sc) 4 0 0 mX11_pace 49 [(0, .ref 56), (1, .int x1), (2, .int x2), (3, .int x3), (4, .int x4), (5, .int x5), (6, .int x6)] [] (zE σ) (some (.int w), zE σ)) (hr61 : ∀ (x1 : Int32) (x2 : Int32) (x3 : Int32) (x4 : Int32) (x5 : Int32) (x6 : Int32) (x7 : Int32) (x8 : Int32) (w : Int32), r61 x1 x2 x3 x4 x5 x6 x7 x8 = some w → zR (zY0 sc) 4 0 0 mX11_pace 61 [(0, .ref 56), (1, .int x1), (2, .int x2), (3, .int x3), (4, .int x4), (5, .int x5), (6, .int x6), (7, .int x7), (8, .int x8)] [] (zE σ) (some (.int w), zE σ)) (x1 : Int32) (x2 : Int32) (x3 : Int32) (x4 : Int32) (x5 : Int32) (x6 : Int32) (x8 : Int32) (s0 : Int32) (s1 : Int32) (w : Int32) (h : fX11_pace_117 σ r49 r61 x1 x2 x3 x4 x5 x6 x8 s0 s1 = some w) : zR (zY0 sc) 4 0 0 mX11_pace 117 [(0, .ref 56), (1, .int x1), (2, .int x2), (3, .int x3), (4, .int x4), (5, .int x5), (6, .int x6), (8, .int x8)] [.int s0, .int s1] (zE σ) (some (.int w), zE σ) := by
  unfold fX11_pace_117 at h
  refine zR.iadd dX11_pace_117 ?_
  refine zR.istore (i := 7) (ls' := [(7, .int (s1 + s0)), (0, .ref 56), (1, .int x1), (2, .int x2), (3, .int x3), (4, .int x4), (5, .int x5), (6, .int x6), (8, .int x8)]) dX11_pace_118 (by decide) rfl ?_
  refine zR.iinc 8 (v := x8 + 1) (ls' := [(8, .int (x8 + 1)), (7, .int (s1 + s0)), (0, .ref 56), (1, .int x1), (2, .int x2), (3, .int x3), (4, .int x4), (5, .int x5), (6, .int x6)]) dX11_pace_120 rfl rfl (by decide) rfl ?_
  refine zR.goto (tgt := 61) dX11_pace_123 (by decide) ?_
  refine zR.sub [2, 3, 4, 5, 6, 7, 8, 1, 0] rfl ?_
  exact hr61 _ _ _ _ _ _ _ _ _ h
def fX11_pace_99 (σ : zS) (r49 : Int32 → Int32 → Int32 → Int32 → Int32 → Int32 → Option Int32) (r61 : Int32 → Int32 → Int32 → Int32 → Int32 → Int32 → Int32 → Int32 → Option Int32) (x1 : Int32) (x2 : Int32) (x3 : Int32) (x4 : Int32) (x5 : Int32) (x6 : Int32) (x8 : Int32) (s0 : Int32) (s1 : Int32) (s3 : Int32) : Option Int32 := bnr (fX11_madeBy σ s1 s0) fun v10 => if v10 = x2 then bnr (fX11_weightAt σ x1 x8) fun v12 => fX11_pace_117 σ r49 r61 x1 x2 x3 x4 x5 x6 x8 v12 s3 else fX11_pace_117 σ r49 r61 x1 x2 x3 x4 x5 x6 x8 0 s3
theorem kX11_pace_99 {sc : Nat × (Nat → Int32)} (σ : zS) (r49 : Int32 → Int32 → Int32 → Int32 → Int32 → Int32 → Option Int32) (r61 : Int32 → Int32 → Int32 → Int32 → Int32 → Int32 → Int32 → Int32 → Option Int32) (hr49 : ∀ (x1 : Int32) (x2 : Int32) (x3 : Int32) (x4 : Int32) (x5 : Int32) (x6 : Int32) (w : Int32), r49 x1 x2 x3 x4 x5 x6 = some w → zR (zY0 sc) 4 0 0 mX11_pace 49 [(0, .ref 56), (1, .int x1), (2, .int x2), (3, .int x3), (4, .int x4), (5, .int x5), (6, .int x6)] [] (zE σ) (some (.int w), zE σ)) (hr61 : ∀ (x1 : Int32) (x2 : Int32) (x3 : Int32) (x4 : Int32) (x5 : Int32) (x6 : Int32) (x7 : Int32) (x8 : Int32) (w : Int32), r61 x1 x2 x3 x4 x5 x6 x7 x8 = some w → zR (zY0 sc) 4 0 0 mX11_pace 61 [(0, .ref 56), (1, .int x1), (2, .int x2), (3, .int x3), (4, .int x4), (5, .int x5), (6, .int x6), (7, .int x7), (8, .int x8)] [] (zE σ) (some (.int w), zE σ)) (x1 : Int32) (x2 : Int32) (x3 : Int32) (x4 : Int32) (x5 : Int32) (x6 : Int32) (x8 : Int32) (s0 : Int32) (s1 : Int32) (s3 : Int32) (w : Int32) (h : fX11_pace_99 σ r49 r61 x1 x2 x3 x4 x5 x6 x8 s0 s1 s3 = some w) : zR (zY0 sc) 4 0 0 mX11_pace 99 [(0, .ref 56), (1, .int x1), (2, .int x2), (3, .int x3), (4, .int x4), (5, .int x5), (6, .int x6), (8, .int x8)] [.int s0, .int s1, .ref 56, .int s3] (zE σ) (some (.int w), zE σ) := by
  unfold fX11_pace_99 at h
  obtain ⟨v10, e11, h⟩ := bnr_some h
  refine kR.cVi [.int s1, .int s0] dX11_pace_99 rfl (by decide) mwX11_548 zp56 (by decide) rfl rfl (Nat.le_of_ble_eq_true rfl) (lX11_madeBy σ s1 s0 _ e11) ?_
  refine kR.iload_n dX11_pace_102 2 rfl ?_
  refine kR.icmp_ne (tgt := 116) dX11_pace_103 (by decide) h (fun h => ?_) (fun h => ?_)
  · refine zR.iconst (v := 0) dX11_pace_116 (by decide) ?_
    exact kX11_pace_117 σ r49 r61 hr49 hr61 _ _ _ _ _ _ _ _ _ _ h
  · refine kR.aload_n dX11_pace_106 0 rfl ?_
    refine kR.iload_n dX11_pace_107 1 rfl ?_
    refine kR.iload dX11_pace_108 7 rfl ?_
    obtain ⟨v12, e13, h⟩ := bnr_some h
    refine kR.cVi [.int x1, .int x8] dX11_pace_110 rfl (by decide) mwX11_440 zp56 (by decide) rfl rfl (Nat.le_of_ble_eq_true rfl) (lX11_weightAt σ x1 x8 _ e13) ?_
    refine zR.goto (tgt := 117) dX11_pace_113 (by decide) ?_
    exact kX11_pace_117 σ r49 r61 hr49 hr61 _ _ _ _ _ _ _ _ _ _ h
def fX11_pace_61 (σ : zS) (r49 : Int32 → Int32 → Int32 → Int32 → Int32 → Int32 → Option Int32) : Nat → Int32 → Int32 → Int32 → Int32 → Int32 → Int32 → Int32 → Int32 → Option Int32
  | 0, _, _, _, _, _, _, _, _ => none
  | f + 1, x1, x2, x3, x4, x5, x6, x7, x8 => bnr (fX11_lengthsOf σ x1) fun v6 => if v6 ≤ x8 then if x5 < x7 then fX11_pace_144 σ r49 x1 x2 x3 x6 x7 x6 else fX11_pace_144 σ r49 x1 x2 x3 x4 x5 x6 else bnr (fX11_lengthAt σ x1 x8) fun v8 => gd (¬ x6 = 0) (if 1 ≤ (v8 / x6) then fX11_pace_99 σ r49 (fX11_pace_61 σ r49 f) x1 x2 x3 x4 x5 x6 x8 (v8 / x6) x1 x7 else fX11_pace_99 σ r49 (fX11_pace_61 σ r49 f) x1 x2 x3 x4 x5 x6 x8 1 x1 x7)
theorem kX11_pace_61 {sc : Nat × (Nat → Int32)} (σ : zS) (r49 : Int32 → Int32 → Int32 → Int32 → Int32 → Int32 → Option Int32) (hr49 : ∀ (x1 : Int32) (x2 : Int32) (x3 : Int32) (x4 : Int32) (x5 : Int32) (x6 : Int32) (w : Int32), r49 x1 x2 x3 x4 x5 x6 = some w → zR (zY0 sc) 4 0 0 mX11_pace 49 [(0, .ref 56), (1, .int x1), (2, .int x2), (3, .int x3), (4, .int x4), (5, .int x5), (6, .int x6)] [] (zE σ) (some (.int w), zE σ)) : ∀ (fuel : Nat) (x1 : Int32) (x2 : Int32) (x3 : Int32) (x4 : Int32) (x5 : Int32) (x6 : Int32) (x7 : Int32) (x8 : Int32) (w : Int32) (h : fX11_pace_61 σ r49 fuel x1 x2 x3 x4 x5 x6 x7 x8 = some w), zR (zY0 sc) 4 0 0 mX11_pace 61 [(0, .ref 56), (1, .int x1), (2, .int x2), (3, .int x3), (4, .int x4), (5, .int x5), (6, .int x6), (7, .int x7), (8, .int x8)] [] (zE σ) (some (.int w), zE σ) := by
  intro fuel
  induction fuel with
  | zero => intro x1 x2 x3 x4 x5 x6 x7 x8 w h; exact nomatch h
  | succ f ih =>
    intro x1 x2 x3 x4 x5 x6 x7 x8 w h
    rw [fX11_pace_61] at h
    refine kR.iload dX11_pace_61 8 rfl ?_
    refine kR.aload_n dX11_pace_63 0 rfl ?_
    refine kR.iload_n dX11_pace_64 1 rfl ?_
    obtain ⟨v6, e7, h⟩ := bnr_some h
    refine kR.cVi [.int x1] dX11_pace_65 rfl (by decide) mwX11_437 zp56 (by decide) rfl rfl (Nat.le_of_ble_eq_true rfl) (lX11_lengthsOf σ x1 _ e7) ?_
    refine kR.icmp_ge (tgt := 126) dX11_pace_68 (by decide) h (fun h => ?_) (fun h => ?_)
    · refine kR.iload dX11_pace_126 7 rfl ?_
      refine kR.iload dX11_pace_128 5 rfl ?_
      refine kR.icmp_gt (tgt := 136) dX11_pace_130 (by decide) h (fun h => ?_) (fun h => ?_)
      · refine kR.iload dX11_pace_136 7 rfl ?_
        refine zR.istore (i := 5) (ls' := [(5, .int x7), (0, .ref 56), (1, .int x1), (2, .int x2), (3, .int x3), (4, .int x4), (6, .int x6), (7, .int x7), (8, .int x8)]) dX11_pace_138 (by decide) rfl ?_
        refine kR.iload dX11_pace_140 6 rfl ?_
        refine zR.istore (i := 4) (ls' := [(4, .int x6), (5, .int x7), (0, .ref 56), (1, .int x1), (2, .int x2), (3, .int x3), (6, .int x6), (7, .int x7), (8, .int x8)]) dX11_pace_142 (by decide) rfl ?_
        refine zR.sub [2, 3, 4, 5, 0, 1, 6] rfl ?_
        exact kX11_pace_144 σ r49 hr49 _ _ _ _ _ _ _ h
      · refine zR.goto (tgt := 144) dX11_pace_133 (by decide) ?_
        refine zR.sub [0, 1, 2, 3, 4, 5, 6] rfl ?_
        exact kX11_pace_144 σ r49 hr49 _ _ _ _ _ _ _ h
    · refine kR.aload_n dX11_pace_71 0 rfl ?_
      refine kR.iload_n dX11_pace_72 1 rfl ?_
      refine kR.iload dX11_pace_73 8 rfl ?_
      obtain ⟨v8, e9, h⟩ := bnr_some h
      refine kR.cVi [.int x1, .int x8] dX11_pace_75 rfl (by decide) mwX11_503 zp56 (by decide) rfl rfl (Nat.le_of_ble_eq_true rfl) (lX11_lengthAt σ x1 x8 _ e9) ?_
      refine kR.iload dX11_pace_78 6 rfl ?_
      refine kR.idiv dX11_pace_80 h (fun h => ?_)
      refine zR.istore (i := 9) (ls' := [(9, .int (v8 / x6)), (0, .ref 56), (1, .int x1), (2, .int x2), (3, .int x3), (4, .int x4), (5, .int x5), (6, .int x6), (7, .int x7), (8, .int x8)]) dX11_pace_81 (by decide) rfl ?_
      refine kR.iload dX11_pace_83 8 rfl ?_
      refine kR.aload_n dX11_pace_85 1 rfl ?_
      refine kR.iload_n dX11_pace_86 2 rfl ?_
      refine kR.iload dX11_pace_87 0 rfl ?_
      refine zR.iconst (v := 1) dX11_pace_89 (by decide) ?_
      refine kR.icmp_ge (tgt := 97) dX11_pace_90 (by decide) h (fun h => ?_) (fun h => ?_)
      · refine kR.iload dX11_pace_97 0 rfl ?_
        refine zR.sub [1, 2, 3, 4, 5, 6, 7, 9] rfl ?_
        exact kX11_pace_99 σ r49 (fX11_pace_61 σ r49 f) hr49 ih _ _ _ _ _ _ _ _ _ _ _ h
      · refine zR.iconst (v := 1) dX11_pace_93 (by decide) ?_
        refine zR.goto (tgt := 99) dX11_pace_94 (by decide) ?_
        refine zR.sub [1, 2, 3, 4, 5, 6, 7, 9] rfl ?_
        exact kX11_pace_99 σ r49 (fX11_pace_61 σ r49 f) hr49 ih _ _ _ _ _ _ _ _ _ _ _ h
def fX11_pace_49 (σ : zS) : Nat → Int32 → Int32 → Int32 → Int32 → Int32 → Int32 → Option Int32
  | 0, _, _, _, _, _, _ => none
  | f + 1, x1, x2, x3, x4, x5, x6 => if 4 < x6 then if x3 = 0 then some x4 else bnr (fX11_weights σ x1) fun v4 => gd (¬ v4 = 0) (some ((1000 * x5) / v4)) else fX11_pace_61 σ (fX11_pace_49 σ f) zF x1 x2 x3 x4 x5 x6 0 0
theorem kX11_pace_49 {sc : Nat × (Nat → Int32)} (σ : zS) : ∀ (fuel : Nat) (x1 : Int32) (x2 : Int32) (x3 : Int32) (x4 : Int32) (x5 : Int32) (x6 : Int32) (w : Int32) (h : fX11_pace_49 σ fuel x1 x2 x3 x4 x5 x6 = some w), zR (zY0 sc) 4 0 0 mX11_pace 49 [(0, .ref 56), (1, .int x1), (2, .int x2), (3, .int x3), (4, .int x4), (5, .int x5), (6, .int x6)] [] (zE σ) (some (.int w), zE σ) := by
  intro fuel
  induction fuel with
  | zero => intro x1 x2 x3 x4 x5 x6 w h; exact nomatch h
  | succ f ih =>
    intro x1 x2 x3 x4 x5 x6 w h
    rw [fX11_pace_49] at h
    refine kR.iload dX11_pace_49 6 rfl ?_
    refine zR.iconst (v := 4) dX11_pace_51 (by decide) ?_
    refine kR.icmp_gt (tgt := 150) dX11_pace_52 (by decide) h (fun h => ?_) (fun h => ?_)
    · refine kR.iload_n dX11_pace_150 3 rfl ?_
      refine kR.if_ne (tgt := 159) dX11_pace_151 (by decide) h (fun h => ?_) (fun h => ?_)
      · refine zR.sipush (v := 1000) dX11_pace_159 (by decide) ?_
        refine kR.iload dX11_pace_162 5 rfl ?_
        refine zR.imul dX11_pace_164 ?_
        refine kR.aload_n dX11_pace_165 0 rfl ?_
        refine kR.iload_n dX11_pace_166 1 rfl ?_
        obtain ⟨v4, e5, h⟩ := bnr_some h
        refine kR.cVi [.int x1] dX11_pace_167 rfl (by decide) mwX11_500 zp56 (by decide) rfl rfl (Nat.le_of_ble_eq_true rfl) (lX11_weights σ x1 _ e5) ?_
        refine kR.idiv dX11_pace_170 h (fun h => ?_)
        exact kR.iretO dX11_pace_171 (nzI rfl _) h
      · refine kR.iload dX11_pace_154 4 rfl ?_
        refine zR.goto (tgt := 171) dX11_pace_156 (by decide) ?_
        exact kR.iretO dX11_pace_171 (nzI rfl _) h
    · refine zR.iconst (v := 0) dX11_pace_55 (by decide) ?_
      refine zR.istore (i := 7) (ls' := [(7, .int 0), (0, .ref 56), (1, .int x1), (2, .int x2), (3, .int x3), (4, .int x4), (5, .int x5), (6, .int x6)]) dX11_pace_56 (by decide) rfl ?_
      refine zR.iconst (v := 0) dX11_pace_58 (by decide) ?_
      refine zR.istore (i := 8) (ls' := [(8, .int 0), (7, .int 0), (0, .ref 56), (1, .int x1), (2, .int x2), (3, .int x3), (4, .int x4), (5, .int x5), (6, .int x6)]) dX11_pace_59 (by decide) rfl ?_
      refine zR.sub [2, 3, 4, 5, 6, 7, 8, 1, 0] rfl ?_
      exact kX11_pace_61 σ (fX11_pace_49 σ f) ih zF _ _ _ _ _ _ _ _ _ h
def fX11_pace (σ : zS) (p1 : Int32) (p2 : Int32) (p3 : Int32) : Option Int32 := bnr (fX11_isTunnel σ p1) fun v1 => if v1 = 0 then some ((-1)) else aI σ 63 2 (iG σ 56 13) fun v3 => if (fX11_is p2 0 ((1 <<< (v3 &&& 31)) - 1)) = 0 then some ((-1)) else if (fX11_is p3 0 1) = 0 then some ((-1)) else fX11_pace_49 σ zF p1 p2 p3 1 ((-1)) 1
theorem eX11_pace {sc : Nat × (Nat → Int32)} (σ : zS) (p1 : Int32) (p2 : Int32) (p3 : Int32) (w : Int32) (h : fX11_pace σ p1 p2 p3 = some w) : zR (zY0 sc) 4 0 0 mX11_pace 0 [(0, .ref 56), (1, .int p1), (2, .int p2), (3, .int p3)] [] (zE σ) (some (.int w), zE σ) := by
  unfold fX11_pace at h
  refine kR.aload_n dX11_pace_0 0 rfl ?_
  refine kR.iload_n dX11_pace_1 1 rfl ?_
  obtain ⟨v1, e2, h⟩ := bnr_some h
  refine kR.cVi [.int p1] dX11_pace_2 rfl (by decide) mwX11_497 zp56 (by decide) rfl rfl (Nat.le_of_ble_eq_true rfl) (lX11_isTunnel σ p1 _ e2) ?_
  refine kR.if_eq (tgt := 38) dX11_pace_5 (by decide) h (fun h => ?_) (fun h => ?_)
  · refine zR.iconst (v := (-1)) dX11_pace_38 (by decide) ?_
    exact kR.iretO dX11_pace_39 (nzI rfl _) h
  · refine kR.iload_n dX11_pace_8 2 rfl ?_
    refine zR.iconst (v := 0) dX11_pace_9 (by decide) ?_
    refine zR.iconst (v := 1) dX11_pace_10 (by decide) ?_
    refine kR.aload_n dX11_pace_11 0 rfl ?_
    refine kR.getR (v := 63) dX11_pace_12 flX11_69 zcf11 zp56 (Or.inr ⟨_, rfl⟩) rfl ?_
    refine kR.aload_n dX11_pace_15 0 rfl ?_
    refine kR.getI dX11_pace_16 flX11_51 zcf11 zp56 (Or.inl rfl) ?_
    refine kR.iald dX11_pace_19 zp63 rfl h (fun v3 h => ?_)
    refine zR.ishl dX11_pace_20 ?_
    refine zR.iconst (v := 1) dX11_pace_21 (by decide) ?_
    refine zR.isub dX11_pace_22 ?_
    refine kR.cSi [.int p2, .int 0, .int ((1 <<< (v3 &&& 31)) - 1)] dX11_pace_23 rfl (by decide) (Or.inl mwX11_338) rfl (Nat.le_of_ble_eq_true rfl) (lX11_is p2 0 ((1 <<< (v3 &&& 31)) - 1)) ?_
    refine kR.if_eq (tgt := 38) dX11_pace_26 (by decide) h (fun h => ?_) (fun h => ?_)
    · refine zR.iconst (v := (-1)) dX11_pace_38 (by decide) ?_
      exact kR.iretO dX11_pace_39 (nzI rfl _) h
    · refine kR.iload_n dX11_pace_29 3 rfl ?_
      refine zR.iconst (v := 0) dX11_pace_30 (by decide) ?_
      refine zR.iconst (v := 1) dX11_pace_31 (by decide) ?_
      refine kR.cSi [.int p3, .int 0, .int 1] dX11_pace_32 rfl (by decide) (Or.inl mwX11_338) rfl (Nat.le_of_ble_eq_true rfl) (lX11_is p3 0 1) ?_
      refine kR.if_ne (tgt := 40) dX11_pace_35 (by decide) h (fun h => ?_) (fun h => ?_)
      · refine zR.iconst (v := 1) dX11_pace_40 (by decide) ?_
        refine zR.istore (i := 4) (ls' := [(4, .int 1), (0, .ref 56), (1, .int p1), (2, .int p2), (3, .int p3)]) dX11_pace_41 (by decide) rfl ?_
        refine zR.iconst (v := (-1)) dX11_pace_43 (by decide) ?_
        refine zR.istore (i := 5) (ls' := [(5, .int ((-1))), (4, .int 1), (0, .ref 56), (1, .int p1), (2, .int p2), (3, .int p3)]) dX11_pace_44 (by decide) rfl ?_
        refine zR.iconst (v := 1) dX11_pace_46 (by decide) ?_
        refine zR.istore (i := 6) (ls' := [(6, .int 1), (5, .int ((-1))), (4, .int 1), (0, .ref 56), (1, .int p1), (2, .int p2), (3, .int p3)]) dX11_pace_47 (by decide) rfl ?_
        refine zR.sub [3, 4, 5, 6, 2, 1, 0] rfl ?_
        exact kX11_pace_49 σ zF _ _ _ _ _ _ _ h
      · refine zR.iconst (v := (-1)) dX11_pace_38 (by decide) ?_
        exact kR.iretO dX11_pace_39 (nzI rfl _) h
theorem lX11_pace {sc : Nat × (Nat → Int32)} (σ : zS) (p1 : Int32) (p2 : Int32) (p3 : Int32) (w : Int32) (h : fX11_pace σ p1 p2 p3 = some w) : zC (zY0 sc) 4 0 0 mX11_pace [.ref 56, .int p1, .int p2, .int p3] (zE σ) (some (.int w), zE σ) := zC.of (by decide +kernel) (Nat.le_of_ble_eq_true rfl) ⟨_, rfl⟩ (eX11_pace σ p1 p2 p3 w h)
theorem dX11_whom_0 : decode cX11_whom 0 = .ok (.aload_n 0, 1) := by decide +kernel
theorem dX11_whom_1 : decode cX11_whom 1 = .ok (.iload_n 1, 1) := by decide +kernel
theorem dX11_whom_2 : decode cX11_whom 2 = .ok (.invokevirtual 506, 3) := by decide +kernel
theorem dX11_whom_5 : decode cX11_whom 5 = .ok (.ifCond .eq 20, 3) := by decide +kernel
theorem dX11_whom_8 : decode cX11_whom 8 = .ok (.aload_n 0, 1) := by decide +kernel
theorem dX11_whom_9 : decode cX11_whom 9 = .ok (.iload_n 2, 1) := by decide +kernel
theorem dX11_whom_10 : decode cX11_whom 10 = .ok (.invokevirtual 497, 3) := by decide +kernel
theorem dX11_whom_13 : decode cX11_whom 13 = .ok (.ifCond .eq 12, 3) := by decide +kernel
theorem dX11_whom_16 : decode cX11_whom 16 = .ok (.iload_n 3, 1) := by decide +kernel
theorem dX11_whom_17 : decode cX11_whom 17 = .ok (.iconst 0, 1) := by decide +kernel
theorem dX11_whom_18 : decode cX11_whom 18 = .ok (.iconst 1, 1) := by decide +kernel
theorem dX11_whom_19 : decode cX11_whom 19 = .ok (.invokestatic 338, 3) := by decide +kernel
theorem dX11_whom_22 : decode cX11_whom 22 = .ok (.ifCond .ne 7, 3) := by decide +kernel
theorem dX11_whom_25 : decode cX11_whom 25 = .ok (.ldc_w 509, 3) := by decide +kernel
theorem dX11_whom_28 : decode cX11_whom 28 = .ok (.ireturn, 1) := by decide +kernel
theorem dX11_whom_29 : decode cX11_whom 29 = .ok (.iconst (-1), 1) := by decide +kernel
theorem dX11_whom_30 : decode cX11_whom 30 = .ok (.istore 4, 2) := by decide +kernel
theorem dX11_whom_32 : decode cX11_whom 32 = .ok (.lconst 0, 1) := by decide +kernel
theorem dX11_whom_33 : decode cX11_whom 33 = .ok (.lstore 5, 2) := by decide +kernel
theorem dX11_whom_35 : decode cX11_whom 35 = .ok (.iconst (-1), 1) := by decide +kernel
theorem dX11_whom_36 : decode cX11_whom 36 = .ok (.istore 7, 2) := by decide +kernel
theorem dX11_whom_38 : decode cX11_whom 38 = .ok (.iload 7, 2) := by decide +kernel
theorem dX11_whom_40 : decode cX11_whom 40 = .ok (.aload_n 0, 1) := by decide +kernel
theorem dX11_whom_41 : decode cX11_whom 41 = .ok (.getfield 69, 3) := by decide +kernel
theorem dX11_whom_44 : decode cX11_whom 44 = .ok (.aload_n 0, 1) := by decide +kernel
theorem dX11_whom_45 : decode cX11_whom 45 = .ok (.getfield 51, 3) := by decide +kernel
theorem dX11_whom_48 : decode cX11_whom 48 = .ok (.iaload, 1) := by decide +kernel
theorem dX11_whom_49 : decode cX11_whom 49 = .ok (.if_icmp .ge 118, 3) := by decide +kernel
theorem dX11_whom_52 : decode cX11_whom 52 = .ok (.iload 7, 2) := by decide +kernel
theorem dX11_whom_54 : decode cX11_whom 54 = .ok (.iload_n 1, 1) := by decide +kernel
theorem dX11_whom_55 : decode cX11_whom 55 = .ok (.if_icmp .ne 6, 3) := by decide +kernel
theorem dX11_whom_58 : decode cX11_whom 58 = .ok (.goto 103, 3) := by decide +kernel
theorem dX11_whom_61 : decode cX11_whom 61 = .ok (.lconst 0, 1) := by decide +kernel
theorem dX11_whom_62 : decode cX11_whom 62 = .ok (.lstore 8, 2) := by decide +kernel
theorem dX11_whom_64 : decode cX11_whom 64 = .ok (.iconst 0, 1) := by decide +kernel
theorem dX11_whom_65 : decode cX11_whom 65 = .ok (.istore 10, 2) := by decide +kernel
theorem dX11_whom_67 : decode cX11_whom 67 = .ok (.iload 10, 2) := by decide +kernel
theorem dX11_whom_69 : decode cX11_whom 69 = .ok (.aload_n 0, 1) := by decide +kernel
theorem dX11_whom_70 : decode cX11_whom 70 = .ok (.iload_n 2, 1) := by decide +kernel
theorem dX11_whom_71 : decode cX11_whom 71 = .ok (.invokevirtual 437, 3) := by decide +kernel
theorem dX11_whom_74 : decode cX11_whom 74 = .ok (.if_icmp .ge 62, 3) := by decide +kernel
theorem dX11_whom_77 : decode cX11_whom 77 = .ok (.aload_n 0, 1) := by decide +kernel
theorem dX11_whom_78 : decode cX11_whom 78 = .ok (.iload_n 2, 1) := by decide +kernel
theorem dX11_whom_79 : decode cX11_whom 79 = .ok (.aload_n 0, 1) := by decide +kernel
theorem dX11_whom_80 : decode cX11_whom 80 = .ok (.iload_n 2, 1) := by decide +kernel
theorem dX11_whom_81 : decode cX11_whom 81 = .ok (.iload 10, 2) := by decide +kernel
theorem dX11_whom_83 : decode cX11_whom 83 = .ok (.invokevirtual 503, 3) := by decide +kernel
theorem dX11_whom_86 : decode cX11_whom 86 = .ok (.invokevirtual 513, 3) := by decide +kernel
theorem dX11_whom_89 : decode cX11_whom 89 = .ok (.iload 7, 2) := by decide +kernel
theorem dX11_whom_91 : decode cX11_whom 91 = .ok (.iconst (-1), 1) := by decide +kernel
theorem dX11_whom_92 : decode cX11_whom 92 = .ok (.if_icmp .eq 11, 3) := by decide +kernel
theorem dX11_whom_95 : decode cX11_whom 95 = .ok (.aload_n 0, 1) := by decide +kernel
theorem dX11_whom_96 : decode cX11_whom 96 = .ok (.getfield 216, 3) := by decide +kernel
theorem dX11_whom_99 : decode cX11_whom 99 = .ok (.iload 7, 2) := by decide +kernel
theorem dX11_whom_101 : decode cX11_whom 101 = .ok (.iconst 0, 1) := by decide +kernel
theorem dX11_whom_102 : decode cX11_whom 102 = .ok (.iastore, 1) := by decide +kernel
theorem dX11_whom_103 : decode cX11_whom 103 = .ok (.lload 8, 2) := by decide +kernel
theorem dX11_whom_105 : decode cX11_whom 105 = .ok (.aload_n 0, 1) := by decide +kernel
theorem dX11_whom_106 : decode cX11_whom 106 = .ok (.iload_n 2, 1) := by decide +kernel
theorem dX11_whom_107 : decode cX11_whom 107 = .ok (.iload 10, 2) := by decide +kernel
theorem dX11_whom_109 : decode cX11_whom 109 = .ok (.invokevirtual 440, 3) := by decide +kernel
theorem dX11_whom_112 : decode cX11_whom 112 = .ok (.aload_n 0, 1) := by decide +kernel
theorem dX11_whom_113 : decode cX11_whom 113 = .ok (.iload_n 1, 1) := by decide +kernel
theorem dX11_whom_114 : decode cX11_whom 114 = .ok (.iload_n 2, 1) := by decide +kernel
theorem dX11_whom_115 : decode cX11_whom 115 = .ok (.aload_n 0, 1) := by decide +kernel
theorem dX11_whom_116 : decode cX11_whom 116 = .ok (.iload_n 2, 1) := by decide +kernel
theorem dX11_whom_117 : decode cX11_whom 117 = .ok (.iload 10, 2) := by decide +kernel
theorem dX11_whom_119 : decode cX11_whom 119 = .ok (.invokevirtual 503, 3) := by decide +kernel
theorem dX11_whom_122 : decode cX11_whom 122 = .ok (.invokevirtual 516, 3) := by decide +kernel
theorem dX11_whom_125 : decode cX11_whom 125 = .ok (.imul, 1) := by decide +kernel
theorem dX11_whom_126 : decode cX11_whom 126 = .ok (.i2l, 1) := by decide +kernel
theorem dX11_whom_127 : decode cX11_whom 127 = .ok (.ladd, 1) := by decide +kernel
theorem dX11_whom_128 : decode cX11_whom 128 = .ok (.lstore 8, 2) := by decide +kernel
theorem dX11_whom_130 : decode cX11_whom 130 = .ok (.iinc 10 1, 3) := by decide +kernel
theorem dX11_whom_133 : decode cX11_whom 133 = .ok (.goto (-66), 3) := by decide +kernel
theorem dX11_whom_136 : decode cX11_whom 136 = .ok (.iload 7, 2) := by decide +kernel
theorem dX11_whom_138 : decode cX11_whom 138 = .ok (.iconst (-1), 1) := by decide +kernel
theorem dX11_whom_139 : decode cX11_whom 139 = .ok (.if_icmp .eq 14, 3) := by decide +kernel
theorem dX11_whom_142 : decode cX11_whom 142 = .ok (.lload 8, 2) := by decide +kernel
theorem dX11_whom_144 : decode cX11_whom 144 = .ok (.lload 5, 2) := by decide +kernel
theorem dX11_whom_146 : decode cX11_whom 146 = .ok (.lcmp, 1) := by decide +kernel
theorem dX11_whom_147 : decode cX11_whom 147 = .ok (.ifCond .gt 6, 3) := by decide +kernel
theorem dX11_whom_150 : decode cX11_whom 150 = .ok (.goto 11, 3) := by decide +kernel
theorem dX11_whom_153 : decode cX11_whom 153 = .ok (.lload 8, 2) := by decide +kernel
theorem dX11_whom_155 : decode cX11_whom 155 = .ok (.lstore 5, 2) := by decide +kernel
theorem dX11_whom_157 : decode cX11_whom 157 = .ok (.iload 7, 2) := by decide +kernel
theorem dX11_whom_159 : decode cX11_whom 159 = .ok (.istore 4, 2) := by decide +kernel
theorem dX11_whom_161 : decode cX11_whom 161 = .ok (.iinc 7 1, 3) := by decide +kernel
theorem dX11_whom_164 : decode cX11_whom 164 = .ok (.goto (-126), 3) := by decide +kernel
theorem dX11_whom_167 : decode cX11_whom 167 = .ok (.iload_n 3, 1) := by decide +kernel
theorem dX11_whom_168 : decode cX11_whom 168 = .ok (.ifCond .ne 8, 3) := by decide +kernel
theorem dX11_whom_171 : decode cX11_whom 171 = .ok (.iload 4, 2) := by decide +kernel
theorem dX11_whom_173 : decode cX11_whom 173 = .ok (.goto 15, 3) := by decide +kernel
theorem dX11_whom_176 : decode cX11_whom 176 = .ok (.aload_n 0, 1) := by decide +kernel
theorem dX11_whom_177 : decode cX11_whom 177 = .ok (.lload 5, 2) := by decide +kernel
theorem dX11_whom_179 : decode cX11_whom 179 = .ok (.aload_n 0, 1) := by decide +kernel
theorem dX11_whom_180 : decode cX11_whom 180 = .ok (.iload_n 2, 1) := by decide +kernel
theorem dX11_whom_181 : decode cX11_whom 181 = .ok (.invokevirtual 500, 3) := by decide +kernel
theorem dX11_whom_184 : decode cX11_whom 184 = .ok (.i2l, 1) := by decide +kernel
theorem dX11_whom_185 : decode cX11_whom 185 = .ok (.invokevirtual 531, 3) := by decide +kernel
theorem dX11_whom_188 : decode cX11_whom 188 = .ok (.ireturn, 1) := by decide +kernel
def fX11_whom_161 (r38 : Int32 → Int32 → Int32 → Int32 → Int64 → Int32 → zS → Option (Int32 × zS)) (x1 : Int32) (x2 : Int32) (x3 : Int32) (x4 : Int32) (x5 : Int64) (x7 : Int32) (σ : zS) : Option (Int32 × zS) := r38 x1 x2 x3 x4 x5 (x7 + 1) σ
theorem kX11_whom_161 {sc : Nat × (Nat → Int32)} (r38 : Int32 → Int32 → Int32 → Int32 → Int64 → Int32 → zS → Option (Int32 × zS)) (hr38 : ∀ (x1 : Int32) (x2 : Int32) (x3 : Int32) (x4 : Int32) (x5 : Int64) (x7 : Int32) (σ : zS) (w : Int32 × zS), r38 x1 x2 x3 x4 x5 x7 σ = some w → zR (zY0 sc) 6 0 0 mX11_whom 38 [(0, .ref 56), (1, .int x1), (2, .int x2), (3, .int x3), (4, .int x4), (5, .long x5), (7, .int x7)] [] (zE σ) (some (.int w.1), zE w.2)) (x1 : Int32) (x2 : Int32) (x3 : Int32) (x4 : Int32) (x5 : Int64) (x7 : Int32) (σ : zS) (w : Int32 × zS) (h : fX11_whom_161 r38 x1 x2 x3 x4 x5 x7 σ = some w) : zR (zY0 sc) 6 0 0 mX11_whom 161 [(0, .ref 56), (1, .int x1), (2, .int x2), (3, .int x3), (4, .int x4), (5, .long x5), (7, .int x7)] [] (zE σ) (some (.int w.1), zE w.2) := by
  unfold fX11_whom_161 at h
  refine zR.iinc 6 (v := x7 + 1) (ls' := [(7, .int (x7 + 1)), (0, .ref 56), (1, .int x1), (2, .int x2), (3, .int x3), (4, .int x4), (5, .long x5)]) dX11_whom_161 rfl rfl (by decide) rfl ?_
  refine zR.goto (tgt := 38) dX11_whom_164 (by decide) ?_
  refine zR.sub [1, 2, 3, 4, 5, 6, 0] rfl ?_
  exact hr38 _ _ _ _ _ _ _ _ h
def fX11_whom_153 (r38 : Int32 → Int32 → Int32 → Int32 → Int64 → Int32 → zS → Option (Int32 × zS)) (x1 : Int32) (x2 : Int32) (x3 : Int32) (x7 : Int32) (x8 : Int64) (σ : zS) : Option (Int32 × zS) := fX11_whom_161 r38 x1 x2 x3 x7 x8 x7 σ
theorem kX11_whom_153 {sc : Nat × (Nat → Int32)} (r38 : Int32 → Int32 → Int32 → Int32 → Int64 → Int32 → zS → Option (Int32 × zS)) (hr38 : ∀ (x1 : Int32) (x2 : Int32) (x3 : Int32) (x4 : Int32) (x5 : Int64) (x7 : Int32) (σ : zS) (w : Int32 × zS), r38 x1 x2 x3 x4 x5 x7 σ = some w → zR (zY0 sc) 6 0 0 mX11_whom 38 [(0, .ref 56), (1, .int x1), (2, .int x2), (3, .int x3), (4, .int x4), (5, .long x5), (7, .int x7)] [] (zE σ) (some (.int w.1), zE w.2)) (x1 : Int32) (x2 : Int32) (x3 : Int32) (x7 : Int32) (x8 : Int64) (σ : zS) (w : Int32 × zS) (h : fX11_whom_153 r38 x1 x2 x3 x7 x8 σ = some w) : zR (zY0 sc) 6 0 0 mX11_whom 153 [(0, .ref 56), (1, .int x1), (2, .int x2), (3, .int x3), (7, .int x7), (8, .long x8)] [] (zE σ) (some (.int w.1), zE w.2) := by
  unfold fX11_whom_153 at h
  refine kR.lload dX11_whom_153 5 rfl ?_
  refine zR.lstore (i := 5) (ls' := [(5, .long x8), (0, .ref 56), (1, .int x1), (2, .int x2), (3, .int x3), (7, .int x7), (8, .long x8)]) dX11_whom_155 (by decide) rfl ?_
  refine kR.iload dX11_whom_157 5 rfl ?_
  refine zR.istore (i := 4) (ls' := [(4, .int x7), (5, .long x8), (0, .ref 56), (1, .int x1), (2, .int x2), (3, .int x3), (7, .int x7), (8, .long x8)]) dX11_whom_159 (by decide) rfl ?_
  refine zR.sub [2, 3, 4, 5, 0, 1, 6] rfl ?_
  exact kX11_whom_161 r38 hr38 _ _ _ _ _ _ _ _ h
def fX11_whom_103 (r38 : Int32 → Int32 → Int32 → Int32 → Int64 → Int32 → zS → Option (Int32 × zS)) (r67 : Int32 → Int32 → Int32 → Int32 → Int64 → Int32 → Int64 → Int32 → zS → Option (Int32 × zS)) (x1 : Int32) (x2 : Int32) (x3 : Int32) (x4 : Int32) (x5 : Int64) (x7 : Int32) (x8 : Int64) (x10 : Int32) (σ : zS) : Option (Int32 × zS) := bnr (fX11_weightAt σ x2 x10) fun v16 => bnr (fX11_lengthAt σ x2 x10) fun v18 => bnc (fX11_worthRow x1 x2 v18 σ) fun v22 σ20 => r67 x1 x2 x3 x4 x5 x7 (x8 + (((v16 * v22) : Int32).toInt64)) (x10 + 1) σ20
theorem kX11_whom_103 {sc : Nat × (Nat → Int32)} (r38 : Int32 → Int32 → Int32 → Int32 → Int64 → Int32 → zS → Option (Int32 × zS)) (r67 : Int32 → Int32 → Int32 → Int32 → Int64 → Int32 → Int64 → Int32 → zS → Option (Int32 × zS)) (hr38 : ∀ (x1 : Int32) (x2 : Int32) (x3 : Int32) (x4 : Int32) (x5 : Int64) (x7 : Int32) (σ : zS) (w : Int32 × zS), r38 x1 x2 x3 x4 x5 x7 σ = some w → zR (zY0 sc) 6 0 0 mX11_whom 38 [(0, .ref 56), (1, .int x1), (2, .int x2), (3, .int x3), (4, .int x4), (5, .long x5), (7, .int x7)] [] (zE σ) (some (.int w.1), zE w.2)) (hr67 : ∀ (x1 : Int32) (x2 : Int32) (x3 : Int32) (x4 : Int32) (x5 : Int64) (x7 : Int32) (x8 : Int64) (x10 : Int32) (σ : zS) (w : Int32 × zS), r67 x1 x2 x3 x4 x5 x7 x8 x10 σ = some w → zR (zY0 sc) 6 0 0 mX11_whom 67 [(0, .ref 56), (1, .int x1), (2, .int x2), (3, .int x3), (4, .int x4), (5, .long x5), (7, .int x7), (8, .long x8), (10, .int x10)] [] (zE σ) (some (.int w.1), zE w.2)) (x1 : Int32) (x2 : Int32) (x3 : Int32) (x4 : Int32) (x5 : Int64) (x7 : Int32) (x8 : Int64) (x10 : Int32) (σ : zS) (w : Int32 × zS) (h : fX11_whom_103 r38 r67 x1 x2 x3 x4 x5 x7 x8 x10 σ = some w) : zR (zY0 sc) 6 0 0 mX11_whom 103 [(0, .ref 56), (1, .int x1), (2, .int x2), (3, .int x3), (4, .int x4), (5, .long x5), (7, .int x7), (8, .long x8), (10, .int x10)] [] (zE σ) (some (.int w.1), zE w.2) := by
  unfold fX11_whom_103 at h
  refine kR.lload dX11_whom_103 7 rfl ?_
  refine kR.aload_n dX11_whom_105 0 rfl ?_
  refine kR.iload_n dX11_whom_106 2 rfl ?_
  refine kR.iload dX11_whom_107 8 rfl ?_
  obtain ⟨v16, e17, h⟩ := bnr_some h
  refine kR.cVi [.int x2, .int x10] dX11_whom_109 rfl (by decide) mwX11_440 zp56 (by decide) rfl rfl (Nat.le_of_ble_eq_true rfl) (lX11_weightAt σ x2 x10 _ e17) ?_
  refine kR.aload_n dX11_whom_112 0 rfl ?_
  refine kR.iload_n dX11_whom_113 1 rfl ?_
  refine kR.iload_n dX11_whom_114 2 rfl ?_
  refine kR.aload_n dX11_whom_115 0 rfl ?_
  refine kR.iload_n dX11_whom_116 2 rfl ?_
  refine kR.iload dX11_whom_117 8 rfl ?_
  obtain ⟨v18, e19, h⟩ := bnr_some h
  refine kR.cVi [.int x2, .int x10] dX11_whom_119 rfl (by decide) mwX11_503 zp56 (by decide) rfl rfl (Nat.le_of_ble_eq_true rfl) (lX11_lengthAt σ x2 x10 _ e19) ?_
  obtain ⟨v22, σ20, e21, h⟩ := bnc_some h
  refine kR.cVi [.int x1, .int x2, .int v18] dX11_whom_122 rfl (by decide) mwX11_516 zp56 (by decide) rfl rfl (Nat.le_of_ble_eq_true rfl) (lX11_worthRow x1 x2 v18 σ _ e21) ?_
  refine zR.imul dX11_whom_125 ?_
  refine zR.i2l dX11_whom_126 ?_
  refine zR.ladd dX11_whom_127 ?_
  refine zR.lstore (i := 8) (ls' := [(8, .long (x8 + (((v16 * v22) : Int32).toInt64))), (0, .ref 56), (1, .int x1), (2, .int x2), (3, .int x3), (4, .int x4), (5, .long x5), (7, .int x7), (10, .int x10)]) dX11_whom_128 (by decide) rfl ?_
  refine zR.iinc 8 (v := x10 + 1) (ls' := [(10, .int (x10 + 1)), (8, .long (x8 + (((v16 * v22) : Int32).toInt64))), (0, .ref 56), (1, .int x1), (2, .int x2), (3, .int x3), (4, .int x4), (5, .long x5), (7, .int x7)]) dX11_whom_130 rfl rfl (by decide) rfl ?_
  refine zR.goto (tgt := 67) dX11_whom_133 (by decide) ?_
  refine zR.sub [2, 3, 4, 5, 6, 7, 8, 1, 0] rfl ?_
  exact hr67 _ _ _ _ _ _ _ _ _ _ h
def fX11_whom_67 (r38 : Int32 → Int32 → Int32 → Int32 → Int64 → Int32 → zS → Option (Int32 × zS)) : Nat → Int32 → Int32 → Int32 → Int32 → Int64 → Int32 → Int64 → Int32 → zS → Option (Int32 × zS)
  | 0, _, _, _, _, _, _, _, _, _ => none
  | f + 1, x1, x2, x3, x4, x5, x7, x8, x10, σ => bnr (fX11_lengthsOf σ x2) fun v10 => if v10 ≤ x10 then if x7 = ((-1)) then fX11_whom_153 r38 x1 x2 x3 x7 x8 σ else if x5 < x8 then fX11_whom_153 r38 x1 x2 x3 x7 x8 σ else fX11_whom_161 r38 x1 x2 x3 x4 x5 x7 σ else bnr (fX11_lengthAt σ x2 x10) fun v12 => bnr (fX11_allHold x2 v12 σ) fun σ14 => if x7 = ((-1)) then fX11_whom_103 r38 (fX11_whom_67 r38 f) x1 x2 x3 x4 x5 x7 x8 x10 σ14 else wI σ14 96 6 x7 0 fun σ23 => fX11_whom_103 r38 (fX11_whom_67 r38 f) x1 x2 x3 x4 x5 x7 x8 x10 σ23
theorem kX11_whom_67 {sc : Nat × (Nat → Int32)} (r38 : Int32 → Int32 → Int32 → Int32 → Int64 → Int32 → zS → Option (Int32 × zS)) (hr38 : ∀ (x1 : Int32) (x2 : Int32) (x3 : Int32) (x4 : Int32) (x5 : Int64) (x7 : Int32) (σ : zS) (w : Int32 × zS), r38 x1 x2 x3 x4 x5 x7 σ = some w → zR (zY0 sc) 6 0 0 mX11_whom 38 [(0, .ref 56), (1, .int x1), (2, .int x2), (3, .int x3), (4, .int x4), (5, .long x5), (7, .int x7)] [] (zE σ) (some (.int w.1), zE w.2)) : ∀ (fuel : Nat) (x1 : Int32) (x2 : Int32) (x3 : Int32) (x4 : Int32) (x5 : Int64) (x7 : Int32) (x8 : Int64) (x10 : Int32) (σ : zS) (w : Int32 × zS) (h : fX11_whom_67 r38 fuel x1 x2 x3 x4 x5 x7 x8 x10 σ = some w), zR (zY0 sc) 6 0 0 mX11_whom 67 [(0, .ref 56), (1, .int x1), (2, .int x2), (3, .int x3), (4, .int x4), (5, .long x5), (7, .int x7), (8, .long x8), (10, .int x10)] [] (zE σ) (some (.int w.1), zE w.2) := by
  intro fuel
  induction fuel with
  | zero => intro x1 x2 x3 x4 x5 x7 x8 x10 σ w h; exact nomatch h
  | succ f ih =>
    intro x1 x2 x3 x4 x5 x7 x8 x10 σ w h
    rw [fX11_whom_67] at h
    refine kR.iload dX11_whom_67 8 rfl ?_
    refine kR.aload_n dX11_whom_69 0 rfl ?_
    refine kR.iload_n dX11_whom_70 2 rfl ?_
    obtain ⟨v10, e11, h⟩ := bnr_some h
    refine kR.cVi [.int x2] dX11_whom_71 rfl (by decide) mwX11_437 zp56 (by decide) rfl rfl (Nat.le_of_ble_eq_true rfl) (lX11_lengthsOf σ x2 _ e11) ?_
    refine kR.icmp_ge (tgt := 136) dX11_whom_74 (by decide) h (fun h => ?_) (fun h => ?_)
    · refine kR.iload dX11_whom_136 6 rfl ?_
      refine zR.iconst (v := (-1)) dX11_whom_138 (by decide) ?_
      refine kR.icmp_eq (tgt := 153) dX11_whom_139 (by decide) h (fun h => ?_) (fun h => ?_)
      · refine zR.sub [0, 1, 2, 3, 6, 7] rfl ?_
        exact kX11_whom_153 r38 hr38 _ _ _ _ _ _ _ h
      · refine kR.lload dX11_whom_142 7 rfl ?_
        refine kR.lload dX11_whom_144 5 rfl ?_
        refine kR.lcmp_gt (tgt := 153) dX11_whom_146 dX11_whom_147 (by decide) h (fun h => ?_) (fun h => ?_)
        · refine zR.sub [0, 1, 2, 3, 6, 7] rfl ?_
          exact kX11_whom_153 r38 hr38 _ _ _ _ _ _ _ h
        · refine zR.goto (tgt := 161) dX11_whom_150 (by decide) ?_
          refine zR.sub [0, 1, 2, 3, 4, 5, 6] rfl ?_
          exact kX11_whom_161 r38 hr38 _ _ _ _ _ _ _ _ h
    · refine kR.aload_n dX11_whom_77 0 rfl ?_
      refine kR.iload_n dX11_whom_78 2 rfl ?_
      refine kR.aload_n dX11_whom_79 0 rfl ?_
      refine kR.iload_n dX11_whom_80 2 rfl ?_
      refine kR.iload dX11_whom_81 8 rfl ?_
      obtain ⟨v12, e13, h⟩ := bnr_some h
      refine kR.cVi [.int x2, .int x10] dX11_whom_83 rfl (by decide) mwX11_503 zp56 (by decide) rfl rfl (Nat.le_of_ble_eq_true rfl) (lX11_lengthAt σ x2 x10 _ e13) ?_
      obtain ⟨σ14, e15, h⟩ := bnr_some h
      refine kR.cVv [.int x2, .int v12] dX11_whom_86 rfl (by decide) mwX11_513 zp56 (by decide) rfl rfl (Nat.le_of_ble_eq_true rfl) (lX11_allHold x2 v12 σ _ e15) ?_
      refine kR.iload dX11_whom_89 6 rfl ?_
      refine zR.iconst (v := (-1)) dX11_whom_91 (by decide) ?_
      refine kR.icmp_eq (tgt := 103) dX11_whom_92 (by decide) h (fun h => ?_) (fun h => ?_)
      · exact kX11_whom_103 r38 (fX11_whom_67 r38 f) hr38 ih _ _ _ _ _ _ _ _ _ _ h
      · refine kR.aload_n dX11_whom_95 0 rfl ?_
        refine kR.getR (v := 96) dX11_whom_96 flX11_216 zcf11 zp56 (Or.inr ⟨_, rfl⟩) rfl ?_
        refine kR.iload dX11_whom_99 6 rfl ?_
        refine zR.iconst (v := 0) dX11_whom_101 (by decide) ?_
        refine kR.iast dX11_whom_102 zp96 rfl h (fun σ23 h => ?_)
        exact kX11_whom_103 r38 (fX11_whom_67 r38 f) hr38 ih _ _ _ _ _ _ _ _ _ _ h
def fX11_whom_38 : Nat → Int32 → Int32 → Int32 → Int32 → Int64 → Int32 → zS → Option (Int32 × zS)
  | 0, _, _, _, _, _, _, _ => none
  | f + 1, x1, x2, x3, x4, x5, x7, σ => aI σ 63 2 (iG σ 56 13) fun v5 => if v5 ≤ x7 then if x3 = 0 then some (x4, σ) else bnr (fX11_weights σ x2) fun v6 => bnr (fX11_thousandths x5 v6.toInt64) fun v8 => some (v8, σ) else if x7 = x1 then fX11_whom_161 (fX11_whom_38 f) x1 x2 x3 x4 x5 x7 σ else fX11_whom_67 (fX11_whom_38 f) zF x1 x2 x3 x4 x5 x7 0 0 σ
theorem kX11_whom_38 {sc : Nat × (Nat → Int32)} : ∀ (fuel : Nat) (x1 : Int32) (x2 : Int32) (x3 : Int32) (x4 : Int32) (x5 : Int64) (x7 : Int32) (σ : zS) (w : Int32 × zS) (h : fX11_whom_38 fuel x1 x2 x3 x4 x5 x7 σ = some w), zR (zY0 sc) 6 0 0 mX11_whom 38 [(0, .ref 56), (1, .int x1), (2, .int x2), (3, .int x3), (4, .int x4), (5, .long x5), (7, .int x7)] [] (zE σ) (some (.int w.1), zE w.2) := by
  intro fuel
  induction fuel with
  | zero => intro x1 x2 x3 x4 x5 x7 σ w h; exact nomatch h
  | succ f ih =>
    intro x1 x2 x3 x4 x5 x7 σ w h
    rw [fX11_whom_38] at h
    refine kR.iload dX11_whom_38 6 rfl ?_
    refine kR.aload_n dX11_whom_40 0 rfl ?_
    refine kR.getR (v := 63) dX11_whom_41 flX11_69 zcf11 zp56 (Or.inr ⟨_, rfl⟩) rfl ?_
    refine kR.aload_n dX11_whom_44 0 rfl ?_
    refine kR.getI dX11_whom_45 flX11_51 zcf11 zp56 (Or.inl rfl) ?_
    refine kR.iald dX11_whom_48 zp63 rfl h (fun v5 h => ?_)
    refine kR.icmp_ge (tgt := 167) dX11_whom_49 (by decide) h (fun h => ?_) (fun h => ?_)
    · refine kR.iload_n dX11_whom_167 3 rfl ?_
      refine kR.if_ne (tgt := 176) dX11_whom_168 (by decide) h (fun h => ?_) (fun h => ?_)
      · refine kR.aload_n dX11_whom_176 0 rfl ?_
        refine kR.lload dX11_whom_177 5 rfl ?_
        refine kR.aload_n dX11_whom_179 0 rfl ?_
        refine kR.iload_n dX11_whom_180 2 rfl ?_
        obtain ⟨v6, e7, h⟩ := bnr_some h
        refine kR.cVi [.int x2] dX11_whom_181 rfl (by decide) mwX11_500 zp56 (by decide) rfl rfl (Nat.le_of_ble_eq_true rfl) (lX11_weights σ x2 _ e7) ?_
        refine zR.i2l dX11_whom_184 ?_
        obtain ⟨v8, e9, h⟩ := bnr_some h
        refine kR.cVi [.long x5, .long (v6.toInt64)] dX11_whom_185 rfl (by decide) mwX11_531 zp56 (by decide) rfl rfl (Nat.le_of_ble_eq_true rfl) (lX11_thousandths x5 v6.toInt64 _ e9) ?_
        exact kR.iretW dX11_whom_188 (nzI rfl _) h
      · refine kR.iload dX11_whom_171 4 rfl ?_
        refine zR.goto (tgt := 188) dX11_whom_173 (by decide) ?_
        exact kR.iretW dX11_whom_188 (nzI rfl _) h
    · refine kR.iload dX11_whom_52 6 rfl ?_
      refine kR.iload_n dX11_whom_54 1 rfl ?_
      refine kR.icmp_ne (tgt := 61) dX11_whom_55 (by decide) h (fun h => ?_) (fun h => ?_)
      · refine zR.lconst (v := 0) dX11_whom_61 (by decide) ?_
        refine zR.lstore (i := 8) (ls' := [(8, .long 0), (0, .ref 56), (1, .int x1), (2, .int x2), (3, .int x3), (4, .int x4), (5, .long x5), (7, .int x7)]) dX11_whom_62 (by decide) rfl ?_
        refine zR.iconst (v := 0) dX11_whom_64 (by decide) ?_
        refine zR.istore (i := 10) (ls' := [(10, .int 0), (8, .long 0), (0, .ref 56), (1, .int x1), (2, .int x2), (3, .int x3), (4, .int x4), (5, .long x5), (7, .int x7)]) dX11_whom_65 (by decide) rfl ?_
        refine zR.sub [2, 3, 4, 5, 6, 7, 8, 1, 0] rfl ?_
        exact kX11_whom_67 (fX11_whom_38 f) ih zF _ _ _ _ _ _ _ _ _ _ h
      · refine zR.goto (tgt := 161) dX11_whom_58 (by decide) ?_
        exact kX11_whom_161 (fX11_whom_38 f) ih _ _ _ _ _ _ _ _ h
def fX11_whom (p1 : Int32) (p2 : Int32) (p3 : Int32) (σ : zS) : Option (Int32 × zS) := bnr (fX11_isHolder σ p1) fun v1 => if v1 = 0 then some ((-1000000000), σ) else bnr (fX11_isTunnel σ p2) fun v3 => if v3 = 0 then some ((-1000000000), σ) else if (fX11_is p3 0 1) = 0 then some ((-1000000000), σ) else fX11_whom_38 zF p1 p2 p3 ((-1)) 0 ((-1)) σ
theorem eX11_whom {sc : Nat × (Nat → Int32)} (p1 : Int32) (p2 : Int32) (p3 : Int32) (σ : zS) (w : Int32 × zS) (h : fX11_whom p1 p2 p3 σ = some w) : zR (zY0 sc) 6 0 0 mX11_whom 0 [(0, .ref 56), (1, .int p1), (2, .int p2), (3, .int p3)] [] (zE σ) (some (.int w.1), zE w.2) := by
  unfold fX11_whom at h
  refine kR.aload_n dX11_whom_0 0 rfl ?_
  refine kR.iload_n dX11_whom_1 1 rfl ?_
  obtain ⟨v1, e2, h⟩ := bnr_some h
  refine kR.cVi [.int p1] dX11_whom_2 rfl (by decide) mwX11_506 zp56 (by decide) rfl rfl (Nat.le_of_ble_eq_true rfl) (lX11_isHolder σ p1 _ e2) ?_
  refine kR.if_eq (tgt := 25) dX11_whom_5 (by decide) h (fun h => ?_) (fun h => ?_)
  · refine zR.ldcw (v := (-1000000000)) dX11_whom_25 ciX11_509 ?_
    exact kR.iretW dX11_whom_28 (nzI rfl _) h
  · refine kR.aload_n dX11_whom_8 0 rfl ?_
    refine kR.iload_n dX11_whom_9 2 rfl ?_
    obtain ⟨v3, e4, h⟩ := bnr_some h
    refine kR.cVi [.int p2] dX11_whom_10 rfl (by decide) mwX11_497 zp56 (by decide) rfl rfl (Nat.le_of_ble_eq_true rfl) (lX11_isTunnel σ p2 _ e4) ?_
    refine kR.if_eq (tgt := 25) dX11_whom_13 (by decide) h (fun h => ?_) (fun h => ?_)
    · refine zR.ldcw (v := (-1000000000)) dX11_whom_25 ciX11_509 ?_
      exact kR.iretW dX11_whom_28 (nzI rfl _) h
    · refine kR.iload_n dX11_whom_16 3 rfl ?_
      refine zR.iconst (v := 0) dX11_whom_17 (by decide) ?_
      refine zR.iconst (v := 1) dX11_whom_18 (by decide) ?_
      refine kR.cSi [.int p3, .int 0, .int 1] dX11_whom_19 rfl (by decide) (Or.inl mwX11_338) rfl (Nat.le_of_ble_eq_true rfl) (lX11_is p3 0 1) ?_
      refine kR.if_ne (tgt := 29) dX11_whom_22 (by decide) h (fun h => ?_) (fun h => ?_)
      · refine zR.iconst (v := (-1)) dX11_whom_29 (by decide) ?_
        refine zR.istore (i := 4) (ls' := [(4, .int ((-1))), (0, .ref 56), (1, .int p1), (2, .int p2), (3, .int p3)]) dX11_whom_30 (by decide) rfl ?_
        refine zR.lconst (v := 0) dX11_whom_32 (by decide) ?_
        refine zR.lstore (i := 5) (ls' := [(5, .long 0), (4, .int ((-1))), (0, .ref 56), (1, .int p1), (2, .int p2), (3, .int p3)]) dX11_whom_33 (by decide) rfl ?_
        refine zR.iconst (v := (-1)) dX11_whom_35 (by decide) ?_
        refine zR.istore (i := 7) (ls' := [(7, .int ((-1))), (5, .long 0), (4, .int ((-1))), (0, .ref 56), (1, .int p1), (2, .int p2), (3, .int p3)]) dX11_whom_36 (by decide) rfl ?_
        refine zR.sub [3, 4, 5, 6, 2, 1, 0] rfl ?_
        exact kX11_whom_38 zF _ _ _ _ _ _ _ _ h
      · refine zR.ldcw (v := (-1000000000)) dX11_whom_25 ciX11_509 ?_
        exact kR.iretW dX11_whom_28 (nzI rfl _) h
theorem lX11_whom {sc : Nat × (Nat → Int32)} (p1 : Int32) (p2 : Int32) (p3 : Int32) (σ : zS) (w : Int32 × zS) (h : fX11_whom p1 p2 p3 σ = some w) : zC (zY0 sc) 6 0 0 mX11_whom [.ref 56, .int p1, .int p2, .int p3] (zE σ) (some (.int w.1), zE w.2) := zC.of (by decide +kernel) (Nat.le_of_ble_eq_true rfl) ⟨_, rfl⟩ (eX11_whom p1 p2 p3 σ w h)
theorem dX11_faces_0 : decode cX11_faces 0 = .ok (.aload_n 0, 1) := by decide +kernel
theorem dX11_faces_1 : decode cX11_faces 1 = .ok (.getfield 13, 3) := by decide +kernel
theorem dX11_faces_4 : decode cX11_faces 4 = .ok (.istore_n 2, 1) := by decide +kernel
theorem dX11_faces_5 : decode cX11_faces 5 = .ok (.aload_n 0, 1) := by decide +kernel
theorem dX11_faces_6 : decode cX11_faces 6 = .ok (.iconst 0, 1) := by decide +kernel
theorem dX11_faces_7 : decode cX11_faces 7 = .ok (.putfield 13, 3) := by decide +kernel
theorem dX11_faces_10 : decode cX11_faces 10 = .ok (.aload_n 0, 1) := by decide +kernel
theorem dX11_faces_11 : decode cX11_faces 11 = .ok (.iload_n 1, 1) := by decide +kernel
theorem dX11_faces_12 : decode cX11_faces 12 = .ok (.invokevirtual 497, 3) := by decide +kernel
theorem dX11_faces_15 : decode cX11_faces 15 = .ok (.ifCond .eq 23, 3) := by decide +kernel
theorem dX11_faces_18 : decode cX11_faces 18 = .ok (.iload_n 2, 1) := by decide +kernel
theorem dX11_faces_19 : decode cX11_faces 19 = .ok (.ifCond .le 19, 3) := by decide +kernel
theorem dX11_faces_22 : decode cX11_faces 22 = .ok (.iload_n 2, 1) := by decide +kernel
theorem dX11_faces_23 : decode cX11_faces 23 = .ok (.iconst 2, 1) := by decide +kernel
theorem dX11_faces_24 : decode cX11_faces 24 = .ok (.irem, 1) := by decide +kernel
theorem dX11_faces_25 : decode cX11_faces 25 = .ok (.ifCond .ne 13, 3) := by decide +kernel
theorem dX11_faces_28 : decode cX11_faces 28 = .ok (.iload_n 2, 1) := by decide +kernel
theorem dX11_faces_29 : decode cX11_faces 29 = .ok (.bipush 24, 2) := by decide +kernel
theorem dX11_faces_31 : decode cX11_faces 31 = .ok (.if_icmp .gt 7, 3) := by decide +kernel
theorem dX11_faces_34 : decode cX11_faces 34 = .ok (.iconst 1, 1) := by decide +kernel
theorem dX11_faces_35 : decode cX11_faces 35 = .ok (.goto 4, 3) := by decide +kernel
theorem dX11_faces_38 : decode cX11_faces 38 = .ok (.iconst 0, 1) := by decide +kernel
theorem dX11_faces_39 : decode cX11_faces 39 = .ok (.istore_n 3, 1) := by decide +kernel
theorem dX11_faces_40 : decode cX11_faces 40 = .ok (.iconst 0, 1) := by decide +kernel
theorem dX11_faces_41 : decode cX11_faces 41 = .ok (.istore 4, 2) := by decide +kernel
theorem dX11_faces_43 : decode cX11_faces 43 = .ok (.iload 4, 2) := by decide +kernel
theorem dX11_faces_45 : decode cX11_faces 45 = .ok (.iload_n 2, 1) := by decide +kernel
theorem dX11_faces_46 : decode cX11_faces 46 = .ok (.if_icmp .ge 47, 3) := by decide +kernel
theorem dX11_faces_49 : decode cX11_faces 49 = .ok (.iload_n 3, 1) := by decide +kernel
theorem dX11_faces_50 : decode cX11_faces 50 = .ok (.ifCond .eq 43, 3) := by decide +kernel
theorem dX11_faces_53 : decode cX11_faces 53 = .ok (.aload_n 0, 1) := by decide +kernel
theorem dX11_faces_54 : decode cX11_faces 54 = .ok (.aload_n 0, 1) := by decide +kernel
theorem dX11_faces_55 : decode cX11_faces 55 = .ok (.getfield 7, 3) := by decide +kernel
theorem dX11_faces_58 : decode cX11_faces 58 = .ok (.iload 4, 2) := by decide +kernel
theorem dX11_faces_60 : decode cX11_faces 60 = .ok (.iaload, 1) := by decide +kernel
theorem dX11_faces_61 : decode cX11_faces 61 = .ok (.invokevirtual 506, 3) := by decide +kernel
theorem dX11_faces_64 : decode cX11_faces 64 = .ok (.ifCond .eq 21, 3) := by decide +kernel
theorem dX11_faces_67 : decode cX11_faces 67 = .ok (.aload_n 0, 1) := by decide +kernel
theorem dX11_faces_68 : decode cX11_faces 68 = .ok (.getfield 7, 3) := by decide +kernel
theorem dX11_faces_71 : decode cX11_faces 71 = .ok (.iload 4, 2) := by decide +kernel
theorem dX11_faces_73 : decode cX11_faces 73 = .ok (.iconst 1, 1) := by decide +kernel
theorem dX11_faces_74 : decode cX11_faces 74 = .ok (.iadd, 1) := by decide +kernel
theorem dX11_faces_75 : decode cX11_faces 75 = .ok (.iaload, 1) := by decide +kernel
theorem dX11_faces_76 : decode cX11_faces 76 = .ok (.bipush 60, 2) := by decide +kernel
theorem dX11_faces_78 : decode cX11_faces 78 = .ok (.if_icmp .gt 7, 3) := by decide +kernel
theorem dX11_faces_81 : decode cX11_faces 81 = .ok (.iconst 1, 1) := by decide +kernel
theorem dX11_faces_82 : decode cX11_faces 82 = .ok (.goto 4, 3) := by decide +kernel
theorem dX11_faces_85 : decode cX11_faces 85 = .ok (.iconst 0, 1) := by decide +kernel
theorem dX11_faces_86 : decode cX11_faces 86 = .ok (.istore_n 3, 1) := by decide +kernel
theorem dX11_faces_87 : decode cX11_faces 87 = .ok (.iinc 4 2, 3) := by decide +kernel
theorem dX11_faces_90 : decode cX11_faces 90 = .ok (.goto (-47), 3) := by decide +kernel
theorem dX11_faces_93 : decode cX11_faces 93 = .ok (.iload_n 3, 1) := by decide +kernel
theorem dX11_faces_94 : decode cX11_faces 94 = .ok (.ifCond .ne 9, 3) := by decide +kernel
theorem dX11_faces_97 : decode cX11_faces 97 = .ok (.aload_n 0, 1) := by decide +kernel
theorem dX11_faces_98 : decode cX11_faces 98 = .ok (.iconst 4, 1) := by decide +kernel
theorem dX11_faces_99 : decode cX11_faces 99 = .ok (.invokevirtual 252, 3) := by decide +kernel
theorem dX11_faces_102 : decode cX11_faces 102 = .ok (.ireturn, 1) := by decide +kernel
theorem dX11_faces_103 : decode cX11_faces 103 = .ok (.aload_n 0, 1) := by decide +kernel
theorem dX11_faces_104 : decode cX11_faces 104 = .ok (.iload_n 1, 1) := by decide +kernel
theorem dX11_faces_105 : decode cX11_faces 105 = .ok (.putfield 234, 3) := by decide +kernel
theorem dX11_faces_108 : decode cX11_faces 108 = .ok (.aload_n 0, 1) := by decide +kernel
theorem dX11_faces_109 : decode cX11_faces 109 = .ok (.iload_n 2, 1) := by decide +kernel
theorem dX11_faces_110 : decode cX11_faces 110 = .ok (.iconst 2, 1) := by decide +kernel
theorem dX11_faces_111 : decode cX11_faces 111 = .ok (.idiv, 1) := by decide +kernel
theorem dX11_faces_112 : decode cX11_faces 112 = .ok (.putfield 231, 3) := by decide +kernel
theorem dX11_faces_115 : decode cX11_faces 115 = .ok (.iconst 0, 1) := by decide +kernel
theorem dX11_faces_116 : decode cX11_faces 116 = .ok (.istore 4, 2) := by decide +kernel
theorem dX11_faces_118 : decode cX11_faces 118 = .ok (.iload 4, 2) := by decide +kernel
theorem dX11_faces_120 : decode cX11_faces 120 = .ok (.aload_n 0, 1) := by decide +kernel
theorem dX11_faces_121 : decode cX11_faces 121 = .ok (.getfield 231, 3) := by decide +kernel
theorem dX11_faces_124 : decode cX11_faces 124 = .ok (.if_icmp .ge 43, 3) := by decide +kernel
theorem dX11_faces_127 : decode cX11_faces 127 = .ok (.aload_n 0, 1) := by decide +kernel
theorem dX11_faces_128 : decode cX11_faces 128 = .ok (.getfield 237, 3) := by decide +kernel
theorem dX11_faces_131 : decode cX11_faces 131 = .ok (.iload 4, 2) := by decide +kernel
theorem dX11_faces_133 : decode cX11_faces 133 = .ok (.aload_n 0, 1) := by decide +kernel
theorem dX11_faces_134 : decode cX11_faces 134 = .ok (.getfield 7, 3) := by decide +kernel
theorem dX11_faces_137 : decode cX11_faces 137 = .ok (.iconst 2, 1) := by decide +kernel
theorem dX11_faces_138 : decode cX11_faces 138 = .ok (.iload 4, 2) := by decide +kernel
theorem dX11_faces_140 : decode cX11_faces 140 = .ok (.imul, 1) := by decide +kernel
theorem dX11_faces_141 : decode cX11_faces 141 = .ok (.iaload, 1) := by decide +kernel
theorem dX11_faces_142 : decode cX11_faces 142 = .ok (.iastore, 1) := by decide +kernel
theorem dX11_faces_143 : decode cX11_faces 143 = .ok (.aload_n 0, 1) := by decide +kernel
theorem dX11_faces_144 : decode cX11_faces 144 = .ok (.getfield 240, 3) := by decide +kernel
theorem dX11_faces_147 : decode cX11_faces 147 = .ok (.iload 4, 2) := by decide +kernel
theorem dX11_faces_149 : decode cX11_faces 149 = .ok (.aload_n 0, 1) := by decide +kernel
theorem dX11_faces_150 : decode cX11_faces 150 = .ok (.getfield 7, 3) := by decide +kernel
theorem dX11_faces_153 : decode cX11_faces 153 = .ok (.iconst 2, 1) := by decide +kernel
theorem dX11_faces_154 : decode cX11_faces 154 = .ok (.iload 4, 2) := by decide +kernel
theorem dX11_faces_156 : decode cX11_faces 156 = .ok (.imul, 1) := by decide +kernel
theorem dX11_faces_157 : decode cX11_faces 157 = .ok (.iconst 1, 1) := by decide +kernel
theorem dX11_faces_158 : decode cX11_faces 158 = .ok (.iadd, 1) := by decide +kernel
theorem dX11_faces_159 : decode cX11_faces 159 = .ok (.iaload, 1) := by decide +kernel
theorem dX11_faces_160 : decode cX11_faces 160 = .ok (.iastore, 1) := by decide +kernel
theorem dX11_faces_161 : decode cX11_faces 161 = .ok (.iinc 4 1, 3) := by decide +kernel
theorem dX11_faces_164 : decode cX11_faces 164 = .ok (.goto (-46), 3) := by decide +kernel
theorem dX11_faces_167 : decode cX11_faces 167 = .ok (.aload_n 0, 1) := by decide +kernel
theorem dX11_faces_168 : decode cX11_faces 168 = .ok (.getfield 231, 3) := by decide +kernel
theorem dX11_faces_171 : decode cX11_faces 171 = .ok (.ireturn, 1) := by decide +kernel
def fX11_faces_118 : Nat → Int32 → zS → Option (Int32 × zS)
  | 0, _, _ => none
  | f + 1, x4, σ => if (iG σ 56 72) ≤ x4 then some (iG σ 56 72, σ) else aI σ 57 1800 (2 * x4) fun v6 => wI σ 99 12 x4 v6 fun σ7 => aI σ7 57 1800 ((2 * x4) + 1) fun v8 => wI σ7 100 12 x4 v8 fun σ9 => fX11_faces_118 f (x4 + 1) σ9
theorem kX11_faces_118 {sc : Nat × (Nat → Int32)} : ∀ (fuel : Nat) (x4 : Int32) (σ : zS) (w : Int32 × zS) (h : fX11_faces_118 fuel x4 σ = some w), zR (zY0 sc) 2 0 0 mX11_faces 118 [(0, .ref 56), (4, .int x4)] [] (zE σ) (some (.int w.1), zE w.2) := by
  intro fuel
  induction fuel with
  | zero => intro x4 σ w h; exact nomatch h
  | succ f ih =>
    intro x4 σ w h
    rw [fX11_faces_118] at h
    refine kR.iload dX11_faces_118 1 rfl ?_
    refine kR.aload_n dX11_faces_120 0 rfl ?_
    refine kR.getI dX11_faces_121 flX11_231 zcf11 zp56 (Or.inl rfl) ?_
    refine kR.icmp_ge (tgt := 167) dX11_faces_124 (by decide) h (fun h => ?_) (fun h => ?_)
    · refine kR.aload_n dX11_faces_167 0 rfl ?_
      refine kR.getI dX11_faces_168 flX11_231 zcf11 zp56 (Or.inl rfl) ?_
      exact kR.iretW dX11_faces_171 (nzI rfl _) h
    · refine kR.aload_n dX11_faces_127 0 rfl ?_
      refine kR.getR (v := 99) dX11_faces_128 flX11_237 zcf11 zp56 (Or.inr ⟨_, rfl⟩) rfl ?_
      refine kR.iload dX11_faces_131 1 rfl ?_
      refine kR.aload_n dX11_faces_133 0 rfl ?_
      refine kR.getR (v := 57) dX11_faces_134 flX11_7 zcf11 zp56 (Or.inr ⟨_, rfl⟩) rfl ?_
      refine zR.iconst (v := 2) dX11_faces_137 (by decide) ?_
      refine kR.iload dX11_faces_138 1 rfl ?_
      refine zR.imul dX11_faces_140 ?_
      refine kR.iald dX11_faces_141 zp57 rfl h (fun v6 h => ?_)
      refine kR.iast dX11_faces_142 zp99 rfl h (fun σ7 h => ?_)
      refine kR.aload_n dX11_faces_143 0 rfl ?_
      refine kR.getR (v := 100) dX11_faces_144 flX11_240 zcf11 zp56 (Or.inr ⟨_, rfl⟩) rfl ?_
      refine kR.iload dX11_faces_147 1 rfl ?_
      refine kR.aload_n dX11_faces_149 0 rfl ?_
      refine kR.getR (v := 57) dX11_faces_150 flX11_7 zcf11 zp56 (Or.inr ⟨_, rfl⟩) rfl ?_
      refine zR.iconst (v := 2) dX11_faces_153 (by decide) ?_
      refine kR.iload dX11_faces_154 1 rfl ?_
      refine zR.imul dX11_faces_156 ?_
      refine zR.iconst (v := 1) dX11_faces_157 (by decide) ?_
      refine zR.iadd dX11_faces_158 ?_
      refine kR.iald dX11_faces_159 zp57 rfl h (fun v8 h => ?_)
      refine kR.iast dX11_faces_160 zp100 rfl h (fun σ9 h => ?_)
      refine zR.iinc 1 (v := x4 + 1) (ls' := [(4, .int (x4 + 1)), (0, .ref 56)]) dX11_faces_161 rfl rfl (by decide) rfl ?_
      refine zR.goto (tgt := 118) dX11_faces_164 (by decide) ?_
      refine zR.sub [1, 0] rfl ?_
      exact ih _ _ _ h
def fX11_faces_93 (x1 : Int32) (x2 : Int32) (x3 : Int32) (σ : zS) : Option (Int32 × zS) := if x3 = 0 then bnc (fX11_refuses 4 σ) fun v12 σ10 => some (v12, σ10) else bnd (iS σ 56 73 x1) fun σ4 => bnd (iS σ4 56 72 (x2 / 2)) fun σ5 => fX11_faces_118 zF 0 σ5
theorem kX11_faces_93 {sc : Nat × (Nat → Int32)} (x1 : Int32) (x2 : Int32) (x3 : Int32) (σ : zS) (w : Int32 × zS) (h : fX11_faces_93 x1 x2 x3 σ = some w) : zR (zY0 sc) 2 0 0 mX11_faces 93 [(0, .ref 56), (1, .int x1), (2, .int x2), (3, .int x3)] [] (zE σ) (some (.int w.1), zE w.2) := by
  unfold fX11_faces_93 at h
  refine kR.iload_n dX11_faces_93 3 rfl ?_
  refine kR.if_ne (tgt := 103) dX11_faces_94 (by decide) h (fun h => ?_) (fun h => ?_)
  · refine kR.aload_n dX11_faces_103 0 rfl ?_
    refine kR.iload_n dX11_faces_104 1 rfl ?_
    refine kR.putI dX11_faces_105 fpX11_234 zcf11 zp56 rfl h (fun σ4 h => ?_)
    refine kR.aload_n dX11_faces_108 0 rfl ?_
    refine kR.iload_n dX11_faces_109 2 rfl ?_
    refine zR.iconst (v := 2) dX11_faces_110 (by decide) ?_
    refine zR.idiv dX11_faces_111 (by decide) ?_
    refine kR.putI dX11_faces_112 fpX11_231 zcf11 zp56 rfl h (fun σ5 h => ?_)
    refine zR.iconst (v := 0) dX11_faces_115 (by decide) ?_
    refine zR.istore (i := 4) (ls' := [(4, .int 0), (0, .ref 56), (1, .int x1), (2, .int x2), (3, .int x3)]) dX11_faces_116 (by decide) rfl ?_
    refine zR.sub [1, 0] rfl ?_
    exact kX11_faces_118 zF _ _ _ h
  · refine kR.aload_n dX11_faces_97 0 rfl ?_
    refine zR.iconst (v := 4) dX11_faces_98 (by decide) ?_
    obtain ⟨v12, σ10, e11, h⟩ := bnc_some h
    refine kR.cVi [.int 4] dX11_faces_99 rfl (by decide) mwX11_252 zp56 (by decide) rfl rfl (Nat.le_of_ble_eq_true rfl) (lX11_refuses 4 σ _ e11) ?_
    exact kR.iretW dX11_faces_102 (nzI rfl _) h
def fX11_faces_86 (r43 : Int32 → Int32 → Int32 → Int32 → zS → Option (Int32 × zS)) (x1 : Int32) (x2 : Int32) (x4 : Int32) (s0 : Int32) (σ : zS) : Option (Int32 × zS) := r43 x1 x2 s0 (x4 + 2) σ
theorem kX11_faces_86 {sc : Nat × (Nat → Int32)} (r43 : Int32 → Int32 → Int32 → Int32 → zS → Option (Int32 × zS)) (hr43 : ∀ (x1 : Int32) (x2 : Int32) (x3 : Int32) (x4 : Int32) (σ : zS) (w : Int32 × zS), r43 x1 x2 x3 x4 σ = some w → zR (zY0 sc) 2 0 0 mX11_faces 43 [(0, .ref 56), (1, .int x1), (2, .int x2), (3, .int x3), (4, .int x4)] [] (zE σ) (some (.int w.1), zE w.2)) (x1 : Int32) (x2 : Int32) (x4 : Int32) (s0 : Int32) (σ : zS) (w : Int32 × zS) (h : fX11_faces_86 r43 x1 x2 x4 s0 σ = some w) : zR (zY0 sc) 2 0 0 mX11_faces 86 [(0, .ref 56), (1, .int x1), (2, .int x2), (4, .int x4)] [.int s0] (zE σ) (some (.int w.1), zE w.2) := by
  unfold fX11_faces_86 at h
  refine zR.istore_n (i := 3) (ls' := [(3, .int s0), (0, .ref 56), (1, .int x1), (2, .int x2), (4, .int x4)]) dX11_faces_86 rfl (by decide) rfl ?_
  refine zR.iinc 4 (v := x4 + 2) (ls' := [(4, .int (x4 + 2)), (3, .int s0), (0, .ref 56), (1, .int x1), (2, .int x2)]) dX11_faces_87 rfl rfl (by decide) rfl ?_
  refine zR.goto (tgt := 43) dX11_faces_90 (by decide) ?_
  refine zR.sub [2, 3, 4, 1, 0] rfl ?_
  exact hr43 _ _ _ _ _ _ h
def fX11_faces_85 (r43 : Int32 → Int32 → Int32 → Int32 → zS → Option (Int32 × zS)) (x1 : Int32) (x2 : Int32) (x4 : Int32) (σ : zS) : Option (Int32 × zS) := fX11_faces_86 r43 x1 x2 x4 0 σ
theorem kX11_faces_85 {sc : Nat × (Nat → Int32)} (r43 : Int32 → Int32 → Int32 → Int32 → zS → Option (Int32 × zS)) (hr43 : ∀ (x1 : Int32) (x2 : Int32) (x3 : Int32) (x4 : Int32) (σ : zS) (w : Int32 × zS), r43 x1 x2 x3 x4 σ = some w → zR (zY0 sc) 2 0 0 mX11_faces 43 [(0, .ref 56), (1, .int x1), (2, .int x2), (3, .int x3), (4, .int x4)] [] (zE σ) (some (.int w.1), zE w.2)) (x1 : Int32) (x2 : Int32) (x4 : Int32) (σ : zS) (w : Int32 × zS) (h : fX11_faces_85 r43 x1 x2 x4 σ = some w) : zR (zY0 sc) 2 0 0 mX11_faces 85 [(0, .ref 56), (1, .int x1), (2, .int x2), (4, .int x4)] [] (zE σ) (some (.int w.1), zE w.2) := by
  unfold fX11_faces_85 at h
  refine zR.iconst (v := 0) dX11_faces_85 (by decide) ?_
  exact kX11_faces_86 r43 hr43 _ _ _ _ _ _ h
def fX11_faces_43 : Nat → Int32 → Int32 → Int32 → Int32 → zS → Option (Int32 × zS)
  | 0, _, _, _, _, _ => none
  | f + 1, x1, x2, x3, x4, σ => if x2 ≤ x4 then fX11_faces_93 x1 x2 x3 σ else if x3 = 0 then fX11_faces_93 x1 x2 x3 σ else aI σ 57 1800 x4 fun v13 => bnr (fX11_isHolder σ v13) fun v14 => if v14 = 0 then fX11_faces_85 (fX11_faces_43 f) x1 x2 x4 σ else aI σ 57 1800 (x4 + 1) fun v16 => if 60 < v16 then fX11_faces_85 (fX11_faces_43 f) x1 x2 x4 σ else fX11_faces_86 (fX11_faces_43 f) x1 x2 x4 1 σ
theorem kX11_faces_43 {sc : Nat × (Nat → Int32)} : ∀ (fuel : Nat) (x1 : Int32) (x2 : Int32) (x3 : Int32) (x4 : Int32) (σ : zS) (w : Int32 × zS) (h : fX11_faces_43 fuel x1 x2 x3 x4 σ = some w), zR (zY0 sc) 2 0 0 mX11_faces 43 [(0, .ref 56), (1, .int x1), (2, .int x2), (3, .int x3), (4, .int x4)] [] (zE σ) (some (.int w.1), zE w.2) := by
  intro fuel
  induction fuel with
  | zero => intro x1 x2 x3 x4 σ w h; exact nomatch h
  | succ f ih =>
    intro x1 x2 x3 x4 σ w h
    rw [fX11_faces_43] at h
    refine kR.iload dX11_faces_43 4 rfl ?_
    refine kR.iload_n dX11_faces_45 2 rfl ?_
    refine kR.icmp_ge (tgt := 93) dX11_faces_46 (by decide) h (fun h => ?_) (fun h => ?_)
    · refine zR.sub [0, 1, 2, 3] rfl ?_
      exact kX11_faces_93 _ _ _ _ _ h
    · refine kR.iload_n dX11_faces_49 3 rfl ?_
      refine kR.if_eq (tgt := 93) dX11_faces_50 (by decide) h (fun h => ?_) (fun h => ?_)
      · refine zR.sub [0, 1, 2, 3] rfl ?_
        exact kX11_faces_93 _ _ _ _ _ h
      · refine kR.aload_n dX11_faces_53 0 rfl ?_
        refine kR.aload_n dX11_faces_54 0 rfl ?_
        refine kR.getR (v := 57) dX11_faces_55 flX11_7 zcf11 zp56 (Or.inr ⟨_, rfl⟩) rfl ?_
        refine kR.iload dX11_faces_58 4 rfl ?_
        refine kR.iald dX11_faces_60 zp57 rfl h (fun v13 h => ?_)
        obtain ⟨v14, e15, h⟩ := bnr_some h
        refine kR.cVi [.int v13] dX11_faces_61 rfl (by decide) mwX11_506 zp56 (by decide) rfl rfl (Nat.le_of_ble_eq_true rfl) (lX11_isHolder σ v13 _ e15) ?_
        refine kR.if_eq (tgt := 85) dX11_faces_64 (by decide) h (fun h => ?_) (fun h => ?_)
        · refine zR.sub [0, 1, 2, 4] rfl ?_
          exact kX11_faces_85 (fX11_faces_43 f) ih _ _ _ _ _ h
        · refine kR.aload_n dX11_faces_67 0 rfl ?_
          refine kR.getR (v := 57) dX11_faces_68 flX11_7 zcf11 zp56 (Or.inr ⟨_, rfl⟩) rfl ?_
          refine kR.iload dX11_faces_71 4 rfl ?_
          refine zR.iconst (v := 1) dX11_faces_73 (by decide) ?_
          refine zR.iadd dX11_faces_74 ?_
          refine kR.iald dX11_faces_75 zp57 rfl h (fun v16 h => ?_)
          refine zR.bipush (v := 60) dX11_faces_76 (by decide) ?_
          refine kR.icmp_gt (tgt := 85) dX11_faces_78 (by decide) h (fun h => ?_) (fun h => ?_)
          · refine zR.sub [0, 1, 2, 4] rfl ?_
            exact kX11_faces_85 (fX11_faces_43 f) ih _ _ _ _ _ h
          · refine zR.iconst (v := 1) dX11_faces_81 (by decide) ?_
            refine zR.goto (tgt := 86) dX11_faces_82 (by decide) ?_
            refine zR.sub [0, 1, 2, 4] rfl ?_
            exact kX11_faces_86 (fX11_faces_43 f) ih _ _ _ _ _ _ h
def fX11_faces_39 (x1 : Int32) (x2 : Int32) (s0 : Int32) (σ : zS) : Option (Int32 × zS) := fX11_faces_43 zF x1 x2 s0 0 σ
theorem kX11_faces_39 {sc : Nat × (Nat → Int32)} (x1 : Int32) (x2 : Int32) (s0 : Int32) (σ : zS) (w : Int32 × zS) (h : fX11_faces_39 x1 x2 s0 σ = some w) : zR (zY0 sc) 2 0 0 mX11_faces 39 [(0, .ref 56), (1, .int x1), (2, .int x2)] [.int s0] (zE σ) (some (.int w.1), zE w.2) := by
  unfold fX11_faces_39 at h
  refine zR.istore_n (i := 3) (ls' := [(3, .int s0), (0, .ref 56), (1, .int x1), (2, .int x2)]) dX11_faces_39 rfl (by decide) rfl ?_
  refine zR.iconst (v := 0) dX11_faces_40 (by decide) ?_
  refine zR.istore (i := 4) (ls' := [(4, .int 0), (3, .int s0), (0, .ref 56), (1, .int x1), (2, .int x2)]) dX11_faces_41 (by decide) rfl ?_
  refine zR.sub [2, 3, 4, 1, 0] rfl ?_
  exact kX11_faces_43 zF _ _ _ _ _ _ h
def fX11_faces_38 (x1 : Int32) (x2 : Int32) (σ : zS) : Option (Int32 × zS) := fX11_faces_39 x1 x2 0 σ
theorem kX11_faces_38 {sc : Nat × (Nat → Int32)} (x1 : Int32) (x2 : Int32) (σ : zS) (w : Int32 × zS) (h : fX11_faces_38 x1 x2 σ = some w) : zR (zY0 sc) 2 0 0 mX11_faces 38 [(0, .ref 56), (1, .int x1), (2, .int x2)] [] (zE σ) (some (.int w.1), zE w.2) := by
  unfold fX11_faces_38 at h
  refine zR.iconst (v := 0) dX11_faces_38 (by decide) ?_
  exact kX11_faces_39 _ _ _ _ _ h
def fX11_faces (p1 : Int32) (σ : zS) : Option (Int32 × zS) := bnd (iS σ 56 1 0) fun σ1 => bnr (fX11_isTunnel σ1 p1) fun v2 => if v2 = 0 then fX11_faces_38 p1 (iG σ 56 1) σ1 else if (iG σ 56 1) ≤ 0 then fX11_faces_38 p1 (iG σ 56 1) σ1 else if ((iG σ 56 1) - (iG σ 56 1) / 2 * 2) = 0 then if 24 < (iG σ 56 1) then fX11_faces_38 p1 (iG σ 56 1) σ1 else fX11_faces_39 p1 (iG σ 56 1) 1 σ1 else fX11_faces_38 p1 (iG σ 56 1) σ1
theorem eX11_faces {sc : Nat × (Nat → Int32)} (p1 : Int32) (σ : zS) (w : Int32 × zS) (h : fX11_faces p1 σ = some w) : zR (zY0 sc) 2 0 0 mX11_faces 0 [(0, .ref 56), (1, .int p1)] [] (zE σ) (some (.int w.1), zE w.2) := by
  unfold fX11_faces at h
  refine kR.aload_n dX11_faces_0 0 rfl ?_
  refine kR.getI dX11_faces_1 flX11_13 zcf11 zp56 (Or.inl rfl) ?_
  refine zR.istore_n (i := 2) (ls' := [(2, .int (iG σ 56 1)), (0, .ref 56), (1, .int p1)]) dX11_faces_4 rfl (by decide) rfl ?_
  refine kR.aload_n dX11_faces_5 1 rfl ?_
  refine zR.iconst (v := 0) dX11_faces_6 (by decide) ?_
  refine kR.putI dX11_faces_7 fpX11_13 zcf11 zp56 rfl h (fun σ1 h => ?_)
  refine kR.aload_n dX11_faces_10 1 rfl ?_
  refine kR.iload_n dX11_faces_11 2 rfl ?_
  obtain ⟨v2, e3, h⟩ := bnr_some h
  refine kR.cVi [.int p1] dX11_faces_12 rfl (by decide) mwX11_497 zp56 (by decide) rfl rfl (Nat.le_of_ble_eq_true rfl) (lX11_isTunnel σ1 p1 _ e3) ?_
  refine kR.if_eq (tgt := 38) dX11_faces_15 (by decide) h (fun h => ?_) (fun h => ?_)
  · refine zR.sub [1, 2, 0] rfl ?_
    exact kX11_faces_38 _ _ _ _ h
  · refine kR.iload_n dX11_faces_18 0 rfl ?_
    refine kR.if_le (tgt := 38) dX11_faces_19 (by decide) h (fun h => ?_) (fun h => ?_)
    · refine zR.sub [1, 2, 0] rfl ?_
      exact kX11_faces_38 _ _ _ _ h
    · refine kR.iload_n dX11_faces_22 0 rfl ?_
      refine zR.iconst (v := 2) dX11_faces_23 (by decide) ?_
      refine zR.irem dX11_faces_24 (by decide) ?_
      refine kR.if_ne (tgt := 38) dX11_faces_25 (by decide) h (fun h => ?_) (fun h => ?_)
      · refine zR.sub [1, 2, 0] rfl ?_
        exact kX11_faces_38 _ _ _ _ h
      · refine kR.iload_n dX11_faces_28 0 rfl ?_
        refine zR.bipush (v := 24) dX11_faces_29 (by decide) ?_
        refine kR.icmp_gt (tgt := 38) dX11_faces_31 (by decide) h (fun h => ?_) (fun h => ?_)
        · refine zR.sub [1, 2, 0] rfl ?_
          exact kX11_faces_38 _ _ _ _ h
        · refine zR.iconst (v := 1) dX11_faces_34 (by decide) ?_
          refine zR.goto (tgt := 39) dX11_faces_35 (by decide) ?_
          refine zR.sub [1, 2, 0] rfl ?_
          exact kX11_faces_39 _ _ _ _ _ h
theorem lX11_faces {sc : Nat × (Nat → Int32)} (p1 : Int32) (σ : zS) (w : Int32 × zS) (h : fX11_faces p1 σ = some w) : zC (zY0 sc) 2 0 0 mX11_faces [.ref 56, .int p1] (zE σ) (some (.int w.1), zE w.2) := zC.of (by decide +kernel) (Nat.le_of_ble_eq_true rfl) ⟨_, rfl⟩ (eX11_faces p1 σ w h)
theorem dX11_isByFaces_0 : decode cX11_isByFaces 0 = .ok (.iconst 0, 1) := by decide +kernel
theorem dX11_isByFaces_1 : decode cX11_isByFaces 1 = .ok (.istore_n 2, 1) := by decide +kernel
theorem dX11_isByFaces_2 : decode cX11_isByFaces 2 = .ok (.iload_n 2, 1) := by decide +kernel
theorem dX11_isByFaces_3 : decode cX11_isByFaces 3 = .ok (.aload_n 0, 1) := by decide +kernel
theorem dX11_isByFaces_4 : decode cX11_isByFaces 4 = .ok (.getfield 231, 3) := by decide +kernel
theorem dX11_isByFaces_7 : decode cX11_isByFaces 7 = .ok (.if_icmp .ge 35, 3) := by decide +kernel
theorem dX11_isByFaces_10 : decode cX11_isByFaces 10 = .ok (.aload_n 0, 1) := by decide +kernel
theorem dX11_isByFaces_11 : decode cX11_isByFaces 11 = .ok (.aload_n 0, 1) := by decide +kernel
theorem dX11_isByFaces_12 : decode cX11_isByFaces 12 = .ok (.getfield 237, 3) := by decide +kernel
theorem dX11_isByFaces_15 : decode cX11_isByFaces 15 = .ok (.iload_n 2, 1) := by decide +kernel
theorem dX11_isByFaces_16 : decode cX11_isByFaces 16 = .ok (.iaload, 1) := by decide +kernel
theorem dX11_isByFaces_17 : decode cX11_isByFaces 17 = .ok (.aload_n 0, 1) := by decide +kernel
theorem dX11_isByFaces_18 : decode cX11_isByFaces 18 = .ok (.getfield 234, 3) := by decide +kernel
theorem dX11_isByFaces_21 : decode cX11_isByFaces 21 = .ok (.iload_n 1, 1) := by decide +kernel
theorem dX11_isByFaces_22 : decode cX11_isByFaces 22 = .ok (.invokevirtual 487, 3) := by decide +kernel
theorem dX11_isByFaces_25 : decode cX11_isByFaces 25 = .ok (.aload_n 0, 1) := by decide +kernel
theorem dX11_isByFaces_26 : decode cX11_isByFaces 26 = .ok (.getfield 240, 3) := by decide +kernel
theorem dX11_isByFaces_29 : decode cX11_isByFaces 29 = .ok (.iload_n 2, 1) := by decide +kernel
theorem dX11_isByFaces_30 : decode cX11_isByFaces 30 = .ok (.iaload, 1) := by decide +kernel
theorem dX11_isByFaces_31 : decode cX11_isByFaces 31 = .ok (.if_icmp .eq 5, 3) := by decide +kernel
theorem dX11_isByFaces_34 : decode cX11_isByFaces 34 = .ok (.iconst 0, 1) := by decide +kernel
theorem dX11_isByFaces_35 : decode cX11_isByFaces 35 = .ok (.ireturn, 1) := by decide +kernel
theorem dX11_isByFaces_36 : decode cX11_isByFaces 36 = .ok (.iinc 2 1, 3) := by decide +kernel
theorem dX11_isByFaces_39 : decode cX11_isByFaces 39 = .ok (.goto (-37), 3) := by decide +kernel
theorem dX11_isByFaces_42 : decode cX11_isByFaces 42 = .ok (.iconst 1, 1) := by decide +kernel
theorem dX11_isByFaces_43 : decode cX11_isByFaces 43 = .ok (.ireturn, 1) := by decide +kernel
def fX11_isByFaces_2 (σ : zS) : Nat → Int32 → Int32 → Option Int32
  | 0, _, _ => none
  | f + 1, x1, x2 => if (iG σ 56 72) ≤ x2 then some 1 else aI σ 99 12 x2 fun v1 => bnr (fX11_holdOf σ v1 (iG σ 56 73) x1) fun v2 => aI σ 100 12 x2 fun v4 => if v2 = v4 then fX11_isByFaces_2 σ f x1 (x2 + 1) else some 0
theorem kX11_isByFaces_2 {sc : Nat × (Nat → Int32)} (σ : zS) : ∀ (fuel : Nat) (x1 : Int32) (x2 : Int32) (w : Int32) (h : fX11_isByFaces_2 σ fuel x1 x2 = some w), zR (zY0 sc) 3 0 0 mX11_isByFaces 2 [(0, .ref 56), (1, .int x1), (2, .int x2)] [] (zE σ) (some (.int w), zE σ) := by
  intro fuel
  induction fuel with
  | zero => intro x1 x2 w h; exact nomatch h
  | succ f ih =>
    intro x1 x2 w h
    rw [fX11_isByFaces_2] at h
    refine kR.iload_n dX11_isByFaces_2 2 rfl ?_
    refine kR.aload_n dX11_isByFaces_3 0 rfl ?_
    refine kR.getI dX11_isByFaces_4 flX11_231 zcf11 zp56 (Or.inl rfl) ?_
    refine kR.icmp_ge (tgt := 42) dX11_isByFaces_7 (by decide) h (fun h => ?_) (fun h => ?_)
    · refine zR.iconst (v := 1) dX11_isByFaces_42 (by decide) ?_
      exact kR.iretO dX11_isByFaces_43 (nzZ rfl (Or.inr rfl)) h
    · refine kR.aload_n dX11_isByFaces_10 0 rfl ?_
      refine kR.aload_n dX11_isByFaces_11 0 rfl ?_
      refine kR.getR (v := 99) dX11_isByFaces_12 flX11_237 zcf11 zp56 (Or.inr ⟨_, rfl⟩) rfl ?_
      refine kR.iload_n dX11_isByFaces_15 2 rfl ?_
      refine kR.iald dX11_isByFaces_16 zp99 rfl h (fun v1 h => ?_)
      refine kR.aload_n dX11_isByFaces_17 0 rfl ?_
      refine kR.getI dX11_isByFaces_18 flX11_234 zcf11 zp56 (Or.inl rfl) ?_
      refine kR.iload_n dX11_isByFaces_21 1 rfl ?_
      obtain ⟨v2, e3, h⟩ := bnr_some h
      refine kR.cVi [.int v1, .int (iG σ 56 73), .int x1] dX11_isByFaces_22 rfl (by decide) mwX11_487 zp56 (by decide) rfl rfl (Nat.le_of_ble_eq_true rfl) (lX11_holdOf σ v1 (iG σ 56 73) x1 _ e3) ?_
      refine kR.aload_n dX11_isByFaces_25 0 rfl ?_
      refine kR.getR (v := 100) dX11_isByFaces_26 flX11_240 zcf11 zp56 (Or.inr ⟨_, rfl⟩) rfl ?_
      refine kR.iload_n dX11_isByFaces_29 2 rfl ?_
      refine kR.iald dX11_isByFaces_30 zp100 rfl h (fun v4 h => ?_)
      refine kR.icmp_eq (tgt := 36) dX11_isByFaces_31 (by decide) h (fun h => ?_) (fun h => ?_)
      · refine zR.iinc 2 (v := x2 + 1) (ls' := [(2, .int (x2 + 1)), (0, .ref 56), (1, .int x1)]) dX11_isByFaces_36 rfl rfl (by decide) rfl ?_
        refine zR.goto (tgt := 2) dX11_isByFaces_39 (by decide) ?_
        refine zR.sub [1, 2, 0] rfl ?_
        exact ih _ _ _ h
      · refine zR.iconst (v := 0) dX11_isByFaces_34 (by decide) ?_
        exact kR.iretO dX11_isByFaces_35 (nzZ rfl (Or.inl rfl)) h
def fX11_isByFaces (σ : zS) (p1 : Int32) : Option Int32 := fX11_isByFaces_2 σ zF p1 0
theorem eX11_isByFaces {sc : Nat × (Nat → Int32)} (σ : zS) (p1 : Int32) (w : Int32) (h : fX11_isByFaces σ p1 = some w) : zR (zY0 sc) 3 0 0 mX11_isByFaces 0 [(0, .ref 56), (1, .int p1)] [] (zE σ) (some (.int w), zE σ) := by
  unfold fX11_isByFaces at h
  refine zR.iconst (v := 0) dX11_isByFaces_0 (by decide) ?_
  refine zR.istore_n (i := 2) (ls' := [(2, .int 0), (0, .ref 56), (1, .int p1)]) dX11_isByFaces_1 rfl (by decide) rfl ?_
  refine zR.sub [1, 2, 0] rfl ?_
  exact kX11_isByFaces_2 σ zF _ _ _ h
theorem lX11_isByFaces {sc : Nat × (Nat → Int32)} (σ : zS) (p1 : Int32) (w : Int32) (h : fX11_isByFaces σ p1 = some w) : zC (zY0 sc) 3 0 0 mX11_isByFaces [.ref 56, .int p1] (zE σ) (some (.int w), zE σ) := zC.of (by decide +kernel) (Nat.le_of_ble_eq_true rfl) ⟨_, rfl⟩ (eX11_isByFaces σ p1 w h)
theorem dX11_fit_0 : decode cX11_fit 0 = .ok (.aload_n 0, 1) := by decide +kernel
theorem dX11_fit_1 : decode cX11_fit 1 = .ok (.getfield 231, 3) := by decide +kernel
theorem dX11_fit_4 : decode cX11_fit 4 = .ok (.ifCond .eq 12, 3) := by decide +kernel
theorem dX11_fit_7 : decode cX11_fit 7 = .ok (.iload_n 1, 1) := by decide +kernel
theorem dX11_fit_8 : decode cX11_fit 8 = .ok (.iconst 0, 1) := by decide +kernel
theorem dX11_fit_9 : decode cX11_fit 9 = .ok (.iconst 2, 1) := by decide +kernel
theorem dX11_fit_10 : decode cX11_fit 10 = .ok (.invokestatic 338, 3) := by decide +kernel
theorem dX11_fit_13 : decode cX11_fit 13 = .ok (.ifCond .ne 5, 3) := by decide +kernel
theorem dX11_fit_16 : decode cX11_fit 16 = .ok (.iconst (-1), 1) := by decide +kernel
theorem dX11_fit_17 : decode cX11_fit 17 = .ok (.ireturn, 1) := by decide +kernel
theorem dX11_fit_18 : decode cX11_fit 18 = .ok (.iconst 0, 1) := by decide +kernel
theorem dX11_fit_19 : decode cX11_fit 19 = .ok (.istore_n 2, 1) := by decide +kernel
theorem dX11_fit_20 : decode cX11_fit 20 = .ok (.iconst 0, 1) := by decide +kernel
theorem dX11_fit_21 : decode cX11_fit 21 = .ok (.istore_n 3, 1) := by decide +kernel
theorem dX11_fit_22 : decode cX11_fit 22 = .ok (.iconst 0, 1) := by decide +kernel
theorem dX11_fit_23 : decode cX11_fit 23 = .ok (.istore 4, 2) := by decide +kernel
theorem dX11_fit_25 : decode cX11_fit 25 = .ok (.iconst 0, 1) := by decide +kernel
theorem dX11_fit_26 : decode cX11_fit 26 = .ok (.istore 5, 2) := by decide +kernel
theorem dX11_fit_28 : decode cX11_fit 28 = .ok (.iload 5, 2) := by decide +kernel
theorem dX11_fit_30 : decode cX11_fit 30 = .ok (.aload_n 0, 1) := by decide +kernel
theorem dX11_fit_31 : decode cX11_fit 31 = .ok (.aload_n 0, 1) := by decide +kernel
theorem dX11_fit_32 : decode cX11_fit 32 = .ok (.getfield 234, 3) := by decide +kernel
theorem dX11_fit_35 : decode cX11_fit 35 = .ok (.invokevirtual 437, 3) := by decide +kernel
theorem dX11_fit_38 : decode cX11_fit 38 = .ok (.if_icmp .ge 54, 3) := by decide +kernel
theorem dX11_fit_41 : decode cX11_fit 41 = .ok (.aload_n 0, 1) := by decide +kernel
theorem dX11_fit_42 : decode cX11_fit 42 = .ok (.aload_n 0, 1) := by decide +kernel
theorem dX11_fit_43 : decode cX11_fit 43 = .ok (.aload_n 0, 1) := by decide +kernel
theorem dX11_fit_44 : decode cX11_fit 44 = .ok (.getfield 234, 3) := by decide +kernel
theorem dX11_fit_47 : decode cX11_fit 47 = .ok (.iload 5, 2) := by decide +kernel
theorem dX11_fit_49 : decode cX11_fit 49 = .ok (.invokevirtual 503, 3) := by decide +kernel
theorem dX11_fit_52 : decode cX11_fit 52 = .ok (.invokevirtual 551, 3) := by decide +kernel
theorem dX11_fit_55 : decode cX11_fit 55 = .ok (.ifCond .ne 6, 3) := by decide +kernel
theorem dX11_fit_58 : decode cX11_fit 58 = .ok (.goto 28, 3) := by decide +kernel
theorem dX11_fit_61 : decode cX11_fit 61 = .ok (.iinc 2 1, 3) := by decide +kernel
theorem dX11_fit_64 : decode cX11_fit 64 = .ok (.iload_n 3, 1) := by decide +kernel
theorem dX11_fit_65 : decode cX11_fit 65 = .ok (.iconst 1, 1) := by decide +kernel
theorem dX11_fit_66 : decode cX11_fit 66 = .ok (.iload 5, 2) := by decide +kernel
theorem dX11_fit_68 : decode cX11_fit 68 = .ok (.ishl, 1) := by decide +kernel
theorem dX11_fit_69 : decode cX11_fit 69 = .ok (.ior, 1) := by decide +kernel
theorem dX11_fit_70 : decode cX11_fit 70 = .ok (.istore_n 3, 1) := by decide +kernel
theorem dX11_fit_71 : decode cX11_fit 71 = .ok (.iload 4, 2) := by decide +kernel
theorem dX11_fit_73 : decode cX11_fit 73 = .ok (.aload_n 0, 1) := by decide +kernel
theorem dX11_fit_74 : decode cX11_fit 74 = .ok (.aload_n 0, 1) := by decide +kernel
theorem dX11_fit_75 : decode cX11_fit 75 = .ok (.getfield 234, 3) := by decide +kernel
theorem dX11_fit_78 : decode cX11_fit 78 = .ok (.iload 5, 2) := by decide +kernel
theorem dX11_fit_80 : decode cX11_fit 80 = .ok (.invokevirtual 440, 3) := by decide +kernel
theorem dX11_fit_83 : decode cX11_fit 83 = .ok (.iadd, 1) := by decide +kernel
theorem dX11_fit_84 : decode cX11_fit 84 = .ok (.istore 4, 2) := by decide +kernel
theorem dX11_fit_86 : decode cX11_fit 86 = .ok (.iinc 5 1, 3) := by decide +kernel
theorem dX11_fit_89 : decode cX11_fit 89 = .ok (.goto (-61), 3) := by decide +kernel
theorem dX11_fit_92 : decode cX11_fit 92 = .ok (.iload_n 1, 1) := by decide +kernel
theorem dX11_fit_93 : decode cX11_fit 93 = .ok (.ifCond .ne 7, 3) := by decide +kernel
theorem dX11_fit_96 : decode cX11_fit 96 = .ok (.iload_n 2, 1) := by decide +kernel
theorem dX11_fit_97 : decode cX11_fit 97 = .ok (.goto 27, 3) := by decide +kernel
theorem dX11_fit_100 : decode cX11_fit 100 = .ok (.iload_n 1, 1) := by decide +kernel
theorem dX11_fit_101 : decode cX11_fit 101 = .ok (.iconst 1, 1) := by decide +kernel
theorem dX11_fit_102 : decode cX11_fit 102 = .ok (.if_icmp .ne 7, 3) := by decide +kernel
theorem dX11_fit_105 : decode cX11_fit 105 = .ok (.iload_n 3, 1) := by decide +kernel
theorem dX11_fit_106 : decode cX11_fit 106 = .ok (.goto 18, 3) := by decide +kernel
theorem dX11_fit_109 : decode cX11_fit 109 = .ok (.sipush 1000, 3) := by decide +kernel
theorem dX11_fit_112 : decode cX11_fit 112 = .ok (.iload 4, 2) := by decide +kernel
theorem dX11_fit_114 : decode cX11_fit 114 = .ok (.imul, 1) := by decide +kernel
theorem dX11_fit_115 : decode cX11_fit 115 = .ok (.aload_n 0, 1) := by decide +kernel
theorem dX11_fit_116 : decode cX11_fit 116 = .ok (.aload_n 0, 1) := by decide +kernel
theorem dX11_fit_117 : decode cX11_fit 117 = .ok (.getfield 234, 3) := by decide +kernel
theorem dX11_fit_120 : decode cX11_fit 120 = .ok (.invokevirtual 500, 3) := by decide +kernel
theorem dX11_fit_123 : decode cX11_fit 123 = .ok (.idiv, 1) := by decide +kernel
theorem dX11_fit_124 : decode cX11_fit 124 = .ok (.ireturn, 1) := by decide +kernel
def fX11_fit_86 (σ : zS) (r28 : Int32 → Int32 → Int32 → Int32 → Int32 → Option Int32) (x1 : Int32) (x2 : Int32) (x3 : Int32) (x4 : Int32) (x5 : Int32) : Option Int32 := r28 x1 x2 x3 x4 (x5 + 1)
theorem kX11_fit_86 {sc : Nat × (Nat → Int32)} (σ : zS) (r28 : Int32 → Int32 → Int32 → Int32 → Int32 → Option Int32) (hr28 : ∀ (x1 : Int32) (x2 : Int32) (x3 : Int32) (x4 : Int32) (x5 : Int32) (w : Int32), r28 x1 x2 x3 x4 x5 = some w → zR (zY0 sc) 4 0 0 mX11_fit 28 [(0, .ref 56), (1, .int x1), (2, .int x2), (3, .int x3), (4, .int x4), (5, .int x5)] [] (zE σ) (some (.int w), zE σ)) (x1 : Int32) (x2 : Int32) (x3 : Int32) (x4 : Int32) (x5 : Int32) (w : Int32) (h : fX11_fit_86 σ r28 x1 x2 x3 x4 x5 = some w) : zR (zY0 sc) 4 0 0 mX11_fit 86 [(0, .ref 56), (1, .int x1), (2, .int x2), (3, .int x3), (4, .int x4), (5, .int x5)] [] (zE σ) (some (.int w), zE σ) := by
  unfold fX11_fit_86 at h
  refine zR.iinc 5 (v := x5 + 1) (ls' := [(5, .int (x5 + 1)), (0, .ref 56), (1, .int x1), (2, .int x2), (3, .int x3), (4, .int x4)]) dX11_fit_86 rfl rfl (by decide) rfl ?_
  refine zR.goto (tgt := 28) dX11_fit_89 (by decide) ?_
  refine zR.sub [1, 2, 3, 4, 5, 0] rfl ?_
  exact hr28 _ _ _ _ _ _ h
def fX11_fit_28 (σ : zS) : Nat → Int32 → Int32 → Int32 → Int32 → Int32 → Option Int32
  | 0, _, _, _, _, _ => none
  | f + 1, x1, x2, x3, x4, x5 => bnr (fX11_lengthsOf σ (iG σ 56 73)) fun v1 => if v1 ≤ x5 then if x1 = 0 then some x2 else if x1 = 1 then some x3 else bnr (fX11_weights σ (iG σ 56 73)) fun v3 => gd (¬ v3 = 0) (some ((1000 * x4) / v3)) else bnr (fX11_lengthAt σ (iG σ 56 73) x5) fun v5 => bnr (fX11_isByFaces σ v5) fun v7 => if v7 = 0 then fX11_fit_86 σ (fX11_fit_28 σ f) x1 x2 x3 x4 x5 else bnr (fX11_weightAt σ (iG σ 56 73) x5) fun v9 => fX11_fit_86 σ (fX11_fit_28 σ f) x1 (x2 + 1) (x3 ||| (1 <<< (x5 &&& 31))) (x4 + v9) x5
theorem kX11_fit_28 {sc : Nat × (Nat → Int32)} (σ : zS) : ∀ (fuel : Nat) (x1 : Int32) (x2 : Int32) (x3 : Int32) (x4 : Int32) (x5 : Int32) (w : Int32) (h : fX11_fit_28 σ fuel x1 x2 x3 x4 x5 = some w), zR (zY0 sc) 4 0 0 mX11_fit 28 [(0, .ref 56), (1, .int x1), (2, .int x2), (3, .int x3), (4, .int x4), (5, .int x5)] [] (zE σ) (some (.int w), zE σ) := by
  intro fuel
  induction fuel with
  | zero => intro x1 x2 x3 x4 x5 w h; exact nomatch h
  | succ f ih =>
    intro x1 x2 x3 x4 x5 w h
    rw [fX11_fit_28] at h
    refine kR.iload dX11_fit_28 5 rfl ?_
    refine kR.aload_n dX11_fit_30 0 rfl ?_
    refine kR.aload_n dX11_fit_31 0 rfl ?_
    refine kR.getI dX11_fit_32 flX11_234 zcf11 zp56 (Or.inl rfl) ?_
    obtain ⟨v1, e2, h⟩ := bnr_some h
    refine kR.cVi [.int (iG σ 56 73)] dX11_fit_35 rfl (by decide) mwX11_437 zp56 (by decide) rfl rfl (Nat.le_of_ble_eq_true rfl) (lX11_lengthsOf σ (iG σ 56 73) _ e2) ?_
    refine kR.icmp_ge (tgt := 92) dX11_fit_38 (by decide) h (fun h => ?_) (fun h => ?_)
    · refine kR.iload_n dX11_fit_92 1 rfl ?_
      refine kR.if_ne (tgt := 100) dX11_fit_93 (by decide) h (fun h => ?_) (fun h => ?_)
      · refine kR.iload_n dX11_fit_100 1 rfl ?_
        refine zR.iconst (v := 1) dX11_fit_101 (by decide) ?_
        refine kR.icmp_ne (tgt := 109) dX11_fit_102 (by decide) h (fun h => ?_) (fun h => ?_)
        · refine zR.sipush (v := 1000) dX11_fit_109 (by decide) ?_
          refine kR.iload dX11_fit_112 4 rfl ?_
          refine zR.imul dX11_fit_114 ?_
          refine kR.aload_n dX11_fit_115 0 rfl ?_
          refine kR.aload_n dX11_fit_116 0 rfl ?_
          refine kR.getI dX11_fit_117 flX11_234 zcf11 zp56 (Or.inl rfl) ?_
          obtain ⟨v3, e4, h⟩ := bnr_some h
          refine kR.cVi [.int (iG σ 56 73)] dX11_fit_120 rfl (by decide) mwX11_500 zp56 (by decide) rfl rfl (Nat.le_of_ble_eq_true rfl) (lX11_weights σ (iG σ 56 73) _ e4) ?_
          refine kR.idiv dX11_fit_123 h (fun h => ?_)
          exact kR.iretO dX11_fit_124 (nzI rfl _) h
        · refine kR.iload_n dX11_fit_105 3 rfl ?_
          refine zR.goto (tgt := 124) dX11_fit_106 (by decide) ?_
          exact kR.iretO dX11_fit_124 (nzI rfl _) h
      · refine kR.iload_n dX11_fit_96 2 rfl ?_
        refine zR.goto (tgt := 124) dX11_fit_97 (by decide) ?_
        exact kR.iretO dX11_fit_124 (nzI rfl _) h
    · refine kR.aload_n dX11_fit_41 0 rfl ?_
      refine kR.aload_n dX11_fit_42 0 rfl ?_
      refine kR.aload_n dX11_fit_43 0 rfl ?_
      refine kR.getI dX11_fit_44 flX11_234 zcf11 zp56 (Or.inl rfl) ?_
      refine kR.iload dX11_fit_47 5 rfl ?_
      obtain ⟨v5, e6, h⟩ := bnr_some h
      refine kR.cVi [.int (iG σ 56 73), .int x5] dX11_fit_49 rfl (by decide) mwX11_503 zp56 (by decide) rfl rfl (Nat.le_of_ble_eq_true rfl) (lX11_lengthAt σ (iG σ 56 73) x5 _ e6) ?_
      obtain ⟨v7, e8, h⟩ := bnr_some h
      refine kR.cVi [.int v5] dX11_fit_52 rfl (by decide) mwX11_551 zp56 (by decide) rfl rfl (Nat.le_of_ble_eq_true rfl) (lX11_isByFaces σ v5 _ e8) ?_
      refine kR.if_ne (tgt := 61) dX11_fit_55 (by decide) h (fun h => ?_) (fun h => ?_)
      · refine zR.iinc 2 (v := x2 + 1) (ls' := [(2, .int (x2 + 1)), (0, .ref 56), (1, .int x1), (3, .int x3), (4, .int x4), (5, .int x5)]) dX11_fit_61 rfl rfl (by decide) rfl ?_
        refine kR.iload_n dX11_fit_64 3 rfl ?_
        refine zR.iconst (v := 1) dX11_fit_65 (by decide) ?_
        refine kR.iload dX11_fit_66 5 rfl ?_
        refine zR.ishl dX11_fit_68 ?_
        refine zR.ior dX11_fit_69 ?_
        refine zR.istore_n (i := 3) (ls' := [(3, .int (x3 ||| (1 <<< (x5 &&& 31)))), (2, .int (x2 + 1)), (0, .ref 56), (1, .int x1), (4, .int x4), (5, .int x5)]) dX11_fit_70 rfl (by decide) rfl ?_
        refine kR.iload dX11_fit_71 4 rfl ?_
        refine kR.aload_n dX11_fit_73 2 rfl ?_
        refine kR.aload_n dX11_fit_74 2 rfl ?_
        refine kR.getI dX11_fit_75 flX11_234 zcf11 zp56 (Or.inl rfl) ?_
        refine kR.iload dX11_fit_78 5 rfl ?_
        obtain ⟨v9, e10, h⟩ := bnr_some h
        refine kR.cVi [.int (iG σ 56 73), .int x5] dX11_fit_80 rfl (by decide) mwX11_440 zp56 (by decide) rfl rfl (Nat.le_of_ble_eq_true rfl) (lX11_weightAt σ (iG σ 56 73) x5 _ e10) ?_
        refine zR.iadd dX11_fit_83 ?_
        refine zR.istore (i := 4) (ls' := [(4, .int (x4 + v9)), (3, .int (x3 ||| (1 <<< (x5 &&& 31)))), (2, .int (x2 + 1)), (0, .ref 56), (1, .int x1), (5, .int x5)]) dX11_fit_84 (by decide) rfl ?_
        refine zR.sub [3, 4, 2, 1, 0, 5] rfl ?_
        exact kX11_fit_86 σ (fX11_fit_28 σ f) ih _ _ _ _ _ _ h
      · refine zR.goto (tgt := 86) dX11_fit_58 (by decide) ?_
        exact kX11_fit_86 σ (fX11_fit_28 σ f) ih _ _ _ _ _ _ h
def fX11_fit (σ : zS) (p1 : Int32) : Option Int32 := if (iG σ 56 72) = 0 then some ((-1)) else if (fX11_is p1 0 2) = 0 then some ((-1)) else fX11_fit_28 σ zF p1 0 0 0 0
theorem eX11_fit {sc : Nat × (Nat → Int32)} (σ : zS) (p1 : Int32) (w : Int32) (h : fX11_fit σ p1 = some w) : zR (zY0 sc) 4 0 0 mX11_fit 0 [(0, .ref 56), (1, .int p1)] [] (zE σ) (some (.int w), zE σ) := by
  unfold fX11_fit at h
  refine kR.aload_n dX11_fit_0 0 rfl ?_
  refine kR.getI dX11_fit_1 flX11_231 zcf11 zp56 (Or.inl rfl) ?_
  refine kR.if_eq (tgt := 16) dX11_fit_4 (by decide) h (fun h => ?_) (fun h => ?_)
  · refine zR.iconst (v := (-1)) dX11_fit_16 (by decide) ?_
    exact kR.iretO dX11_fit_17 (nzI rfl _) h
  · refine kR.iload_n dX11_fit_7 1 rfl ?_
    refine zR.iconst (v := 0) dX11_fit_8 (by decide) ?_
    refine zR.iconst (v := 2) dX11_fit_9 (by decide) ?_
    refine kR.cSi [.int p1, .int 0, .int 2] dX11_fit_10 rfl (by decide) (Or.inl mwX11_338) rfl (Nat.le_of_ble_eq_true rfl) (lX11_is p1 0 2) ?_
    refine kR.if_ne (tgt := 18) dX11_fit_13 (by decide) h (fun h => ?_) (fun h => ?_)
    · refine zR.iconst (v := 0) dX11_fit_18 (by decide) ?_
      refine zR.istore_n (i := 2) (ls' := [(2, .int 0), (0, .ref 56), (1, .int p1)]) dX11_fit_19 rfl (by decide) rfl ?_
      refine zR.iconst (v := 0) dX11_fit_20 (by decide) ?_
      refine zR.istore_n (i := 3) (ls' := [(3, .int 0), (2, .int 0), (0, .ref 56), (1, .int p1)]) dX11_fit_21 rfl (by decide) rfl ?_
      refine zR.iconst (v := 0) dX11_fit_22 (by decide) ?_
      refine zR.istore (i := 4) (ls' := [(4, .int 0), (3, .int 0), (2, .int 0), (0, .ref 56), (1, .int p1)]) dX11_fit_23 (by decide) rfl ?_
      refine zR.iconst (v := 0) dX11_fit_25 (by decide) ?_
      refine zR.istore (i := 5) (ls' := [(5, .int 0), (4, .int 0), (3, .int 0), (2, .int 0), (0, .ref 56), (1, .int p1)]) dX11_fit_26 (by decide) rfl ?_
      refine zR.sub [4, 5, 3, 2, 1, 0] rfl ?_
      exact kX11_fit_28 σ zF _ _ _ _ _ _ h
    · refine zR.iconst (v := (-1)) dX11_fit_16 (by decide) ?_
      exact kR.iretO dX11_fit_17 (nzI rfl _) h
theorem lX11_fit {sc : Nat × (Nat → Int32)} (σ : zS) (p1 : Int32) (w : Int32) (h : fX11_fit σ p1 = some w) : zC (zY0 sc) 4 0 0 mX11_fit [.ref 56, .int p1] (zE σ) (some (.int w), zE σ) := zC.of (by decide +kernel) (Nat.le_of_ble_eq_true rfl) ⟨_, rfl⟩ (eX11_fit σ p1 w h)
theorem dX11_draw_0 : decode cX11_draw 0 = .ok (.aload_n 0, 1) := by decide +kernel
theorem dX11_draw_1 : decode cX11_draw 1 = .ok (.ldc2_w 554, 3) := by decide +kernel
theorem dX11_draw_4 : decode cX11_draw 4 = .ok (.aload_n 0, 1) := by decide +kernel
theorem dX11_draw_5 : decode cX11_draw 5 = .ok (.getfield 192, 3) := by decide +kernel
theorem dX11_draw_8 : decode cX11_draw 8 = .ok (.lmul, 1) := by decide +kernel
theorem dX11_draw_9 : decode cX11_draw 9 = .ok (.ldc2_w 556, 3) := by decide +kernel
theorem dX11_draw_12 : decode cX11_draw 12 = .ok (.ladd, 1) := by decide +kernel
theorem dX11_draw_13 : decode cX11_draw 13 = .ok (.ldc2_w 558, 3) := by decide +kernel
theorem dX11_draw_16 : decode cX11_draw 16 = .ok (.lrem, 1) := by decide +kernel
theorem dX11_draw_17 : decode cX11_draw 17 = .ok (.putfield 192, 3) := by decide +kernel
theorem dX11_draw_20 : decode cX11_draw 20 = .ok (.aload_n 0, 1) := by decide +kernel
theorem dX11_draw_21 : decode cX11_draw 21 = .ok (.getfield 192, 3) := by decide +kernel
theorem dX11_draw_24 : decode cX11_draw 24 = .ok (.ldc2_w 560, 3) := by decide +kernel
theorem dX11_draw_27 : decode cX11_draw 27 = .ok (.ldiv, 1) := by decide +kernel
theorem dX11_draw_28 : decode cX11_draw 28 = .ok (.iload_n 1, 1) := by decide +kernel
theorem dX11_draw_29 : decode cX11_draw 29 = .ok (.i2l, 1) := by decide +kernel
theorem dX11_draw_30 : decode cX11_draw 30 = .ok (.lrem, 1) := by decide +kernel
theorem dX11_draw_31 : decode cX11_draw 31 = .ok (.l2i, 1) := by decide +kernel
theorem dX11_draw_32 : decode cX11_draw 32 = .ok (.ireturn, 1) := by decide +kernel
def fX11_draw (p1 : Int32) (σ : zS) : Option (Int32 × zS) := bnd (((1103515245 * (lG σ 56 59)) + 12345) - ((1103515245 * (lG σ 56 59)) + 12345) / 2147483648 * 2147483648) fun v1 => bnd (lS σ 56 59 v1) fun σ2 => gd (¬ p1.toInt64 = 0) (bnd (((lG σ2 56 59) / 64) - ((lG σ2 56 59) / 64) / p1.toInt64 * p1.toInt64) fun v3 => some (((v3) : Int64).toInt32, σ2))
theorem eX11_draw {sc : Nat × (Nat → Int32)} (p1 : Int32) (σ : zS) (w : Int32 × zS) (h : fX11_draw p1 σ = some w) : zR (zY0 sc) 1 0 0 mX11_draw 0 [(0, .ref 56), (1, .int p1)] [] (zE σ) (some (.int w.1), zE w.2) := by
  unfold fX11_draw at h
  refine kR.aload_n dX11_draw_0 0 rfl ?_
  refine zR.ldc2 (v := 1103515245) dX11_draw_1 clX11_554 ?_
  refine kR.aload_n dX11_draw_4 0 rfl ?_
  refine kR.getL dX11_draw_5 flX11_192 zcf11 zp56 rfl ?_
  refine zR.lmul dX11_draw_8 ?_
  refine zR.ldc2 (v := 12345) dX11_draw_9 clX11_556 ?_
  refine zR.ladd dX11_draw_12 ?_
  refine zR.ldc2 (v := 2147483648) dX11_draw_13 clX11_558 ?_
  refine zR.lrem dX11_draw_16 (by decide) ?_
  refine kR.nmL h (fun v1 h => ?_)
  refine kR.putL dX11_draw_17 fpX11_192 zcf11 zp56 rfl h (fun σ2 h => ?_)
  refine kR.aload_n dX11_draw_20 0 rfl ?_
  refine kR.getL dX11_draw_21 flX11_192 zcf11 zp56 rfl ?_
  refine zR.ldc2 (v := 64) dX11_draw_24 clX11_560 ?_
  refine zR.ldiv dX11_draw_27 (by decide) ?_
  refine kR.iload_n dX11_draw_28 1 rfl ?_
  refine zR.i2l dX11_draw_29 ?_
  refine kR.lrem dX11_draw_30 h (fun h => ?_)
  refine kR.nmL h (fun v3 h => ?_)
  refine zR.l2i dX11_draw_31 ?_
  exact kR.iretW dX11_draw_32 (nzI rfl _) h
theorem lX11_draw {sc : Nat × (Nat → Int32)} (p1 : Int32) (σ : zS) (w : Int32 × zS) (h : fX11_draw p1 σ = some w) : zC (zY0 sc) 1 0 0 mX11_draw [.ref 56, .int p1] (zE σ) (some (.int w.1), zE w.2) := zC.of (by decide +kernel) (Nat.le_of_ble_eq_true rfl) ⟨_, rfl⟩ (eX11_draw p1 σ w h)
theorem dX11_writesDown_0 : decode cX11_writesDown 0 = .ok (.aload_n 0, 1) := by decide +kernel
theorem dX11_writesDown_1 : decode cX11_writesDown 1 = .ok (.getfield 171, 3) := by decide +kernel
theorem dX11_writesDown_4 : decode cX11_writesDown 4 = .ok (.iconst 0, 1) := by decide +kernel
theorem dX11_writesDown_5 : decode cX11_writesDown 5 = .ok (.iaload, 1) := by decide +kernel
theorem dX11_writesDown_6 : decode cX11_writesDown 6 = .ok (.bipush 48, 2) := by decide +kernel
theorem dX11_writesDown_8 : decode cX11_writesDown 8 = .ok (.if_icmp .ne 93, 3) := by decide +kernel
theorem dX11_writesDown_11 : decode cX11_writesDown 11 = .ok (.iconst 0, 1) := by decide +kernel
theorem dX11_writesDown_12 : decode cX11_writesDown 12 = .ok (.istore 4, 2) := by decide +kernel
theorem dX11_writesDown_14 : decode cX11_writesDown 14 = .ok (.iload 4, 2) := by decide +kernel
theorem dX11_writesDown_16 : decode cX11_writesDown 16 = .ok (.bipush 47, 2) := by decide +kernel
theorem dX11_writesDown_18 : decode cX11_writesDown 18 = .ok (.if_icmp .ge 73, 3) := by decide +kernel
theorem dX11_writesDown_21 : decode cX11_writesDown 21 = .ok (.aload_n 0, 1) := by decide +kernel
theorem dX11_writesDown_22 : decode cX11_writesDown 22 = .ok (.getfield 174, 3) := by decide +kernel
theorem dX11_writesDown_25 : decode cX11_writesDown 25 = .ok (.iload 4, 2) := by decide +kernel
theorem dX11_writesDown_27 : decode cX11_writesDown 27 = .ok (.aload_n 0, 1) := by decide +kernel
theorem dX11_writesDown_28 : decode cX11_writesDown 28 = .ok (.getfield 174, 3) := by decide +kernel
theorem dX11_writesDown_31 : decode cX11_writesDown 31 = .ok (.iload 4, 2) := by decide +kernel
theorem dX11_writesDown_33 : decode cX11_writesDown 33 = .ok (.iconst 1, 1) := by decide +kernel
theorem dX11_writesDown_34 : decode cX11_writesDown 34 = .ok (.iadd, 1) := by decide +kernel
theorem dX11_writesDown_35 : decode cX11_writesDown 35 = .ok (.iaload, 1) := by decide +kernel
theorem dX11_writesDown_36 : decode cX11_writesDown 36 = .ok (.iastore, 1) := by decide +kernel
theorem dX11_writesDown_37 : decode cX11_writesDown 37 = .ok (.aload_n 0, 1) := by decide +kernel
theorem dX11_writesDown_38 : decode cX11_writesDown 38 = .ok (.getfield 177, 3) := by decide +kernel
theorem dX11_writesDown_41 : decode cX11_writesDown 41 = .ok (.iload 4, 2) := by decide +kernel
theorem dX11_writesDown_43 : decode cX11_writesDown 43 = .ok (.aload_n 0, 1) := by decide +kernel
theorem dX11_writesDown_44 : decode cX11_writesDown 44 = .ok (.getfield 177, 3) := by decide +kernel
theorem dX11_writesDown_47 : decode cX11_writesDown 47 = .ok (.iload 4, 2) := by decide +kernel
theorem dX11_writesDown_49 : decode cX11_writesDown 49 = .ok (.iconst 1, 1) := by decide +kernel
theorem dX11_writesDown_50 : decode cX11_writesDown 50 = .ok (.iadd, 1) := by decide +kernel
theorem dX11_writesDown_51 : decode cX11_writesDown 51 = .ok (.iaload, 1) := by decide +kernel
theorem dX11_writesDown_52 : decode cX11_writesDown 52 = .ok (.iastore, 1) := by decide +kernel
theorem dX11_writesDown_53 : decode cX11_writesDown 53 = .ok (.aload_n 0, 1) := by decide +kernel
theorem dX11_writesDown_54 : decode cX11_writesDown 54 = .ok (.getfield 180, 3) := by decide +kernel
theorem dX11_writesDown_57 : decode cX11_writesDown 57 = .ok (.iload 4, 2) := by decide +kernel
theorem dX11_writesDown_59 : decode cX11_writesDown 59 = .ok (.aload_n 0, 1) := by decide +kernel
theorem dX11_writesDown_60 : decode cX11_writesDown 60 = .ok (.getfield 180, 3) := by decide +kernel
theorem dX11_writesDown_63 : decode cX11_writesDown 63 = .ok (.iload 4, 2) := by decide +kernel
theorem dX11_writesDown_65 : decode cX11_writesDown 65 = .ok (.iconst 1, 1) := by decide +kernel
theorem dX11_writesDown_66 : decode cX11_writesDown 66 = .ok (.iadd, 1) := by decide +kernel
theorem dX11_writesDown_67 : decode cX11_writesDown 67 = .ok (.iaload, 1) := by decide +kernel
theorem dX11_writesDown_68 : decode cX11_writesDown 68 = .ok (.iastore, 1) := by decide +kernel
theorem dX11_writesDown_69 : decode cX11_writesDown 69 = .ok (.aload_n 0, 1) := by decide +kernel
theorem dX11_writesDown_70 : decode cX11_writesDown 70 = .ok (.getfield 183, 3) := by decide +kernel
theorem dX11_writesDown_73 : decode cX11_writesDown 73 = .ok (.iload 4, 2) := by decide +kernel
theorem dX11_writesDown_75 : decode cX11_writesDown 75 = .ok (.aload_n 0, 1) := by decide +kernel
theorem dX11_writesDown_76 : decode cX11_writesDown 76 = .ok (.getfield 183, 3) := by decide +kernel
theorem dX11_writesDown_79 : decode cX11_writesDown 79 = .ok (.iload 4, 2) := by decide +kernel
theorem dX11_writesDown_81 : decode cX11_writesDown 81 = .ok (.iconst 1, 1) := by decide +kernel
theorem dX11_writesDown_82 : decode cX11_writesDown 82 = .ok (.iadd, 1) := by decide +kernel
theorem dX11_writesDown_83 : decode cX11_writesDown 83 = .ok (.iaload, 1) := by decide +kernel
theorem dX11_writesDown_84 : decode cX11_writesDown 84 = .ok (.iastore, 1) := by decide +kernel
theorem dX11_writesDown_85 : decode cX11_writesDown 85 = .ok (.iinc 4 1, 3) := by decide +kernel
theorem dX11_writesDown_88 : decode cX11_writesDown 88 = .ok (.goto (-74), 3) := by decide +kernel
theorem dX11_writesDown_91 : decode cX11_writesDown 91 = .ok (.aload_n 0, 1) := by decide +kernel
theorem dX11_writesDown_92 : decode cX11_writesDown 92 = .ok (.getfield 171, 3) := by decide +kernel
theorem dX11_writesDown_95 : decode cX11_writesDown 95 = .ok (.iconst 0, 1) := by decide +kernel
theorem dX11_writesDown_96 : decode cX11_writesDown 96 = .ok (.dup2, 1) := by decide +kernel
theorem dX11_writesDown_97 : decode cX11_writesDown 97 = .ok (.iaload, 1) := by decide +kernel
theorem dX11_writesDown_98 : decode cX11_writesDown 98 = .ok (.iconst 1, 1) := by decide +kernel
theorem dX11_writesDown_99 : decode cX11_writesDown 99 = .ok (.isub, 1) := by decide +kernel
theorem dX11_writesDown_100 : decode cX11_writesDown 100 = .ok (.iastore, 1) := by decide +kernel
theorem dX11_writesDown_101 : decode cX11_writesDown 101 = .ok (.aload_n 0, 1) := by decide +kernel
theorem dX11_writesDown_102 : decode cX11_writesDown 102 = .ok (.getfield 171, 3) := by decide +kernel
theorem dX11_writesDown_105 : decode cX11_writesDown 105 = .ok (.iconst 0, 1) := by decide +kernel
theorem dX11_writesDown_106 : decode cX11_writesDown 106 = .ok (.iaload, 1) := by decide +kernel
theorem dX11_writesDown_107 : decode cX11_writesDown 107 = .ok (.istore 4, 2) := by decide +kernel
theorem dX11_writesDown_109 : decode cX11_writesDown 109 = .ok (.aload_n 0, 1) := by decide +kernel
theorem dX11_writesDown_110 : decode cX11_writesDown 110 = .ok (.getfield 174, 3) := by decide +kernel
theorem dX11_writesDown_113 : decode cX11_writesDown 113 = .ok (.iload 4, 2) := by decide +kernel
theorem dX11_writesDown_115 : decode cX11_writesDown 115 = .ok (.iload_n 1, 1) := by decide +kernel
theorem dX11_writesDown_116 : decode cX11_writesDown 116 = .ok (.iastore, 1) := by decide +kernel
theorem dX11_writesDown_117 : decode cX11_writesDown 117 = .ok (.aload_n 0, 1) := by decide +kernel
theorem dX11_writesDown_118 : decode cX11_writesDown 118 = .ok (.getfield 177, 3) := by decide +kernel
theorem dX11_writesDown_121 : decode cX11_writesDown 121 = .ok (.iload 4, 2) := by decide +kernel
theorem dX11_writesDown_123 : decode cX11_writesDown 123 = .ok (.iload_n 2, 1) := by decide +kernel
theorem dX11_writesDown_124 : decode cX11_writesDown 124 = .ok (.iastore, 1) := by decide +kernel
theorem dX11_writesDown_125 : decode cX11_writesDown 125 = .ok (.aload_n 0, 1) := by decide +kernel
theorem dX11_writesDown_126 : decode cX11_writesDown 126 = .ok (.getfield 180, 3) := by decide +kernel
theorem dX11_writesDown_129 : decode cX11_writesDown 129 = .ok (.iload 4, 2) := by decide +kernel
theorem dX11_writesDown_131 : decode cX11_writesDown 131 = .ok (.iload_n 3, 1) := by decide +kernel
theorem dX11_writesDown_132 : decode cX11_writesDown 132 = .ok (.iastore, 1) := by decide +kernel
theorem dX11_writesDown_133 : decode cX11_writesDown 133 = .ok (.aload_n 0, 1) := by decide +kernel
theorem dX11_writesDown_134 : decode cX11_writesDown 134 = .ok (.getfield 183, 3) := by decide +kernel
theorem dX11_writesDown_137 : decode cX11_writesDown 137 = .ok (.iload 4, 2) := by decide +kernel
theorem dX11_writesDown_139 : decode cX11_writesDown 139 = .ok (.aload_n 0, 1) := by decide +kernel
theorem dX11_writesDown_140 : decode cX11_writesDown 140 = .ok (.getfield 216, 3) := by decide +kernel
theorem dX11_writesDown_143 : decode cX11_writesDown 143 = .ok (.iload_n 3, 1) := by decide +kernel
theorem dX11_writesDown_144 : decode cX11_writesDown 144 = .ok (.iaload, 1) := by decide +kernel
theorem dX11_writesDown_145 : decode cX11_writesDown 145 = .ok (.iastore, 1) := by decide +kernel
theorem dX11_writesDown_146 : decode cX11_writesDown 146 = .ok (.aload_n 0, 1) := by decide +kernel
theorem dX11_writesDown_147 : decode cX11_writesDown 147 = .ok (.getfield 171, 3) := by decide +kernel
theorem dX11_writesDown_150 : decode cX11_writesDown 150 = .ok (.iconst 0, 1) := by decide +kernel
theorem dX11_writesDown_151 : decode cX11_writesDown 151 = .ok (.dup2, 1) := by decide +kernel
theorem dX11_writesDown_152 : decode cX11_writesDown 152 = .ok (.iaload, 1) := by decide +kernel
theorem dX11_writesDown_153 : decode cX11_writesDown 153 = .ok (.iconst 1, 1) := by decide +kernel
theorem dX11_writesDown_154 : decode cX11_writesDown 154 = .ok (.iadd, 1) := by decide +kernel
theorem dX11_writesDown_155 : decode cX11_writesDown 155 = .ok (.iastore, 1) := by decide +kernel
theorem dX11_writesDown_156 : decode cX11_writesDown 156 = .ok (.return_, 1) := by decide +kernel
def fX11_writesDown_101 (x1 : Int32) (x2 : Int32) (x3 : Int32) (σ : zS) : Option zS := aI σ 90 22 0 fun v2 => wI σ 91 1056 v2 x1 fun σ3 => wI σ3 92 1056 v2 x2 fun σ4 => wI σ4 93 1056 v2 x3 fun σ5 => aI σ5 96 6 x3 fun v6 => wI σ5 94 1056 v2 v6 fun σ7 => aI σ7 90 22 0 fun v8 => wI σ7 90 22 0 (v8 + 1) fun σ9 => some σ9
theorem kX11_writesDown_101 {sc : Nat × (Nat → Int32)} (x1 : Int32) (x2 : Int32) (x3 : Int32) (σ : zS) (w : zS) (h : fX11_writesDown_101 x1 x2 x3 σ = some w) : zR (zY0 sc) 1 0 0 mX11_writesDown 101 [(0, .ref 56), (1, .int x1), (2, .int x2), (3, .int x3)] [] (zE σ) (none, zE w) := by
  unfold fX11_writesDown_101 at h
  refine kR.aload_n dX11_writesDown_101 0 rfl ?_
  refine kR.getR (v := 90) dX11_writesDown_102 flX11_171 zcf11 zp56 (Or.inr ⟨_, rfl⟩) rfl ?_
  refine zR.iconst (v := 0) dX11_writesDown_105 (by decide) ?_
  refine kR.iald dX11_writesDown_106 zp90 rfl h (fun v2 h => ?_)
  refine zR.istore (i := 4) (ls' := [(4, .int v2), (0, .ref 56), (1, .int x1), (2, .int x2), (3, .int x3)]) dX11_writesDown_107 (by decide) rfl ?_
  refine kR.aload_n dX11_writesDown_109 1 rfl ?_
  refine kR.getR (v := 91) dX11_writesDown_110 flX11_174 zcf11 zp56 (Or.inr ⟨_, rfl⟩) rfl ?_
  refine kR.iload dX11_writesDown_113 0 rfl ?_
  refine kR.iload_n dX11_writesDown_115 2 rfl ?_
  refine kR.iast dX11_writesDown_116 zp91 rfl h (fun σ3 h => ?_)
  refine kR.aload_n dX11_writesDown_117 1 rfl ?_
  refine kR.getR (v := 92) dX11_writesDown_118 flX11_177 zcf11 zp56 (Or.inr ⟨_, rfl⟩) rfl ?_
  refine kR.iload dX11_writesDown_121 0 rfl ?_
  refine kR.iload_n dX11_writesDown_123 3 rfl ?_
  refine kR.iast dX11_writesDown_124 zp92 rfl h (fun σ4 h => ?_)
  refine kR.aload_n dX11_writesDown_125 1 rfl ?_
  refine kR.getR (v := 93) dX11_writesDown_126 flX11_180 zcf11 zp56 (Or.inr ⟨_, rfl⟩) rfl ?_
  refine kR.iload dX11_writesDown_129 0 rfl ?_
  refine kR.iload_n dX11_writesDown_131 4 rfl ?_
  refine kR.iast dX11_writesDown_132 zp93 rfl h (fun σ5 h => ?_)
  refine kR.aload_n dX11_writesDown_133 1 rfl ?_
  refine kR.getR (v := 94) dX11_writesDown_134 flX11_183 zcf11 zp56 (Or.inr ⟨_, rfl⟩) rfl ?_
  refine kR.iload dX11_writesDown_137 0 rfl ?_
  refine kR.aload_n dX11_writesDown_139 1 rfl ?_
  refine kR.getR (v := 96) dX11_writesDown_140 flX11_216 zcf11 zp56 (Or.inr ⟨_, rfl⟩) rfl ?_
  refine kR.iload_n dX11_writesDown_143 4 rfl ?_
  refine kR.iald dX11_writesDown_144 zp96 rfl h (fun v6 h => ?_)
  refine kR.iast dX11_writesDown_145 zp94 rfl h (fun σ7 h => ?_)
  refine kR.aload_n dX11_writesDown_146 1 rfl ?_
  refine kR.getR (v := 90) dX11_writesDown_147 flX11_171 zcf11 zp56 (Or.inr ⟨_, rfl⟩) rfl ?_
  refine zR.iconst (v := 0) dX11_writesDown_150 (by decide) ?_
  refine zR.dup2 dX11_writesDown_151 rfl rfl ?_
  refine kR.iald dX11_writesDown_152 zp90 rfl h (fun v8 h => ?_)
  refine zR.iconst (v := 1) dX11_writesDown_153 (by decide) ?_
  refine zR.iadd dX11_writesDown_154 ?_
  refine kR.iast dX11_writesDown_155 zp90 rfl h (fun σ9 h => ?_)
  exact kR.vret dX11_writesDown_156 h
def fX11_writesDown_14 : Nat → Int32 → Int32 → Int32 → Int32 → zS → Option zS
  | 0, _, _, _, _, _ => none
  | f + 1, x1, x2, x3, x4, σ => if 47 ≤ x4 then aI σ 90 22 0 fun v10 => wI σ 90 22 0 (v10 - 1) fun σ11 => fX11_writesDown_101 x1 x2 x3 σ11 else aI σ 91 1056 (x4 + 1) fun v12 => wI σ 91 1056 x4 v12 fun σ13 => aI σ13 92 1056 (x4 + 1) fun v14 => wI σ13 92 1056 x4 v14 fun σ15 => aI σ15 93 1056 (x4 + 1) fun v16 => wI σ15 93 1056 x4 v16 fun σ17 => aI σ17 94 1056 (x4 + 1) fun v18 => wI σ17 94 1056 x4 v18 fun σ19 => fX11_writesDown_14 f x1 x2 x3 (x4 + 1) σ19
theorem kX11_writesDown_14 {sc : Nat × (Nat → Int32)} : ∀ (fuel : Nat) (x1 : Int32) (x2 : Int32) (x3 : Int32) (x4 : Int32) (σ : zS) (w : zS) (h : fX11_writesDown_14 fuel x1 x2 x3 x4 σ = some w), zR (zY0 sc) 1 0 0 mX11_writesDown 14 [(0, .ref 56), (1, .int x1), (2, .int x2), (3, .int x3), (4, .int x4)] [] (zE σ) (none, zE w) := by
  intro fuel
  induction fuel with
  | zero => intro x1 x2 x3 x4 σ w h; exact nomatch h
  | succ f ih =>
    intro x1 x2 x3 x4 σ w h
    rw [fX11_writesDown_14] at h
    refine kR.iload dX11_writesDown_14 4 rfl ?_
    refine zR.bipush (v := 47) dX11_writesDown_16 (by decide) ?_
    refine kR.icmp_ge (tgt := 91) dX11_writesDown_18 (by decide) h (fun h => ?_) (fun h => ?_)
    · refine kR.aload_n dX11_writesDown_91 0 rfl ?_
      refine kR.getR (v := 90) dX11_writesDown_92 flX11_171 zcf11 zp56 (Or.inr ⟨_, rfl⟩) rfl ?_
      refine zR.iconst (v := 0) dX11_writesDown_95 (by decide) ?_
      refine zR.dup2 dX11_writesDown_96 rfl rfl ?_
      refine kR.iald dX11_writesDown_97 zp90 rfl h (fun v10 h => ?_)
      refine zR.iconst (v := 1) dX11_writesDown_98 (by decide) ?_
      refine zR.isub dX11_writesDown_99 ?_
      refine kR.iast dX11_writesDown_100 zp90 rfl h (fun σ11 h => ?_)
      refine zR.sub [0, 1, 2, 3] rfl ?_
      exact kX11_writesDown_101 _ _ _ _ _ h
    · refine kR.aload_n dX11_writesDown_21 0 rfl ?_
      refine kR.getR (v := 91) dX11_writesDown_22 flX11_174 zcf11 zp56 (Or.inr ⟨_, rfl⟩) rfl ?_
      refine kR.iload dX11_writesDown_25 4 rfl ?_
      refine kR.aload_n dX11_writesDown_27 0 rfl ?_
      refine kR.getR (v := 91) dX11_writesDown_28 flX11_174 zcf11 zp56 (Or.inr ⟨_, rfl⟩) rfl ?_
      refine kR.iload dX11_writesDown_31 4 rfl ?_
      refine zR.iconst (v := 1) dX11_writesDown_33 (by decide) ?_
      refine zR.iadd dX11_writesDown_34 ?_
      refine kR.iald dX11_writesDown_35 zp91 rfl h (fun v12 h => ?_)
      refine kR.iast dX11_writesDown_36 zp91 rfl h (fun σ13 h => ?_)
      refine kR.aload_n dX11_writesDown_37 0 rfl ?_
      refine kR.getR (v := 92) dX11_writesDown_38 flX11_177 zcf11 zp56 (Or.inr ⟨_, rfl⟩) rfl ?_
      refine kR.iload dX11_writesDown_41 4 rfl ?_
      refine kR.aload_n dX11_writesDown_43 0 rfl ?_
      refine kR.getR (v := 92) dX11_writesDown_44 flX11_177 zcf11 zp56 (Or.inr ⟨_, rfl⟩) rfl ?_
      refine kR.iload dX11_writesDown_47 4 rfl ?_
      refine zR.iconst (v := 1) dX11_writesDown_49 (by decide) ?_
      refine zR.iadd dX11_writesDown_50 ?_
      refine kR.iald dX11_writesDown_51 zp92 rfl h (fun v14 h => ?_)
      refine kR.iast dX11_writesDown_52 zp92 rfl h (fun σ15 h => ?_)
      refine kR.aload_n dX11_writesDown_53 0 rfl ?_
      refine kR.getR (v := 93) dX11_writesDown_54 flX11_180 zcf11 zp56 (Or.inr ⟨_, rfl⟩) rfl ?_
      refine kR.iload dX11_writesDown_57 4 rfl ?_
      refine kR.aload_n dX11_writesDown_59 0 rfl ?_
      refine kR.getR (v := 93) dX11_writesDown_60 flX11_180 zcf11 zp56 (Or.inr ⟨_, rfl⟩) rfl ?_
      refine kR.iload dX11_writesDown_63 4 rfl ?_
      refine zR.iconst (v := 1) dX11_writesDown_65 (by decide) ?_
      refine zR.iadd dX11_writesDown_66 ?_
      refine kR.iald dX11_writesDown_67 zp93 rfl h (fun v16 h => ?_)
      refine kR.iast dX11_writesDown_68 zp93 rfl h (fun σ17 h => ?_)
      refine kR.aload_n dX11_writesDown_69 0 rfl ?_
      refine kR.getR (v := 94) dX11_writesDown_70 flX11_183 zcf11 zp56 (Or.inr ⟨_, rfl⟩) rfl ?_
      refine kR.iload dX11_writesDown_73 4 rfl ?_
      refine kR.aload_n dX11_writesDown_75 0 rfl ?_
      refine kR.getR (v := 94) dX11_writesDown_76 flX11_183 zcf11 zp56 (Or.inr ⟨_, rfl⟩) rfl ?_
      refine kR.iload dX11_writesDown_79 4 rfl ?_
      refine zR.iconst (v := 1) dX11_writesDown_81 (by decide) ?_
      refine zR.iadd dX11_writesDown_82 ?_
      refine kR.iald dX11_writesDown_83 zp94 rfl h (fun v18 h => ?_)
      refine kR.iast dX11_writesDown_84 zp94 rfl h (fun σ19 h => ?_)
      refine zR.iinc 4 (v := x4 + 1) (ls' := [(4, .int (x4 + 1)), (0, .ref 56), (1, .int x1), (2, .int x2), (3, .int x3)]) dX11_writesDown_85 rfl rfl (by decide) rfl ?_
      refine zR.goto (tgt := 14) dX11_writesDown_88 (by decide) ?_
      refine zR.sub [1, 2, 3, 4, 0] rfl ?_
      exact ih _ _ _ _ _ _ h
def fX11_writesDown (p1 : Int32) (p2 : Int32) (p3 : Int32) (σ : zS) : Option zS := aI σ 90 22 0 fun v1 => if v1 = 48 then fX11_writesDown_14 zF p1 p2 p3 0 σ else fX11_writesDown_101 p1 p2 p3 σ
theorem eX11_writesDown {sc : Nat × (Nat → Int32)} (p1 : Int32) (p2 : Int32) (p3 : Int32) (σ : zS) (w : zS) (h : fX11_writesDown p1 p2 p3 σ = some w) : zR (zY0 sc) 1 0 0 mX11_writesDown 0 [(0, .ref 56), (1, .int p1), (2, .int p2), (3, .int p3)] [] (zE σ) (none, zE w) := by
  unfold fX11_writesDown at h
  refine kR.aload_n dX11_writesDown_0 0 rfl ?_
  refine kR.getR (v := 90) dX11_writesDown_1 flX11_171 zcf11 zp56 (Or.inr ⟨_, rfl⟩) rfl ?_
  refine zR.iconst (v := 0) dX11_writesDown_4 (by decide) ?_
  refine kR.iald dX11_writesDown_5 zp90 rfl h (fun v1 h => ?_)
  refine zR.bipush (v := 48) dX11_writesDown_6 (by decide) ?_
  refine kR.icmp_ne (tgt := 101) dX11_writesDown_8 (by decide) h (fun h => ?_) (fun h => ?_)
  · exact kX11_writesDown_101 _ _ _ _ _ h
  · refine zR.iconst (v := 0) dX11_writesDown_11 (by decide) ?_
    refine zR.istore (i := 4) (ls' := [(4, .int 0), (0, .ref 56), (1, .int p1), (2, .int p2), (3, .int p3)]) dX11_writesDown_12 (by decide) rfl ?_
    refine zR.sub [1, 2, 3, 4, 0] rfl ?_
    exact kX11_writesDown_14 zF _ _ _ _ _ _ h
theorem lX11_writesDown {sc : Nat × (Nat → Int32)} (p1 : Int32) (p2 : Int32) (p3 : Int32) (σ : zS) (w : zS) (h : fX11_writesDown p1 p2 p3 σ = some w) : zC (zY0 sc) 1 0 0 mX11_writesDown [.ref 56, .int p1, .int p2, .int p3] (zE σ) (none, zE w) := zC.of (by decide +kernel) (Nat.le_of_ble_eq_true rfl) rfl (eX11_writesDown p1 p2 p3 σ w h)

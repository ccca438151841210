/-! MY OWN (by program): X11_laughing, X11_driven, X11_drive, X11_pause, X11_believe, X11_give, X11_seed, X11_kept, X11_writes, X11_image, X11_octet, X11_holderOn, X11_comesOn -/
theorem dX11_laughing_0 : decode cX11_laughing 0 = .ok (.aload_n 0, 1) := by decide +kernel
theorem dX11_laughing_1 : decode cX11_laughing 1 = .ok (.getfield 75, 3) := by decide +kernel
theorem dX11_laughing_4 : decode cX11_laughing 4 = .ok (.bipush 6, 2) := by decide +kernel
theorem dX11_laughing_6 : decode cX11_laughing 6 = .ok (.aload_n 0, 1) := by decide +kernel
theorem dX11_laughing_7 : decode cX11_laughing 7 = .ok (.getfield 51, 3) := by decide +kernel
theorem dX11_laughing_10 : decode cX11_laughing 10 = .ok (.imul, 1) := by decide +kernel
theorem dX11_laughing_11 : decode cX11_laughing 11 = .ok (.iload_n 1, 1) := by decide +kernel
theorem dX11_laughing_12 : decode cX11_laughing 12 = .ok (.iadd, 1) := by decide +kernel
theorem dX11_laughing_13 : decode cX11_laughing 13 = .ok (.iaload, 1) := by decide +kernel
theorem dX11_laughing_14 : decode cX11_laughing 14 = .ok (.istore_n 3, 1) := by decide +kernel
theorem dX11_laughing_15 : decode cX11_laughing 15 = .ok (.iload_n 3, 1) := by decide +kernel
theorem dX11_laughing_16 : decode cX11_laughing 16 = .ok (.ifCond .ne 5, 3) := by decide +kernel
theorem dX11_laughing_19 : decode cX11_laughing 19 = .ok (.iload_n 2, 1) := by decide +kernel
theorem dX11_laughing_20 : decode cX11_laughing 20 = .ok (.ireturn, 1) := by decide +kernel
theorem dX11_laughing_21 : decode cX11_laughing 21 = .ok (.iconst 1, 1) := by decide +kernel
theorem dX11_laughing_22 : decode cX11_laughing 22 = .ok (.istore 4, 2) := by decide +kernel
theorem dX11_laughing_24 : decode cX11_laughing 24 = .ok (.iload 4, 2) := by decide +kernel
theorem dX11_laughing_26 : decode cX11_laughing 26 = .ok (.iload_n 2, 1) := by decide +kernel
theorem dX11_laughing_27 : decode cX11_laughing 27 = .ok (.if_icmp .gt 24, 3) := by decide +kernel
theorem dX11_laughing_30 : decode cX11_laughing 30 = .ok (.aload_n 0, 1) := by decide +kernel
theorem dX11_laughing_31 : decode cX11_laughing 31 = .ok (.bipush 100, 2) := by decide +kernel
theorem dX11_laughing_33 : decode cX11_laughing 33 = .ok (.invokevirtual 562, 3) := by decide +kernel
theorem dX11_laughing_36 : decode cX11_laughing 36 = .ok (.iload_n 3, 1) := by decide +kernel
theorem dX11_laughing_37 : decode cX11_laughing 37 = .ok (.if_icmp .ge 8, 3) := by decide +kernel
theorem dX11_laughing_40 : decode cX11_laughing 40 = .ok (.iload 4, 2) := by decide +kernel
theorem dX11_laughing_42 : decode cX11_laughing 42 = .ok (.iconst 1, 1) := by decide +kernel
theorem dX11_laughing_43 : decode cX11_laughing 43 = .ok (.isub, 1) := by decide +kernel
theorem dX11_laughing_44 : decode cX11_laughing 44 = .ok (.ireturn, 1) := by decide +kernel
theorem dX11_laughing_45 : decode cX11_laughing 45 = .ok (.iinc 4 1, 3) := by decide +kernel
theorem dX11_laughing_48 : decode cX11_laughing 48 = .ok (.goto (-24), 3) := by decide +kernel
theorem dX11_laughing_51 : decode cX11_laughing 51 = .ok (.iload_n 2, 1) := by decide +kernel
theorem dX11_laughing_52 : decode cX11_laughing 52 = .ok (.ireturn, 1) := by decide +kernel
def fX11_laughing_24 : Nat → Int32 → Int32 → Int32 → zS → Option (Int32 × zS)
  | 0, _, _, _, _ => none
  | f + 1, x2, x3, x4, σ => if x2 < x4 then some (x2, σ) else bnc (fX11_draw 100 σ) fun v4 σ2 => if x3 ≤ v4 then fX11_laughing_24 f x2 x3 (x4 + 1) σ2 else some (x4 - 1, σ2)
theorem kX11_laughing_24 {sc : Nat × (Nat → Int32)} : ∀ (fuel : Nat) (x2 : Int32) (x3 : Int32) (x4 : Int32) (σ : zS) (w : Int32 × zS) (h : fX11_laughing_24 fuel x2 x3 x4 σ = some w), zR (zY0 sc) 2 0 0 mX11_laughing 24 [(0, .ref 56), (2, .int x2), (3, .int x3), (4, .int x4)] [] (zE σ) (some (.int w.1), zE w.2) := by
  intro fuel
  induction fuel with
  | zero => intro x2 x3 x4 σ w h; exact nomatch h
  | succ f ih =>
    intro x2 x3 x4 σ w h
    rw [fX11_laughing_24] at h
    refine kR.iload dX11_laughing_24 3 rfl ?_
    refine kR.iload_n dX11_laughing_26 1 rfl ?_
    refine kR.icmp_gt (tgt := 51) dX11_laughing_27 (by decide) h (fun h => ?_) (fun h => ?_)
    · refine kR.iload_n dX11_laughing_51 1 rfl ?_
      exact kR.iretW dX11_laughing_52 (nzI rfl _) h
    · refine kR.aload_n dX11_laughing_30 0 rfl ?_
      refine zR.bipush (v := 100) dX11_laughing_31 (by decide) ?_
      obtain ⟨v4, σ2, e3, h⟩ := bnc_some h
      refine kR.cVi [.int 100] dX11_laughing_33 rfl (by decide) mwX11_562 zp56 (by decide) rfl rfl (Nat.le_of_ble_eq_true rfl) (lX11_draw 100 σ _ e3) ?_
      refine kR.iload_n dX11_laughing_36 2 rfl ?_
      refine kR.icmp_ge (tgt := 45) dX11_laughing_37 (by decide) h (fun h => ?_) (fun h => ?_)
      · refine zR.iinc 3 (v := x4 + 1) (ls' := [(4, .int (x4 + 1)), (0, .ref 56), (2, .int x2), (3, .int x3)]) dX11_laughing_45 rfl rfl (by decide) rfl ?_
        refine zR.goto (tgt := 24) dX11_laughing_48 (by decide) ?_
        refine zR.sub [1, 2, 3, 0] rfl ?_
        exact ih _ _ _ _ _ h
      · refine kR.iload dX11_laughing_40 3 rfl ?_
        refine zR.iconst (v := 1) dX11_laughing_42 (by decide) ?_
        refine zR.isub dX11_laughing_43 ?_
        exact kR.iretW dX11_laughing_44 (nzI rfl _) h
def fX11_laughing (p1 : Int32) (p2 : Int32) (σ : zS) : Option (Int32 × zS) := aI σ 65 12 ((6 * (iG σ 56 13)) + p1) fun v1 => if v1 = 0 then some (p2, σ) else fX11_laughing_24 zF p2 v1 1 σ
theorem eX11_laughing {sc : Nat × (Nat → Int32)} (p1 : Int32) (p2 : Int32) (σ : zS) (w : Int32 × zS) (h : fX11_laughing p1 p2 σ = some w) : zR (zY0 sc) 2 0 0 mX11_laughing 0 [(0, .ref 56), (1, .int p1), (2, .int p2)] [] (zE σ) (some (.int w.1), zE w.2) := by
  unfold fX11_laughing at h
  refine kR.aload_n dX11_laughing_0 0 rfl ?_
  refine kR.getR (v := 65) dX11_laughing_1 flX11_75 zcf11 zp56 (Or.inr ⟨_, rfl⟩) rfl ?_
  refine zR.bipush (v := 6) dX11_laughing_4 (by decide) ?_
  refine kR.aload_n dX11_laughing_6 0 rfl ?_
  refine kR.getI dX11_laughing_7 flX11_51 zcf11 zp56 (Or.inl rfl) ?_
  refine zR.imul dX11_laughing_10 ?_
  refine kR.iload_n dX11_laughing_11 1 rfl ?_
  refine zR.iadd dX11_laughing_12 ?_
  refine kR.iald dX11_laughing_13 zp65 rfl h (fun v1 h => ?_)
  refine zR.istore_n (i := 3) (ls' := [(3, .int v1), (0, .ref 56), (1, .int p1), (2, .int p2)]) dX11_laughing_14 rfl (by decide) rfl ?_
  refine kR.iload_n dX11_laughing_15 0 rfl ?_
  refine kR.if_ne (tgt := 21) dX11_laughing_16 (by decide) h (fun h => ?_) (fun h => ?_)
  · refine zR.iconst (v := 1) dX11_laughing_21 (by decide) ?_
    refine zR.istore (i := 4) (ls' := [(4, .int 1), (3, .int v1), (0, .ref 56), (1, .int p1), (2, .int p2)]) dX11_laughing_22 (by decide) rfl ?_
    refine zR.sub [2, 4, 1, 0] rfl ?_
    exact kX11_laughing_24 zF _ _ _ _ _ h
  · refine kR.iload_n dX11_laughing_19 3 rfl ?_
    exact kR.iretW dX11_laughing_20 (nzI rfl _) h
theorem lX11_laughing {sc : Nat × (Nat → Int32)} (p1 : Int32) (p2 : Int32) (σ : zS) (w : Int32 × zS) (h : fX11_laughing p1 p2 σ = some w) : zC (zY0 sc) 2 0 0 mX11_laughing [.ref 56, .int p1, .int p2] (zE σ) (some (.int w.1), zE w.2) := zC.of (by decide +kernel) (Nat.le_of_ble_eq_true rfl) ⟨_, rfl⟩ (eX11_laughing p1 p2 σ w h)
theorem dX11_driven_0 : decode cX11_driven 0 = .ok (.aload_n 0, 1) := by decide +kernel
theorem dX11_driven_1 : decode cX11_driven 1 = .ok (.getfield 156, 3) := by decide +kernel
theorem dX11_driven_4 : decode cX11_driven 4 = .ok (.iconst 0, 1) := by decide +kernel
theorem dX11_driven_5 : decode cX11_driven 5 = .ok (.iaload, 1) := by decide +kernel
theorem dX11_driven_6 : decode cX11_driven 6 = .ok (.istore_n 1, 1) := by decide +kernel
theorem dX11_driven_7 : decode cX11_driven 7 = .ok (.aload_n 0, 1) := by decide +kernel
theorem dX11_driven_8 : decode cX11_driven 8 = .ok (.aload_n 0, 1) := by decide +kernel
theorem dX11_driven_9 : decode cX11_driven 9 = .ok (.iload_n 1, 1) := by decide +kernel
theorem dX11_driven_10 : decode cX11_driven 10 = .ok (.invokevirtual 500, 3) := by decide +kernel
theorem dX11_driven_13 : decode cX11_driven 13 = .ok (.invokevirtual 562, 3) := by decide +kernel
theorem dX11_driven_16 : decode cX11_driven 16 = .ok (.istore_n 2, 1) := by decide +kernel
theorem dX11_driven_17 : decode cX11_driven 17 = .ok (.iconst 0, 1) := by decide +kernel
theorem dX11_driven_18 : decode cX11_driven 18 = .ok (.istore_n 3, 1) := by decide +kernel
theorem dX11_driven_19 : decode cX11_driven 19 = .ok (.iload_n 2, 1) := by decide +kernel
theorem dX11_driven_20 : decode cX11_driven 20 = .ok (.aload_n 0, 1) := by decide +kernel
theorem dX11_driven_21 : decode cX11_driven 21 = .ok (.iload_n 1, 1) := by decide +kernel
theorem dX11_driven_22 : decode cX11_driven 22 = .ok (.iload_n 3, 1) := by decide +kernel
theorem dX11_driven_23 : decode cX11_driven 23 = .ok (.invokevirtual 440, 3) := by decide +kernel
theorem dX11_driven_26 : decode cX11_driven 26 = .ok (.if_icmp .lt 18, 3) := by decide +kernel
theorem dX11_driven_29 : decode cX11_driven 29 = .ok (.iload_n 2, 1) := by decide +kernel
theorem dX11_driven_30 : decode cX11_driven 30 = .ok (.aload_n 0, 1) := by decide +kernel
theorem dX11_driven_31 : decode cX11_driven 31 = .ok (.iload_n 1, 1) := by decide +kernel
theorem dX11_driven_32 : decode cX11_driven 32 = .ok (.iload_n 3, 1) := by decide +kernel
theorem dX11_driven_33 : decode cX11_driven 33 = .ok (.invokevirtual 440, 3) := by decide +kernel
theorem dX11_driven_36 : decode cX11_driven 36 = .ok (.isub, 1) := by decide +kernel
theorem dX11_driven_37 : decode cX11_driven 37 = .ok (.istore_n 2, 1) := by decide +kernel
theorem dX11_driven_38 : decode cX11_driven 38 = .ok (.iinc 3 1, 3) := by decide +kernel
theorem dX11_driven_41 : decode cX11_driven 41 = .ok (.goto (-22), 3) := by decide +kernel
theorem dX11_driven_44 : decode cX11_driven 44 = .ok (.aload_n 0, 1) := by decide +kernel
theorem dX11_driven_45 : decode cX11_driven 45 = .ok (.iload_n 1, 1) := by decide +kernel
theorem dX11_driven_46 : decode cX11_driven 46 = .ok (.iload_n 3, 1) := by decide +kernel
theorem dX11_driven_47 : decode cX11_driven 47 = .ok (.invokevirtual 503, 3) := by decide +kernel
theorem dX11_driven_50 : decode cX11_driven 50 = .ok (.istore 4, 2) := by decide +kernel
theorem dX11_driven_52 : decode cX11_driven 52 = .ok (.iconst 0, 1) := by decide +kernel
theorem dX11_driven_53 : decode cX11_driven 53 = .ok (.istore 5, 2) := by decide +kernel
theorem dX11_driven_55 : decode cX11_driven 55 = .ok (.aload_n 0, 1) := by decide +kernel
theorem dX11_driven_56 : decode cX11_driven 56 = .ok (.iload_n 1, 1) := by decide +kernel
theorem dX11_driven_57 : decode cX11_driven 57 = .ok (.iload 4, 2) := by decide +kernel
theorem dX11_driven_59 : decode cX11_driven 59 = .ok (.invokevirtual 513, 3) := by decide +kernel
theorem dX11_driven_62 : decode cX11_driven 62 = .ok (.iconst 0, 1) := by decide +kernel
theorem dX11_driven_63 : decode cX11_driven 63 = .ok (.istore 6, 2) := by decide +kernel
theorem dX11_driven_65 : decode cX11_driven 65 = .ok (.iload 6, 2) := by decide +kernel
theorem dX11_driven_67 : decode cX11_driven 67 = .ok (.aload_n 0, 1) := by decide +kernel
theorem dX11_driven_68 : decode cX11_driven 68 = .ok (.getfield 69, 3) := by decide +kernel
theorem dX11_driven_71 : decode cX11_driven 71 = .ok (.aload_n 0, 1) := by decide +kernel
theorem dX11_driven_72 : decode cX11_driven 72 = .ok (.getfield 51, 3) := by decide +kernel
theorem dX11_driven_75 : decode cX11_driven 75 = .ok (.iaload, 1) := by decide +kernel
theorem dX11_driven_76 : decode cX11_driven 76 = .ok (.if_icmp .ge 41, 3) := by decide +kernel
theorem dX11_driven_79 : decode cX11_driven 79 = .ok (.aload_n 0, 1) := by decide +kernel
theorem dX11_driven_80 : decode cX11_driven 80 = .ok (.getfield 216, 3) := by decide +kernel
theorem dX11_driven_83 : decode cX11_driven 83 = .ok (.iload 6, 2) := by decide +kernel
theorem dX11_driven_85 : decode cX11_driven 85 = .ok (.aload_n 0, 1) := by decide +kernel
theorem dX11_driven_86 : decode cX11_driven 86 = .ok (.iload 6, 2) := by decide +kernel
theorem dX11_driven_88 : decode cX11_driven 88 = .ok (.aload_n 0, 1) := by decide +kernel
theorem dX11_driven_89 : decode cX11_driven 89 = .ok (.getfield 216, 3) := by decide +kernel
theorem dX11_driven_92 : decode cX11_driven 92 = .ok (.iload 6, 2) := by decide +kernel
theorem dX11_driven_94 : decode cX11_driven 94 = .ok (.iaload, 1) := by decide +kernel
theorem dX11_driven_95 : decode cX11_driven 95 = .ok (.invokevirtual 565, 3) := by decide +kernel
theorem dX11_driven_98 : decode cX11_driven 98 = .ok (.iastore, 1) := by decide +kernel
theorem dX11_driven_99 : decode cX11_driven 99 = .ok (.iload 5, 2) := by decide +kernel
theorem dX11_driven_101 : decode cX11_driven 101 = .ok (.aload_n 0, 1) := by decide +kernel
theorem dX11_driven_102 : decode cX11_driven 102 = .ok (.getfield 216, 3) := by decide +kernel
theorem dX11_driven_105 : decode cX11_driven 105 = .ok (.iload 6, 2) := by decide +kernel
theorem dX11_driven_107 : decode cX11_driven 107 = .ok (.iaload, 1) := by decide +kernel
theorem dX11_driven_108 : decode cX11_driven 108 = .ok (.iadd, 1) := by decide +kernel
theorem dX11_driven_109 : decode cX11_driven 109 = .ok (.istore 5, 2) := by decide +kernel
theorem dX11_driven_111 : decode cX11_driven 111 = .ok (.iinc 6 1, 3) := by decide +kernel
theorem dX11_driven_114 : decode cX11_driven 114 = .ok (.goto (-49), 3) := by decide +kernel
theorem dX11_driven_117 : decode cX11_driven 117 = .ok (.iconst 0, 1) := by decide +kernel
theorem dX11_driven_118 : decode cX11_driven 118 = .ok (.istore 6, 2) := by decide +kernel
theorem dX11_driven_120 : decode cX11_driven 120 = .ok (.iload 6, 2) := by decide +kernel
theorem dX11_driven_122 : decode cX11_driven 122 = .ok (.aload_n 0, 1) := by decide +kernel
theorem dX11_driven_123 : decode cX11_driven 123 = .ok (.getfield 69, 3) := by decide +kernel
theorem dX11_driven_126 : decode cX11_driven 126 = .ok (.aload_n 0, 1) := by decide +kernel
theorem dX11_driven_127 : decode cX11_driven 127 = .ok (.getfield 51, 3) := by decide +kernel
theorem dX11_driven_130 : decode cX11_driven 130 = .ok (.iaload, 1) := by decide +kernel
theorem dX11_driven_131 : decode cX11_driven 131 = .ok (.if_icmp .ge 63, 3) := by decide +kernel
theorem dX11_driven_134 : decode cX11_driven 134 = .ok (.aload_n 0, 1) := by decide +kernel
theorem dX11_driven_135 : decode cX11_driven 135 = .ok (.getfield 165, 3) := by decide +kernel
theorem dX11_driven_138 : decode cX11_driven 138 = .ok (.iload 6, 2) := by decide +kernel
theorem dX11_driven_140 : decode cX11_driven 140 = .ok (.aload_n 0, 1) := by decide +kernel
theorem dX11_driven_141 : decode cX11_driven 141 = .ok (.getfield 165, 3) := by decide +kernel
theorem dX11_driven_144 : decode cX11_driven 144 = .ok (.iload 6, 2) := by decide +kernel
theorem dX11_driven_146 : decode cX11_driven 146 = .ok (.iaload, 1) := by decide +kernel
theorem dX11_driven_147 : decode cX11_driven 147 = .ok (.aload_n 0, 1) := by decide +kernel
theorem dX11_driven_148 : decode cX11_driven 148 = .ok (.iload 6, 2) := by decide +kernel
theorem dX11_driven_150 : decode cX11_driven 150 = .ok (.iload_n 1, 1) := by decide +kernel
theorem dX11_driven_151 : decode cX11_driven 151 = .ok (.iload 4, 2) := by decide +kernel
theorem dX11_driven_153 : decode cX11_driven 153 = .ok (.invokevirtual 516, 3) := by decide +kernel
theorem dX11_driven_156 : decode cX11_driven 156 = .ok (.iadd, 1) := by decide +kernel
theorem dX11_driven_157 : decode cX11_driven 157 = .ok (.i2l, 1) := by decide +kernel
theorem dX11_driven_158 : decode cX11_driven 158 = .ok (.ldc_w 568, 3) := by decide +kernel
theorem dX11_driven_161 : decode cX11_driven 161 = .ok (.ldc_w 569, 3) := by decide +kernel
theorem dX11_driven_164 : decode cX11_driven 164 = .ok (.invokestatic 472, 3) := by decide +kernel
theorem dX11_driven_167 : decode cX11_driven 167 = .ok (.iastore, 1) := by decide +kernel
theorem dX11_driven_168 : decode cX11_driven 168 = .ok (.aload_n 0, 1) := by decide +kernel
theorem dX11_driven_169 : decode cX11_driven 169 = .ok (.getfield 243, 3) := by decide +kernel
theorem dX11_driven_172 : decode cX11_driven 172 = .ok (.iload 6, 2) := by decide +kernel
theorem dX11_driven_174 : decode cX11_driven 174 = .ok (.aload_n 0, 1) := by decide +kernel
theorem dX11_driven_175 : decode cX11_driven 175 = .ok (.invokevirtual 519, 3) := by decide +kernel
theorem dX11_driven_178 : decode cX11_driven 178 = .ok (.iastore, 1) := by decide +kernel
theorem dX11_driven_179 : decode cX11_driven 179 = .ok (.aload_n 0, 1) := by decide +kernel
theorem dX11_driven_180 : decode cX11_driven 180 = .ok (.iload_n 1, 1) := by decide +kernel
theorem dX11_driven_181 : decode cX11_driven 181 = .ok (.iload 4, 2) := by decide +kernel
theorem dX11_driven_183 : decode cX11_driven 183 = .ok (.iload 6, 2) := by decide +kernel
theorem dX11_driven_185 : decode cX11_driven 185 = .ok (.invokevirtual 570, 3) := by decide +kernel
theorem dX11_driven_188 : decode cX11_driven 188 = .ok (.iinc 6 1, 3) := by decide +kernel
theorem dX11_driven_191 : decode cX11_driven 191 = .ok (.goto (-71), 3) := by decide +kernel
theorem dX11_driven_194 : decode cX11_driven 194 = .ok (.iconst 0, 1) := by decide +kernel
theorem dX11_driven_195 : decode cX11_driven 195 = .ok (.istore 6, 2) := by decide +kernel
theorem dX11_driven_197 : decode cX11_driven 197 = .ok (.iload 6, 2) := by decide +kernel
theorem dX11_driven_199 : decode cX11_driven 199 = .ok (.aload_n 0, 1) := by decide +kernel
theorem dX11_driven_200 : decode cX11_driven 200 = .ok (.getfield 69, 3) := by decide +kernel
theorem dX11_driven_203 : decode cX11_driven 203 = .ok (.aload_n 0, 1) := by decide +kernel
theorem dX11_driven_204 : decode cX11_driven 204 = .ok (.getfield 51, 3) := by decide +kernel
theorem dX11_driven_207 : decode cX11_driven 207 = .ok (.iaload, 1) := by decide +kernel
theorem dX11_driven_208 : decode cX11_driven 208 = .ok (.if_icmp .ge 23, 3) := by decide +kernel
theorem dX11_driven_211 : decode cX11_driven 211 = .ok (.aload_n 0, 1) := by decide +kernel
theorem dX11_driven_212 : decode cX11_driven 212 = .ok (.getfield 159, 3) := by decide +kernel
theorem dX11_driven_215 : decode cX11_driven 215 = .ok (.iload 6, 2) := by decide +kernel
theorem dX11_driven_217 : decode cX11_driven 217 = .ok (.aload_n 0, 1) := by decide +kernel
theorem dX11_driven_218 : decode cX11_driven 218 = .ok (.getfield 243, 3) := by decide +kernel
theorem dX11_driven_221 : decode cX11_driven 221 = .ok (.iload 6, 2) := by decide +kernel
theorem dX11_driven_223 : decode cX11_driven 223 = .ok (.iaload, 1) := by decide +kernel
theorem dX11_driven_224 : decode cX11_driven 224 = .ok (.iastore, 1) := by decide +kernel
theorem dX11_driven_225 : decode cX11_driven 225 = .ok (.iinc 6 1, 3) := by decide +kernel
theorem dX11_driven_228 : decode cX11_driven 228 = .ok (.goto (-31), 3) := by decide +kernel
theorem dX11_driven_231 : decode cX11_driven 231 = .ok (.aload_n 0, 1) := by decide +kernel
theorem dX11_driven_232 : decode cX11_driven 232 = .ok (.getfield 156, 3) := by decide +kernel
theorem dX11_driven_235 : decode cX11_driven 235 = .ok (.iconst 0, 1) := by decide +kernel
theorem dX11_driven_236 : decode cX11_driven 236 = .ok (.iload_n 1, 1) := by decide +kernel
theorem dX11_driven_237 : decode cX11_driven 237 = .ok (.iconst 1, 1) := by decide +kernel
theorem dX11_driven_238 : decode cX11_driven 238 = .ok (.iadd, 1) := by decide +kernel
theorem dX11_driven_239 : decode cX11_driven 239 = .ok (.aload_n 0, 1) := by decide +kernel
theorem dX11_driven_240 : decode cX11_driven 240 = .ok (.getfield 54, 3) := by decide +kernel
theorem dX11_driven_243 : decode cX11_driven 243 = .ok (.aload_n 0, 1) := by decide +kernel
theorem dX11_driven_244 : decode cX11_driven 244 = .ok (.getfield 51, 3) := by decide +kernel
theorem dX11_driven_247 : decode cX11_driven 247 = .ok (.iaload, 1) := by decide +kernel
theorem dX11_driven_248 : decode cX11_driven 248 = .ok (.irem, 1) := by decide +kernel
theorem dX11_driven_249 : decode cX11_driven 249 = .ok (.iastore, 1) := by decide +kernel
theorem dX11_driven_250 : decode cX11_driven 250 = .ok (.iload 5, 2) := by decide +kernel
theorem dX11_driven_252 : decode cX11_driven 252 = .ok (.ireturn, 1) := by decide +kernel
def fX11_driven_197 : Nat → Int32 → Int32 → Int32 → zS → Option (Int32 × zS)
  | 0, _, _, _, _ => none
  | f + 1, x1, x5, x6, σ => aI σ 63 2 (iG σ 56 13) fun v15 => if v15 ≤ x6 then aI σ 58 2 (iG σ 56 13) fun v16 => gd (¬ v16 = 0) (wI σ 85 22 0 ((x1 + 1) - (x1 + 1) / v16 * v16) fun σ17 => some (x5, σ17)) else aI σ 101 6 x6 fun v18 => wI σ 86 132 x6 v18 fun σ19 => fX11_driven_197 f x1 x5 (x6 + 1) σ19
theorem kX11_driven_197 {sc : Nat × (Nat → Int32)} : ∀ (fuel : Nat) (x1 : Int32) (x5 : Int32) (x6 : Int32) (σ : zS) (w : Int32 × zS) (h : fX11_driven_197 fuel x1 x5 x6 σ = some w), zR (zY0 sc) 6 0 0 mX11_driven 197 [(0, .ref 56), (1, .int x1), (5, .int x5), (6, .int x6)] [] (zE σ) (some (.int w.1), zE w.2) := by
  intro fuel
  induction fuel with
  | zero => intro x1 x5 x6 σ w h; exact nomatch h
  | succ f ih =>
    intro x1 x5 x6 σ w h
    rw [fX11_driven_197] at h
    refine kR.iload dX11_driven_197 3 rfl ?_
    refine kR.aload_n dX11_driven_199 0 rfl ?_
    refine kR.getR (v := 63) dX11_driven_200 flX11_69 zcf11 zp56 (Or.inr ⟨_, rfl⟩) rfl ?_
    refine kR.aload_n dX11_driven_203 0 rfl ?_
    refine kR.getI dX11_driven_204 flX11_51 zcf11 zp56 (Or.inl rfl) ?_
    refine kR.iald dX11_driven_207 zp63 rfl h (fun v15 h => ?_)
    refine kR.icmp_ge (tgt := 231) dX11_driven_208 (by decide) h (fun h => ?_) (fun h => ?_)
    · refine kR.aload_n dX11_driven_231 0 rfl ?_
      refine kR.getR (v := 85) dX11_driven_232 flX11_156 zcf11 zp56 (Or.inr ⟨_, rfl⟩) rfl ?_
      refine zR.iconst (v := 0) dX11_driven_235 (by decide) ?_
      refine kR.iload_n dX11_driven_236 1 rfl ?_
      refine zR.iconst (v := 1) dX11_driven_237 (by decide) ?_
      refine zR.iadd dX11_driven_238 ?_
      refine kR.aload_n dX11_driven_239 0 rfl ?_
      refine kR.getR (v := 58) dX11_driven_240 flX11_54 zcf11 zp56 (Or.inr ⟨_, rfl⟩) rfl ?_
      refine kR.aload_n dX11_driven_243 0 rfl ?_
      refine kR.getI dX11_driven_244 flX11_51 zcf11 zp56 (Or.inl rfl) ?_
      refine kR.iald dX11_driven_247 zp58 rfl h (fun v16 h => ?_)
      refine kR.irem dX11_driven_248 h (fun h => ?_)
      refine kR.iast dX11_driven_249 zp85 rfl h (fun σ17 h => ?_)
      refine kR.iload dX11_driven_250 2 rfl ?_
      exact kR.iretW dX11_driven_252 (nzI rfl _) h
    · refine kR.aload_n dX11_driven_211 0 rfl ?_
      refine kR.getR (v := 86) dX11_driven_212 flX11_159 zcf11 zp56 (Or.inr ⟨_, rfl⟩) rfl ?_
      refine kR.iload dX11_driven_215 3 rfl ?_
      refine kR.aload_n dX11_driven_217 0 rfl ?_
      refine kR.getR (v := 101) dX11_driven_218 flX11_243 zcf11 zp56 (Or.inr ⟨_, rfl⟩) rfl ?_
      refine kR.iload dX11_driven_221 3 rfl ?_
      refine kR.iald dX11_driven_223 zp101 rfl h (fun v18 h => ?_)
      refine kR.iast dX11_driven_224 zp86 rfl h (fun σ19 h => ?_)
      refine zR.iinc 3 (v := x6 + 1) (ls' := [(6, .int (x6 + 1)), (0, .ref 56), (1, .int x1), (5, .int x5)]) dX11_driven_225 rfl rfl (by decide) rfl ?_
      refine zR.goto (tgt := 197) dX11_driven_228 (by decide) ?_
      refine zR.sub [1, 2, 3, 0] rfl ?_
      exact ih _ _ _ _ _ h
def fX11_driven_120 : Nat → Int32 → Int32 → Int32 → Int32 → zS → Option (Int32 × zS)
  | 0, _, _, _, _, _ => none
  | f + 1, x1, x4, x5, x6, σ => aI σ 63 2 (iG σ 56 13) fun v14 => if v14 ≤ x6 then fX11_driven_197 zF x1 x5 0 σ else aI σ 88 132 x6 fun v20 => bnc (fX11_worthRow x6 x1 x4 σ) fun v23 σ21 => bnd (fX11_between (((v20 + v23) : Int32).toInt64) ((-99999)) 99999) fun v24 => wI σ21 88 132 x6 v24 fun σ25 => bnc (fX11_breathNow σ25) fun v28 σ26 => wI σ26 101 6 x6 v28 fun σ29 => bnr (fX11_writesDown x1 x4 x6 σ29) fun σ30 => fX11_driven_120 f x1 x4 x5 (x6 + 1) σ30
theorem kX11_driven_120 {sc : Nat × (Nat → Int32)} : ∀ (fuel : Nat) (x1 : Int32) (x4 : Int32) (x5 : Int32) (x6 : Int32) (σ : zS) (w : Int32 × zS) (h : fX11_driven_120 fuel x1 x4 x5 x6 σ = some w), zR (zY0 sc) 6 0 0 mX11_driven 120 [(0, .ref 56), (1, .int x1), (4, .int x4), (5, .int x5), (6, .int x6)] [] (zE σ) (some (.int w.1), zE w.2) := by
  intro fuel
  induction fuel with
  | zero => intro x1 x4 x5 x6 σ w h; exact nomatch h
  | succ f ih =>
    intro x1 x4 x5 x6 σ w h
    rw [fX11_driven_120] at h
    refine kR.iload dX11_driven_120 4 rfl ?_
    refine kR.aload_n dX11_driven_122 0 rfl ?_
    refine kR.getR (v := 63) dX11_driven_123 flX11_69 zcf11 zp56 (Or.inr ⟨_, rfl⟩) rfl ?_
    refine kR.aload_n dX11_driven_126 0 rfl ?_
    refine kR.getI dX11_driven_127 flX11_51 zcf11 zp56 (Or.inl rfl) ?_
    refine kR.iald dX11_driven_130 zp63 rfl h (fun v14 h => ?_)
    refine kR.icmp_ge (tgt := 194) dX11_driven_131 (by decide) h (fun h => ?_) (fun h => ?_)
    · refine zR.iconst (v := 0) dX11_driven_194 (by decide) ?_
      refine zR.istore (i := 6) (ls' := [(6, .int 0), (0, .ref 56), (1, .int x1), (4, .int x4), (5, .int x5)]) dX11_driven_195 (by decide) rfl ?_
      refine zR.sub [1, 2, 4, 0] rfl ?_
      exact kX11_driven_197 zF _ _ _ _ _ h
    · refine kR.aload_n dX11_driven_134 0 rfl ?_
      refine kR.getR (v := 88) dX11_driven_135 flX11_165 zcf11 zp56 (Or.inr ⟨_, rfl⟩) rfl ?_
      refine kR.iload dX11_driven_138 4 rfl ?_
      refine kR.aload_n dX11_driven_140 0 rfl ?_
      refine kR.getR (v := 88) dX11_driven_141 flX11_165 zcf11 zp56 (Or.inr ⟨_, rfl⟩) rfl ?_
      refine kR.iload dX11_driven_144 4 rfl ?_
      refine kR.iald dX11_driven_146 zp88 rfl h (fun v20 h => ?_)
      refine kR.aload_n dX11_driven_147 0 rfl ?_
      refine kR.iload dX11_driven_148 4 rfl ?_
      refine kR.iload_n dX11_driven_150 1 rfl ?_
      refine kR.iload dX11_driven_151 2 rfl ?_
      obtain ⟨v23, σ21, e22, h⟩ := bnc_some h
      refine kR.cVi [.int x6, .int x1, .int x4] dX11_driven_153 rfl (by decide) mwX11_516 zp56 (by decide) rfl rfl (Nat.le_of_ble_eq_true rfl) (lX11_worthRow x6 x1 x4 σ _ e22) ?_
      refine zR.iadd dX11_driven_156 ?_
      refine zR.i2l dX11_driven_157 ?_
      refine zR.ldcw (v := (-99999)) dX11_driven_158 ciX11_568 ?_
      refine zR.ldcw (v := 99999) dX11_driven_161 ciX11_569 ?_
      refine kR.cSi [.long (((v20 + v23) : Int32).toInt64), .int ((-99999)), .int 99999] dX11_driven_164 rfl (by decide) (Or.inl mwX11_472) rfl (Nat.le_of_ble_eq_true rfl) (lX11_between (((v20 + v23) : Int32).toInt64) ((-99999)) 99999) ?_
      refine kR.nmI h (fun v24 h => ?_)
      refine kR.iast dX11_driven_167 zp88 rfl h (fun σ25 h => ?_)
      refine kR.aload_n dX11_driven_168 0 rfl ?_
      refine kR.getR (v := 101) dX11_driven_169 flX11_243 zcf11 zp56 (Or.inr ⟨_, rfl⟩) rfl ?_
      refine kR.iload dX11_driven_172 4 rfl ?_
      refine kR.aload_n dX11_driven_174 0 rfl ?_
      obtain ⟨v28, σ26, e27, h⟩ := bnc_some h
      refine kR.cVi [] dX11_driven_175 rfl (by decide) mwX11_519 zp56 (by decide) rfl rfl (Nat.le_of_ble_eq_true rfl) (lX11_breathNow σ25 _ e27) ?_
      refine kR.iast dX11_driven_178 zp101 rfl h (fun σ29 h => ?_)
      refine kR.aload_n dX11_driven_179 0 rfl ?_
      refine kR.iload_n dX11_driven_180 1 rfl ?_
      refine kR.iload dX11_driven_181 2 rfl ?_
      refine kR.iload dX11_driven_183 4 rfl ?_
      obtain ⟨σ30, e31, h⟩ := bnr_some h
      refine kR.cVv [.int x1, .int x4, .int x6] dX11_driven_185 rfl (by decide) mwX11_570 zp56 (by decide) rfl rfl (Nat.le_of_ble_eq_true rfl) (lX11_writesDown x1 x4 x6 σ29 _ e31) ?_
      refine zR.iinc 4 (v := x6 + 1) (ls' := [(6, .int (x6 + 1)), (0, .ref 56), (1, .int x1), (4, .int x4), (5, .int x5)]) dX11_driven_188 rfl rfl (by decide) rfl ?_
      refine zR.goto (tgt := 120) dX11_driven_191 (by decide) ?_
      refine zR.sub [1, 2, 3, 4, 0] rfl ?_
      exact ih _ _ _ _ _ _ h
def fX11_driven_65 : Nat → Int32 → Int32 → Int32 → Int32 → zS → Option (Int32 × zS)
  | 0, _, _, _, _, _ => none
  | f + 1, x1, x4, x5, x6, σ => aI σ 63 2 (iG σ 56 13) fun v13 => if v13 ≤ x6 then fX11_driven_120 zF x1 x4 x5 0 σ else aI σ 96 6 x6 fun v32 => bnc (fX11_laughing x6 v32 σ) fun v35 σ33 => wI σ33 96 6 x6 v35 fun σ36 => aI σ36 96 6 x6 fun v37 => fX11_driven_65 f x1 x4 (x5 + v37) (x6 + 1) σ36
theorem kX11_driven_65 {sc : Nat × (Nat → Int32)} : ∀ (fuel : Nat) (x1 : Int32) (x4 : Int32) (x5 : Int32) (x6 : Int32) (σ : zS) (w : Int32 × zS) (h : fX11_driven_65 fuel x1 x4 x5 x6 σ = some w), zR (zY0 sc) 6 0 0 mX11_driven 65 [(0, .ref 56), (1, .int x1), (4, .int x4), (5, .int x5), (6, .int x6)] [] (zE σ) (some (.int w.1), zE w.2) := by
  intro fuel
  induction fuel with
  | zero => intro x1 x4 x5 x6 σ w h; exact nomatch h
  | succ f ih =>
    intro x1 x4 x5 x6 σ w h
    rw [fX11_driven_65] at h
    refine kR.iload dX11_driven_65 4 rfl ?_
    refine kR.aload_n dX11_driven_67 0 rfl ?_
    refine kR.getR (v := 63) dX11_driven_68 flX11_69 zcf11 zp56 (Or.inr ⟨_, rfl⟩) rfl ?_
    refine kR.aload_n dX11_driven_71 0 rfl ?_
    refine kR.getI dX11_driven_72 flX11_51 zcf11 zp56 (Or.inl rfl) ?_
    refine kR.iald dX11_driven_75 zp63 rfl h (fun v13 h => ?_)
    refine kR.icmp_ge (tgt := 117) dX11_driven_76 (by decide) h (fun h => ?_) (fun h => ?_)
    · refine zR.iconst (v := 0) dX11_driven_117 (by decide) ?_
      refine zR.istore (i := 6) (ls' := [(6, .int 0), (0, .ref 56), (1, .int x1), (4, .int x4), (5, .int x5)]) dX11_driven_118 (by decide) rfl ?_
      refine zR.sub [1, 2, 3, 4, 0] rfl ?_
      exact kX11_driven_120 zF _ _ _ _ _ _ h
    · refine kR.aload_n dX11_driven_79 0 rfl ?_
      refine kR.getR (v := 96) dX11_driven_80 flX11_216 zcf11 zp56 (Or.inr ⟨_, rfl⟩) rfl ?_
      refine kR.iload dX11_driven_83 4 rfl ?_
      refine kR.aload_n dX11_driven_85 0 rfl ?_
      refine kR.iload dX11_driven_86 4 rfl ?_
      refine kR.aload_n dX11_driven_88 0 rfl ?_
      refine kR.getR (v := 96) dX11_driven_89 flX11_216 zcf11 zp56 (Or.inr ⟨_, rfl⟩) rfl ?_
      refine kR.iload dX11_driven_92 4 rfl ?_
      refine kR.iald dX11_driven_94 zp96 rfl h (fun v32 h => ?_)
      obtain ⟨v35, σ33, e34, h⟩ := bnc_some h
      refine kR.cVi [.int x6, .int v32] dX11_driven_95 rfl (by decide) mwX11_565 zp56 (by decide) rfl rfl (Nat.le_of_ble_eq_true rfl) (lX11_laughing x6 v32 σ _ e34) ?_
      refine kR.iast dX11_driven_98 zp96 rfl h (fun σ36 h => ?_)
      refine kR.iload dX11_driven_99 3 rfl ?_
      refine kR.aload_n dX11_driven_101 0 rfl ?_
      refine kR.getR (v := 96) dX11_driven_102 flX11_216 zcf11 zp56 (Or.inr ⟨_, rfl⟩) rfl ?_
      refine kR.iload dX11_driven_105 4 rfl ?_
      refine kR.iald dX11_driven_107 zp96 rfl h (fun v37 h => ?_)
      refine zR.iadd dX11_driven_108 ?_
      refine zR.istore (i := 5) (ls' := [(5, .int (x5 + v37)), (0, .ref 56), (1, .int x1), (4, .int x4), (6, .int x6)]) dX11_driven_109 (by decide) rfl ?_
      refine zR.iinc 4 (v := x6 + 1) (ls' := [(6, .int (x6 + 1)), (5, .int (x5 + v37)), (0, .ref 56), (1, .int x1), (4, .int x4)]) dX11_driven_111 rfl rfl (by decide) rfl ?_
      refine zR.goto (tgt := 65) dX11_driven_114 (by decide) ?_
      refine zR.sub [2, 3, 4, 1, 0] rfl ?_
      exact ih _ _ _ _ _ _ h
def fX11_driven_19 : Nat → Int32 → Int32 → Int32 → zS → Option (Int32 × zS)
  | 0, _, _, _, _ => none
  | f + 1, x1, x2, x3, σ => bnr (fX11_weightAt σ x1 x3) fun v7 => if x2 < v7 then bnr (fX11_lengthAt σ x1 x3) fun v9 => bnr (fX11_allHold x1 v9 σ) fun σ11 => fX11_driven_65 zF x1 v9 0 0 σ11 else bnr (fX11_weightAt σ x1 x3) fun v38 => fX11_driven_19 f x1 (x2 - v38) (x3 + 1) σ
theorem kX11_driven_19 {sc : Nat × (Nat → Int32)} : ∀ (fuel : Nat) (x1 : Int32) (x2 : Int32) (x3 : Int32) (σ : zS) (w : Int32 × zS) (h : fX11_driven_19 fuel x1 x2 x3 σ = some w), zR (zY0 sc) 6 0 0 mX11_driven 19 [(0, .ref 56), (1, .int x1), (2, .int x2), (3, .int x3)] [] (zE σ) (some (.int w.1), zE w.2) := by
  intro fuel
  induction fuel with
  | zero => intro x1 x2 x3 σ w h; exact nomatch h
  | succ f ih =>
    intro x1 x2 x3 σ w h
    rw [fX11_driven_19] at h
    refine kR.iload_n dX11_driven_19 2 rfl ?_
    refine kR.aload_n dX11_driven_20 0 rfl ?_
    refine kR.iload_n dX11_driven_21 1 rfl ?_
    refine kR.iload_n dX11_driven_22 3 rfl ?_
    obtain ⟨v7, e8, h⟩ := bnr_some h
    refine kR.cVi [.int x1, .int x3] dX11_driven_23 rfl (by decide) mwX11_440 zp56 (by decide) rfl rfl (Nat.le_of_ble_eq_true rfl) (lX11_weightAt σ x1 x3 _ e8) ?_
    refine kR.icmp_lt (tgt := 44) dX11_driven_26 (by decide) h (fun h => ?_) (fun h => ?_)
    · refine kR.aload_n dX11_driven_44 0 rfl ?_
      refine kR.iload_n dX11_driven_45 1 rfl ?_
      refine kR.iload_n dX11_driven_46 3 rfl ?_
      obtain ⟨v9, e10, h⟩ := bnr_some h
      refine kR.cVi [.int x1, .int x3] dX11_driven_47 rfl (by decide) mwX11_503 zp56 (by decide) rfl rfl (Nat.le_of_ble_eq_true rfl) (lX11_lengthAt σ x1 x3 _ e10) ?_
      refine zR.istore (i := 4) (ls' := [(4, .int v9), (0, .ref 56), (1, .int x1), (2, .int x2), (3, .int x3)]) dX11_driven_50 (by decide) rfl ?_
      refine zR.iconst (v := 0) dX11_driven_52 (by decide) ?_
      refine zR.istore (i := 5) (ls' := [(5, .int 0), (4, .int v9), (0, .ref 56), (1, .int x1), (2, .int x2), (3, .int x3)]) dX11_driven_53 (by decide) rfl ?_
      refine kR.aload_n dX11_driven_55 2 rfl ?_
      refine kR.iload_n dX11_driven_56 3 rfl ?_
      refine kR.iload dX11_driven_57 1 rfl ?_
      obtain ⟨σ11, e12, h⟩ := bnr_some h
      refine kR.cVv [.int x1, .int v9] dX11_driven_59 rfl (by decide) mwX11_513 zp56 (by decide) rfl rfl (Nat.le_of_ble_eq_true rfl) (lX11_allHold x1 v9 σ _ e12) ?_
      refine zR.iconst (v := 0) dX11_driven_62 (by decide) ?_
      refine zR.istore (i := 6) (ls' := [(6, .int 0), (5, .int 0), (4, .int v9), (0, .ref 56), (1, .int x1), (2, .int x2), (3, .int x3)]) dX11_driven_63 (by decide) rfl ?_
      refine zR.sub [3, 4, 2, 1, 0] rfl ?_
      exact kX11_driven_65 zF _ _ _ _ _ _ h
    · refine kR.iload_n dX11_driven_29 2 rfl ?_
      refine kR.aload_n dX11_driven_30 0 rfl ?_
      refine kR.iload_n dX11_driven_31 1 rfl ?_
      refine kR.iload_n dX11_driven_32 3 rfl ?_
      obtain ⟨v38, e39, h⟩ := bnr_some h
      refine kR.cVi [.int x1, .int x3] dX11_driven_33 rfl (by decide) mwX11_440 zp56 (by decide) rfl rfl (Nat.le_of_ble_eq_true rfl) (lX11_weightAt σ x1 x3 _ e39) ?_
      refine zR.isub dX11_driven_36 ?_
      refine zR.istore_n (i := 2) (ls' := [(2, .int (x2 - v38)), (0, .ref 56), (1, .int x1), (3, .int x3)]) dX11_driven_37 rfl (by decide) rfl ?_
      refine zR.iinc 3 (v := x3 + 1) (ls' := [(3, .int (x3 + 1)), (2, .int (x2 - v38)), (0, .ref 56), (1, .int x1)]) dX11_driven_38 rfl rfl (by decide) rfl ?_
      refine zR.goto (tgt := 19) dX11_driven_41 (by decide) ?_
      refine zR.sub [2, 3, 1, 0] rfl ?_
      exact ih _ _ _ _ _ h
def fX11_driven (σ : zS) : Option (Int32 × zS) := aI σ 85 22 0 fun v1 => bnr (fX11_weights σ v1) fun v2 => bnc (fX11_draw v2 σ) fun v6 σ4 => fX11_driven_19 zF v1 v6 0 σ4
theorem eX11_driven {sc : Nat × (Nat → Int32)} (σ : zS) (w : Int32 × zS) (h : fX11_driven σ = some w) : zR (zY0 sc) 6 0 0 mX11_driven 0 [(0, .ref 56)] [] (zE σ) (some (.int w.1), zE w.2) := by
  unfold fX11_driven at h
  refine kR.aload_n dX11_driven_0 0 rfl ?_
  refine kR.getR (v := 85) dX11_driven_1 flX11_156 zcf11 zp56 (Or.inr ⟨_, rfl⟩) rfl ?_
  refine zR.iconst (v := 0) dX11_driven_4 (by decide) ?_
  refine kR.iald dX11_driven_5 zp85 rfl h (fun v1 h => ?_)
  refine zR.istore_n (i := 1) (ls' := [(1, .int v1), (0, .ref 56)]) dX11_driven_6 rfl (by decide) rfl ?_
  refine kR.aload_n dX11_driven_7 1 rfl ?_
  refine kR.aload_n dX11_driven_8 1 rfl ?_
  refine kR.iload_n dX11_driven_9 0 rfl ?_
  obtain ⟨v2, e3, h⟩ := bnr_some h
  refine kR.cVi [.int v1] dX11_driven_10 rfl (by decide) mwX11_500 zp56 (by decide) rfl rfl (Nat.le_of_ble_eq_true rfl) (lX11_weights σ v1 _ e3) ?_
  obtain ⟨v6, σ4, e5, h⟩ := bnc_some h
  refine kR.cVi [.int v2] dX11_driven_13 rfl (by decide) mwX11_562 zp56 (by decide) rfl rfl (Nat.le_of_ble_eq_true rfl) (lX11_draw v2 σ _ e5) ?_
  refine zR.istore_n (i := 2) (ls' := [(2, .int v6), (1, .int v1), (0, .ref 56)]) dX11_driven_16 rfl (by decide) rfl ?_
  refine zR.iconst (v := 0) dX11_driven_17 (by decide) ?_
  refine zR.istore_n (i := 3) (ls' := [(3, .int 0), (2, .int v6), (1, .int v1), (0, .ref 56)]) dX11_driven_18 rfl (by decide) rfl ?_
  refine zR.sub [3, 2, 1, 0] rfl ?_
  exact kX11_driven_19 zF _ _ _ _ _ h
theorem lX11_driven {sc : Nat × (Nat → Int32)} (σ : zS) (w : Int32 × zS) (h : fX11_driven σ = some w) : zC (zY0 sc) 6 0 0 mX11_driven [.ref 56] (zE σ) (some (.int w.1), zE w.2) := zC.of (by decide +kernel) (Nat.le_of_ble_eq_true rfl) ⟨_, rfl⟩ (eX11_driven σ w h)
theorem dX11_drive_0 : decode cX11_drive 0 = .ok (.iload_n 1, 1) := by decide +kernel
theorem dX11_drive_1 : decode cX11_drive 1 = .ok (.iconst 1, 1) := by decide +kernel
theorem dX11_drive_2 : decode cX11_drive 2 = .ok (.bipush 30, 2) := by decide +kernel
theorem dX11_drive_4 : decode cX11_drive 4 = .ok (.invokestatic 338, 3) := by decide +kernel
theorem dX11_drive_7 : decode cX11_drive 7 = .ok (.ifCond .eq 15, 3) := by decide +kernel
theorem dX11_drive_10 : decode cX11_drive 10 = .ok (.aload_n 0, 1) := by decide +kernel
theorem dX11_drive_11 : decode cX11_drive 11 = .ok (.getfield 54, 3) := by decide +kernel
theorem dX11_drive_14 : decode cX11_drive 14 = .ok (.aload_n 0, 1) := by decide +kernel
theorem dX11_drive_15 : decode cX11_drive 15 = .ok (.getfield 51, 3) := by decide +kernel
theorem dX11_drive_18 : decode cX11_drive 18 = .ok (.iaload, 1) := by decide +kernel
theorem dX11_drive_19 : decode cX11_drive 19 = .ok (.ifCond .ne 9, 3) := by decide +kernel
theorem dX11_drive_22 : decode cX11_drive 22 = .ok (.aload_n 0, 1) := by decide +kernel
theorem dX11_drive_23 : decode cX11_drive 23 = .ok (.iconst 2, 1) := by decide +kernel
theorem dX11_drive_24 : decode cX11_drive 24 = .ok (.invokevirtual 252, 3) := by decide +kernel
theorem dX11_drive_27 : decode cX11_drive 27 = .ok (.ireturn, 1) := by decide +kernel
theorem dX11_drive_28 : decode cX11_drive 28 = .ok (.aload_n 0, 1) := by decide +kernel
theorem dX11_drive_29 : decode cX11_drive 29 = .ok (.invokevirtual 573, 3) := by decide +kernel
theorem dX11_drive_32 : decode cX11_drive 32 = .ok (.iconst 0, 1) := by decide +kernel
theorem dX11_drive_33 : decode cX11_drive 33 = .ok (.istore_n 2, 1) := by decide +kernel
theorem dX11_drive_34 : decode cX11_drive 34 = .ok (.iconst 0, 1) := by decide +kernel
theorem dX11_drive_35 : decode cX11_drive 35 = .ok (.istore_n 3, 1) := by decide +kernel
theorem dX11_drive_36 : decode cX11_drive 36 = .ok (.iload_n 3, 1) := by decide +kernel
theorem dX11_drive_37 : decode cX11_drive 37 = .ok (.iload_n 1, 1) := by decide +kernel
theorem dX11_drive_38 : decode cX11_drive 38 = .ok (.if_icmp .ge 16, 3) := by decide +kernel
theorem dX11_drive_41 : decode cX11_drive 41 = .ok (.iload_n 2, 1) := by decide +kernel
theorem dX11_drive_42 : decode cX11_drive 42 = .ok (.aload_n 0, 1) := by decide +kernel
theorem dX11_drive_43 : decode cX11_drive 43 = .ok (.invokevirtual 576, 3) := by decide +kernel
theorem dX11_drive_46 : decode cX11_drive 46 = .ok (.iadd, 1) := by decide +kernel
theorem dX11_drive_47 : decode cX11_drive 47 = .ok (.istore_n 2, 1) := by decide +kernel
theorem dX11_drive_48 : decode cX11_drive 48 = .ok (.iinc 3 1, 3) := by decide +kernel
theorem dX11_drive_51 : decode cX11_drive 51 = .ok (.goto (-15), 3) := by decide +kernel
theorem dX11_drive_54 : decode cX11_drive 54 = .ok (.iload_n 2, 1) := by decide +kernel
theorem dX11_drive_55 : decode cX11_drive 55 = .ok (.ireturn, 1) := by decide +kernel
def fX11_drive_22 (σ : zS) : Option (Int32 × zS) := bnc (fX11_refuses 2 σ) fun v3 σ1 => some (v3, σ1)
theorem kX11_drive_22 {sc : Nat × (Nat → Int32)} (σ : zS) (w : Int32 × zS) (h : fX11_drive_22 σ = some w) : zR (zY0 sc) 7 0 0 mX11_drive 22 [(0, .ref 56)] [] (zE σ) (some (.int w.1), zE w.2) := by
  unfold fX11_drive_22 at h
  refine kR.aload_n dX11_drive_22 0 rfl ?_
  refine zR.iconst (v := 2) dX11_drive_23 (by decide) ?_
  obtain ⟨v3, σ1, e2, h⟩ := bnc_some h
  refine kR.cVi [.int 2] dX11_drive_24 rfl (by decide) mwX11_252 zp56 (by decide) rfl rfl (Nat.le_of_ble_eq_true rfl) (lX11_refuses 2 σ _ e2) ?_
  exact kR.iretW dX11_drive_27 (nzI rfl _) h
def fX11_drive_36 : Nat → Int32 → Int32 → Int32 → zS → Option (Int32 × zS)
  | 0, _, _, _, _ => none
  | f + 1, x1, x2, x3, σ => if x1 ≤ x3 then some (x2, σ) else bnc (fX11_driven σ) fun v9 σ7 => fX11_drive_36 f x1 (x2 + v9) (x3 + 1) σ7
theorem kX11_drive_36 {sc : Nat × (Nat → Int32)} : ∀ (fuel : Nat) (x1 : Int32) (x2 : Int32) (x3 : Int32) (σ : zS) (w : Int32 × zS) (h : fX11_drive_36 fuel x1 x2 x3 σ = some w), zR (zY0 sc) 7 0 0 mX11_drive 36 [(0, .ref 56), (1, .int x1), (2, .int x2), (3, .int x3)] [] (zE σ) (some (.int w.1), zE w.2) := by
  intro fuel
  induction fuel with
  | zero => intro x1 x2 x3 σ w h; exact nomatch h
  | succ f ih =>
    intro x1 x2 x3 σ w h
    rw [fX11_drive_36] at h
    refine kR.iload_n dX11_drive_36 3 rfl ?_
    refine kR.iload_n dX11_drive_37 1 rfl ?_
    refine kR.icmp_ge (tgt := 54) dX11_drive_38 (by decide) h (fun h => ?_) (fun h => ?_)
    · refine kR.iload_n dX11_drive_54 2 rfl ?_
      exact kR.iretW dX11_drive_55 (nzI rfl _) h
    · refine kR.iload_n dX11_drive_41 2 rfl ?_
      refine kR.aload_n dX11_drive_42 0 rfl ?_
      obtain ⟨v9, σ7, e8, h⟩ := bnc_some h
      refine kR.cVi [] dX11_drive_43 rfl (by decide) mwX11_576 zp56 (by decide) rfl rfl (Nat.le_of_ble_eq_true rfl) (lX11_driven σ _ e8) ?_
      refine zR.iadd dX11_drive_46 ?_
      refine zR.istore_n (i := 2) (ls' := [(2, .int (x2 + v9)), (0, .ref 56), (1, .int x1), (3, .int x3)]) dX11_drive_47 rfl (by decide) rfl ?_
      refine zR.iinc 3 (v := x3 + 1) (ls' := [(3, .int (x3 + 1)), (2, .int (x2 + v9)), (0, .ref 56), (1, .int x1)]) dX11_drive_48 rfl rfl (by decide) rfl ?_
      refine zR.goto (tgt := 36) dX11_drive_51 (by decide) ?_
      refine zR.sub [2, 3, 1, 0] rfl ?_
      exact ih _ _ _ _ _ h
def fX11_drive (p1 : Int32) (σ : zS) : Option (Int32 × zS) := if (fX11_is p1 1 30) = 0 then fX11_drive_22 σ else aI σ 58 2 (iG σ 56 13) fun v4 => if v4 = 0 then fX11_drive_22 σ else bnr (fX11_keeps σ) fun σ5 => fX11_drive_36 zF p1 0 0 σ5
theorem eX11_drive {sc : Nat × (Nat → Int32)} (p1 : Int32) (σ : zS) (w : Int32 × zS) (h : fX11_drive p1 σ = some w) : zR (zY0 sc) 7 0 0 mX11_drive 0 [(0, .ref 56), (1, .int p1)] [] (zE σ) (some (.int w.1), zE w.2) := by
  unfold fX11_drive at h
  refine kR.iload_n dX11_drive_0 1 rfl ?_
  refine zR.iconst (v := 1) dX11_drive_1 (by decide) ?_
  refine zR.bipush (v := 30) dX11_drive_2 (by decide) ?_
  refine kR.cSi [.int p1, .int 1, .int 30] dX11_drive_4 rfl (by decide) (Or.inl mwX11_338) rfl (Nat.le_of_ble_eq_true rfl) (lX11_is p1 1 30) ?_
  refine kR.if_eq (tgt := 22) dX11_drive_7 (by decide) h (fun h => ?_) (fun h => ?_)
  · refine zR.sub [0] rfl ?_
    exact kX11_drive_22 _ _ h
  · refine kR.aload_n dX11_drive_10 0 rfl ?_
    refine kR.getR (v := 58) dX11_drive_11 flX11_54 zcf11 zp56 (Or.inr ⟨_, rfl⟩) rfl ?_
    refine kR.aload_n dX11_drive_14 0 rfl ?_
    refine kR.getI dX11_drive_15 flX11_51 zcf11 zp56 (Or.inl rfl) ?_
    refine kR.iald dX11_drive_18 zp58 rfl h (fun v4 h => ?_)
    refine kR.if_ne (tgt := 28) dX11_drive_19 (by decide) h (fun h => ?_) (fun h => ?_)
    · refine kR.aload_n dX11_drive_28 0 rfl ?_
      obtain ⟨σ5, e6, h⟩ := bnr_some h
      refine kR.cVv [] dX11_drive_29 rfl (by decide) mwX11_573 zp56 (by decide) rfl rfl (Nat.le_of_ble_eq_true rfl) (lX11_keeps σ _ e6) ?_
      refine zR.iconst (v := 0) dX11_drive_32 (by decide) ?_
      refine zR.istore_n (i := 2) (ls' := [(2, .int 0), (0, .ref 56), (1, .int p1)]) dX11_drive_33 rfl (by decide) rfl ?_
      refine zR.iconst (v := 0) dX11_drive_34 (by decide) ?_
      refine zR.istore_n (i := 3) (ls' := [(3, .int 0), (2, .int 0), (0, .ref 56), (1, .int p1)]) dX11_drive_35 rfl (by decide) rfl ?_
      refine zR.sub [2, 3, 1, 0] rfl ?_
      exact kX11_drive_36 zF _ _ _ _ _ h
    · refine zR.sub [0] rfl ?_
      exact kX11_drive_22 _ _ h
theorem lX11_drive {sc : Nat × (Nat → Int32)} (p1 : Int32) (σ : zS) (w : Int32 × zS) (h : fX11_drive p1 σ = some w) : zC (zY0 sc) 7 0 0 mX11_drive [.ref 56, .int p1] (zE σ) (some (.int w.1), zE w.2) := zC.of (by decide +kernel) (Nat.le_of_ble_eq_true rfl) ⟨_, rfl⟩ (eX11_drive p1 σ w h)
theorem dX11_pause_0 : decode cX11_pause 0 = .ok (.aload_n 0, 1) := by decide +kernel
theorem dX11_pause_1 : decode cX11_pause 1 = .ok (.invokevirtual 573, 3) := by decide +kernel
theorem dX11_pause_4 : decode cX11_pause 4 = .ok (.iconst 0, 1) := by decide +kernel
theorem dX11_pause_5 : decode cX11_pause 5 = .ok (.istore_n 1, 1) := by decide +kernel
theorem dX11_pause_6 : decode cX11_pause 6 = .ok (.iconst 0, 1) := by decide +kernel
theorem dX11_pause_7 : decode cX11_pause 7 = .ok (.istore_n 2, 1) := by decide +kernel
theorem dX11_pause_8 : decode cX11_pause 8 = .ok (.iload_n 2, 1) := by decide +kernel
theorem dX11_pause_9 : decode cX11_pause 9 = .ok (.aload_n 0, 1) := by decide +kernel
theorem dX11_pause_10 : decode cX11_pause 10 = .ok (.getfield 69, 3) := by decide +kernel
theorem dX11_pause_13 : decode cX11_pause 13 = .ok (.aload_n 0, 1) := by decide +kernel
theorem dX11_pause_14 : decode cX11_pause 14 = .ok (.getfield 51, 3) := by decide +kernel
theorem dX11_pause_17 : decode cX11_pause 17 = .ok (.iaload, 1) := by decide +kernel
theorem dX11_pause_18 : decode cX11_pause 18 = .ok (.if_icmp .ge 53, 3) := by decide +kernel
theorem dX11_pause_21 : decode cX11_pause 21 = .ok (.iload_n 1, 1) := by decide +kernel
theorem dX11_pause_22 : decode cX11_pause 22 = .ok (.aload_n 0, 1) := by decide +kernel
theorem dX11_pause_23 : decode cX11_pause 23 = .ok (.getfield 72, 3) := by decide +kernel
theorem dX11_pause_26 : decode cX11_pause 26 = .ok (.bipush 6, 2) := by decide +kernel
theorem dX11_pause_28 : decode cX11_pause 28 = .ok (.aload_n 0, 1) := by decide +kernel
theorem dX11_pause_29 : decode cX11_pause 29 = .ok (.getfield 51, 3) := by decide +kernel
theorem dX11_pause_32 : decode cX11_pause 32 = .ok (.imul, 1) := by decide +kernel
theorem dX11_pause_33 : decode cX11_pause 33 = .ok (.iload_n 2, 1) := by decide +kernel
theorem dX11_pause_34 : decode cX11_pause 34 = .ok (.iadd, 1) := by decide +kernel
theorem dX11_pause_35 : decode cX11_pause 35 = .ok (.iaload, 1) := by decide +kernel
theorem dX11_pause_36 : decode cX11_pause 36 = .ok (.aload_n 0, 1) := by decide +kernel
theorem dX11_pause_37 : decode cX11_pause 37 = .ok (.getfield 159, 3) := by decide +kernel
theorem dX11_pause_40 : decode cX11_pause 40 = .ok (.iload_n 2, 1) := by decide +kernel
theorem dX11_pause_41 : decode cX11_pause 41 = .ok (.iaload, 1) := by decide +kernel
theorem dX11_pause_42 : decode cX11_pause 42 = .ok (.isub, 1) := by decide +kernel
theorem dX11_pause_43 : decode cX11_pause 43 = .ok (.iadd, 1) := by decide +kernel
theorem dX11_pause_44 : decode cX11_pause 44 = .ok (.istore_n 1, 1) := by decide +kernel
theorem dX11_pause_45 : decode cX11_pause 45 = .ok (.aload_n 0, 1) := by decide +kernel
theorem dX11_pause_46 : decode cX11_pause 46 = .ok (.getfield 159, 3) := by decide +kernel
theorem dX11_pause_49 : decode cX11_pause 49 = .ok (.iload_n 2, 1) := by decide +kernel
theorem dX11_pause_50 : decode cX11_pause 50 = .ok (.aload_n 0, 1) := by decide +kernel
theorem dX11_pause_51 : decode cX11_pause 51 = .ok (.getfield 72, 3) := by decide +kernel
theorem dX11_pause_54 : decode cX11_pause 54 = .ok (.bipush 6, 2) := by decide +kernel
theorem dX11_pause_56 : decode cX11_pause 56 = .ok (.aload_n 0, 1) := by decide +kernel
theorem dX11_pause_57 : decode cX11_pause 57 = .ok (.getfield 51, 3) := by decide +kernel
theorem dX11_pause_60 : decode cX11_pause 60 = .ok (.imul, 1) := by decide +kernel
theorem dX11_pause_61 : decode cX11_pause 61 = .ok (.iload_n 2, 1) := by decide +kernel
theorem dX11_pause_62 : decode cX11_pause 62 = .ok (.iadd, 1) := by decide +kernel
theorem dX11_pause_63 : decode cX11_pause 63 = .ok (.iaload, 1) := by decide +kernel
theorem dX11_pause_64 : decode cX11_pause 64 = .ok (.iastore, 1) := by decide +kernel
theorem dX11_pause_65 : decode cX11_pause 65 = .ok (.iinc 2 1, 3) := by decide +kernel
theorem dX11_pause_68 : decode cX11_pause 68 = .ok (.goto (-60), 3) := by decide +kernel
theorem dX11_pause_71 : decode cX11_pause 71 = .ok (.iload_n 1, 1) := by decide +kernel
theorem dX11_pause_72 : decode cX11_pause 72 = .ok (.ireturn, 1) := by decide +kernel
def fX11_pause_8 : Nat → Int32 → Int32 → zS → Option (Int32 × zS)
  | 0, _, _, _ => none
  | f + 1, x1, x2, σ => aI σ 63 2 (iG σ 56 13) fun v3 => if v3 ≤ x2 then some (x1, σ) else aI σ 64 12 ((6 * (iG σ 56 13)) + x2) fun v4 => aI σ 86 132 x2 fun v5 => aI σ 64 12 ((6 * (iG σ 56 13)) + x2) fun v6 => wI σ 86 132 x2 v6 fun σ7 => fX11_pause_8 f (x1 + (v4 - v5)) (x2 + 1) σ7
theorem kX11_pause_8 {sc : Nat × (Nat → Int32)} : ∀ (fuel : Nat) (x1 : Int32) (x2 : Int32) (σ : zS) (w : Int32 × zS) (h : fX11_pause_8 fuel x1 x2 σ = some w), zR (zY0 sc) 3 0 0 mX11_pause 8 [(0, .ref 56), (1, .int x1), (2, .int x2)] [] (zE σ) (some (.int w.1), zE w.2) := by
  intro fuel
  induction fuel with
  | zero => intro x1 x2 σ w h; exact nomatch h
  | succ f ih =>
    intro x1 x2 σ w h
    rw [fX11_pause_8] at h
    refine kR.iload_n dX11_pause_8 2 rfl ?_
    refine kR.aload_n dX11_pause_9 0 rfl ?_
    refine kR.getR (v := 63) dX11_pause_10 flX11_69 zcf11 zp56 (Or.inr ⟨_, rfl⟩) rfl ?_
    refine kR.aload_n dX11_pause_13 0 rfl ?_
    refine kR.getI dX11_pause_14 flX11_51 zcf11 zp56 (Or.inl rfl) ?_
    refine kR.iald dX11_pause_17 zp63 rfl h (fun v3 h => ?_)
    refine kR.icmp_ge (tgt := 71) dX11_pause_18 (by decide) h (fun h => ?_) (fun h => ?_)
    · refine kR.iload_n dX11_pause_71 1 rfl ?_
      exact kR.iretW dX11_pause_72 (nzI rfl _) h
    · refine kR.iload_n dX11_pause_21 1 rfl ?_
      refine kR.aload_n dX11_pause_22 0 rfl ?_
      refine kR.getR (v := 64) dX11_pause_23 flX11_72 zcf11 zp56 (Or.inr ⟨_, rfl⟩) rfl ?_
      refine zR.bipush (v := 6) dX11_pause_26 (by decide) ?_
      refine kR.aload_n dX11_pause_28 0 rfl ?_
      refine kR.getI dX11_pause_29 flX11_51 zcf11 zp56 (Or.inl rfl) ?_
      refine zR.imul dX11_pause_32 ?_
      refine kR.iload_n dX11_pause_33 2 rfl ?_
      refine zR.iadd dX11_pause_34 ?_
      refine kR.iald dX11_pause_35 zp64 rfl h (fun v4 h => ?_)
      refine kR.aload_n dX11_pause_36 0 rfl ?_
      refine kR.getR (v := 86) dX11_pause_37 flX11_159 zcf11 zp56 (Or.inr ⟨_, rfl⟩) rfl ?_
      refine kR.iload_n dX11_pause_40 2 rfl ?_
      refine kR.iald dX11_pause_41 zp86 rfl h (fun v5 h => ?_)
      refine zR.isub dX11_pause_42 ?_
      refine zR.iadd dX11_pause_43 ?_
      refine zR.istore_n (i := 1) (ls' := [(1, .int (x1 + (v4 - v5))), (0, .ref 56), (2, .int x2)]) dX11_pause_44 rfl (by decide) rfl ?_
      refine kR.aload_n dX11_pause_45 1 rfl ?_
      refine kR.getR (v := 86) dX11_pause_46 flX11_159 zcf11 zp56 (Or.inr ⟨_, rfl⟩) rfl ?_
      refine kR.iload_n dX11_pause_49 2 rfl ?_
      refine kR.aload_n dX11_pause_50 1 rfl ?_
      refine kR.getR (v := 64) dX11_pause_51 flX11_72 zcf11 zp56 (Or.inr ⟨_, rfl⟩) rfl ?_
      refine zR.bipush (v := 6) dX11_pause_54 (by decide) ?_
      refine kR.aload_n dX11_pause_56 1 rfl ?_
      refine kR.getI dX11_pause_57 flX11_51 zcf11 zp56 (Or.inl rfl) ?_
      refine zR.imul dX11_pause_60 ?_
      refine kR.iload_n dX11_pause_61 2 rfl ?_
      refine zR.iadd dX11_pause_62 ?_
      refine kR.iald dX11_pause_63 zp64 rfl h (fun v6 h => ?_)
      refine kR.iast dX11_pause_64 zp86 rfl h (fun σ7 h => ?_)
      refine zR.iinc 2 (v := x2 + 1) (ls' := [(2, .int (x2 + 1)), (1, .int (x1 + (v4 - v5))), (0, .ref 56)]) dX11_pause_65 rfl rfl (by decide) rfl ?_
      refine zR.goto (tgt := 8) dX11_pause_68 (by decide) ?_
      refine zR.sub [2, 1, 0] rfl ?_
      exact ih _ _ _ _ h
def fX11_pause (σ : zS) : Option (Int32 × zS) := bnr (fX11_keeps σ) fun σ1 => fX11_pause_8 zF 0 0 σ1
theorem eX11_pause {sc : Nat × (Nat → Int32)} (σ : zS) (w : Int32 × zS) (h : fX11_pause σ = some w) : zR (zY0 sc) 3 0 0 mX11_pause 0 [(0, .ref 56)] [] (zE σ) (some (.int w.1), zE w.2) := by
  unfold fX11_pause at h
  refine kR.aload_n dX11_pause_0 0 rfl ?_
  obtain ⟨σ1, e2, h⟩ := bnr_some h
  refine kR.cVv [] dX11_pause_1 rfl (by decide) mwX11_573 zp56 (by decide) rfl rfl (Nat.le_of_ble_eq_true rfl) (lX11_keeps σ _ e2) ?_
  refine zR.iconst (v := 0) dX11_pause_4 (by decide) ?_
  refine zR.istore_n (i := 1) (ls' := [(1, .int 0), (0, .ref 56)]) dX11_pause_5 rfl (by decide) rfl ?_
  refine zR.iconst (v := 0) dX11_pause_6 (by decide) ?_
  refine zR.istore_n (i := 2) (ls' := [(2, .int 0), (1, .int 0), (0, .ref 56)]) dX11_pause_7 rfl (by decide) rfl ?_
  refine zR.sub [2, 1, 0] rfl ?_
  exact kX11_pause_8 zF _ _ _ _ h
theorem lX11_pause {sc : Nat × (Nat → Int32)} (σ : zS) (w : Int32 × zS) (h : fX11_pause σ = some w) : zC (zY0 sc) 3 0 0 mX11_pause [.ref 56] (zE σ) (some (.int w.1), zE w.2) := zC.of (by decide +kernel) (Nat.le_of_ble_eq_true rfl) ⟨_, rfl⟩ (eX11_pause σ w h)
theorem dX11_believe_0 : decode cX11_believe 0 = .ok (.aload_n 0, 1) := by decide +kernel
theorem dX11_believe_1 : decode cX11_believe 1 = .ok (.iload_n 1, 1) := by decide +kernel
theorem dX11_believe_2 : decode cX11_believe 2 = .ok (.invokevirtual 506, 3) := by decide +kernel
theorem dX11_believe_5 : decode cX11_believe 5 = .ok (.ifCond .eq 21, 3) := by decide +kernel
theorem dX11_believe_8 : decode cX11_believe 8 = .ok (.aload_n 0, 1) := by decide +kernel
theorem dX11_believe_9 : decode cX11_believe 9 = .ok (.iload_n 2, 1) := by decide +kernel
theorem dX11_believe_10 : decode cX11_believe 10 = .ok (.invokevirtual 497, 3) := by decide +kernel
theorem dX11_believe_13 : decode cX11_believe 13 = .ok (.ifCond .eq 13, 3) := by decide +kernel
theorem dX11_believe_16 : decode cX11_believe 16 = .ok (.iload_n 3, 1) := by decide +kernel
theorem dX11_believe_17 : decode cX11_believe 17 = .ok (.iconst 0, 1) := by decide +kernel
theorem dX11_believe_18 : decode cX11_believe 18 = .ok (.bipush 60, 2) := by decide +kernel
theorem dX11_believe_20 : decode cX11_believe 20 = .ok (.invokestatic 338, 3) := by decide +kernel
theorem dX11_believe_23 : decode cX11_believe 23 = .ok (.ifCond .ne 9, 3) := by decide +kernel
theorem dX11_believe_26 : decode cX11_believe 26 = .ok (.aload_n 0, 1) := by decide +kernel
theorem dX11_believe_27 : decode cX11_believe 27 = .ok (.iconst 2, 1) := by decide +kernel
theorem dX11_believe_28 : decode cX11_believe 28 = .ok (.invokevirtual 252, 3) := by decide +kernel
theorem dX11_believe_31 : decode cX11_believe 31 = .ok (.ireturn, 1) := by decide +kernel
theorem dX11_believe_32 : decode cX11_believe 32 = .ok (.aload_n 0, 1) := by decide +kernel
theorem dX11_believe_33 : decode cX11_believe 33 = .ok (.invokevirtual 573, 3) := by decide +kernel
theorem dX11_believe_36 : decode cX11_believe 36 = .ok (.aload_n 0, 1) := by decide +kernel
theorem dX11_believe_37 : decode cX11_believe 37 = .ok (.getfield 168, 3) := by decide +kernel
theorem dX11_believe_40 : decode cX11_believe 40 = .ok (.bipush 6, 2) := by decide +kernel
theorem dX11_believe_42 : decode cX11_believe 42 = .ok (.iload_n 1, 1) := by decide +kernel
theorem dX11_believe_43 : decode cX11_believe 43 = .ok (.imul, 1) := by decide +kernel
theorem dX11_believe_44 : decode cX11_believe 44 = .ok (.iload_n 2, 1) := by decide +kernel
theorem dX11_believe_45 : decode cX11_believe 45 = .ok (.iadd, 1) := by decide +kernel
theorem dX11_believe_46 : decode cX11_believe 46 = .ok (.iaload, 1) := by decide +kernel
theorem dX11_believe_47 : decode cX11_believe 47 = .ok (.istore 4, 2) := by decide +kernel
theorem dX11_believe_49 : decode cX11_believe 49 = .ok (.aload_n 0, 1) := by decide +kernel
theorem dX11_believe_50 : decode cX11_believe 50 = .ok (.getfield 168, 3) := by decide +kernel
theorem dX11_believe_53 : decode cX11_believe 53 = .ok (.bipush 6, 2) := by decide +kernel
theorem dX11_believe_55 : decode cX11_believe 55 = .ok (.iload_n 1, 1) := by decide +kernel
theorem dX11_believe_56 : decode cX11_believe 56 = .ok (.imul, 1) := by decide +kernel
theorem dX11_believe_57 : decode cX11_believe 57 = .ok (.iload_n 2, 1) := by decide +kernel
theorem dX11_believe_58 : decode cX11_believe 58 = .ok (.iadd, 1) := by decide +kernel
theorem dX11_believe_59 : decode cX11_believe 59 = .ok (.iload_n 3, 1) := by decide +kernel
theorem dX11_believe_60 : decode cX11_believe 60 = .ok (.iastore, 1) := by decide +kernel
theorem dX11_believe_61 : decode cX11_believe 61 = .ok (.iload 4, 2) := by decide +kernel
theorem dX11_believe_63 : decode cX11_believe 63 = .ok (.ireturn, 1) := by decide +kernel
def fX11_believe_26 (σ : zS) : Option (Int32 × zS) := bnc (fX11_refuses 2 σ) fun v5 σ3 => some (v5, σ3)
theorem kX11_believe_26 {sc : Nat × (Nat → Int32)} (σ : zS) (w : Int32 × zS) (h : fX11_believe_26 σ = some w) : zR (zY0 sc) 3 0 0 mX11_believe 26 [(0, .ref 56)] [] (zE σ) (some (.int w.1), zE w.2) := by
  unfold fX11_believe_26 at h
  refine kR.aload_n dX11_believe_26 0 rfl ?_
  refine zR.iconst (v := 2) dX11_believe_27 (by decide) ?_
  obtain ⟨v5, σ3, e4, h⟩ := bnc_some h
  refine kR.cVi [.int 2] dX11_believe_28 rfl (by decide) mwX11_252 zp56 (by decide) rfl rfl (Nat.le_of_ble_eq_true rfl) (lX11_refuses 2 σ _ e4) ?_
  exact kR.iretW dX11_believe_31 (nzI rfl _) h
def fX11_believe (p1 : Int32) (p2 : Int32) (p3 : Int32) (σ : zS) : Option (Int32 × zS) := bnr (fX11_isHolder σ p1) fun v1 => if v1 = 0 then fX11_believe_26 σ else bnr (fX11_isTunnel σ p2) fun v6 => if v6 = 0 then fX11_believe_26 σ else if (fX11_is p3 0 60) = 0 then fX11_believe_26 σ else bnr (fX11_keeps σ) fun σ8 => aI σ8 89 792 ((6 * p1) + p2) fun v10 => wI σ8 89 792 ((6 * p1) + p2) p3 fun σ11 => some (v10, σ11)
theorem eX11_believe {sc : Nat × (Nat → Int32)} (p1 : Int32) (p2 : Int32) (p3 : Int32) (σ : zS) (w : Int32 × zS) (h : fX11_believe p1 p2 p3 σ = some w) : zR (zY0 sc) 3 0 0 mX11_believe 0 [(0, .ref 56), (1, .int p1), (2, .int p2), (3, .int p3)] [] (zE σ) (some (.int w.1), zE w.2) := by
  unfold fX11_believe at h
  refine kR.aload_n dX11_believe_0 0 rfl ?_
  refine kR.iload_n dX11_believe_1 1 rfl ?_
  obtain ⟨v1, e2, h⟩ := bnr_some h
  refine kR.cVi [.int p1] dX11_believe_2 rfl (by decide) mwX11_506 zp56 (by decide) rfl rfl (Nat.le_of_ble_eq_true rfl) (lX11_isHolder σ p1 _ e2) ?_
  refine kR.if_eq (tgt := 26) dX11_believe_5 (by decide) h (fun h => ?_) (fun h => ?_)
  · refine zR.sub [0] rfl ?_
    exact kX11_believe_26 _ _ h
  · refine kR.aload_n dX11_believe_8 0 rfl ?_
    refine kR.iload_n dX11_believe_9 2 rfl ?_
    obtain ⟨v6, e7, h⟩ := bnr_some h
    refine kR.cVi [.int p2] dX11_believe_10 rfl (by decide) mwX11_497 zp56 (by decide) rfl rfl (Nat.le_of_ble_eq_true rfl) (lX11_isTunnel σ p2 _ e7) ?_
    refine kR.if_eq (tgt := 26) dX11_believe_13 (by decide) h (fun h => ?_) (fun h => ?_)
    · refine zR.sub [0] rfl ?_
      exact kX11_believe_26 _ _ h
    · refine kR.iload_n dX11_believe_16 3 rfl ?_
      refine zR.iconst (v := 0) dX11_believe_17 (by decide) ?_
      refine zR.bipush (v := 60) dX11_believe_18 (by decide) ?_
      refine kR.cSi [.int p3, .int 0, .int 60] dX11_believe_20 rfl (by decide) (Or.inl mwX11_338) rfl (Nat.le_of_ble_eq_true rfl) (lX11_is p3 0 60) ?_
      refine kR.if_ne (tgt := 32) dX11_believe_23 (by decide) h (fun h => ?_) (fun h => ?_)
      · refine kR.aload_n dX11_believe_32 0 rfl ?_
        obtain ⟨σ8, e9, h⟩ := bnr_some h
        refine kR.cVv [] dX11_believe_33 rfl (by decide) mwX11_573 zp56 (by decide) rfl rfl (Nat.le_of_ble_eq_true rfl) (lX11_keeps σ _ e9) ?_
        refine kR.aload_n dX11_believe_36 0 rfl ?_
        refine kR.getR (v := 89) dX11_believe_37 flX11_168 zcf11 zp56 (Or.inr ⟨_, rfl⟩) rfl ?_
        refine zR.bipush (v := 6) dX11_believe_40 (by decide) ?_
        refine kR.iload_n dX11_believe_42 1 rfl ?_
        refine zR.imul dX11_believe_43 ?_
        refine kR.iload_n dX11_believe_44 2 rfl ?_
        refine zR.iadd dX11_believe_45 ?_
        refine kR.iald dX11_believe_46 zp89 rfl h (fun v10 h => ?_)
        refine zR.istore (i := 4) (ls' := [(4, .int v10), (0, .ref 56), (1, .int p1), (2, .int p2), (3, .int p3)]) dX11_believe_47 (by decide) rfl ?_
        refine kR.aload_n dX11_believe_49 1 rfl ?_
        refine kR.getR (v := 89) dX11_believe_50 flX11_168 zcf11 zp56 (Or.inr ⟨_, rfl⟩) rfl ?_
        refine zR.bipush (v := 6) dX11_believe_53 (by decide) ?_
        refine kR.iload_n dX11_believe_55 2 rfl ?_
        refine zR.imul dX11_believe_56 ?_
        refine kR.iload_n dX11_believe_57 3 rfl ?_
        refine zR.iadd dX11_believe_58 ?_
        refine kR.iload_n dX11_believe_59 4 rfl ?_
        refine kR.iast dX11_believe_60 zp89 rfl h (fun σ11 h => ?_)
        refine kR.iload dX11_believe_61 0 rfl ?_
        exact kR.iretW dX11_believe_63 (nzI rfl _) h
      · refine zR.sub [0] rfl ?_
        exact kX11_believe_26 _ _ h
theorem lX11_believe {sc : Nat × (Nat → Int32)} (p1 : Int32) (p2 : Int32) (p3 : Int32) (σ : zS) (w : Int32 × zS) (h : fX11_believe p1 p2 p3 σ = some w) : zC (zY0 sc) 3 0 0 mX11_believe [.ref 56, .int p1, .int p2, .int p3] (zE σ) (some (.int w.1), zE w.2) := zC.of (by decide +kernel) (Nat.le_of_ble_eq_true rfl) ⟨_, rfl⟩ (eX11_believe p1 p2 p3 σ w h)
theorem dX11_give_0 : decode cX11_give 0 = .ok (.aload_n 0, 1) := by decide +kernel
theorem dX11_give_1 : decode cX11_give 1 = .ok (.iload_n 1, 1) := by decide +kernel
theorem dX11_give_2 : decode cX11_give 2 = .ok (.invokevirtual 506, 3) := by decide +kernel
theorem dX11_give_5 : decode cX11_give 5 = .ok (.ifCond .eq 13, 3) := by decide +kernel
theorem dX11_give_8 : decode cX11_give 8 = .ok (.iload_n 2, 1) := by decide +kernel
theorem dX11_give_9 : decode cX11_give 9 = .ok (.iconst 0, 1) := by decide +kernel
theorem dX11_give_10 : decode cX11_give 10 = .ok (.bipush 60, 2) := by decide +kernel
theorem dX11_give_12 : decode cX11_give 12 = .ok (.invokestatic 338, 3) := by decide +kernel
theorem dX11_give_15 : decode cX11_give 15 = .ok (.ifCond .ne 9, 3) := by decide +kernel
theorem dX11_give_18 : decode cX11_give 18 = .ok (.aload_n 0, 1) := by decide +kernel
theorem dX11_give_19 : decode cX11_give 19 = .ok (.iconst 2, 1) := by decide +kernel
theorem dX11_give_20 : decode cX11_give 20 = .ok (.invokevirtual 252, 3) := by decide +kernel
theorem dX11_give_23 : decode cX11_give 23 = .ok (.ireturn, 1) := by decide +kernel
theorem dX11_give_24 : decode cX11_give 24 = .ok (.aload_n 0, 1) := by decide +kernel
theorem dX11_give_25 : decode cX11_give 25 = .ok (.invokevirtual 573, 3) := by decide +kernel
theorem dX11_give_28 : decode cX11_give 28 = .ok (.aload_n 0, 1) := by decide +kernel
theorem dX11_give_29 : decode cX11_give 29 = .ok (.getfield 162, 3) := by decide +kernel
theorem dX11_give_32 : decode cX11_give 32 = .ok (.iload_n 1, 1) := by decide +kernel
theorem dX11_give_33 : decode cX11_give 33 = .ok (.iaload, 1) := by decide +kernel
theorem dX11_give_34 : decode cX11_give 34 = .ok (.istore_n 3, 1) := by decide +kernel
theorem dX11_give_35 : decode cX11_give 35 = .ok (.aload_n 0, 1) := by decide +kernel
theorem dX11_give_36 : decode cX11_give 36 = .ok (.getfield 162, 3) := by decide +kernel
theorem dX11_give_39 : decode cX11_give 39 = .ok (.iload_n 1, 1) := by decide +kernel
theorem dX11_give_40 : decode cX11_give 40 = .ok (.iload_n 2, 1) := by decide +kernel
theorem dX11_give_41 : decode cX11_give 41 = .ok (.iastore, 1) := by decide +kernel
theorem dX11_give_42 : decode cX11_give 42 = .ok (.iload_n 3, 1) := by decide +kernel
theorem dX11_give_43 : decode cX11_give 43 = .ok (.ireturn, 1) := by decide +kernel
def fX11_give_18 (σ : zS) : Option (Int32 × zS) := bnc (fX11_refuses 2 σ) fun v5 σ3 => some (v5, σ3)
theorem kX11_give_18 {sc : Nat × (Nat → Int32)} (σ : zS) (w : Int32 × zS) (h : fX11_give_18 σ = some w) : zR (zY0 sc) 3 0 0 mX11_give 18 [(0, .ref 56)] [] (zE σ) (some (.int w.1), zE w.2) := by
  unfold fX11_give_18 at h
  refine kR.aload_n dX11_give_18 0 rfl ?_
  refine zR.iconst (v := 2) dX11_give_19 (by decide) ?_
  obtain ⟨v5, σ3, e4, h⟩ := bnc_some h
  refine kR.cVi [.int 2] dX11_give_20 rfl (by decide) mwX11_252 zp56 (by decide) rfl rfl (Nat.le_of_ble_eq_true rfl) (lX11_refuses 2 σ _ e4) ?_
  exact kR.iretW dX11_give_23 (nzI rfl _) h
def fX11_give (p1 : Int32) (p2 : Int32) (σ : zS) : Option (Int32 × zS) := bnr (fX11_isHolder σ p1) fun v1 => if v1 = 0 then fX11_give_18 σ else if (fX11_is p2 0 60) = 0 then fX11_give_18 σ else bnr (fX11_keeps σ) fun σ6 => aI σ6 87 132 p1 fun v8 => wI σ6 87 132 p1 p2 fun σ9 => some (v8, σ9)
theorem eX11_give {sc : Nat × (Nat → Int32)} (p1 : Int32) (p2 : Int32) (σ : zS) (w : Int32 × zS) (h : fX11_give p1 p2 σ = some w) : zR (zY0 sc) 3 0 0 mX11_give 0 [(0, .ref 56), (1, .int p1), (2, .int p2)] [] (zE σ) (some (.int w.1), zE w.2) := by
  unfold fX11_give at h
  refine kR.aload_n dX11_give_0 0 rfl ?_
  refine kR.iload_n dX11_give_1 1 rfl ?_
  obtain ⟨v1, e2, h⟩ := bnr_some h
  refine kR.cVi [.int p1] dX11_give_2 rfl (by decide) mwX11_506 zp56 (by decide) rfl rfl (Nat.le_of_ble_eq_true rfl) (lX11_isHolder σ p1 _ e2) ?_
  refine kR.if_eq (tgt := 18) dX11_give_5 (by decide) h (fun h => ?_) (fun h => ?_)
  · refine zR.sub [0] rfl ?_
    exact kX11_give_18 _ _ h
  · refine kR.iload_n dX11_give_8 2 rfl ?_
    refine zR.iconst (v := 0) dX11_give_9 (by decide) ?_
    refine zR.bipush (v := 60) dX11_give_10 (by decide) ?_
    refine kR.cSi [.int p2, .int 0, .int 60] dX11_give_12 rfl (by decide) (Or.inl mwX11_338) rfl (Nat.le_of_ble_eq_true rfl) (lX11_is p2 0 60) ?_
    refine kR.if_ne (tgt := 24) dX11_give_15 (by decide) h (fun h => ?_) (fun h => ?_)
    · refine kR.aload_n dX11_give_24 0 rfl ?_
      obtain ⟨σ6, e7, h⟩ := bnr_some h
      refine kR.cVv [] dX11_give_25 rfl (by decide) mwX11_573 zp56 (by decide) rfl rfl (Nat.le_of_ble_eq_true rfl) (lX11_keeps σ _ e7) ?_
      refine kR.aload_n dX11_give_28 0 rfl ?_
      refine kR.getR (v := 87) dX11_give_29 flX11_162 zcf11 zp56 (Or.inr ⟨_, rfl⟩) rfl ?_
      refine kR.iload_n dX11_give_32 1 rfl ?_
      refine kR.iald dX11_give_33 zp87 rfl h (fun v8 h => ?_)
      refine zR.istore_n (i := 3) (ls' := [(3, .int v8), (0, .ref 56), (1, .int p1), (2, .int p2)]) dX11_give_34 rfl (by decide) rfl ?_
      refine kR.aload_n dX11_give_35 1 rfl ?_
      refine kR.getR (v := 87) dX11_give_36 flX11_162 zcf11 zp56 (Or.inr ⟨_, rfl⟩) rfl ?_
      refine kR.iload_n dX11_give_39 2 rfl ?_
      refine kR.iload_n dX11_give_40 3 rfl ?_
      refine kR.iast dX11_give_41 zp87 rfl h (fun σ9 h => ?_)
      refine kR.iload_n dX11_give_42 0 rfl ?_
      exact kR.iretW dX11_give_43 (nzI rfl _) h
    · refine zR.sub [0] rfl ?_
      exact kX11_give_18 _ _ h
theorem lX11_give {sc : Nat × (Nat → Int32)} (p1 : Int32) (p2 : Int32) (σ : zS) (w : Int32 × zS) (h : fX11_give p1 p2 σ = some w) : zC (zY0 sc) 3 0 0 mX11_give [.ref 56, .int p1, .int p2] (zE σ) (some (.int w.1), zE w.2) := zC.of (by decide +kernel) (Nat.le_of_ble_eq_true rfl) ⟨_, rfl⟩ (eX11_give p1 p2 σ w h)
theorem dX11_seed_0 : decode cX11_seed 0 = .ok (.iload_n 1, 1) := by decide +kernel
theorem dX11_seed_1 : decode cX11_seed 1 = .ok (.ifCond .ge 17, 3) := by decide +kernel
theorem dX11_seed_4 : decode cX11_seed 4 = .ok (.aload_n 0, 1) := by decide +kernel
theorem dX11_seed_5 : decode cX11_seed 5 = .ok (.iconst 4, 1) := by decide +kernel
theorem dX11_seed_6 : decode cX11_seed 6 = .ok (.invokevirtual 252, 3) := by decide +kernel
theorem dX11_seed_9 : decode cX11_seed 9 = .ok (.ifCond .lt 7, 3) := by decide +kernel
theorem dX11_seed_12 : decode cX11_seed 12 = .ok (.iconst 1, 1) := by decide +kernel
theorem dX11_seed_13 : decode cX11_seed 13 = .ok (.goto 4, 3) := by decide +kernel
theorem dX11_seed_16 : decode cX11_seed 16 = .ok (.iconst 0, 1) := by decide +kernel
theorem dX11_seed_17 : decode cX11_seed 17 = .ok (.ireturn, 1) := by decide +kernel
theorem dX11_seed_18 : decode cX11_seed 18 = .ok (.aload_n 0, 1) := by decide +kernel
theorem dX11_seed_19 : decode cX11_seed 19 = .ok (.iload_n 1, 1) := by decide +kernel
theorem dX11_seed_20 : decode cX11_seed 20 = .ok (.i2l, 1) := by decide +kernel
theorem dX11_seed_21 : decode cX11_seed 21 = .ok (.putfield 192, 3) := by decide +kernel
theorem dX11_seed_24 : decode cX11_seed 24 = .ok (.iconst 1, 1) := by decide +kernel
theorem dX11_seed_25 : decode cX11_seed 25 = .ok (.ireturn, 1) := by decide +kernel
def fX11_seed (p1 : Int32) (σ : zS) : Option (Int32 × zS) := if 0 ≤ p1 then bnd (lS σ 56 59 p1.toInt64) fun σ1 => some (1, σ1) else bnc (fX11_refuses 4 σ) fun v4 σ2 => if v4 < 0 then some (0, σ2) else some (1, σ2)
theorem eX11_seed {sc : Nat × (Nat → Int32)} (p1 : Int32) (σ : zS) (w : Int32 × zS) (h : fX11_seed p1 σ = some w) : zR (zY0 sc) 2 0 0 mX11_seed 0 [(0, .ref 56), (1, .int p1)] [] (zE σ) (some (.int w.1), zE w.2) := by
  unfold fX11_seed at h
  refine kR.iload_n dX11_seed_0 1 rfl ?_
  refine kR.if_ge (tgt := 18) dX11_seed_1 (by decide) h (fun h => ?_) (fun h => ?_)
  · refine kR.aload_n dX11_seed_18 0 rfl ?_
    refine kR.iload_n dX11_seed_19 1 rfl ?_
    refine zR.i2l dX11_seed_20 ?_
    refine kR.putL dX11_seed_21 fpX11_192 zcf11 zp56 rfl h (fun σ1 h => ?_)
    refine zR.iconst (v := 1) dX11_seed_24 (by decide) ?_
    exact kR.iretW dX11_seed_25 (nzZ rfl (Or.inr rfl)) h
  · refine kR.aload_n dX11_seed_4 0 rfl ?_
    refine zR.iconst (v := 4) dX11_seed_5 (by decide) ?_
    obtain ⟨v4, σ2, e3, h⟩ := bnc_some h
    refine kR.cVi [.int 4] dX11_seed_6 rfl (by decide) mwX11_252 zp56 (by decide) rfl rfl (Nat.le_of_ble_eq_true rfl) (lX11_refuses 4 σ _ e3) ?_
    refine kR.if_lt (tgt := 16) dX11_seed_9 (by decide) h (fun h => ?_) (fun h => ?_)
    · refine zR.iconst (v := 0) dX11_seed_16 (by decide) ?_
      exact kR.iretW dX11_seed_17 (nzZ rfl (Or.inl rfl)) h
    · refine zR.iconst (v := 1) dX11_seed_12 (by decide) ?_
      refine zR.goto (tgt := 17) dX11_seed_13 (by decide) ?_
      exact kR.iretW dX11_seed_17 (nzZ rfl (Or.inr rfl)) h
theorem lX11_seed {sc : Nat × (Nat → Int32)} (p1 : Int32) (σ : zS) (w : Int32 × zS) (h : fX11_seed p1 σ = some w) : zC (zY0 sc) 2 0 0 mX11_seed [.ref 56, .int p1] (zE σ) (some (.int w.1), zE w.2) := zC.of (by decide +kernel) (Nat.le_of_ble_eq_true rfl) ⟨_, rfl⟩ (eX11_seed p1 σ w h)
theorem dX11_kept_0 : decode cX11_kept 0 = .ok (.iload_n 1, 1) := by decide +kernel
theorem dX11_kept_1 : decode cX11_kept 1 = .ok (.iconst 0, 1) := by decide +kernel
theorem dX11_kept_2 : decode cX11_kept 2 = .ok (.aload_n 0, 1) := by decide +kernel
theorem dX11_kept_3 : decode cX11_kept 3 = .ok (.getfield 171, 3) := by decide +kernel
theorem dX11_kept_6 : decode cX11_kept 6 = .ok (.iconst 0, 1) := by decide +kernel
theorem dX11_kept_7 : decode cX11_kept 7 = .ok (.iaload, 1) := by decide +kernel
theorem dX11_kept_8 : decode cX11_kept 8 = .ok (.iconst 1, 1) := by decide +kernel
theorem dX11_kept_9 : decode cX11_kept 9 = .ok (.isub, 1) := by decide +kernel
theorem dX11_kept_10 : decode cX11_kept 10 = .ok (.invokestatic 338, 3) := by decide +kernel
theorem dX11_kept_13 : decode cX11_kept 13 = .ok (.ifCond .eq 12, 3) := by decide +kernel
theorem dX11_kept_16 : decode cX11_kept 16 = .ok (.iload_n 2, 1) := by decide +kernel
theorem dX11_kept_17 : decode cX11_kept 17 = .ok (.iconst 0, 1) := by decide +kernel
theorem dX11_kept_18 : decode cX11_kept 18 = .ok (.iconst 3, 1) := by decide +kernel
theorem dX11_kept_19 : decode cX11_kept 19 = .ok (.invokestatic 338, 3) := by decide +kernel
theorem dX11_kept_22 : decode cX11_kept 22 = .ok (.ifCond .ne 5, 3) := by decide +kernel
theorem dX11_kept_25 : decode cX11_kept 25 = .ok (.iconst (-1), 1) := by decide +kernel
theorem dX11_kept_26 : decode cX11_kept 26 = .ok (.ireturn, 1) := by decide +kernel
theorem dX11_kept_27 : decode cX11_kept 27 = .ok (.iload_n 2, 1) := by decide +kernel
theorem dX11_kept_28 : decode cX11_kept 28 = .ok (.ifCond .ne 12, 3) := by decide +kernel
theorem dX11_kept_31 : decode cX11_kept 31 = .ok (.aload_n 0, 1) := by decide +kernel
theorem dX11_kept_32 : decode cX11_kept 32 = .ok (.getfield 174, 3) := by decide +kernel
theorem dX11_kept_35 : decode cX11_kept 35 = .ok (.iload_n 1, 1) := by decide +kernel
theorem dX11_kept_36 : decode cX11_kept 36 = .ok (.iaload, 1) := by decide +kernel
theorem dX11_kept_37 : decode cX11_kept 37 = .ok (.goto 37, 3) := by decide +kernel
theorem dX11_kept_40 : decode cX11_kept 40 = .ok (.iload_n 2, 1) := by decide +kernel
theorem dX11_kept_41 : decode cX11_kept 41 = .ok (.iconst 1, 1) := by decide +kernel
theorem dX11_kept_42 : decode cX11_kept 42 = .ok (.if_icmp .ne 12, 3) := by decide +kernel
theorem dX11_kept_45 : decode cX11_kept 45 = .ok (.aload_n 0, 1) := by decide +kernel
theorem dX11_kept_46 : decode cX11_kept 46 = .ok (.getfield 177, 3) := by decide +kernel
theorem dX11_kept_49 : decode cX11_kept 49 = .ok (.iload_n 1, 1) := by decide +kernel
theorem dX11_kept_50 : decode cX11_kept 50 = .ok (.iaload, 1) := by decide +kernel
theorem dX11_kept_51 : decode cX11_kept 51 = .ok (.goto 23, 3) := by decide +kernel
theorem dX11_kept_54 : decode cX11_kept 54 = .ok (.iload_n 2, 1) := by decide +kernel
theorem dX11_kept_55 : decode cX11_kept 55 = .ok (.iconst 2, 1) := by decide +kernel
theorem dX11_kept_56 : decode cX11_kept 56 = .ok (.if_icmp .ne 12, 3) := by decide +kernel
theorem dX11_kept_59 : decode cX11_kept 59 = .ok (.aload_n 0, 1) := by decide +kernel
theorem dX11_kept_60 : decode cX11_kept 60 = .ok (.getfield 180, 3) := by decide +kernel
theorem dX11_kept_63 : decode cX11_kept 63 = .ok (.iload_n 1, 1) := by decide +kernel
theorem dX11_kept_64 : decode cX11_kept 64 = .ok (.iaload, 1) := by decide +kernel
theorem dX11_kept_65 : decode cX11_kept 65 = .ok (.goto 9, 3) := by decide +kernel
theorem dX11_kept_68 : decode cX11_kept 68 = .ok (.aload_n 0, 1) := by decide +kernel
theorem dX11_kept_69 : decode cX11_kept 69 = .ok (.getfield 183, 3) := by decide +kernel
theorem dX11_kept_72 : decode cX11_kept 72 = .ok (.iload_n 1, 1) := by decide +kernel
theorem dX11_kept_73 : decode cX11_kept 73 = .ok (.iaload, 1) := by decide +kernel
theorem dX11_kept_74 : decode cX11_kept 74 = .ok (.ireturn, 1) := by decide +kernel
def fX11_kept (σ : zS) (p1 : Int32) (p2 : Int32) : Option Int32 := aI σ 90 22 0 fun v1 => if (fX11_is p1 0 (v1 - 1)) = 0 then some ((-1)) else if (fX11_is p2 0 3) = 0 then some ((-1)) else if p2 = 0 then aI σ 91 1056 p1 fun v5 => some v5 else if p2 = 1 then aI σ 92 1056 p1 fun v4 => some v4 else if p2 = 2 then aI σ 93 1056 p1 fun v3 => some v3 else aI σ 94 1056 p1 fun v2 => some v2
theorem eX11_kept {sc : Nat × (Nat → Int32)} (σ : zS) (p1 : Int32) (p2 : Int32) (w : Int32) (h : fX11_kept σ p1 p2 = some w) : zR (zY0 sc) 2 0 0 mX11_kept 0 [(0, .ref 56), (1, .int p1), (2, .int p2)] [] (zE σ) (some (.int w), zE σ) := by
  unfold fX11_kept at h
  refine kR.iload_n dX11_kept_0 1 rfl ?_
  refine zR.iconst (v := 0) dX11_kept_1 (by decide) ?_
  refine kR.aload_n dX11_kept_2 0 rfl ?_
  refine kR.getR (v := 90) dX11_kept_3 flX11_171 zcf11 zp56 (Or.inr ⟨_, rfl⟩) rfl ?_
  refine zR.iconst (v := 0) dX11_kept_6 (by decide) ?_
  refine kR.iald dX11_kept_7 zp90 rfl h (fun v1 h => ?_)
  refine zR.iconst (v := 1) dX11_kept_8 (by decide) ?_
  refine zR.isub dX11_kept_9 ?_
  refine kR.cSi [.int p1, .int 0, .int (v1 - 1)] dX11_kept_10 rfl (by decide) (Or.inl mwX11_338) rfl (Nat.le_of_ble_eq_true rfl) (lX11_is p1 0 (v1 - 1)) ?_
  refine kR.if_eq (tgt := 25) dX11_kept_13 (by decide) h (fun h => ?_) (fun h => ?_)
  · refine zR.iconst (v := (-1)) dX11_kept_25 (by decide) ?_
    exact kR.iretO dX11_kept_26 (nzI rfl _) h
  · refine kR.iload_n dX11_kept_16 2 rfl ?_
    refine zR.iconst (v := 0) dX11_kept_17 (by decide) ?_
    refine zR.iconst (v := 3) dX11_kept_18 (by decide) ?_
    refine kR.cSi [.int p2, .int 0, .int 3] dX11_kept_19 rfl (by decide) (Or.inl mwX11_338) rfl (Nat.le_of_ble_eq_true rfl) (lX11_is p2 0 3) ?_
    refine kR.if_ne (tgt := 27) dX11_kept_22 (by decide) h (fun h => ?_) (fun h => ?_)
    · refine kR.iload_n dX11_kept_27 2 rfl ?_
      refine kR.if_ne (tgt := 40) dX11_kept_28 (by decide) h (fun h => ?_) (fun h => ?_)
      · refine kR.iload_n dX11_kept_40 2 rfl ?_
        refine zR.iconst (v := 1) dX11_kept_41 (by decide) ?_
        refine kR.icmp_ne (tgt := 54) dX11_kept_42 (by decide) h (fun h => ?_) (fun h => ?_)
        · refine kR.iload_n dX11_kept_54 2 rfl ?_
          refine zR.iconst (v := 2) dX11_kept_55 (by decide) ?_
          refine kR.icmp_ne (tgt := 68) dX11_kept_56 (by decide) h (fun h => ?_) (fun h => ?_)
          · refine kR.aload_n dX11_kept_68 0 rfl ?_
            refine kR.getR (v := 94) dX11_kept_69 flX11_183 zcf11 zp56 (Or.inr ⟨_, rfl⟩) rfl ?_
            refine kR.iload_n dX11_kept_72 1 rfl ?_
            refine kR.iald dX11_kept_73 zp94 rfl h (fun v2 h => ?_)
            exact kR.iretO dX11_kept_74 (nzI rfl _) h
          · refine kR.aload_n dX11_kept_59 0 rfl ?_
            refine kR.getR (v := 93) dX11_kept_60 flX11_180 zcf11 zp56 (Or.inr ⟨_, rfl⟩) rfl ?_
            refine kR.iload_n dX11_kept_63 1 rfl ?_
            refine kR.iald dX11_kept_64 zp93 rfl h (fun v3 h => ?_)
            refine zR.goto (tgt := 74) dX11_kept_65 (by decide) ?_
            exact kR.iretO dX11_kept_74 (nzI rfl _) h
        · refine kR.aload_n dX11_kept_45 0 rfl ?_
          refine kR.getR (v := 92) dX11_kept_46 flX11_177 zcf11 zp56 (Or.inr ⟨_, rfl⟩) rfl ?_
          refine kR.iload_n dX11_kept_49 1 rfl ?_
          refine kR.iald dX11_kept_50 zp92 rfl h (fun v4 h => ?_)
          refine zR.goto (tgt := 74) dX11_kept_51 (by decide) ?_
          exact kR.iretO dX11_kept_74 (nzI rfl _) h
      · refine kR.aload_n dX11_kept_31 0 rfl ?_
        refine kR.getR (v := 91) dX11_kept_32 flX11_174 zcf11 zp56 (Or.inr ⟨_, rfl⟩) rfl ?_
        refine kR.iload_n dX11_kept_35 1 rfl ?_
        refine kR.iald dX11_kept_36 zp91 rfl h (fun v5 h => ?_)
        refine zR.goto (tgt := 74) dX11_kept_37 (by decide) ?_
        exact kR.iretO dX11_kept_74 (nzI rfl _) h
    · refine zR.iconst (v := (-1)) dX11_kept_25 (by decide) ?_
      exact kR.iretO dX11_kept_26 (nzI rfl _) h
theorem lX11_kept {sc : Nat × (Nat → Int32)} (σ : zS) (p1 : Int32) (p2 : Int32) (w : Int32) (h : fX11_kept σ p1 p2 = some w) : zC (zY0 sc) 2 0 0 mX11_kept [.ref 56, .int p1, .int p2] (zE σ) (some (.int w), zE σ) := zC.of (by decide +kernel) (Nat.le_of_ble_eq_true rfl) ⟨_, rfl⟩ (eX11_kept σ p1 p2 w h)
theorem dX11_writes_0 : decode cX11_writes 0 = .ok (.aload_n 0, 1) := by decide +kernel
theorem dX11_writes_1 : decode cX11_writes 1 = .ok (.getfield 246, 3) := by decide +kernel
theorem dX11_writes_4 : decode cX11_writes 4 = .ok (.aload_n 0, 1) := by decide +kernel
theorem dX11_writes_5 : decode cX11_writes 5 = .ok (.getfield 249, 3) := by decide +kernel
theorem dX11_writes_8 : decode cX11_writes 8 = .ok (.iload_n 1, 1) := by decide +kernel
theorem dX11_writes_9 : decode cX11_writes 9 = .ok (.sipush 255, 3) := by decide +kernel
theorem dX11_writes_12 : decode cX11_writes 12 = .ok (.iand, 1) := by decide +kernel
theorem dX11_writes_13 : decode cX11_writes 13 = .ok (.iastore, 1) := by decide +kernel
theorem dX11_writes_14 : decode cX11_writes 14 = .ok (.aload_n 0, 1) := by decide +kernel
theorem dX11_writes_15 : decode cX11_writes 15 = .ok (.dup, 1) := by decide +kernel
theorem dX11_writes_16 : decode cX11_writes 16 = .ok (.getfield 249, 3) := by decide +kernel
theorem dX11_writes_19 : decode cX11_writes 19 = .ok (.iconst 1, 1) := by decide +kernel
theorem dX11_writes_20 : decode cX11_writes 20 = .ok (.iadd, 1) := by decide +kernel
theorem dX11_writes_21 : decode cX11_writes 21 = .ok (.putfield 249, 3) := by decide +kernel
theorem dX11_writes_24 : decode cX11_writes 24 = .ok (.return_, 1) := by decide +kernel
def fX11_writes (p1 : Int32) (σ : zS) : Option zS := wI σ 102 70 (iG σ 56 78) (p1 &&& 255) fun σ1 => bnd (iS σ1 56 78 ((iG σ1 56 78) + 1)) fun σ2 => some σ2
theorem eX11_writes {sc : Nat × (Nat → Int32)} (p1 : Int32) (σ : zS) (w : zS) (h : fX11_writes p1 σ = some w) : zR (zY0 sc) 1 0 0 mX11_writes 0 [(0, .ref 56), (1, .int p1)] [] (zE σ) (none, zE w) := by
  unfold fX11_writes at h
  refine kR.aload_n dX11_writes_0 0 rfl ?_
  refine kR.getR (v := 102) dX11_writes_1 flX11_246 zcf11 zp56 (Or.inr ⟨_, rfl⟩) rfl ?_
  refine kR.aload_n dX11_writes_4 0 rfl ?_
  refine kR.getI dX11_writes_5 flX11_249 zcf11 zp56 (Or.inl rfl) ?_
  refine kR.iload_n dX11_writes_8 1 rfl ?_
  refine zR.sipush (v := 255) dX11_writes_9 (by decide) ?_
  refine zR.iand dX11_writes_12 ?_
  refine kR.iast dX11_writes_13 zp102 rfl h (fun σ1 h => ?_)
  refine kR.aload_n dX11_writes_14 0 rfl ?_
  refine zR.dup dX11_writes_15 rfl ?_
  refine kR.getI dX11_writes_16 flX11_249 zcf11 zp56 (Or.inl rfl) ?_
  refine zR.iconst (v := 1) dX11_writes_19 (by decide) ?_
  refine zR.iadd dX11_writes_20 ?_
  refine kR.putI dX11_writes_21 fpX11_249 zcf11 zp56 rfl h (fun σ2 h => ?_)
  exact kR.vret dX11_writes_24 h
theorem lX11_writes {sc : Nat × (Nat → Int32)} (p1 : Int32) (σ : zS) (w : zS) (h : fX11_writes p1 σ = some w) : zC (zY0 sc) 1 0 0 mX11_writes [.ref 56, .int p1] (zE σ) (none, zE w) := zC.of (by decide +kernel) (Nat.le_of_ble_eq_true rfl) rfl (eX11_writes p1 σ w h)
theorem dX11_image_0 : decode cX11_image 0 = .ok (.aload_n 0, 1) := by decide +kernel
theorem dX11_image_1 : decode cX11_image 1 = .ok (.iconst 0, 1) := by decide +kernel
theorem dX11_image_2 : decode cX11_image 2 = .ok (.putfield 249, 3) := by decide +kernel
theorem dX11_image_5 : decode cX11_image 5 = .ok (.aload_n 0, 1) := by decide +kernel
theorem dX11_image_6 : decode cX11_image 6 = .ok (.aload_n 0, 1) := by decide +kernel
theorem dX11_image_7 : decode cX11_image 7 = .ok (.getfield 156, 3) := by decide +kernel
theorem dX11_image_10 : decode cX11_image 10 = .ok (.iconst 0, 1) := by decide +kernel
theorem dX11_image_11 : decode cX11_image 11 = .ok (.iaload, 1) := by decide +kernel
theorem dX11_image_12 : decode cX11_image 12 = .ok (.invokevirtual 579, 3) := by decide +kernel
theorem dX11_image_15 : decode cX11_image 15 = .ok (.iconst 0, 1) := by decide +kernel
theorem dX11_image_16 : decode cX11_image 16 = .ok (.istore_n 1, 1) := by decide +kernel
theorem dX11_image_17 : decode cX11_image 17 = .ok (.iload_n 1, 1) := by decide +kernel
theorem dX11_image_18 : decode cX11_image 18 = .ok (.aload_n 0, 1) := by decide +kernel
theorem dX11_image_19 : decode cX11_image 19 = .ok (.getfield 69, 3) := by decide +kernel
theorem dX11_image_22 : decode cX11_image 22 = .ok (.aload_n 0, 1) := by decide +kernel
theorem dX11_image_23 : decode cX11_image 23 = .ok (.getfield 51, 3) := by decide +kernel
theorem dX11_image_26 : decode cX11_image 26 = .ok (.iaload, 1) := by decide +kernel
theorem dX11_image_27 : decode cX11_image 27 = .ok (.if_icmp .ge 97, 3) := by decide +kernel
theorem dX11_image_30 : decode cX11_image 30 = .ok (.aload_n 0, 1) := by decide +kernel
theorem dX11_image_31 : decode cX11_image 31 = .ok (.getfield 165, 3) := by decide +kernel
theorem dX11_image_34 : decode cX11_image 34 = .ok (.iload_n 1, 1) := by decide +kernel
theorem dX11_image_35 : decode cX11_image 35 = .ok (.iaload, 1) := by decide +kernel
theorem dX11_image_36 : decode cX11_image 36 = .ok (.ldc_w 582, 3) := by decide +kernel
theorem dX11_image_39 : decode cX11_image 39 = .ok (.iadd, 1) := by decide +kernel
theorem dX11_image_40 : decode cX11_image 40 = .ok (.istore_n 2, 1) := by decide +kernel
theorem dX11_image_41 : decode cX11_image 41 = .ok (.aload_n 0, 1) := by decide +kernel
theorem dX11_image_42 : decode cX11_image 42 = .ok (.aload_n 0, 1) := by decide +kernel
theorem dX11_image_43 : decode cX11_image 43 = .ok (.getfield 159, 3) := by decide +kernel
theorem dX11_image_46 : decode cX11_image 46 = .ok (.iload_n 1, 1) := by decide +kernel
theorem dX11_image_47 : decode cX11_image 47 = .ok (.iaload, 1) := by decide +kernel
theorem dX11_image_48 : decode cX11_image 48 = .ok (.invokevirtual 579, 3) := by decide +kernel
theorem dX11_image_51 : decode cX11_image 51 = .ok (.aload_n 0, 1) := by decide +kernel
theorem dX11_image_52 : decode cX11_image 52 = .ok (.aload_n 0, 1) := by decide +kernel
theorem dX11_image_53 : decode cX11_image 53 = .ok (.getfield 162, 3) := by decide +kernel
theorem dX11_image_56 : decode cX11_image 56 = .ok (.iload_n 1, 1) := by decide +kernel
theorem dX11_image_57 : decode cX11_image 57 = .ok (.iaload, 1) := by decide +kernel
theorem dX11_image_58 : decode cX11_image 58 = .ok (.invokevirtual 579, 3) := by decide +kernel
theorem dX11_image_61 : decode cX11_image 61 = .ok (.aload_n 0, 1) := by decide +kernel
theorem dX11_image_62 : decode cX11_image 62 = .ok (.iload_n 2, 1) := by decide +kernel
theorem dX11_image_63 : decode cX11_image 63 = .ok (.bipush 16, 2) := by decide +kernel
theorem dX11_image_65 : decode cX11_image 65 = .ok (.ishr, 1) := by decide +kernel
theorem dX11_image_66 : decode cX11_image 66 = .ok (.invokevirtual 579, 3) := by decide +kernel
theorem dX11_image_69 : decode cX11_image 69 = .ok (.aload_n 0, 1) := by decide +kernel
theorem dX11_image_70 : decode cX11_image 70 = .ok (.iload_n 2, 1) := by decide +kernel
theorem dX11_image_71 : decode cX11_image 71 = .ok (.bipush 8, 2) := by decide +kernel
theorem dX11_image_73 : decode cX11_image 73 = .ok (.ishr, 1) := by decide +kernel
theorem dX11_image_74 : decode cX11_image 74 = .ok (.invokevirtual 579, 3) := by decide +kernel
theorem dX11_image_77 : decode cX11_image 77 = .ok (.aload_n 0, 1) := by decide +kernel
theorem dX11_image_78 : decode cX11_image 78 = .ok (.iload_n 2, 1) := by decide +kernel
theorem dX11_image_79 : decode cX11_image 79 = .ok (.invokevirtual 579, 3) := by decide +kernel
theorem dX11_image_82 : decode cX11_image 82 = .ok (.iconst 0, 1) := by decide +kernel
theorem dX11_image_83 : decode cX11_image 83 = .ok (.istore_n 3, 1) := by decide +kernel
theorem dX11_image_84 : decode cX11_image 84 = .ok (.iload_n 3, 1) := by decide +kernel
theorem dX11_image_85 : decode cX11_image 85 = .ok (.aload_n 0, 1) := by decide +kernel
theorem dX11_image_86 : decode cX11_image 86 = .ok (.getfield 54, 3) := by decide +kernel
theorem dX11_image_89 : decode cX11_image 89 = .ok (.aload_n 0, 1) := by decide +kernel
theorem dX11_image_90 : decode cX11_image 90 = .ok (.getfield 51, 3) := by decide +kernel
theorem dX11_image_93 : decode cX11_image 93 = .ok (.iaload, 1) := by decide +kernel
theorem dX11_image_94 : decode cX11_image 94 = .ok (.if_icmp .ge 24, 3) := by decide +kernel
theorem dX11_image_97 : decode cX11_image 97 = .ok (.aload_n 0, 1) := by decide +kernel
theorem dX11_image_98 : decode cX11_image 98 = .ok (.aload_n 0, 1) := by decide +kernel
theorem dX11_image_99 : decode cX11_image 99 = .ok (.getfield 168, 3) := by decide +kernel
theorem dX11_image_102 : decode cX11_image 102 = .ok (.bipush 6, 2) := by decide +kernel
theorem dX11_image_104 : decode cX11_image 104 = .ok (.iload_n 1, 1) := by decide +kernel
theorem dX11_image_105 : decode cX11_image 105 = .ok (.imul, 1) := by decide +kernel
theorem dX11_image_106 : decode cX11_image 106 = .ok (.iload_n 3, 1) := by decide +kernel
theorem dX11_image_107 : decode cX11_image 107 = .ok (.iadd, 1) := by decide +kernel
theorem dX11_image_108 : decode cX11_image 108 = .ok (.iaload, 1) := by decide +kernel
theorem dX11_image_109 : decode cX11_image 109 = .ok (.invokevirtual 579, 3) := by decide +kernel
theorem dX11_image_112 : decode cX11_image 112 = .ok (.iinc 3 1, 3) := by decide +kernel
theorem dX11_image_115 : decode cX11_image 115 = .ok (.goto (-31), 3) := by decide +kernel
theorem dX11_image_118 : decode cX11_image 118 = .ok (.iinc 1 1, 3) := by decide +kernel
theorem dX11_image_121 : decode cX11_image 121 = .ok (.goto (-104), 3) := by decide +kernel
theorem dX11_image_124 : decode cX11_image 124 = .ok (.bipush 107, 2) := by decide +kernel
theorem dX11_image_126 : decode cX11_image 126 = .ok (.istore_n 1, 1) := by decide +kernel
theorem dX11_image_127 : decode cX11_image 127 = .ok (.iconst 0, 1) := by decide +kernel
theorem dX11_image_128 : decode cX11_image 128 = .ok (.istore_n 2, 1) := by decide +kernel
theorem dX11_image_129 : decode cX11_image 129 = .ok (.iload_n 2, 1) := by decide +kernel
theorem dX11_image_130 : decode cX11_image 130 = .ok (.aload_n 0, 1) := by decide +kernel
theorem dX11_image_131 : decode cX11_image 131 = .ok (.getfield 249, 3) := by decide +kernel
theorem dX11_image_134 : decode cX11_image 134 = .ok (.if_icmp .ge 24, 3) := by decide +kernel
theorem dX11_image_137 : decode cX11_image 137 = .ok (.iconst 5, 1) := by decide +kernel
theorem dX11_image_138 : decode cX11_image 138 = .ok (.iload_n 1, 1) := by decide +kernel
theorem dX11_image_139 : decode cX11_image 139 = .ok (.imul, 1) := by decide +kernel
theorem dX11_image_140 : decode cX11_image 140 = .ok (.aload_n 0, 1) := by decide +kernel
theorem dX11_image_141 : decode cX11_image 141 = .ok (.getfield 246, 3) := by decide +kernel
theorem dX11_image_144 : decode cX11_image 144 = .ok (.iload_n 2, 1) := by decide +kernel
theorem dX11_image_145 : decode cX11_image 145 = .ok (.iaload, 1) := by decide +kernel
theorem dX11_image_146 : decode cX11_image 146 = .ok (.iadd, 1) := by decide +kernel
theorem dX11_image_147 : decode cX11_image 147 = .ok (.sipush 251, 3) := by decide +kernel
theorem dX11_image_150 : decode cX11_image 150 = .ok (.irem, 1) := by decide +kernel
theorem dX11_image_151 : decode cX11_image 151 = .ok (.istore_n 1, 1) := by decide +kernel
theorem dX11_image_152 : decode cX11_image 152 = .ok (.iinc 2 1, 3) := by decide +kernel
theorem dX11_image_155 : decode cX11_image 155 = .ok (.goto (-26), 3) := by decide +kernel
theorem dX11_image_158 : decode cX11_image 158 = .ok (.aload_n 0, 1) := by decide +kernel
theorem dX11_image_159 : decode cX11_image 159 = .ok (.iload_n 1, 1) := by decide +kernel
theorem dX11_image_160 : decode cX11_image 160 = .ok (.invokevirtual 579, 3) := by decide +kernel
theorem dX11_image_163 : decode cX11_image 163 = .ok (.aload_n 0, 1) := by decide +kernel
theorem dX11_image_164 : decode cX11_image 164 = .ok (.getfield 249, 3) := by decide +kernel
theorem dX11_image_167 : decode cX11_image 167 = .ok (.ireturn, 1) := by decide +kernel
def fX11_image_129 : Nat → Int32 → Int32 → zS → Option (Int32 × zS)
  | 0, _, _, _ => none
  | f + 1, x1, x2, σ => if (iG σ 56 78) ≤ x2 then bnr (fX11_writes x1 σ) fun σ6 => some (iG σ6 56 78, σ6) else aI σ 102 70 x2 fun v8 => fX11_image_129 f (((5 * x1) + v8) - ((5 * x1) + v8) / 251 * 251) (x2 + 1) σ
theorem kX11_image_129 {sc : Nat × (Nat → Int32)} : ∀ (fuel : Nat) (x1 : Int32) (x2 : Int32) (σ : zS) (w : Int32 × zS) (h : fX11_image_129 fuel x1 x2 σ = some w), zR (zY0 sc) 2 0 0 mX11_image 129 [(0, .ref 56), (1, .int x1), (2, .int x2)] [] (zE σ) (some (.int w.1), zE w.2) := by
  intro fuel
  induction fuel with
  | zero => intro x1 x2 σ w h; exact nomatch h
  | succ f ih =>
    intro x1 x2 σ w h
    rw [fX11_image_129] at h
    refine kR.iload_n dX11_image_129 2 rfl ?_
    refine kR.aload_n dX11_image_130 0 rfl ?_
    refine kR.getI dX11_image_131 flX11_249 zcf11 zp56 (Or.inl rfl) ?_
    refine kR.icmp_ge (tgt := 158) dX11_image_134 (by decide) h (fun h => ?_) (fun h => ?_)
    · refine kR.aload_n dX11_image_158 0 rfl ?_
      refine kR.iload_n dX11_image_159 1 rfl ?_
      obtain ⟨σ6, e7, h⟩ := bnr_some h
      refine kR.cVv [.int x1] dX11_image_160 rfl (by decide) mwX11_579 zp56 (by decide) rfl rfl (Nat.le_of_ble_eq_true rfl) (lX11_writes x1 σ _ e7) ?_
      refine kR.aload_n dX11_image_163 0 rfl ?_
      refine kR.getI dX11_image_164 flX11_249 zcf11 zp56 (Or.inl rfl) ?_
      exact kR.iretW dX11_image_167 (nzI rfl _) h
    · refine zR.iconst (v := 5) dX11_image_137 (by decide) ?_
      refine kR.iload_n dX11_image_138 1 rfl ?_
      refine zR.imul dX11_image_139 ?_
      refine kR.aload_n dX11_image_140 0 rfl ?_
      refine kR.getR (v := 102) dX11_image_141 flX11_246 zcf11 zp56 (Or.inr ⟨_, rfl⟩) rfl ?_
      refine kR.iload_n dX11_image_144 2 rfl ?_
      refine kR.iald dX11_image_145 zp102 rfl h (fun v8 h => ?_)
      refine zR.iadd dX11_image_146 ?_
      refine zR.sipush (v := 251) dX11_image_147 (by decide) ?_
      refine zR.irem dX11_image_150 (by decide) ?_
      refine zR.istore_n (i := 1) (ls' := [(1, .int (((5 * x1) + v8) - ((5 * x1) + v8) / 251 * 251)), (0, .ref 56), (2, .int x2)]) dX11_image_151 rfl (by decide) rfl ?_
      refine zR.iinc 2 (v := x2 + 1) (ls' := [(2, .int (x2 + 1)), (1, .int (((5 * x1) + v8) - ((5 * x1) + v8) / 251 * 251)), (0, .ref 56)]) dX11_image_152 rfl rfl (by decide) rfl ?_
      refine zR.goto (tgt := 129) dX11_image_155 (by decide) ?_
      refine zR.sub [2, 1, 0] rfl ?_
      exact ih _ _ _ _ h
def fX11_image_84 (r17 : Int32 → zS → Option (Int32 × zS)) : Nat → Int32 → Int32 → zS → Option (Int32 × zS)
  | 0, _, _, _ => none
  | f + 1, x1, x3, σ => aI σ 58 2 (iG σ 56 13) fun v22 => if v22 ≤ x3 then r17 (x1 + 1) σ else aI σ 89 792 ((6 * x1) + x3) fun v23 => bnr (fX11_writes v23 σ) fun σ24 => fX11_image_84 r17 f x1 (x3 + 1) σ24
theorem kX11_image_84 {sc : Nat × (Nat → Int32)} (r17 : Int32 → zS → Option (Int32 × zS)) (hr17 : ∀ (x1 : Int32) (σ : zS) (w : Int32 × zS), r17 x1 σ = some w → zR (zY0 sc) 2 0 0 mX11_image 17 [(0, .ref 56), (1, .int x1)] [] (zE σ) (some (.int w.1), zE w.2)) : ∀ (fuel : Nat) (x1 : Int32) (x3 : Int32) (σ : zS) (w : Int32 × zS) (h : fX11_image_84 r17 fuel x1 x3 σ = some w), zR (zY0 sc) 2 0 0 mX11_image 84 [(0, .ref 56), (1, .int x1), (3, .int x3)] [] (zE σ) (some (.int w.1), zE w.2) := by
  intro fuel
  induction fuel with
  | zero => intro x1 x3 σ w h; exact nomatch h
  | succ f ih =>
    intro x1 x3 σ w h
    rw [fX11_image_84] at h
    refine kR.iload_n dX11_image_84 2 rfl ?_
    refine kR.aload_n dX11_image_85 0 rfl ?_
    refine kR.getR (v := 58) dX11_image_86 flX11_54 zcf11 zp56 (Or.inr ⟨_, rfl⟩) rfl ?_
    refine kR.aload_n dX11_image_89 0 rfl ?_
    refine kR.getI dX11_image_90 flX11_51 zcf11 zp56 (Or.inl rfl) ?_
    refine kR.iald dX11_image_93 zp58 rfl h (fun v22 h => ?_)
    refine kR.icmp_ge (tgt := 118) dX11_image_94 (by decide) h (fun h => ?_) (fun h => ?_)
    · refine zR.iinc 1 (v := x1 + 1) (ls' := [(1, .int (x1 + 1)), (0, .ref 56), (3, .int x3)]) dX11_image_118 rfl rfl (by decide) rfl ?_
      refine zR.goto (tgt := 17) dX11_image_121 (by decide) ?_
      refine zR.sub [1, 0] rfl ?_
      exact hr17 _ _ _ h
    · refine kR.aload_n dX11_image_97 0 rfl ?_
      refine kR.aload_n dX11_image_98 0 rfl ?_
      refine kR.getR (v := 89) dX11_image_99 flX11_168 zcf11 zp56 (Or.inr ⟨_, rfl⟩) rfl ?_
      refine zR.bipush (v := 6) dX11_image_102 (by decide) ?_
      refine kR.iload_n dX11_image_104 1 rfl ?_
      refine zR.imul dX11_image_105 ?_
      refine kR.iload_n dX11_image_106 2 rfl ?_
      refine zR.iadd dX11_image_107 ?_
      refine kR.iald dX11_image_108 zp89 rfl h (fun v23 h => ?_)
      obtain ⟨σ24, e25, h⟩ := bnr_some h
      refine kR.cVv [.int v23] dX11_image_109 rfl (by decide) mwX11_579 zp56 (by decide) rfl rfl (Nat.le_of_ble_eq_true rfl) (lX11_writes v23 σ _ e25) ?_
      refine zR.iinc 2 (v := x3 + 1) (ls' := [(3, .int (x3 + 1)), (0, .ref 56), (1, .int x1)]) dX11_image_112 rfl rfl (by decide) rfl ?_
      refine zR.goto (tgt := 84) dX11_image_115 (by decide) ?_
      refine zR.sub [1, 2, 0] rfl ?_
      exact ih _ _ _ _ h
def fX11_image_17 : Nat → Int32 → zS → Option (Int32 × zS)
  | 0, _, _ => none
  | f + 1, x1, σ => aI σ 63 2 (iG σ 56 13) fun v5 => if v5 ≤ x1 then fX11_image_129 zF 107 0 σ else aI σ 88 132 x1 fun v9 => aI σ 86 132 x1 fun v10 => bnr (fX11_writes v10 σ) fun σ11 => aI σ11 87 132 x1 fun v13 => bnr (fX11_writes v13 σ11) fun σ14 => bnr (fX11_writes ((v9 + 100000) >>> (16 &&& 31)) σ14) fun σ16 => bnr (fX11_writes ((v9 + 100000) >>> (8 &&& 31)) σ16) fun σ18 => bnr (fX11_writes (v9 + 100000) σ18) fun σ20 => fX11_image_84 (fX11_image_17 f) zF x1 0 σ20
theorem kX11_image_17 {sc : Nat × (Nat → Int32)} : ∀ (fuel : Nat) (x1 : Int32) (σ : zS) (w : Int32 × zS) (h : fX11_image_17 fuel x1 σ = some w), zR (zY0 sc) 2 0 0 mX11_image 17 [(0, .ref 56), (1, .int x1)] [] (zE σ) (some (.int w.1), zE w.2) := by
  intro fuel
  induction fuel with
  | zero => intro x1 σ w h; exact nomatch h
  | succ f ih =>
    intro x1 σ w h
    rw [fX11_image_17] at h
    refine kR.iload_n dX11_image_17 1 rfl ?_
    refine kR.aload_n dX11_image_18 0 rfl ?_
    refine kR.getR (v := 63) dX11_image_19 flX11_69 zcf11 zp56 (Or.inr ⟨_, rfl⟩) rfl ?_
    refine kR.aload_n dX11_image_22 0 rfl ?_
    refine kR.getI dX11_image_23 flX11_51 zcf11 zp56 (Or.inl rfl) ?_
    refine kR.iald dX11_image_26 zp63 rfl h (fun v5 h => ?_)
    refine kR.icmp_ge (tgt := 124) dX11_image_27 (by decide) h (fun h => ?_) (fun h => ?_)
    · refine zR.bipush (v := 107) dX11_image_124 (by decide) ?_
      refine zR.istore_n (i := 1) (ls' := [(1, .int 107), (0, .ref 56)]) dX11_image_126 rfl (by decide) rfl ?_
      refine zR.iconst (v := 0) dX11_image_127 (by decide) ?_
      refine zR.istore_n (i := 2) (ls' := [(2, .int 0), (1, .int 107), (0, .ref 56)]) dX11_image_128 rfl (by decide) rfl ?_
      refine zR.sub [2, 1, 0] rfl ?_
      exact kX11_image_129 zF _ _ _ _ h
    · refine kR.aload_n dX11_image_30 0 rfl ?_
      refine kR.getR (v := 88) dX11_image_31 flX11_165 zcf11 zp56 (Or.inr ⟨_, rfl⟩) rfl ?_
      refine kR.iload_n dX11_image_34 1 rfl ?_
      refine kR.iald dX11_image_35 zp88 rfl h (fun v9 h => ?_)
      refine zR.ldcw (v := 100000) dX11_image_36 ciX11_582 ?_
      refine zR.iadd dX11_image_39 ?_
      refine zR.istore_n (i := 2) (ls' := [(2, .int (v9 + 100000)), (0, .ref 56), (1, .int x1)]) dX11_image_40 rfl (by decide) rfl ?_
      refine kR.aload_n dX11_image_41 1 rfl ?_
      refine kR.aload_n dX11_image_42 1 rfl ?_
      refine kR.getR (v := 86) dX11_image_43 flX11_159 zcf11 zp56 (Or.inr ⟨_, rfl⟩) rfl ?_
      refine kR.iload_n dX11_image_46 2 rfl ?_
      refine kR.iald dX11_image_47 zp86 rfl h (fun v10 h => ?_)
      obtain ⟨σ11, e12, h⟩ := bnr_some h
      refine kR.cVv [.int v10] dX11_image_48 rfl (by decide) mwX11_579 zp56 (by decide) rfl rfl (Nat.le_of_ble_eq_true rfl) (lX11_writes v10 σ _ e12) ?_
      refine kR.aload_n dX11_image_51 1 rfl ?_
      refine kR.aload_n dX11_image_52 1 rfl ?_
      refine kR.getR (v := 87) dX11_image_53 flX11_162 zcf11 zp56 (Or.inr ⟨_, rfl⟩) rfl ?_
      refine kR.iload_n dX11_image_56 2 rfl ?_
      refine kR.iald dX11_image_57 zp87 rfl h (fun v13 h => ?_)
      obtain ⟨σ14, e15, h⟩ := bnr_some h
      refine kR.cVv [.int v13] dX11_image_58 rfl (by decide) mwX11_579 zp56 (by decide) rfl rfl (Nat.le_of_ble_eq_true rfl) (lX11_writes v13 σ11 _ e15) ?_
      refine kR.aload_n dX11_image_61 1 rfl ?_
      refine kR.iload_n dX11_image_62 0 rfl ?_
      refine zR.bipush (v := 16) dX11_image_63 (by decide) ?_
      refine zR.ishr dX11_image_65 ?_
      obtain ⟨σ16, e17, h⟩ := bnr_some h
      refine kR.cVv [.int ((v9 + 100000) >>> (16 &&& 31))] dX11_image_66 rfl (by decide) mwX11_579 zp56 (by decide) rfl rfl (Nat.le_of_ble_eq_true rfl) (lX11_writes ((v9 + 100000) >>> (16 &&& 31)) σ14 _ e17) ?_
      refine kR.aload_n dX11_image_69 1 rfl ?_
      refine kR.iload_n dX11_image_70 0 rfl ?_
      refine zR.bipush (v := 8) dX11_image_71 (by decide) ?_
      refine zR.ishr dX11_image_73 ?_
      obtain ⟨σ18, e19, h⟩ := bnr_some h
      refine kR.cVv [.int ((v9 + 100000) >>> (8 &&& 31))] dX11_image_74 rfl (by decide) mwX11_579 zp56 (by decide) rfl rfl (Nat.le_of_ble_eq_true rfl) (lX11_writes ((v9 + 100000) >>> (8 &&& 31)) σ16 _ e19) ?_
      refine kR.aload_n dX11_image_77 1 rfl ?_
      refine kR.iload_n dX11_image_78 0 rfl ?_
      obtain ⟨σ20, e21, h⟩ := bnr_some h
      refine kR.cVv [.int (v9 + 100000)] dX11_image_79 rfl (by decide) mwX11_579 zp56 (by decide) rfl rfl (Nat.le_of_ble_eq_true rfl) (lX11_writes (v9 + 100000) σ18 _ e21) ?_
      refine zR.iconst (v := 0) dX11_image_82 (by decide) ?_
      refine zR.istore_n (i := 3) (ls' := [(3, .int 0), (2, .int (v9 + 100000)), (0, .ref 56), (1, .int x1)]) dX11_image_83 rfl (by decide) rfl ?_
      refine zR.sub [2, 3, 0] rfl ?_
      exact kX11_image_84 (fX11_image_17 f) ih zF _ _ _ _ h
def fX11_image (σ : zS) : Option (Int32 × zS) := bnd (iS σ 56 78 0) fun σ1 => aI σ1 85 22 0 fun v2 => bnr (fX11_writes v2 σ1) fun σ3 => fX11_image_17 zF 0 σ3
theorem eX11_image {sc : Nat × (Nat → Int32)} (σ : zS) (w : Int32 × zS) (h : fX11_image σ = some w) : zR (zY0 sc) 2 0 0 mX11_image 0 [(0, .ref 56)] [] (zE σ) (some (.int w.1), zE w.2) := by
  unfold fX11_image at h
  refine kR.aload_n dX11_image_0 0 rfl ?_
  refine zR.iconst (v := 0) dX11_image_1 (by decide) ?_
  refine kR.putI dX11_image_2 fpX11_249 zcf11 zp56 rfl h (fun σ1 h => ?_)
  refine kR.aload_n dX11_image_5 0 rfl ?_
  refine kR.aload_n dX11_image_6 0 rfl ?_
  refine kR.getR (v := 85) dX11_image_7 flX11_156 zcf11 zp56 (Or.inr ⟨_, rfl⟩) rfl ?_
  refine zR.iconst (v := 0) dX11_image_10 (by decide) ?_
  refine kR.iald dX11_image_11 zp85 rfl h (fun v2 h => ?_)
  obtain ⟨σ3, e4, h⟩ := bnr_some h
  refine kR.cVv [.int v2] dX11_image_12 rfl (by decide) mwX11_579 zp56 (by decide) rfl rfl (Nat.le_of_ble_eq_true rfl) (lX11_writes v2 σ1 _ e4) ?_
  refine zR.iconst (v := 0) dX11_image_15 (by decide) ?_
  refine zR.istore_n (i := 1) (ls' := [(1, .int 0), (0, .ref 56)]) dX11_image_16 rfl (by decide) rfl ?_
  refine zR.sub [1, 0] rfl ?_
  exact kX11_image_17 zF _ _ _ h
theorem lX11_image {sc : Nat × (Nat → Int32)} (σ : zS) (w : Int32 × zS) (h : fX11_image σ = some w) : zC (zY0 sc) 2 0 0 mX11_image [.ref 56] (zE σ) (some (.int w.1), zE w.2) := zC.of (by decide +kernel) (Nat.le_of_ble_eq_true rfl) ⟨_, rfl⟩ (eX11_image σ w h)
theorem dX11_octet_0 : decode cX11_octet 0 = .ok (.iload_n 1, 1) := by decide +kernel
theorem dX11_octet_1 : decode cX11_octet 1 = .ok (.iconst 0, 1) := by decide +kernel
theorem dX11_octet_2 : decode cX11_octet 2 = .ok (.aload_n 0, 1) := by decide +kernel
theorem dX11_octet_3 : decode cX11_octet 3 = .ok (.getfield 249, 3) := by decide +kernel
theorem dX11_octet_6 : decode cX11_octet 6 = .ok (.iconst 1, 1) := by decide +kernel
theorem dX11_octet_7 : decode cX11_octet 7 = .ok (.isub, 1) := by decide +kernel
theorem dX11_octet_8 : decode cX11_octet 8 = .ok (.invokestatic 338, 3) := by decide +kernel
theorem dX11_octet_11 : decode cX11_octet 11 = .ok (.ifCond .eq 12, 3) := by decide +kernel
theorem dX11_octet_14 : decode cX11_octet 14 = .ok (.aload_n 0, 1) := by decide +kernel
theorem dX11_octet_15 : decode cX11_octet 15 = .ok (.getfield 246, 3) := by decide +kernel
theorem dX11_octet_18 : decode cX11_octet 18 = .ok (.iload_n 1, 1) := by decide +kernel
theorem dX11_octet_19 : decode cX11_octet 19 = .ok (.iaload, 1) := by decide +kernel
theorem dX11_octet_20 : decode cX11_octet 20 = .ok (.goto 4, 3) := by decide +kernel
theorem dX11_octet_23 : decode cX11_octet 23 = .ok (.iconst (-1), 1) := by decide +kernel
theorem dX11_octet_24 : decode cX11_octet 24 = .ok (.ireturn, 1) := by decide +kernel
def fX11_octet (σ : zS) (p1 : Int32) : Option Int32 := if (fX11_is p1 0 ((iG σ 56 78) - 1)) = 0 then some ((-1)) else aI σ 102 70 p1 fun v1 => some v1
theorem eX11_octet {sc : Nat × (Nat → Int32)} (σ : zS) (p1 : Int32) (w : Int32) (h : fX11_octet σ p1 = some w) : zR (zY0 sc) 2 0 0 mX11_octet 0 [(0, .ref 56), (1, .int p1)] [] (zE σ) (some (.int w), zE σ) := by
  unfold fX11_octet at h
  refine kR.iload_n dX11_octet_0 1 rfl ?_
  refine zR.iconst (v := 0) dX11_octet_1 (by decide) ?_
  refine kR.aload_n dX11_octet_2 0 rfl ?_
  refine kR.getI dX11_octet_3 flX11_249 zcf11 zp56 (Or.inl rfl) ?_
  refine zR.iconst (v := 1) dX11_octet_6 (by decide) ?_
  refine zR.isub dX11_octet_7 ?_
  refine kR.cSi [.int p1, .int 0, .int ((iG σ 56 78) - 1)] dX11_octet_8 rfl (by decide) (Or.inl mwX11_338) rfl (Nat.le_of_ble_eq_true rfl) (lX11_is p1 0 ((iG σ 56 78) - 1)) ?_
  refine kR.if_eq (tgt := 23) dX11_octet_11 (by decide) h (fun h => ?_) (fun h => ?_)
  · refine zR.iconst (v := (-1)) dX11_octet_23 (by decide) ?_
    exact kR.iretO dX11_octet_24 (nzI rfl _) h
  · refine kR.aload_n dX11_octet_14 0 rfl ?_
    refine kR.getR (v := 102) dX11_octet_15 flX11_246 zcf11 zp56 (Or.inr ⟨_, rfl⟩) rfl ?_
    refine kR.iload_n dX11_octet_18 1 rfl ?_
    refine kR.iald dX11_octet_19 zp102 rfl h (fun v1 h => ?_)
    refine zR.goto (tgt := 24) dX11_octet_20 (by decide) ?_
    exact kR.iretO dX11_octet_24 (nzI rfl _) h
theorem lX11_octet {sc : Nat × (Nat → Int32)} (σ : zS) (p1 : Int32) (w : Int32) (h : fX11_octet σ p1 = some w) : zC (zY0 sc) 2 0 0 mX11_octet [.ref 56, .int p1] (zE σ) (some (.int w), zE σ) := zC.of (by decide +kernel) (Nat.le_of_ble_eq_true rfl) ⟨_, rfl⟩ (eX11_octet σ p1 w h)
theorem dX11_holderOn_0 : decode cX11_holderOn 0 = .ok (.bipush 6, 2) := by decide +kernel
theorem dX11_holderOn_2 : decode cX11_holderOn 2 = .ok (.iload_n 1, 1) := by decide +kernel
theorem dX11_holderOn_3 : decode cX11_holderOn 3 = .ok (.iadd, 1) := by decide +kernel
theorem dX11_holderOn_4 : decode cX11_holderOn 4 = .ok (.istore_n 3, 1) := by decide +kernel
theorem dX11_holderOn_5 : decode cX11_holderOn 5 = .ok (.aload_n 0, 1) := by decide +kernel
theorem dX11_holderOn_6 : decode cX11_holderOn 6 = .ok (.getfield 159, 3) := by decide +kernel
theorem dX11_holderOn_9 : decode cX11_holderOn 9 = .ok (.iload_n 3, 1) := by decide +kernel
theorem dX11_holderOn_10 : decode cX11_holderOn 10 = .ok (.aload_n 0, 1) := by decide +kernel
theorem dX11_holderOn_11 : decode cX11_holderOn 11 = .ok (.getfield 7, 3) := by decide +kernel
theorem dX11_holderOn_14 : decode cX11_holderOn 14 = .ok (.iload_n 2, 1) := by decide +kernel
theorem dX11_holderOn_15 : decode cX11_holderOn 15 = .ok (.iaload, 1) := by decide +kernel
theorem dX11_holderOn_16 : decode cX11_holderOn 16 = .ok (.iastore, 1) := by decide +kernel
theorem dX11_holderOn_17 : decode cX11_holderOn 17 = .ok (.aload_n 0, 1) := by decide +kernel
theorem dX11_holderOn_18 : decode cX11_holderOn 18 = .ok (.getfield 162, 3) := by decide +kernel
theorem dX11_holderOn_21 : decode cX11_holderOn 21 = .ok (.iload_n 3, 1) := by decide +kernel
theorem dX11_holderOn_22 : decode cX11_holderOn 22 = .ok (.aload_n 0, 1) := by decide +kernel
theorem dX11_holderOn_23 : decode cX11_holderOn 23 = .ok (.getfield 7, 3) := by decide +kernel
theorem dX11_holderOn_26 : decode cX11_holderOn 26 = .ok (.iload_n 2, 1) := by decide +kernel
theorem dX11_holderOn_27 : decode cX11_holderOn 27 = .ok (.iconst 1, 1) := by decide +kernel
theorem dX11_holderOn_28 : decode cX11_holderOn 28 = .ok (.iadd, 1) := by decide +kernel
theorem dX11_holderOn_29 : decode cX11_holderOn 29 = .ok (.iaload, 1) := by decide +kernel
theorem dX11_holderOn_30 : decode cX11_holderOn 30 = .ok (.iastore, 1) := by decide +kernel
theorem dX11_holderOn_31 : decode cX11_holderOn 31 = .ok (.aload_n 0, 1) := by decide +kernel
theorem dX11_holderOn_32 : decode cX11_holderOn 32 = .ok (.getfield 165, 3) := by decide +kernel
theorem dX11_holderOn_35 : decode cX11_holderOn 35 = .ok (.iload_n 3, 1) := by decide +kernel
theorem dX11_holderOn_36 : decode cX11_holderOn 36 = .ok (.aload_n 0, 1) := by decide +kernel
theorem dX11_holderOn_37 : decode cX11_holderOn 37 = .ok (.getfield 7, 3) := by decide +kernel
theorem dX11_holderOn_40 : decode cX11_holderOn 40 = .ok (.iload_n 2, 1) := by decide +kernel
theorem dX11_holderOn_41 : decode cX11_holderOn 41 = .ok (.iconst 2, 1) := by decide +kernel
theorem dX11_holderOn_42 : decode cX11_holderOn 42 = .ok (.iadd, 1) := by decide +kernel
theorem dX11_holderOn_43 : decode cX11_holderOn 43 = .ok (.iaload, 1) := by decide +kernel
theorem dX11_holderOn_44 : decode cX11_holderOn 44 = .ok (.bipush 16, 2) := by decide +kernel
theorem dX11_holderOn_46 : decode cX11_holderOn 46 = .ok (.ishl, 1) := by decide +kernel
theorem dX11_holderOn_47 : decode cX11_holderOn 47 = .ok (.aload_n 0, 1) := by decide +kernel
theorem dX11_holderOn_48 : decode cX11_holderOn 48 = .ok (.getfield 7, 3) := by decide +kernel
theorem dX11_holderOn_51 : decode cX11_holderOn 51 = .ok (.iload_n 2, 1) := by decide +kernel
theorem dX11_holderOn_52 : decode cX11_holderOn 52 = .ok (.iconst 3, 1) := by decide +kernel
theorem dX11_holderOn_53 : decode cX11_holderOn 53 = .ok (.iadd, 1) := by decide +kernel
theorem dX11_holderOn_54 : decode cX11_holderOn 54 = .ok (.iaload, 1) := by decide +kernel
theorem dX11_holderOn_55 : decode cX11_holderOn 55 = .ok (.bipush 8, 2) := by decide +kernel
theorem dX11_holderOn_57 : decode cX11_holderOn 57 = .ok (.ishl, 1) := by decide +kernel
theorem dX11_holderOn_58 : decode cX11_holderOn 58 = .ok (.ior, 1) := by decide +kernel
theorem dX11_holderOn_59 : decode cX11_holderOn 59 = .ok (.aload_n 0, 1) := by decide +kernel
theorem dX11_holderOn_60 : decode cX11_holderOn 60 = .ok (.getfield 7, 3) := by decide +kernel
theorem dX11_holderOn_63 : decode cX11_holderOn 63 = .ok (.iload_n 2, 1) := by decide +kernel
theorem dX11_holderOn_64 : decode cX11_holderOn 64 = .ok (.iconst 4, 1) := by decide +kernel
theorem dX11_holderOn_65 : decode cX11_holderOn 65 = .ok (.iadd, 1) := by decide +kernel
theorem dX11_holderOn_66 : decode cX11_holderOn 66 = .ok (.iaload, 1) := by decide +kernel
theorem dX11_holderOn_67 : decode cX11_holderOn 67 = .ok (.ior, 1) := by decide +kernel
theorem dX11_holderOn_68 : decode cX11_holderOn 68 = .ok (.ldc_w 582, 3) := by decide +kernel
theorem dX11_holderOn_71 : decode cX11_holderOn 71 = .ok (.isub, 1) := by decide +kernel
theorem dX11_holderOn_72 : decode cX11_holderOn 72 = .ok (.iastore, 1) := by decide +kernel
theorem dX11_holderOn_73 : decode cX11_holderOn 73 = .ok (.aload_n 0, 1) := by decide +kernel
theorem dX11_holderOn_74 : decode cX11_holderOn 74 = .ok (.getfield 7, 3) := by decide +kernel
theorem dX11_holderOn_77 : decode cX11_holderOn 77 = .ok (.iload_n 2, 1) := by decide +kernel
theorem dX11_holderOn_78 : decode cX11_holderOn 78 = .ok (.iaload, 1) := by decide +kernel
theorem dX11_holderOn_79 : decode cX11_holderOn 79 = .ok (.bipush 60, 2) := by decide +kernel
theorem dX11_holderOn_81 : decode cX11_holderOn 81 = .ok (.if_icmp .gt 34, 3) := by decide +kernel
theorem dX11_holderOn_84 : decode cX11_holderOn 84 = .ok (.aload_n 0, 1) := by decide +kernel
theorem dX11_holderOn_85 : decode cX11_holderOn 85 = .ok (.getfield 7, 3) := by decide +kernel
theorem dX11_holderOn_88 : decode cX11_holderOn 88 = .ok (.iload_n 2, 1) := by decide +kernel
theorem dX11_holderOn_89 : decode cX11_holderOn 89 = .ok (.iconst 1, 1) := by decide +kernel
theorem dX11_holderOn_90 : decode cX11_holderOn 90 = .ok (.iadd, 1) := by decide +kernel
theorem dX11_holderOn_91 : decode cX11_holderOn 91 = .ok (.iaload, 1) := by decide +kernel
theorem dX11_holderOn_92 : decode cX11_holderOn 92 = .ok (.bipush 60, 2) := by decide +kernel
theorem dX11_holderOn_94 : decode cX11_holderOn 94 = .ok (.if_icmp .gt 21, 3) := by decide +kernel
theorem dX11_holderOn_97 : decode cX11_holderOn 97 = .ok (.aload_n 0, 1) := by decide +kernel
theorem dX11_holderOn_98 : decode cX11_holderOn 98 = .ok (.getfield 165, 3) := by decide +kernel
theorem dX11_holderOn_101 : decode cX11_holderOn 101 = .ok (.iload_n 3, 1) := by decide +kernel
theorem dX11_holderOn_102 : decode cX11_holderOn 102 = .ok (.iaload, 1) := by decide +kernel
theorem dX11_holderOn_103 : decode cX11_holderOn 103 = .ok (.ldc_w 568, 3) := by decide +kernel
theorem dX11_holderOn_106 : decode cX11_holderOn 106 = .ok (.ldc_w 569, 3) := by decide +kernel
theorem dX11_holderOn_109 : decode cX11_holderOn 109 = .ok (.invokestatic 338, 3) := by decide +kernel
theorem dX11_holderOn_112 : decode cX11_holderOn 112 = .ok (.ifCond .ne 5, 3) := by decide +kernel
theorem dX11_holderOn_115 : decode cX11_holderOn 115 = .ok (.iconst 0, 1) := by decide +kernel
theorem dX11_holderOn_116 : decode cX11_holderOn 116 = .ok (.ireturn, 1) := by decide +kernel
theorem dX11_holderOn_117 : decode cX11_holderOn 117 = .ok (.iconst 0, 1) := by decide +kernel
theorem dX11_holderOn_118 : decode cX11_holderOn 118 = .ok (.istore 4, 2) := by decide +kernel
theorem dX11_holderOn_120 : decode cX11_holderOn 120 = .ok (.iload 4, 2) := by decide +kernel
theorem dX11_holderOn_122 : decode cX11_holderOn 122 = .ok (.aload_n 0, 1) := by decide +kernel
theorem dX11_holderOn_123 : decode cX11_holderOn 123 = .ok (.getfield 54, 3) := by decide +kernel
theorem dX11_holderOn_126 : decode cX11_holderOn 126 = .ok (.aload_n 0, 1) := by decide +kernel
theorem dX11_holderOn_127 : decode cX11_holderOn 127 = .ok (.getfield 51, 3) := by decide +kernel
theorem dX11_holderOn_130 : decode cX11_holderOn 130 = .ok (.iaload, 1) := by decide +kernel
theorem dX11_holderOn_131 : decode cX11_holderOn 131 = .ok (.if_icmp .ge 53, 3) := by decide +kernel
theorem dX11_holderOn_134 : decode cX11_holderOn 134 = .ok (.aload_n 0, 1) := by decide +kernel
theorem dX11_holderOn_135 : decode cX11_holderOn 135 = .ok (.getfield 168, 3) := by decide +kernel
theorem dX11_holderOn_138 : decode cX11_holderOn 138 = .ok (.bipush 36, 2) := by decide +kernel
theorem dX11_holderOn_140 : decode cX11_holderOn 140 = .ok (.bipush 6, 2) := by decide +kernel
theorem dX11_holderOn_142 : decode cX11_holderOn 142 = .ok (.iload_n 1, 1) := by decide +kernel
theorem dX11_holderOn_143 : decode cX11_holderOn 143 = .ok (.imul, 1) := by decide +kernel
theorem dX11_holderOn_144 : decode cX11_holderOn 144 = .ok (.iadd, 1) := by decide +kernel
theorem dX11_holderOn_145 : decode cX11_holderOn 145 = .ok (.iload 4, 2) := by decide +kernel
theorem dX11_holderOn_147 : decode cX11_holderOn 147 = .ok (.iadd, 1) := by decide +kernel
theorem dX11_holderOn_148 : decode cX11_holderOn 148 = .ok (.aload_n 0, 1) := by decide +kernel
theorem dX11_holderOn_149 : decode cX11_holderOn 149 = .ok (.getfield 7, 3) := by decide +kernel
theorem dX11_holderOn_152 : decode cX11_holderOn 152 = .ok (.iload_n 2, 1) := by decide +kernel
theorem dX11_holderOn_153 : decode cX11_holderOn 153 = .ok (.iconst 5, 1) := by decide +kernel
theorem dX11_holderOn_154 : decode cX11_holderOn 154 = .ok (.iadd, 1) := by decide +kernel
theorem dX11_holderOn_155 : decode cX11_holderOn 155 = .ok (.iload 4, 2) := by decide +kernel
theorem dX11_holderOn_157 : decode cX11_holderOn 157 = .ok (.iadd, 1) := by decide +kernel
theorem dX11_holderOn_158 : decode cX11_holderOn 158 = .ok (.iaload, 1) := by decide +kernel
theorem dX11_holderOn_159 : decode cX11_holderOn 159 = .ok (.iastore, 1) := by decide +kernel
theorem dX11_holderOn_160 : decode cX11_holderOn 160 = .ok (.aload_n 0, 1) := by decide +kernel
theorem dX11_holderOn_161 : decode cX11_holderOn 161 = .ok (.getfield 7, 3) := by decide +kernel
theorem dX11_holderOn_164 : decode cX11_holderOn 164 = .ok (.iload_n 2, 1) := by decide +kernel
theorem dX11_holderOn_165 : decode cX11_holderOn 165 = .ok (.iconst 5, 1) := by decide +kernel
theorem dX11_holderOn_166 : decode cX11_holderOn 166 = .ok (.iadd, 1) := by decide +kernel
theorem dX11_holderOn_167 : decode cX11_holderOn 167 = .ok (.iload 4, 2) := by decide +kernel
theorem dX11_holderOn_169 : decode cX11_holderOn 169 = .ok (.iadd, 1) := by decide +kernel
theorem dX11_holderOn_170 : decode cX11_holderOn 170 = .ok (.iaload, 1) := by decide +kernel
theorem dX11_holderOn_171 : decode cX11_holderOn 171 = .ok (.bipush 60, 2) := by decide +kernel
theorem dX11_holderOn_173 : decode cX11_holderOn 173 = .ok (.if_icmp .le 5, 3) := by decide +kernel
theorem dX11_holderOn_176 : decode cX11_holderOn 176 = .ok (.iconst 0, 1) := by decide +kernel
theorem dX11_holderOn_177 : decode cX11_holderOn 177 = .ok (.ireturn, 1) := by decide +kernel
theorem dX11_holderOn_178 : decode cX11_holderOn 178 = .ok (.iinc 4 1, 3) := by decide +kernel
theorem dX11_holderOn_181 : decode cX11_holderOn 181 = .ok (.goto (-61), 3) := by decide +kernel
theorem dX11_holderOn_184 : decode cX11_holderOn 184 = .ok (.iconst 1, 1) := by decide +kernel
theorem dX11_holderOn_185 : decode cX11_holderOn 185 = .ok (.ireturn, 1) := by decide +kernel
def fX11_holderOn_120 : Nat → Int32 → Int32 → Int32 → zS → Option (Int32 × zS)
  | 0, _, _, _, _ => none
  | f + 1, x1, x2, x4, σ => aI σ 58 2 (iG σ 56 13) fun v12 => if v12 ≤ x4 then some (1, σ) else aI σ 57 1800 ((x2 + 5) + x4) fun v13 => wI σ 89 792 ((36 + (6 * x1)) + x4) v13 fun σ14 => aI σ14 57 1800 ((x2 + 5) + x4) fun v15 => if v15 ≤ 60 then fX11_holderOn_120 f x1 x2 (x4 + 1) σ14 else some (0, σ14)
theorem kX11_holderOn_120 {sc : Nat × (Nat → Int32)} : ∀ (fuel : Nat) (x1 : Int32) (x2 : Int32) (x4 : Int32) (σ : zS) (w : Int32 × zS) (h : fX11_holderOn_120 fuel x1 x2 x4 σ = some w), zR (zY0 sc) 2 0 0 mX11_holderOn 120 [(0, .ref 56), (1, .int x1), (2, .int x2), (4, .int x4)] [] (zE σ) (some (.int w.1), zE w.2) := by
  intro fuel
  induction fuel with
  | zero => intro x1 x2 x4 σ w h; exact nomatch h
  | succ f ih =>
    intro x1 x2 x4 σ w h
    rw [fX11_holderOn_120] at h
    refine kR.iload dX11_holderOn_120 3 rfl ?_
    refine kR.aload_n dX11_holderOn_122 0 rfl ?_
    refine kR.getR (v := 58) dX11_holderOn_123 flX11_54 zcf11 zp56 (Or.inr ⟨_, rfl⟩) rfl ?_
    refine kR.aload_n dX11_holderOn_126 0 rfl ?_
    refine kR.getI dX11_holderOn_127 flX11_51 zcf11 zp56 (Or.inl rfl) ?_
    refine kR.iald dX11_holderOn_130 zp58 rfl h (fun v12 h => ?_)
    refine kR.icmp_ge (tgt := 184) dX11_holderOn_131 (by decide) h (fun h => ?_) (fun h => ?_)
    · refine zR.iconst (v := 1) dX11_holderOn_184 (by decide) ?_
      exact kR.iretW dX11_holderOn_185 (nzZ rfl (Or.inr rfl)) h
    · refine kR.aload_n dX11_holderOn_134 0 rfl ?_
      refine kR.getR (v := 89) dX11_holderOn_135 flX11_168 zcf11 zp56 (Or.inr ⟨_, rfl⟩) rfl ?_
      refine zR.bipush (v := 36) dX11_holderOn_138 (by decide) ?_
      refine zR.bipush (v := 6) dX11_holderOn_140 (by decide) ?_
      refine kR.iload_n dX11_holderOn_142 1 rfl ?_
      refine zR.imul dX11_holderOn_143 ?_
      refine zR.iadd dX11_holderOn_144 ?_
      refine kR.iload dX11_holderOn_145 3 rfl ?_
      refine zR.iadd dX11_holderOn_147 ?_
      refine kR.aload_n dX11_holderOn_148 0 rfl ?_
      refine kR.getR (v := 57) dX11_holderOn_149 flX11_7 zcf11 zp56 (Or.inr ⟨_, rfl⟩) rfl ?_
      refine kR.iload_n dX11_holderOn_152 2 rfl ?_
      refine zR.iconst (v := 5) dX11_holderOn_153 (by decide) ?_
      refine zR.iadd dX11_holderOn_154 ?_
      refine kR.iload dX11_holderOn_155 3 rfl ?_
      refine zR.iadd dX11_holderOn_157 ?_
      refine kR.iald dX11_holderOn_158 zp57 rfl h (fun v13 h => ?_)
      refine kR.iast dX11_holderOn_159 zp89 rfl h (fun σ14 h => ?_)
      refine kR.aload_n dX11_holderOn_160 0 rfl ?_
      refine kR.getR (v := 57) dX11_holderOn_161 flX11_7 zcf11 zp56 (Or.inr ⟨_, rfl⟩) rfl ?_
      refine kR.iload_n dX11_holderOn_164 2 rfl ?_
      refine zR.iconst (v := 5) dX11_holderOn_165 (by decide) ?_
      refine zR.iadd dX11_holderOn_166 ?_
      refine kR.iload dX11_holderOn_167 3 rfl ?_
      refine zR.iadd dX11_holderOn_169 ?_
      refine kR.iald dX11_holderOn_170 zp57 rfl h (fun v15 h => ?_)
      refine zR.bipush (v := 60) dX11_holderOn_171 (by decide) ?_
      refine kR.icmp_le (tgt := 178) dX11_holderOn_173 (by decide) h (fun h => ?_) (fun h => ?_)
      · refine zR.iinc 3 (v := x4 + 1) (ls' := [(4, .int (x4 + 1)), (0, .ref 56), (1, .int x1), (2, .int x2)]) dX11_holderOn_178 rfl rfl (by decide) rfl ?_
        refine zR.goto (tgt := 120) dX11_holderOn_181 (by decide) ?_
        refine zR.sub [1, 2, 3, 0] rfl ?_
        exact ih _ _ _ _ _ h
      · refine zR.iconst (v := 0) dX11_holderOn_176 (by decide) ?_
        exact kR.iretW dX11_holderOn_177 (nzZ rfl (Or.inl rfl)) h
def fX11_holderOn (p1 : Int32) (p2 : Int32) (σ : zS) : Option (Int32 × zS) := aI σ 57 1800 p2 fun v1 => wI σ 86 132 (6 + p1) v1 fun σ2 => aI σ2 57 1800 (p2 + 1) fun v3 => wI σ2 87 132 (6 + p1) v3 fun σ4 => aI σ4 57 1800 (p2 + 2) fun v5 => aI σ4 57 1800 (p2 + 3) fun v6 => aI σ4 57 1800 (p2 + 4) fun v7 => wI σ4 88 132 (6 + p1) ((((v5 <<< (16 &&& 31)) ||| (v6 <<< (8 &&& 31))) ||| v7) - 100000) fun σ8 => aI σ8 57 1800 p2 fun v9 => if 60 < v9 then some (0, σ8) else aI σ8 57 1800 (p2 + 1) fun v10 => if 60 < v10 then some (0, σ8) else aI σ8 88 132 (6 + p1) fun v11 => if (fX11_is v11 ((-99999)) 99999) = 0 then some (0, σ8) else fX11_holderOn_120 zF p1 p2 0 σ8
theorem eX11_holderOn {sc : Nat × (Nat → Int32)} (p1 : Int32) (p2 : Int32) (σ : zS) (w : Int32 × zS) (h : fX11_holderOn p1 p2 σ = some w) : zR (zY0 sc) 2 0 0 mX11_holderOn 0 [(0, .ref 56), (1, .int p1), (2, .int p2)] [] (zE σ) (some (.int w.1), zE w.2) := by
  unfold fX11_holderOn at h
  refine zR.bipush (v := 6) dX11_holderOn_0 (by decide) ?_
  refine kR.iload_n dX11_holderOn_2 1 rfl ?_
  refine zR.iadd dX11_holderOn_3 ?_
  refine zR.istore_n (i := 3) (ls' := [(3, .int (6 + p1)), (0, .ref 56), (1, .int p1), (2, .int p2)]) dX11_holderOn_4 rfl (by decide) rfl ?_
  refine kR.aload_n dX11_holderOn_5 1 rfl ?_
  refine kR.getR (v := 86) dX11_holderOn_6 flX11_159 zcf11 zp56 (Or.inr ⟨_, rfl⟩) rfl ?_
  refine kR.iload_n dX11_holderOn_9 0 rfl ?_
  refine kR.aload_n dX11_holderOn_10 1 rfl ?_
  refine kR.getR (v := 57) dX11_holderOn_11 flX11_7 zcf11 zp56 (Or.inr ⟨_, rfl⟩) rfl ?_
  refine kR.iload_n dX11_holderOn_14 3 rfl ?_
  refine kR.iald dX11_holderOn_15 zp57 rfl h (fun v1 h => ?_)
  refine kR.iast dX11_holderOn_16 zp86 rfl h (fun σ2 h => ?_)
  refine kR.aload_n dX11_holderOn_17 1 rfl ?_
  refine kR.getR (v := 87) dX11_holderOn_18 flX11_162 zcf11 zp56 (Or.inr ⟨_, rfl⟩) rfl ?_
  refine kR.iload_n dX11_holderOn_21 0 rfl ?_
  refine kR.aload_n dX11_holderOn_22 1 rfl ?_
  refine kR.getR (v := 57) dX11_holderOn_23 flX11_7 zcf11 zp56 (Or.inr ⟨_, rfl⟩) rfl ?_
  refine kR.iload_n dX11_holderOn_26 3 rfl ?_
  refine zR.iconst (v := 1) dX11_holderOn_27 (by decide) ?_
  refine zR.iadd dX11_holderOn_28 ?_
  refine kR.iald dX11_holderOn_29 zp57 rfl h (fun v3 h => ?_)
  refine kR.iast dX11_holderOn_30 zp87 rfl h (fun σ4 h => ?_)
  refine kR.aload_n dX11_holderOn_31 1 rfl ?_
  refine kR.getR (v := 88) dX11_holderOn_32 flX11_165 zcf11 zp56 (Or.inr ⟨_, rfl⟩) rfl ?_
  refine kR.iload_n dX11_holderOn_35 0 rfl ?_
  refine kR.aload_n dX11_holderOn_36 1 rfl ?_
  refine kR.getR (v := 57) dX11_holderOn_37 flX11_7 zcf11 zp56 (Or.inr ⟨_, rfl⟩) rfl ?_
  refine kR.iload_n dX11_holderOn_40 3 rfl ?_
  refine zR.iconst (v := 2) dX11_holderOn_41 (by decide) ?_
  refine zR.iadd dX11_holderOn_42 ?_
  refine kR.iald dX11_holderOn_43 zp57 rfl h (fun v5 h => ?_)
  refine zR.bipush (v := 16) dX11_holderOn_44 (by decide) ?_
  refine zR.ishl dX11_holderOn_46 ?_
  refine kR.aload_n dX11_holderOn_47 1 rfl ?_
  refine kR.getR (v := 57) dX11_holderOn_48 flX11_7 zcf11 zp56 (Or.inr ⟨_, rfl⟩) rfl ?_
  refine kR.iload_n dX11_holderOn_51 3 rfl ?_
  refine zR.iconst (v := 3) dX11_holderOn_52 (by decide) ?_
  refine zR.iadd dX11_holderOn_53 ?_
  refine kR.iald dX11_holderOn_54 zp57 rfl h (fun v6 h => ?_)
  refine zR.bipush (v := 8) dX11_holderOn_55 (by decide) ?_
  refine zR.ishl dX11_holderOn_57 ?_
  refine zR.ior dX11_holderOn_58 ?_
  refine kR.aload_n dX11_holderOn_59 1 rfl ?_
  refine kR.getR (v := 57) dX11_holderOn_60 flX11_7 zcf11 zp56 (Or.inr ⟨_, rfl⟩) rfl ?_
  refine kR.iload_n dX11_holderOn_63 3 rfl ?_
  refine zR.iconst (v := 4) dX11_holderOn_64 (by decide) ?_
  refine zR.iadd dX11_holderOn_65 ?_
  refine kR.iald dX11_holderOn_66 zp57 rfl h (fun v7 h => ?_)
  refine zR.ior dX11_holderOn_67 ?_
  refine zR.ldcw (v := 100000) dX11_holderOn_68 ciX11_582 ?_
  refine zR.isub dX11_holderOn_71 ?_
  refine kR.iast dX11_holderOn_72 zp88 rfl h (fun σ8 h => ?_)
  refine kR.aload_n dX11_holderOn_73 1 rfl ?_
  refine kR.getR (v := 57) dX11_holderOn_74 flX11_7 zcf11 zp56 (Or.inr ⟨_, rfl⟩) rfl ?_
  refine kR.iload_n dX11_holderOn_77 3 rfl ?_
  refine kR.iald dX11_holderOn_78 zp57 rfl h (fun v9 h => ?_)
  refine zR.bipush (v := 60) dX11_holderOn_79 (by decide) ?_
  refine kR.icmp_gt (tgt := 115) dX11_holderOn_81 (by decide) h (fun h => ?_) (fun h => ?_)
  · refine zR.iconst (v := 0) dX11_holderOn_115 (by decide) ?_
    exact kR.iretW dX11_holderOn_116 (nzZ rfl (Or.inl rfl)) h
  · refine kR.aload_n dX11_holderOn_84 1 rfl ?_
    refine kR.getR (v := 57) dX11_holderOn_85 flX11_7 zcf11 zp56 (Or.inr ⟨_, rfl⟩) rfl ?_
    refine kR.iload_n dX11_holderOn_88 3 rfl ?_
    refine zR.iconst (v := 1) dX11_holderOn_89 (by decide) ?_
    refine zR.iadd dX11_holderOn_90 ?_
    refine kR.iald dX11_holderOn_91 zp57 rfl h (fun v10 h => ?_)
    refine zR.bipush (v := 60) dX11_holderOn_92 (by decide) ?_
    refine kR.icmp_gt (tgt := 115) dX11_holderOn_94 (by decide) h (fun h => ?_) (fun h => ?_)
    · refine zR.iconst (v := 0) dX11_holderOn_115 (by decide) ?_
      exact kR.iretW dX11_holderOn_116 (nzZ rfl (Or.inl rfl)) h
    · refine kR.aload_n dX11_holderOn_97 1 rfl ?_
      refine kR.getR (v := 88) dX11_holderOn_98 flX11_165 zcf11 zp56 (Or.inr ⟨_, rfl⟩) rfl ?_
      refine kR.iload_n dX11_holderOn_101 0 rfl ?_
      refine kR.iald dX11_holderOn_102 zp88 rfl h (fun v11 h => ?_)
      refine zR.ldcw (v := (-99999)) dX11_holderOn_103 ciX11_568 ?_
      refine zR.ldcw (v := 99999) dX11_holderOn_106 ciX11_569 ?_
      refine kR.cSi [.int v11, .int ((-99999)), .int 99999] dX11_holderOn_109 rfl (by decide) (Or.inl mwX11_338) rfl (Nat.le_of_ble_eq_true rfl) (lX11_is v11 ((-99999)) 99999) ?_
      refine kR.if_ne (tgt := 117) dX11_holderOn_112 (by decide) h (fun h => ?_) (fun h => ?_)
      · refine zR.iconst (v := 0) dX11_holderOn_117 (by decide) ?_
        refine zR.istore (i := 4) (ls' := [(4, .int 0), (3, .int (6 + p1)), (0, .ref 56), (1, .int p1), (2, .int p2)]) dX11_holderOn_118 (by decide) rfl ?_
        refine zR.sub [2, 3, 4, 0] rfl ?_
        exact kX11_holderOn_120 zF _ _ _ _ _ h
      · refine zR.iconst (v := 0) dX11_holderOn_115 (by decide) ?_
        exact kR.iretW dX11_holderOn_116 (nzZ rfl (Or.inl rfl)) h
theorem lX11_holderOn {sc : Nat × (Nat → Int32)} (p1 : Int32) (p2 : Int32) (σ : zS) (w : Int32 × zS) (h : fX11_holderOn p1 p2 σ = some w) : zC (zY0 sc) 2 0 0 mX11_holderOn [.ref 56, .int p1, .int p2] (zE σ) (some (.int w.1), zE w.2) := zC.of (by decide +kernel) (Nat.le_of_ble_eq_true rfl) ⟨_, rfl⟩ (eX11_holderOn p1 p2 σ w h)
theorem dX11_comesOn_0 : decode cX11_comesOn 0 = .ok (.iconst 5, 1) := by decide +kernel
theorem dX11_comesOn_1 : decode cX11_comesOn 1 = .ok (.aload_n 0, 1) := by decide +kernel
theorem dX11_comesOn_2 : decode cX11_comesOn 2 = .ok (.getfield 54, 3) := by decide +kernel
theorem dX11_comesOn_5 : decode cX11_comesOn 5 = .ok (.aload_n 0, 1) := by decide +kernel
theorem dX11_comesOn_6 : decode cX11_comesOn 6 = .ok (.getfield 51, 3) := by decide +kernel
theorem dX11_comesOn_9 : decode cX11_comesOn 9 = .ok (.iaload, 1) := by decide +kernel
theorem dX11_comesOn_10 : decode cX11_comesOn 10 = .ok (.iadd, 1) := by decide +kernel
theorem dX11_comesOn_11 : decode cX11_comesOn 11 = .ok (.istore_n 2, 1) := by decide +kernel
theorem dX11_comesOn_12 : decode cX11_comesOn 12 = .ok (.iload_n 1, 1) := by decide +kernel
theorem dX11_comesOn_13 : decode cX11_comesOn 13 = .ok (.iconst 2, 1) := by decide +kernel
theorem dX11_comesOn_14 : decode cX11_comesOn 14 = .ok (.iload_n 2, 1) := by decide +kernel
theorem dX11_comesOn_15 : decode cX11_comesOn 15 = .ok (.aload_n 0, 1) := by decide +kernel
theorem dX11_comesOn_16 : decode cX11_comesOn 16 = .ok (.getfield 69, 3) := by decide +kernel
theorem dX11_comesOn_19 : decode cX11_comesOn 19 = .ok (.aload_n 0, 1) := by decide +kernel
theorem dX11_comesOn_20 : decode cX11_comesOn 20 = .ok (.getfield 51, 3) := by decide +kernel
theorem dX11_comesOn_23 : decode cX11_comesOn 23 = .ok (.iaload, 1) := by decide +kernel
theorem dX11_comesOn_24 : decode cX11_comesOn 24 = .ok (.imul, 1) := by decide +kernel
theorem dX11_comesOn_25 : decode cX11_comesOn 25 = .ok (.iadd, 1) := by decide +kernel
theorem dX11_comesOn_26 : decode cX11_comesOn 26 = .ok (.if_icmp .ne 37, 3) := by decide +kernel
theorem dX11_comesOn_29 : decode cX11_comesOn 29 = .ok (.aload_n 0, 1) := by decide +kernel
theorem dX11_comesOn_30 : decode cX11_comesOn 30 = .ok (.aload_n 0, 1) := by decide +kernel
theorem dX11_comesOn_31 : decode cX11_comesOn 31 = .ok (.getfield 7, 3) := by decide +kernel
theorem dX11_comesOn_34 : decode cX11_comesOn 34 = .ok (.iconst 0, 1) := by decide +kernel
theorem dX11_comesOn_35 : decode cX11_comesOn 35 = .ok (.iaload, 1) := by decide +kernel
theorem dX11_comesOn_36 : decode cX11_comesOn 36 = .ok (.invokevirtual 497, 3) := by decide +kernel
theorem dX11_comesOn_39 : decode cX11_comesOn 39 = .ok (.ifCond .ne 26, 3) := by decide +kernel
theorem dX11_comesOn_42 : decode cX11_comesOn 42 = .ok (.aload_n 0, 1) := by decide +kernel
theorem dX11_comesOn_43 : decode cX11_comesOn 43 = .ok (.getfield 54, 3) := by decide +kernel
theorem dX11_comesOn_46 : decode cX11_comesOn 46 = .ok (.aload_n 0, 1) := by decide +kernel
theorem dX11_comesOn_47 : decode cX11_comesOn 47 = .ok (.getfield 51, 3) := by decide +kernel
theorem dX11_comesOn_50 : decode cX11_comesOn 50 = .ok (.iaload, 1) := by decide +kernel
theorem dX11_comesOn_51 : decode cX11_comesOn 51 = .ok (.ifCond .gt 12, 3) := by decide +kernel
theorem dX11_comesOn_54 : decode cX11_comesOn 54 = .ok (.aload_n 0, 1) := by decide +kernel
theorem dX11_comesOn_55 : decode cX11_comesOn 55 = .ok (.getfield 7, 3) := by decide +kernel
theorem dX11_comesOn_58 : decode cX11_comesOn 58 = .ok (.iconst 0, 1) := by decide +kernel
theorem dX11_comesOn_59 : decode cX11_comesOn 59 = .ok (.iaload, 1) := by decide +kernel
theorem dX11_comesOn_60 : decode cX11_comesOn 60 = .ok (.ifCond .le 5, 3) := by decide +kernel
theorem dX11_comesOn_63 : decode cX11_comesOn 63 = .ok (.iconst 0, 1) := by decide +kernel
theorem dX11_comesOn_64 : decode cX11_comesOn 64 = .ok (.ireturn, 1) := by decide +kernel
theorem dX11_comesOn_65 : decode cX11_comesOn 65 = .ok (.bipush 107, 2) := by decide +kernel
theorem dX11_comesOn_67 : decode cX11_comesOn 67 = .ok (.istore_n 3, 1) := by decide +kernel
theorem dX11_comesOn_68 : decode cX11_comesOn 68 = .ok (.iconst 0, 1) := by decide +kernel
theorem dX11_comesOn_69 : decode cX11_comesOn 69 = .ok (.istore 4, 2) := by decide +kernel
theorem dX11_comesOn_71 : decode cX11_comesOn 71 = .ok (.iload 4, 2) := by decide +kernel
theorem dX11_comesOn_73 : decode cX11_comesOn 73 = .ok (.iload_n 1, 1) := by decide +kernel
theorem dX11_comesOn_74 : decode cX11_comesOn 74 = .ok (.iconst 1, 1) := by decide +kernel
theorem dX11_comesOn_75 : decode cX11_comesOn 75 = .ok (.isub, 1) := by decide +kernel
theorem dX11_comesOn_76 : decode cX11_comesOn 76 = .ok (.if_icmp .ge 25, 3) := by decide +kernel
theorem dX11_comesOn_79 : decode cX11_comesOn 79 = .ok (.iconst 5, 1) := by decide +kernel
theorem dX11_comesOn_80 : decode cX11_comesOn 80 = .ok (.iload_n 3, 1) := by decide +kernel
theorem dX11_comesOn_81 : decode cX11_comesOn 81 = .ok (.imul, 1) := by decide +kernel
theorem dX11_comesOn_82 : decode cX11_comesOn 82 = .ok (.aload_n 0, 1) := by decide +kernel
theorem dX11_comesOn_83 : decode cX11_comesOn 83 = .ok (.getfield 7, 3) := by decide +kernel
theorem dX11_comesOn_86 : decode cX11_comesOn 86 = .ok (.iload 4, 2) := by decide +kernel
theorem dX11_comesOn_88 : decode cX11_comesOn 88 = .ok (.iaload, 1) := by decide +kernel
theorem dX11_comesOn_89 : decode cX11_comesOn 89 = .ok (.iadd, 1) := by decide +kernel
theorem dX11_comesOn_90 : decode cX11_comesOn 90 = .ok (.sipush 251, 3) := by decide +kernel
theorem dX11_comesOn_93 : decode cX11_comesOn 93 = .ok (.irem, 1) := by decide +kernel
theorem dX11_comesOn_94 : decode cX11_comesOn 94 = .ok (.istore_n 3, 1) := by decide +kernel
theorem dX11_comesOn_95 : decode cX11_comesOn 95 = .ok (.iinc 4 1, 3) := by decide +kernel
theorem dX11_comesOn_98 : decode cX11_comesOn 98 = .ok (.goto (-27), 3) := by decide +kernel
theorem dX11_comesOn_101 : decode cX11_comesOn 101 = .ok (.aload_n 0, 1) := by decide +kernel
theorem dX11_comesOn_102 : decode cX11_comesOn 102 = .ok (.getfield 7, 3) := by decide +kernel
theorem dX11_comesOn_105 : decode cX11_comesOn 105 = .ok (.iload_n 1, 1) := by decide +kernel
theorem dX11_comesOn_106 : decode cX11_comesOn 106 = .ok (.iconst 1, 1) := by decide +kernel
theorem dX11_comesOn_107 : decode cX11_comesOn 107 = .ok (.isub, 1) := by decide +kernel
theorem dX11_comesOn_108 : decode cX11_comesOn 108 = .ok (.iaload, 1) := by decide +kernel
theorem dX11_comesOn_109 : decode cX11_comesOn 109 = .ok (.iload_n 3, 1) := by decide +kernel
theorem dX11_comesOn_110 : decode cX11_comesOn 110 = .ok (.if_icmp .eq 5, 3) := by decide +kernel
theorem dX11_comesOn_113 : decode cX11_comesOn 113 = .ok (.iconst 0, 1) := by decide +kernel
theorem dX11_comesOn_114 : decode cX11_comesOn 114 = .ok (.ireturn, 1) := by decide +kernel
theorem dX11_comesOn_115 : decode cX11_comesOn 115 = .ok (.aload_n 0, 1) := by decide +kernel
theorem dX11_comesOn_116 : decode cX11_comesOn 116 = .ok (.iconst 1, 1) := by decide +kernel
theorem dX11_comesOn_117 : decode cX11_comesOn 117 = .ok (.iconst 0, 1) := by decide +kernel
theorem dX11_comesOn_118 : decode cX11_comesOn 118 = .ok (.invokevirtual 446, 3) := by decide +kernel
theorem dX11_comesOn_121 : decode cX11_comesOn 121 = .ok (.aload_n 0, 1) := by decide +kernel
theorem dX11_comesOn_122 : decode cX11_comesOn 122 = .ok (.getfield 156, 3) := by decide +kernel
theorem dX11_comesOn_125 : decode cX11_comesOn 125 = .ok (.iconst 1, 1) := by decide +kernel
theorem dX11_comesOn_126 : decode cX11_comesOn 126 = .ok (.aload_n 0, 1) := by decide +kernel
theorem dX11_comesOn_127 : decode cX11_comesOn 127 = .ok (.getfield 7, 3) := by decide +kernel
theorem dX11_comesOn_130 : decode cX11_comesOn 130 = .ok (.iconst 0, 1) := by decide +kernel
theorem dX11_comesOn_131 : decode cX11_comesOn 131 = .ok (.iaload, 1) := by decide +kernel
theorem dX11_comesOn_132 : decode cX11_comesOn 132 = .ok (.iastore, 1) := by decide +kernel
theorem dX11_comesOn_133 : decode cX11_comesOn 133 = .ok (.aload_n 0, 1) := by decide +kernel
theorem dX11_comesOn_134 : decode cX11_comesOn 134 = .ok (.getfield 171, 3) := by decide +kernel
theorem dX11_comesOn_137 : decode cX11_comesOn 137 = .ok (.iconst 1, 1) := by decide +kernel
theorem dX11_comesOn_138 : decode cX11_comesOn 138 = .ok (.iconst 0, 1) := by decide +kernel
theorem dX11_comesOn_139 : decode cX11_comesOn 139 = .ok (.iastore, 1) := by decide +kernel
theorem dX11_comesOn_140 : decode cX11_comesOn 140 = .ok (.iconst 0, 1) := by decide +kernel
theorem dX11_comesOn_141 : decode cX11_comesOn 141 = .ok (.istore 4, 2) := by decide +kernel
theorem dX11_comesOn_143 : decode cX11_comesOn 143 = .ok (.iload 4, 2) := by decide +kernel
theorem dX11_comesOn_145 : decode cX11_comesOn 145 = .ok (.aload_n 0, 1) := by decide +kernel
theorem dX11_comesOn_146 : decode cX11_comesOn 146 = .ok (.getfield 69, 3) := by decide +kernel
theorem dX11_comesOn_149 : decode cX11_comesOn 149 = .ok (.aload_n 0, 1) := by decide +kernel
theorem dX11_comesOn_150 : decode cX11_comesOn 150 = .ok (.getfield 51, 3) := by decide +kernel
theorem dX11_comesOn_153 : decode cX11_comesOn 153 = .ok (.iaload, 1) := by decide +kernel
theorem dX11_comesOn_154 : decode cX11_comesOn 154 = .ok (.if_icmp .ge 26, 3) := by decide +kernel
theorem dX11_comesOn_157 : decode cX11_comesOn 157 = .ok (.aload_n 0, 1) := by decide +kernel
theorem dX11_comesOn_158 : decode cX11_comesOn 158 = .ok (.iload 4, 2) := by decide +kernel
theorem dX11_comesOn_160 : decode cX11_comesOn 160 = .ok (.iconst 1, 1) := by decide +kernel
theorem dX11_comesOn_161 : decode cX11_comesOn 161 = .ok (.iload_n 2, 1) := by decide +kernel
theorem dX11_comesOn_162 : decode cX11_comesOn 162 = .ok (.iload 4, 2) := by decide +kernel
theorem dX11_comesOn_164 : decode cX11_comesOn 164 = .ok (.imul, 1) := by decide +kernel
theorem dX11_comesOn_165 : decode cX11_comesOn 165 = .ok (.iadd, 1) := by decide +kernel
theorem dX11_comesOn_166 : decode cX11_comesOn 166 = .ok (.invokevirtual 583, 3) := by decide +kernel
theorem dX11_comesOn_169 : decode cX11_comesOn 169 = .ok (.ifCond .ne 5, 3) := by decide +kernel
theorem dX11_comesOn_172 : decode cX11_comesOn 172 = .ok (.iconst 0, 1) := by decide +kernel
theorem dX11_comesOn_173 : decode cX11_comesOn 173 = .ok (.ireturn, 1) := by decide +kernel
theorem dX11_comesOn_174 : decode cX11_comesOn 174 = .ok (.iinc 4 1, 3) := by decide +kernel
theorem dX11_comesOn_177 : decode cX11_comesOn 177 = .ok (.goto (-34), 3) := by decide +kernel
theorem dX11_comesOn_180 : decode cX11_comesOn 180 = .ok (.iconst 1, 1) := by decide +kernel
theorem dX11_comesOn_181 : decode cX11_comesOn 181 = .ok (.ireturn, 1) := by decide +kernel
def fX11_comesOn_143 : Nat → Int32 → Int32 → zS → Option (Int32 × zS)
  | 0, _, _, _ => none
  | f + 1, x2, x4, σ => aI σ 63 2 (iG σ 56 13) fun v12 => if v12 ≤ x4 then some (1, σ) else bnc (fX11_holderOn x4 (1 + (x2 * x4)) σ) fun v15 σ13 => if v15 = 0 then some (0, σ13) else fX11_comesOn_143 f x2 (x4 + 1) σ13
theorem kX11_comesOn_143 {sc : Nat × (Nat → Int32)} : ∀ (fuel : Nat) (x2 : Int32) (x4 : Int32) (σ : zS) (w : Int32 × zS) (h : fX11_comesOn_143 fuel x2 x4 σ = some w), zR (zY0 sc) 3 0 0 mX11_comesOn 143 [(0, .ref 56), (2, .int x2), (4, .int x4)] [] (zE σ) (some (.int w.1), zE w.2) := by
  intro fuel
  induction fuel with
  | zero => intro x2 x4 σ w h; exact nomatch h
  | succ f ih =>
    intro x2 x4 σ w h
    rw [fX11_comesOn_143] at h
    refine kR.iload dX11_comesOn_143 2 rfl ?_
    refine kR.aload_n dX11_comesOn_145 0 rfl ?_
    refine kR.getR (v := 63) dX11_comesOn_146 flX11_69 zcf11 zp56 (Or.inr ⟨_, rfl⟩) rfl ?_
    refine kR.aload_n dX11_comesOn_149 0 rfl ?_
    refine kR.getI dX11_comesOn_150 flX11_51 zcf11 zp56 (Or.inl rfl) ?_
    refine kR.iald dX11_comesOn_153 zp63 rfl h (fun v12 h => ?_)
    refine kR.icmp_ge (tgt := 180) dX11_comesOn_154 (by decide) h (fun h => ?_) (fun h => ?_)
    · refine zR.iconst (v := 1) dX11_comesOn_180 (by decide) ?_
      exact kR.iretW dX11_comesOn_181 (nzZ rfl (Or.inr rfl)) h
    · refine kR.aload_n dX11_comesOn_157 0 rfl ?_
      refine kR.iload dX11_comesOn_158 2 rfl ?_
      refine zR.iconst (v := 1) dX11_comesOn_160 (by decide) ?_
      refine kR.iload_n dX11_comesOn_161 1 rfl ?_
      refine kR.iload dX11_comesOn_162 2 rfl ?_
      refine zR.imul dX11_comesOn_164 ?_
      refine zR.iadd dX11_comesOn_165 ?_
      obtain ⟨v15, σ13, e14, h⟩ := bnc_some h
      refine kR.cVi [.int x4, .int (1 + (x2 * x4))] dX11_comesOn_166 rfl (by decide) mwX11_583 zp56 (by decide) rfl rfl (Nat.le_of_ble_eq_true rfl) (lX11_holderOn x4 (1 + (x2 * x4)) σ _ e14) ?_
      refine kR.if_ne (tgt := 174) dX11_comesOn_169 (by decide) h (fun h => ?_) (fun h => ?_)
      · refine zR.iinc 2 (v := x4 + 1) (ls' := [(4, .int (x4 + 1)), (0, .ref 56), (2, .int x2)]) dX11_comesOn_174 rfl rfl (by decide) rfl ?_
        refine zR.goto (tgt := 143) dX11_comesOn_177 (by decide) ?_
        refine zR.sub [1, 2, 0] rfl ?_
        exact ih _ _ _ _ h
      · refine zR.iconst (v := 0) dX11_comesOn_172 (by decide) ?_
        exact kR.iretW dX11_comesOn_173 (nzZ rfl (Or.inl rfl)) h
def fX11_comesOn_71 : Nat → Int32 → Int32 → Int32 → Int32 → zS → Option (Int32 × zS)
  | 0, _, _, _, _, _ => none
  | f + 1, x1, x2, x3, x4, σ => if (x1 - 1) ≤ x4 then aI σ 57 1800 (x1 - 1) fun v6 => if v6 = x3 then bnr (fX11_copies 1 0 σ) fun σ7 => aI σ7 57 1800 0 fun v9 => wI σ7 85 22 1 v9 fun σ10 => wI σ10 90 22 1 0 fun σ11 => fX11_comesOn_143 zF x2 0 σ11 else some (0, σ) else aI σ 57 1800 x4 fun v16 => fX11_comesOn_71 f x1 x2 (((5 * x3) + v16) - ((5 * x3) + v16) / 251 * 251) (x4 + 1) σ
theorem kX11_comesOn_71 {sc : Nat × (Nat → Int32)} : ∀ (fuel : Nat) (x1 : Int32) (x2 : Int32) (x3 : Int32) (x4 : Int32) (σ : zS) (w : Int32 × zS) (h : fX11_comesOn_71 fuel x1 x2 x3 x4 σ = some w), zR (zY0 sc) 3 0 0 mX11_comesOn 71 [(0, .ref 56), (1, .int x1), (2, .int x2), (3, .int x3), (4, .int x4)] [] (zE σ) (some (.int w.1), zE w.2) := by
  intro fuel
  induction fuel with
  | zero => intro x1 x2 x3 x4 σ w h; exact nomatch h
  | succ f ih =>
    intro x1 x2 x3 x4 σ w h
    rw [fX11_comesOn_71] at h
    refine kR.iload dX11_comesOn_71 4 rfl ?_
    refine kR.iload_n dX11_comesOn_73 1 rfl ?_
    refine zR.iconst (v := 1) dX11_comesOn_74 (by decide) ?_
    refine zR.isub dX11_comesOn_75 ?_
    refine kR.icmp_ge (tgt := 101) dX11_comesOn_76 (by decide) h (fun h => ?_) (fun h => ?_)
    · refine kR.aload_n dX11_comesOn_101 0 rfl ?_
      refine kR.getR (v := 57) dX11_comesOn_102 flX11_7 zcf11 zp56 (Or.inr ⟨_, rfl⟩) rfl ?_
      refine kR.iload_n dX11_comesOn_105 1 rfl ?_
      refine zR.iconst (v := 1) dX11_comesOn_106 (by decide) ?_
      refine zR.isub dX11_comesOn_107 ?_
      refine kR.iald dX11_comesOn_108 zp57 rfl h (fun v6 h => ?_)
      refine kR.iload_n dX11_comesOn_109 3 rfl ?_
      refine kR.icmp_eq (tgt := 115) dX11_comesOn_110 (by decide) h (fun h => ?_) (fun h => ?_)
      · refine kR.aload_n dX11_comesOn_115 0 rfl ?_
        refine zR.iconst (v := 1) dX11_comesOn_116 (by decide) ?_
        refine zR.iconst (v := 0) dX11_comesOn_117 (by decide) ?_
        obtain ⟨σ7, e8, h⟩ := bnr_some h
        refine kR.cVv [.int 1, .int 0] dX11_comesOn_118 rfl (by decide) mwX11_446 zp56 (by decide) rfl rfl (Nat.le_of_ble_eq_true rfl) (lX11_copies 1 0 σ _ e8) ?_
        refine kR.aload_n dX11_comesOn_121 0 rfl ?_
        refine kR.getR (v := 85) dX11_comesOn_122 flX11_156 zcf11 zp56 (Or.inr ⟨_, rfl⟩) rfl ?_
        refine zR.iconst (v := 1) dX11_comesOn_125 (by decide) ?_
        refine kR.aload_n dX11_comesOn_126 0 rfl ?_
        refine kR.getR (v := 57) dX11_comesOn_127 flX11_7 zcf11 zp56 (Or.inr ⟨_, rfl⟩) rfl ?_
        refine zR.iconst (v := 0) dX11_comesOn_130 (by decide) ?_
        refine kR.iald dX11_comesOn_131 zp57 rfl h (fun v9 h => ?_)
        refine kR.iast dX11_comesOn_132 zp85 rfl h (fun σ10 h => ?_)
        refine kR.aload_n dX11_comesOn_133 0 rfl ?_
        refine kR.getR (v := 90) dX11_comesOn_134 flX11_171 zcf11 zp56 (Or.inr ⟨_, rfl⟩) rfl ?_
        refine zR.iconst (v := 1) dX11_comesOn_137 (by decide) ?_
        refine zR.iconst (v := 0) dX11_comesOn_138 (by decide) ?_
        refine kR.iast dX11_comesOn_139 zp90 rfl h (fun σ11 h => ?_)
        refine zR.iconst (v := 0) dX11_comesOn_140 (by decide) ?_
        refine zR.istore (i := 4) (ls' := [(4, .int 0), (0, .ref 56), (1, .int x1), (2, .int x2), (3, .int x3)]) dX11_comesOn_141 (by decide) rfl ?_
        refine zR.sub [1, 3, 0] rfl ?_
        exact kX11_comesOn_143 zF _ _ _ _ h
      · refine zR.iconst (v := 0) dX11_comesOn_113 (by decide) ?_
        exact kR.iretW dX11_comesOn_114 (nzZ rfl (Or.inl rfl)) h
    · refine zR.iconst (v := 5) dX11_comesOn_79 (by decide) ?_
      refine kR.iload_n dX11_comesOn_80 3 rfl ?_
      refine zR.imul dX11_comesOn_81 ?_
      refine kR.aload_n dX11_comesOn_82 0 rfl ?_
      refine kR.getR (v := 57) dX11_comesOn_83 flX11_7 zcf11 zp56 (Or.inr ⟨_, rfl⟩) rfl ?_
      refine kR.iload dX11_comesOn_86 4 rfl ?_
      refine kR.iald dX11_comesOn_88 zp57 rfl h (fun v16 h => ?_)
      refine zR.iadd dX11_comesOn_89 ?_
      refine zR.sipush (v := 251) dX11_comesOn_90 (by decide) ?_
      refine zR.irem dX11_comesOn_93 (by decide) ?_
      refine zR.istore_n (i := 3) (ls' := [(3, .int (((5 * x3) + v16) - ((5 * x3) + v16) / 251 * 251)), (0, .ref 56), (1, .int x1), (2, .int x2), (4, .int x4)]) dX11_comesOn_94 rfl (by decide) rfl ?_
      refine zR.iinc 4 (v := x4 + 1) (ls' := [(4, .int (x4 + 1)), (3, .int (((5 * x3) + v16) - ((5 * x3) + v16) / 251 * 251)), (0, .ref 56), (1, .int x1), (2, .int x2)]) dX11_comesOn_95 rfl rfl (by decide) rfl ?_
      refine zR.goto (tgt := 71) dX11_comesOn_98 (by decide) ?_
      refine zR.sub [2, 3, 4, 1, 0] rfl ?_
      exact ih _ _ _ _ _ _ h
def fX11_comesOn_65 (x1 : Int32) (x2 : Int32) (σ : zS) : Option (Int32 × zS) := fX11_comesOn_71 zF x1 x2 107 0 σ
theorem kX11_comesOn_65 {sc : Nat × (Nat → Int32)} (x1 : Int32) (x2 : Int32) (σ : zS) (w : Int32 × zS) (h : fX11_comesOn_65 x1 x2 σ = some w) : zR (zY0 sc) 3 0 0 mX11_comesOn 65 [(0, .ref 56), (1, .int x1), (2, .int x2)] [] (zE σ) (some (.int w.1), zE w.2) := by
  unfold fX11_comesOn_65 at h
  refine zR.bipush (v := 107) dX11_comesOn_65 (by decide) ?_
  refine zR.istore_n (i := 3) (ls' := [(3, .int 107), (0, .ref 56), (1, .int x1), (2, .int x2)]) dX11_comesOn_67 rfl (by decide) rfl ?_
  refine zR.iconst (v := 0) dX11_comesOn_68 (by decide) ?_
  refine zR.istore (i := 4) (ls' := [(4, .int 0), (3, .int 107), (0, .ref 56), (1, .int x1), (2, .int x2)]) dX11_comesOn_69 (by decide) rfl ?_
  refine zR.sub [2, 3, 4, 1, 0] rfl ?_
  exact kX11_comesOn_71 zF _ _ _ _ _ _ h
def fX11_comesOn (p1 : Int32) (σ : zS) : Option (Int32 × zS) := aI σ 58 2 (iG σ 56 13) fun v1 => aI σ 63 2 (iG σ 56 13) fun v2 => if p1 = (2 + ((5 + v1) * v2)) then aI σ 57 1800 0 fun v3 => bnr (fX11_isTunnel σ v3) fun v4 => if v4 = 0 then aI σ 58 2 (iG σ 56 13) fun v17 => if 0 < v17 then some (0, σ) else aI σ 57 1800 0 fun v18 => if v18 ≤ 0 then fX11_comesOn_65 p1 (5 + v1) σ else some (0, σ) else fX11_comesOn_65 p1 (5 + v1) σ else some (0, σ)
theorem eX11_comesOn {sc : Nat × (Nat → Int32)} (p1 : Int32) (σ : zS) (w : Int32 × zS) (h : fX11_comesOn p1 σ = some w) : zR (zY0 sc) 3 0 0 mX11_comesOn 0 [(0, .ref 56), (1, .int p1)] [] (zE σ) (some (.int w.1), zE w.2) := by
  unfold fX11_comesOn at h
  refine zR.iconst (v := 5) dX11_comesOn_0 (by decide) ?_
  refine kR.aload_n dX11_comesOn_1 0 rfl ?_
  refine kR.getR (v := 58) dX11_comesOn_2 flX11_54 zcf11 zp56 (Or.inr ⟨_, rfl⟩) rfl ?_
  refine kR.aload_n dX11_comesOn_5 0 rfl ?_
  refine kR.getI dX11_comesOn_6 flX11_51 zcf11 zp56 (Or.inl rfl) ?_
  refine kR.iald dX11_comesOn_9 zp58 rfl h (fun v1 h => ?_)
  refine zR.iadd dX11_comesOn_10 ?_
  refine zR.istore_n (i := 2) (ls' := [(2, .int (5 + v1)), (0, .ref 56), (1, .int p1)]) dX11_comesOn_11 rfl (by decide) rfl ?_
  refine kR.iload_n dX11_comesOn_12 2 rfl ?_
  refine zR.iconst (v := 2) dX11_comesOn_13 (by decide) ?_
  refine kR.iload_n dX11_comesOn_14 0 rfl ?_
  refine kR.aload_n dX11_comesOn_15 1 rfl ?_
  refine kR.getR (v := 63) dX11_comesOn_16 flX11_69 zcf11 zp56 (Or.inr ⟨_, rfl⟩) rfl ?_
  refine kR.aload_n dX11_comesOn_19 1 rfl ?_
  refine kR.getI dX11_comesOn_20 flX11_51 zcf11 zp56 (Or.inl rfl) ?_
  refine kR.iald dX11_comesOn_23 zp63 rfl h (fun v2 h => ?_)
  refine zR.imul dX11_comesOn_24 ?_
  refine zR.iadd dX11_comesOn_25 ?_
  refine kR.icmp_ne (tgt := 63) dX11_comesOn_26 (by decide) h (fun h => ?_) (fun h => ?_)
  · refine zR.iconst (v := 0) dX11_comesOn_63 (by decide) ?_
    exact kR.iretW dX11_comesOn_64 (nzZ rfl (Or.inl rfl)) h
  · refine kR.aload_n dX11_comesOn_29 1 rfl ?_
    refine kR.aload_n dX11_comesOn_30 1 rfl ?_
    refine kR.getR (v := 57) dX11_comesOn_31 flX11_7 zcf11 zp56 (Or.inr ⟨_, rfl⟩) rfl ?_
    refine zR.iconst (v := 0) dX11_comesOn_34 (by decide) ?_
    refine kR.iald dX11_comesOn_35 zp57 rfl h (fun v3 h => ?_)
    obtain ⟨v4, e5, h⟩ := bnr_some h
    refine kR.cVi [.int v3] dX11_comesOn_36 rfl (by decide) mwX11_497 zp56 (by decide) rfl rfl (Nat.le_of_ble_eq_true rfl) (lX11_isTunnel σ v3 _ e5) ?_
    refine kR.if_ne (tgt := 65) dX11_comesOn_39 (by decide) h (fun h => ?_) (fun h => ?_)
    · refine zR.sub [1, 2, 0] rfl ?_
      exact kX11_comesOn_65 _ _ _ _ h
    · refine kR.aload_n dX11_comesOn_42 1 rfl ?_
      refine kR.getR (v := 58) dX11_comesOn_43 flX11_54 zcf11 zp56 (Or.inr ⟨_, rfl⟩) rfl ?_
      refine kR.aload_n dX11_comesOn_46 1 rfl ?_
      refine kR.getI dX11_comesOn_47 flX11_51 zcf11 zp56 (Or.inl rfl) ?_
      refine kR.iald dX11_comesOn_50 zp58 rfl h (fun v17 h => ?_)
      refine kR.if_gt (tgt := 63) dX11_comesOn_51 (by decide) h (fun h => ?_) (fun h => ?_)
      · refine zR.iconst (v := 0) dX11_comesOn_63 (by decide) ?_
        exact kR.iretW dX11_comesOn_64 (nzZ rfl (Or.inl rfl)) h
      · refine kR.aload_n dX11_comesOn_54 1 rfl ?_
        refine kR.getR (v := 57) dX11_comesOn_55 flX11_7 zcf11 zp56 (Or.inr ⟨_, rfl⟩) rfl ?_
        refine zR.iconst (v := 0) dX11_comesOn_58 (by decide) ?_
        refine kR.iald dX11_comesOn_59 zp57 rfl h (fun v18 h => ?_)
        refine kR.if_le (tgt := 65) dX11_comesOn_60 (by decide) h (fun h => ?_) (fun h => ?_)
        · refine zR.sub [1, 2, 0] rfl ?_
          exact kX11_comesOn_65 _ _ _ _ h
        · refine zR.iconst (v := 0) dX11_comesOn_63 (by decide) ?_
          exact kR.iretW dX11_comesOn_64 (nzZ rfl (Or.inl rfl)) h
theorem lX11_comesOn {sc : Nat × (Nat → Int32)} (p1 : Int32) (σ : zS) (w : Int32 × zS) (h : fX11_comesOn p1 σ = some w) : zC (zY0 sc) 3 0 0 mX11_comesOn [.ref 56, .int p1] (zE σ) (some (.int w.1), zE w.2) := zC.of (by decide +kernel) (Nat.le_of_ble_eq_true rfl) ⟨_, rfl⟩ (eX11_comesOn p1 σ w h)

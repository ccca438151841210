/-! MY OWN (by program): X11_reckons, X11_between, X11_asks, X11_worthNow, X11_breathNow, X11_worthAlone, X11_lesser, X11_holdOf, X11_allHold, X11_asksRow, X11_worthRow, X11_has, X11_letter, X11_tunnel, X11_holder, X11_score, X11_likely -/
theorem dX11_reckons_0 : decode cX11_reckons 0 = .ok (.iconst 0, 1) := by decide +kernel
theorem dX11_reckons_1 : decode cX11_reckons 1 = .ok (.istore_n 3, 1) := by decide +kernel
theorem dX11_reckons_2 : decode cX11_reckons 2 = .ok (.sipush 1600, 3) := by decide +kernel
theorem dX11_reckons_5 : decode cX11_reckons 5 = .ok (.aload_n 0, 1) := by decide +kernel
theorem dX11_reckons_6 : decode cX11_reckons 6 = .ok (.getfield 51, 3) := by decide +kernel
theorem dX11_reckons_9 : decode cX11_reckons 9 = .ok (.imul, 1) := by decide +kernel
theorem dX11_reckons_10 : decode cX11_reckons 10 = .ok (.iload_n 1, 1) := by decide +kernel
theorem dX11_reckons_11 : decode cX11_reckons 11 = .ok (.iadd, 1) := by decide +kernel
theorem dX11_reckons_12 : decode cX11_reckons 12 = .ok (.istore 4, 2) := by decide +kernel
theorem dX11_reckons_14 : decode cX11_reckons 14 = .ok (.iload 4, 2) := by decide +kernel
theorem dX11_reckons_16 : decode cX11_reckons 16 = .ok (.sipush 1600, 3) := by decide +kernel
theorem dX11_reckons_19 : decode cX11_reckons 19 = .ok (.aload_n 0, 1) := by decide +kernel
theorem dX11_reckons_20 : decode cX11_reckons 20 = .ok (.getfield 51, 3) := by decide +kernel
theorem dX11_reckons_23 : decode cX11_reckons 23 = .ok (.imul, 1) := by decide +kernel
theorem dX11_reckons_24 : decode cX11_reckons 24 = .ok (.iload_n 2, 1) := by decide +kernel
theorem dX11_reckons_25 : decode cX11_reckons 25 = .ok (.iadd, 1) := by decide +kernel
theorem dX11_reckons_26 : decode cX11_reckons 26 = .ok (.if_icmp .ge 159, 3) := by decide +kernel
theorem dX11_reckons_29 : decode cX11_reckons 29 = .ok (.aload_n 0, 1) := by decide +kernel
theorem dX11_reckons_30 : decode cX11_reckons 30 = .ok (.getfield 102, 3) := by decide +kernel
theorem dX11_reckons_33 : decode cX11_reckons 33 = .ok (.iload 4, 2) := by decide +kernel
theorem dX11_reckons_35 : decode cX11_reckons 35 = .ok (.iaload, 1) := by decide +kernel
theorem dX11_reckons_36 : decode cX11_reckons 36 = .ok (.istore 5, 2) := by decide +kernel
theorem dX11_reckons_38 : decode cX11_reckons 38 = .ok (.iload 5, 2) := by decide +kernel
theorem dX11_reckons_40 : decode cX11_reckons 40 = .ok (.bipush 9, 2) := by decide +kernel
theorem dX11_reckons_42 : decode cX11_reckons 42 = .ok (.if_icmp .gt 28, 3) := by decide +kernel
theorem dX11_reckons_45 : decode cX11_reckons 45 = .ok (.aload_n 0, 1) := by decide +kernel
theorem dX11_reckons_46 : decode cX11_reckons 46 = .ok (.getfield 195, 3) := by decide +kernel
theorem dX11_reckons_49 : decode cX11_reckons 49 = .ok (.iload_n 3, 1) := by decide +kernel
theorem dX11_reckons_50 : decode cX11_reckons 50 = .ok (.aload_n 0, 1) := by decide +kernel
theorem dX11_reckons_51 : decode cX11_reckons 51 = .ok (.iload 5, 2) := by decide +kernel
theorem dX11_reckons_53 : decode cX11_reckons 53 = .ok (.aload_n 0, 1) := by decide +kernel
theorem dX11_reckons_54 : decode cX11_reckons 54 = .ok (.getfield 105, 3) := by decide +kernel
theorem dX11_reckons_57 : decode cX11_reckons 57 = .ok (.iload 4, 2) := by decide +kernel
theorem dX11_reckons_59 : decode cX11_reckons 59 = .ok (.iaload, 1) := by decide +kernel
theorem dX11_reckons_60 : decode cX11_reckons 60 = .ok (.invokevirtual 461, 3) := by decide +kernel
theorem dX11_reckons_63 : decode cX11_reckons 63 = .ok (.lastore, 1) := by decide +kernel
theorem dX11_reckons_64 : decode cX11_reckons 64 = .ok (.iinc 3 1, 3) := by decide +kernel
theorem dX11_reckons_67 : decode cX11_reckons 67 = .ok (.goto 112, 3) := by decide +kernel
theorem dX11_reckons_70 : decode cX11_reckons 70 = .ok (.iload 5, 2) := by decide +kernel
theorem dX11_reckons_72 : decode cX11_reckons 72 = .ok (.bipush 22, 2) := by decide +kernel
theorem dX11_reckons_74 : decode cX11_reckons 74 = .ok (.if_icmp .ne 24, 3) := by decide +kernel
theorem dX11_reckons_77 : decode cX11_reckons 77 = .ok (.aload_n 0, 1) := by decide +kernel
theorem dX11_reckons_78 : decode cX11_reckons 78 = .ok (.getfield 195, 3) := by decide +kernel
theorem dX11_reckons_81 : decode cX11_reckons 81 = .ok (.iload_n 3, 1) := by decide +kernel
theorem dX11_reckons_82 : decode cX11_reckons 82 = .ok (.iconst 1, 1) := by decide +kernel
theorem dX11_reckons_83 : decode cX11_reckons 83 = .ok (.isub, 1) := by decide +kernel
theorem dX11_reckons_84 : decode cX11_reckons 84 = .ok (.lconst 1, 1) := by decide +kernel
theorem dX11_reckons_85 : decode cX11_reckons 85 = .ok (.aload_n 0, 1) := by decide +kernel
theorem dX11_reckons_86 : decode cX11_reckons 86 = .ok (.getfield 195, 3) := by decide +kernel
theorem dX11_reckons_89 : decode cX11_reckons 89 = .ok (.iload_n 3, 1) := by decide +kernel
theorem dX11_reckons_90 : decode cX11_reckons 90 = .ok (.iconst 1, 1) := by decide +kernel
theorem dX11_reckons_91 : decode cX11_reckons 91 = .ok (.isub, 1) := by decide +kernel
theorem dX11_reckons_92 : decode cX11_reckons 92 = .ok (.laload, 1) := by decide +kernel
theorem dX11_reckons_93 : decode cX11_reckons 93 = .ok (.lsub, 1) := by decide +kernel
theorem dX11_reckons_94 : decode cX11_reckons 94 = .ok (.lastore, 1) := by decide +kernel
theorem dX11_reckons_95 : decode cX11_reckons 95 = .ok (.goto 84, 3) := by decide +kernel
theorem dX11_reckons_98 : decode cX11_reckons 98 = .ok (.iload 5, 2) := by decide +kernel
theorem dX11_reckons_100 : decode cX11_reckons 100 = .ok (.bipush 23, 2) := by decide +kernel
theorem dX11_reckons_102 : decode cX11_reckons 102 = .ok (.if_icmp .ne 47, 3) := by decide +kernel
theorem dX11_reckons_105 : decode cX11_reckons 105 = .ok (.iinc 3 (-2), 3) := by decide +kernel
theorem dX11_reckons_108 : decode cX11_reckons 108 = .ok (.aload_n 0, 1) := by decide +kernel
theorem dX11_reckons_109 : decode cX11_reckons 109 = .ok (.getfield 195, 3) := by decide +kernel
theorem dX11_reckons_112 : decode cX11_reckons 112 = .ok (.iload_n 3, 1) := by decide +kernel
theorem dX11_reckons_113 : decode cX11_reckons 113 = .ok (.iconst 1, 1) := by decide +kernel
theorem dX11_reckons_114 : decode cX11_reckons 114 = .ok (.isub, 1) := by decide +kernel
theorem dX11_reckons_115 : decode cX11_reckons 115 = .ok (.aload_n 0, 1) := by decide +kernel
theorem dX11_reckons_116 : decode cX11_reckons 116 = .ok (.getfield 195, 3) := by decide +kernel
theorem dX11_reckons_119 : decode cX11_reckons 119 = .ok (.iload_n 3, 1) := by decide +kernel
theorem dX11_reckons_120 : decode cX11_reckons 120 = .ok (.iconst 1, 1) := by decide +kernel
theorem dX11_reckons_121 : decode cX11_reckons 121 = .ok (.isub, 1) := by decide +kernel
theorem dX11_reckons_122 : decode cX11_reckons 122 = .ok (.laload, 1) := by decide +kernel
theorem dX11_reckons_123 : decode cX11_reckons 123 = .ok (.lconst 1, 1) := by decide +kernel
theorem dX11_reckons_124 : decode cX11_reckons 124 = .ok (.lcmp, 1) := by decide +kernel
theorem dX11_reckons_125 : decode cX11_reckons 125 = .ok (.ifCond .ne 12, 3) := by decide +kernel
theorem dX11_reckons_128 : decode cX11_reckons 128 = .ok (.aload_n 0, 1) := by decide +kernel
theorem dX11_reckons_129 : decode cX11_reckons 129 = .ok (.getfield 195, 3) := by decide +kernel
theorem dX11_reckons_132 : decode cX11_reckons 132 = .ok (.iload_n 3, 1) := by decide +kernel
theorem dX11_reckons_133 : decode cX11_reckons 133 = .ok (.laload, 1) := by decide +kernel
theorem dX11_reckons_134 : decode cX11_reckons 134 = .ok (.goto 11, 3) := by decide +kernel
theorem dX11_reckons_137 : decode cX11_reckons 137 = .ok (.aload_n 0, 1) := by decide +kernel
theorem dX11_reckons_138 : decode cX11_reckons 138 = .ok (.getfield 195, 3) := by decide +kernel
theorem dX11_reckons_141 : decode cX11_reckons 141 = .ok (.iload_n 3, 1) := by decide +kernel
theorem dX11_reckons_142 : decode cX11_reckons 142 = .ok (.iconst 1, 1) := by decide +kernel
theorem dX11_reckons_143 : decode cX11_reckons 143 = .ok (.iadd, 1) := by decide +kernel
theorem dX11_reckons_144 : decode cX11_reckons 144 = .ok (.laload, 1) := by decide +kernel
theorem dX11_reckons_145 : decode cX11_reckons 145 = .ok (.lastore, 1) := by decide +kernel
theorem dX11_reckons_146 : decode cX11_reckons 146 = .ok (.goto 33, 3) := by decide +kernel
theorem dX11_reckons_149 : decode cX11_reckons 149 = .ok (.iinc 3 (-1), 3) := by decide +kernel
theorem dX11_reckons_152 : decode cX11_reckons 152 = .ok (.aload_n 0, 1) := by decide +kernel
theorem dX11_reckons_153 : decode cX11_reckons 153 = .ok (.getfield 195, 3) := by decide +kernel
theorem dX11_reckons_156 : decode cX11_reckons 156 = .ok (.iload_n 3, 1) := by decide +kernel
theorem dX11_reckons_157 : decode cX11_reckons 157 = .ok (.iconst 1, 1) := by decide +kernel
theorem dX11_reckons_158 : decode cX11_reckons 158 = .ok (.isub, 1) := by decide +kernel
theorem dX11_reckons_159 : decode cX11_reckons 159 = .ok (.iload 5, 2) := by decide +kernel
theorem dX11_reckons_161 : decode cX11_reckons 161 = .ok (.aload_n 0, 1) := by decide +kernel
theorem dX11_reckons_162 : decode cX11_reckons 162 = .ok (.getfield 195, 3) := by decide +kernel
theorem dX11_reckons_165 : decode cX11_reckons 165 = .ok (.iload_n 3, 1) := by decide +kernel
theorem dX11_reckons_166 : decode cX11_reckons 166 = .ok (.iconst 1, 1) := by decide +kernel
theorem dX11_reckons_167 : decode cX11_reckons 167 = .ok (.isub, 1) := by decide +kernel
theorem dX11_reckons_168 : decode cX11_reckons 168 = .ok (.laload, 1) := by decide +kernel
theorem dX11_reckons_169 : decode cX11_reckons 169 = .ok (.aload_n 0, 1) := by decide +kernel
theorem dX11_reckons_170 : decode cX11_reckons 170 = .ok (.getfield 195, 3) := by decide +kernel
theorem dX11_reckons_173 : decode cX11_reckons 173 = .ok (.iload_n 3, 1) := by decide +kernel
theorem dX11_reckons_174 : decode cX11_reckons 174 = .ok (.laload, 1) := by decide +kernel
theorem dX11_reckons_175 : decode cX11_reckons 175 = .ok (.invokestatic 465, 3) := by decide +kernel
theorem dX11_reckons_178 : decode cX11_reckons 178 = .ok (.lastore, 1) := by decide +kernel
theorem dX11_reckons_179 : decode cX11_reckons 179 = .ok (.iinc 4 1, 3) := by decide +kernel
theorem dX11_reckons_182 : decode cX11_reckons 182 = .ok (.goto (-168), 3) := by decide +kernel
theorem dX11_reckons_185 : decode cX11_reckons 185 = .ok (.aload_n 0, 1) := by decide +kernel
theorem dX11_reckons_186 : decode cX11_reckons 186 = .ok (.getfield 195, 3) := by decide +kernel
theorem dX11_reckons_189 : decode cX11_reckons 189 = .ok (.iconst 0, 1) := by decide +kernel
theorem dX11_reckons_190 : decode cX11_reckons 190 = .ok (.laload, 1) := by decide +kernel
theorem dX11_reckons_191 : decode cX11_reckons 191 = .ok (.lreturn, 1) := by decide +kernel
def fX11_reckons_179 (r14 : Int32 → Int32 → Int32 → zS → Option (Int64 × zS)) (x2 : Int32) (x3 : Int32) (x4 : Int32) (σ : zS) : Option (Int64 × zS) := r14 x2 x3 (x4 + 1) σ
theorem kX11_reckons_179 {sc : Nat × (Nat → Int32)} (r14 : Int32 → Int32 → Int32 → zS → Option (Int64 × zS)) (hr14 : ∀ (x2 : Int32) (x3 : Int32) (x4 : Int32) (σ : zS) (w : Int64 × zS), r14 x2 x3 x4 σ = some w → zR (zY0 sc) 3 0 0 mX11_reckons 14 [(0, .ref 56), (2, .int x2), (3, .int x3), (4, .int x4)] [] (zE σ) (some (.long w.1), zE w.2)) (x2 : Int32) (x3 : Int32) (x4 : Int32) (σ : zS) (w : Int64 × zS) (h : fX11_reckons_179 r14 x2 x3 x4 σ = some w) : zR (zY0 sc) 3 0 0 mX11_reckons 179 [(0, .ref 56), (2, .int x2), (3, .int x3), (4, .int x4)] [] (zE σ) (some (.long w.1), zE w.2) := by
  unfold fX11_reckons_179 at h
  refine zR.iinc 3 (v := x4 + 1) (ls' := [(4, .int (x4 + 1)), (0, .ref 56), (2, .int x2), (3, .int x3)]) dX11_reckons_179 rfl rfl (by decide) rfl ?_
  refine zR.goto (tgt := 14) dX11_reckons_182 (by decide) ?_
  refine zR.sub [1, 2, 3, 0] rfl ?_
  exact hr14 _ _ _ _ _ h
def fX11_reckons_145 (r14 : Int32 → Int32 → Int32 → zS → Option (Int64 × zS)) (x2 : Int32) (x3 : Int32) (x4 : Int32) (s0 : Int64) (s1 : Int32) (σ : zS) : Option (Int64 × zS) := wL σ 95 500 s1 s0 fun σ10 => fX11_reckons_179 r14 x2 x3 x4 σ10
theorem kX11_reckons_145 {sc : Nat × (Nat → Int32)} (r14 : Int32 → Int32 → Int32 → zS → Option (Int64 × zS)) (hr14 : ∀ (x2 : Int32) (x3 : Int32) (x4 : Int32) (σ : zS) (w : Int64 × zS), r14 x2 x3 x4 σ = some w → zR (zY0 sc) 3 0 0 mX11_reckons 14 [(0, .ref 56), (2, .int x2), (3, .int x3), (4, .int x4)] [] (zE σ) (some (.long w.1), zE w.2)) (x2 : Int32) (x3 : Int32) (x4 : Int32) (s0 : Int64) (s1 : Int32) (σ : zS) (w : Int64 × zS) (h : fX11_reckons_145 r14 x2 x3 x4 s0 s1 σ = some w) : zR (zY0 sc) 3 0 0 mX11_reckons 145 [(0, .ref 56), (2, .int x2), (3, .int x3), (4, .int x4)] [.long s0, .int s1, .ref 95] (zE σ) (some (.long w.1), zE w.2) := by
  unfold fX11_reckons_145 at h
  refine kR.last dX11_reckons_145 zp95 rfl h (fun σ10 h => ?_)
  refine zR.goto (tgt := 179) dX11_reckons_146 (by decide) ?_
  exact kX11_reckons_179 r14 hr14 _ _ _ _ _ h
def fX11_reckons_14 : Nat → Int32 → Int32 → Int32 → zS → Option (Int64 × zS)
  | 0, _, _, _, _ => none
  | f + 1, x2, x3, x4, σ => if ((1600 * (iG σ 56 13)) + x2) ≤ x4 then aL σ 95 500 0 fun v1 => some (v1, σ) else aI σ 74 3200 x4 fun v2 => if 9 < v2 then if v2 = 22 then aL σ 95 500 (x3 - 1) fun v12 => wL σ 95 500 (x3 - 1) (1 - v12) fun σ13 => fX11_reckons_179 (fX11_reckons_14 f) x2 x3 x4 σ13 else if v2 = 23 then aL σ 95 500 ((x3 + (-2)) - 1) fun v8 => if v8 = 1 then aL σ 95 500 (x3 + (-2)) fun v11 => fX11_reckons_145 (fX11_reckons_14 f) x2 (x3 + (-2)) x4 v11 ((x3 + (-2)) - 1) σ else aL σ 95 500 ((x3 + (-2)) + 1) fun v9 => fX11_reckons_145 (fX11_reckons_14 f) x2 (x3 + (-2)) x4 v9 ((x3 + (-2)) - 1) σ else aL σ 95 500 ((x3 + (-1)) - 1) fun v3 => aL σ 95 500 (x3 + (-1)) fun v4 => bnr (fX11_two v2 v3 v4) fun v5 => wL σ 95 500 ((x3 + (-1)) - 1) v5 fun σ7 => fX11_reckons_179 (fX11_reckons_14 f) x2 (x3 + (-1)) x4 σ7 else aI σ 75 3200 x4 fun v14 => wL σ 95 500 x3 (fX11_part σ v2 v14) fun σ15 => fX11_reckons_179 (fX11_reckons_14 f) x2 (x3 + 1) x4 σ15
theorem kX11_reckons_14 {sc : Nat × (Nat → Int32)} : ∀ (fuel : Nat) (x2 : Int32) (x3 : Int32) (x4 : Int32) (σ : zS) (w : Int64 × zS) (h : fX11_reckons_14 fuel x2 x3 x4 σ = some w), zR (zY0 sc) 3 0 0 mX11_reckons 14 [(0, .ref 56), (2, .int x2), (3, .int x3), (4, .int x4)] [] (zE σ) (some (.long w.1), zE w.2) := by
  intro fuel
  induction fuel with
  | zero => intro x2 x3 x4 σ w h; exact nomatch h
  | succ f ih =>
    intro x2 x3 x4 σ w h
    rw [fX11_reckons_14] at h
    refine kR.iload dX11_reckons_14 3 rfl ?_
    refine zR.sipush (v := 1600) dX11_reckons_16 (by decide) ?_
    refine kR.aload_n dX11_reckons_19 0 rfl ?_
    refine kR.getI dX11_reckons_20 flX11_51 zcf11 zp56 (Or.inl rfl) ?_
    refine zR.imul dX11_reckons_23 ?_
    refine kR.iload_n dX11_reckons_24 1 rfl ?_
    refine zR.iadd dX11_reckons_25 ?_
    refine kR.icmp_ge (tgt := 185) dX11_reckons_26 (by decide) h (fun h => ?_) (fun h => ?_)
    · refine kR.aload_n dX11_reckons_185 0 rfl ?_
      refine kR.getR (v := 95) dX11_reckons_186 flX11_195 zcf11 zp56 (Or.inr ⟨_, rfl⟩) rfl ?_
      refine zR.iconst (v := 0) dX11_reckons_189 (by decide) ?_
      refine kR.lald dX11_reckons_190 zp95 rfl h (fun v1 h => ?_)
      exact kR.lretW dX11_reckons_191 h
    · refine kR.aload_n dX11_reckons_29 0 rfl ?_
      refine kR.getR (v := 74) dX11_reckons_30 flX11_102 zcf11 zp56 (Or.inr ⟨_, rfl⟩) rfl ?_
      refine kR.iload dX11_reckons_33 3 rfl ?_
      refine kR.iald dX11_reckons_35 zp74 rfl h (fun v2 h => ?_)
      refine zR.istore (i := 5) (ls' := [(5, .int v2), (0, .ref 56), (2, .int x2), (3, .int x3), (4, .int x4)]) dX11_reckons_36 (by decide) rfl ?_
      refine kR.iload dX11_reckons_38 0 rfl ?_
      refine zR.bipush (v := 9) dX11_reckons_40 (by decide) ?_
      refine kR.icmp_gt (tgt := 70) dX11_reckons_42 (by decide) h (fun h => ?_) (fun h => ?_)
      · refine kR.iload dX11_reckons_70 0 rfl ?_
        refine zR.bipush (v := 22) dX11_reckons_72 (by decide) ?_
        refine kR.icmp_ne (tgt := 98) dX11_reckons_74 (by decide) h (fun h => ?_) (fun h => ?_)
        · refine kR.iload dX11_reckons_98 0 rfl ?_
          refine zR.bipush (v := 23) dX11_reckons_100 (by decide) ?_
          refine kR.icmp_ne (tgt := 149) dX11_reckons_102 (by decide) h (fun h => ?_) (fun h => ?_)
          · refine zR.iinc 3 (v := x3 + (-1)) (ls' := [(3, .int (x3 + (-1))), (5, .int v2), (0, .ref 56), (2, .int x2), (4, .int x4)]) dX11_reckons_149 rfl rfl (by decide) rfl ?_
            refine kR.aload_n dX11_reckons_152 2 rfl ?_
            refine kR.getR (v := 95) dX11_reckons_153 flX11_195 zcf11 zp56 (Or.inr ⟨_, rfl⟩) rfl ?_
            refine kR.iload_n dX11_reckons_156 0 rfl ?_
            refine zR.iconst (v := 1) dX11_reckons_157 (by decide) ?_
            refine zR.isub dX11_reckons_158 ?_
            refine kR.iload dX11_reckons_159 1 rfl ?_
            refine kR.aload_n dX11_reckons_161 2 rfl ?_
            refine kR.getR (v := 95) dX11_reckons_162 flX11_195 zcf11 zp56 (Or.inr ⟨_, rfl⟩) rfl ?_
            refine kR.iload_n dX11_reckons_165 0 rfl ?_
            refine zR.iconst (v := 1) dX11_reckons_166 (by decide) ?_
            refine zR.isub dX11_reckons_167 ?_
            refine kR.lald dX11_reckons_168 zp95 rfl h (fun v3 h => ?_)
            refine kR.aload_n dX11_reckons_169 2 rfl ?_
            refine kR.getR (v := 95) dX11_reckons_170 flX11_195 zcf11 zp56 (Or.inr ⟨_, rfl⟩) rfl ?_
            refine kR.iload_n dX11_reckons_173 0 rfl ?_
            refine kR.lald dX11_reckons_174 zp95 rfl h (fun v4 h => ?_)
            obtain ⟨v5, e6, h⟩ := bnr_some h
            refine kR.cSl [.int v2, .long v3, .long v4] dX11_reckons_175 rfl (by decide) (Or.inl mwX11_465) rfl (Nat.le_of_ble_eq_true rfl) (lX11_two v2 v3 v4 _ e6) ?_
            refine kR.last dX11_reckons_178 zp95 rfl h (fun σ7 h => ?_)
            refine zR.sub [2, 3, 0, 4] rfl ?_
            exact kX11_reckons_179 (fX11_reckons_14 f) ih _ _ _ _ _ h
          · refine zR.iinc 3 (v := x3 + (-2)) (ls' := [(3, .int (x3 + (-2))), (5, .int v2), (0, .ref 56), (2, .int x2), (4, .int x4)]) dX11_reckons_105 rfl rfl (by decide) rfl ?_
            refine kR.aload_n dX11_reckons_108 2 rfl ?_
            refine kR.getR (v := 95) dX11_reckons_109 flX11_195 zcf11 zp56 (Or.inr ⟨_, rfl⟩) rfl ?_
            refine kR.iload_n dX11_reckons_112 0 rfl ?_
            refine zR.iconst (v := 1) dX11_reckons_113 (by decide) ?_
            refine zR.isub dX11_reckons_114 ?_
            refine kR.aload_n dX11_reckons_115 2 rfl ?_
            refine kR.getR (v := 95) dX11_reckons_116 flX11_195 zcf11 zp56 (Or.inr ⟨_, rfl⟩) rfl ?_
            refine kR.iload_n dX11_reckons_119 0 rfl ?_
            refine zR.iconst (v := 1) dX11_reckons_120 (by decide) ?_
            refine zR.isub dX11_reckons_121 ?_
            refine kR.lald dX11_reckons_122 zp95 rfl h (fun v8 h => ?_)
            refine zR.lconst (v := 1) dX11_reckons_123 (by decide) ?_
            refine kR.lcmp_ne (tgt := 137) dX11_reckons_124 dX11_reckons_125 (by decide) h (fun h => ?_) (fun h => ?_)
            · refine kR.aload_n dX11_reckons_137 2 rfl ?_
              refine kR.getR (v := 95) dX11_reckons_138 flX11_195 zcf11 zp56 (Or.inr ⟨_, rfl⟩) rfl ?_
              refine kR.iload_n dX11_reckons_141 0 rfl ?_
              refine zR.iconst (v := 1) dX11_reckons_142 (by decide) ?_
              refine zR.iadd dX11_reckons_143 ?_
              refine kR.lald dX11_reckons_144 zp95 rfl h (fun v9 h => ?_)
              refine zR.sub [2, 3, 0, 4] rfl ?_
              exact kX11_reckons_145 (fX11_reckons_14 f) ih _ _ _ _ _ _ _ h
            · refine kR.aload_n dX11_reckons_128 2 rfl ?_
              refine kR.getR (v := 95) dX11_reckons_129 flX11_195 zcf11 zp56 (Or.inr ⟨_, rfl⟩) rfl ?_
              refine kR.iload_n dX11_reckons_132 0 rfl ?_
              refine kR.lald dX11_reckons_133 zp95 rfl h (fun v11 h => ?_)
              refine zR.goto (tgt := 145) dX11_reckons_134 (by decide) ?_
              refine zR.sub [2, 3, 0, 4] rfl ?_
              exact kX11_reckons_145 (fX11_reckons_14 f) ih _ _ _ _ _ _ _ h
        · refine kR.aload_n dX11_reckons_77 1 rfl ?_
          refine kR.getR (v := 95) dX11_reckons_78 flX11_195 zcf11 zp56 (Or.inr ⟨_, rfl⟩) rfl ?_
          refine kR.iload_n dX11_reckons_81 3 rfl ?_
          refine zR.iconst (v := 1) dX11_reckons_82 (by decide) ?_
          refine zR.isub dX11_reckons_83 ?_
          refine zR.lconst (v := 1) dX11_reckons_84 (by decide) ?_
          refine kR.aload_n dX11_reckons_85 1 rfl ?_
          refine kR.getR (v := 95) dX11_reckons_86 flX11_195 zcf11 zp56 (Or.inr ⟨_, rfl⟩) rfl ?_
          refine kR.iload_n dX11_reckons_89 3 rfl ?_
          refine zR.iconst (v := 1) dX11_reckons_90 (by decide) ?_
          refine zR.isub dX11_reckons_91 ?_
          refine kR.lald dX11_reckons_92 zp95 rfl h (fun v12 h => ?_)
          refine zR.lsub dX11_reckons_93 ?_
          refine kR.last dX11_reckons_94 zp95 rfl h (fun σ13 h => ?_)
          refine zR.goto (tgt := 179) dX11_reckons_95 (by decide) ?_
          refine zR.sub [1, 2, 3, 4] rfl ?_
          exact kX11_reckons_179 (fX11_reckons_14 f) ih _ _ _ _ _ h
      · refine kR.aload_n dX11_reckons_45 1 rfl ?_
        refine kR.getR (v := 95) dX11_reckons_46 flX11_195 zcf11 zp56 (Or.inr ⟨_, rfl⟩) rfl ?_
        refine kR.iload_n dX11_reckons_49 3 rfl ?_
        refine kR.aload_n dX11_reckons_50 1 rfl ?_
        refine kR.iload dX11_reckons_51 0 rfl ?_
        refine kR.aload_n dX11_reckons_53 1 rfl ?_
        refine kR.getR (v := 75) dX11_reckons_54 flX11_105 zcf11 zp56 (Or.inr ⟨_, rfl⟩) rfl ?_
        refine kR.iload dX11_reckons_57 4 rfl ?_
        refine kR.iald dX11_reckons_59 zp75 rfl h (fun v14 h => ?_)
        refine kR.cVl [.int v2, .int v14] dX11_reckons_60 rfl (by decide) mwX11_461 zp56 (by decide) rfl rfl (Nat.le_of_ble_eq_true rfl) (lX11_part σ v2 v14) ?_
        refine kR.last dX11_reckons_63 zp95 rfl h (fun σ15 h => ?_)
        refine zR.iinc 3 (v := x3 + 1) (ls' := [(3, .int (x3 + 1)), (5, .int v2), (0, .ref 56), (2, .int x2), (4, .int x4)]) dX11_reckons_64 rfl rfl (by decide) rfl ?_
        refine zR.goto (tgt := 179) dX11_reckons_67 (by decide) ?_
        refine zR.sub [2, 3, 0, 4] rfl ?_
        exact kX11_reckons_179 (fX11_reckons_14 f) ih _ _ _ _ _ h
def fX11_reckons (p1 : Int32) (p2 : Int32) (σ : zS) : Option (Int64 × zS) := fX11_reckons_14 zF p2 0 ((1600 * (iG σ 56 13)) + p1) σ
theorem eX11_reckons {sc : Nat × (Nat → Int32)} (p1 : Int32) (p2 : Int32) (σ : zS) (w : Int64 × zS) (h : fX11_reckons p1 p2 σ = some w) : zR (zY0 sc) 3 0 0 mX11_reckons 0 [(0, .ref 56), (1, .int p1), (2, .int p2)] [] (zE σ) (some (.long w.1), zE w.2) := by
  unfold fX11_reckons at h
  refine zR.iconst (v := 0) dX11_reckons_0 (by decide) ?_
  refine zR.istore_n (i := 3) (ls' := [(3, .int 0), (0, .ref 56), (1, .int p1), (2, .int p2)]) dX11_reckons_1 rfl (by decide) rfl ?_
  refine zR.sipush (v := 1600) dX11_reckons_2 (by decide) ?_
  refine kR.aload_n dX11_reckons_5 1 rfl ?_
  refine kR.getI dX11_reckons_6 flX11_51 zcf11 zp56 (Or.inl rfl) ?_
  refine zR.imul dX11_reckons_9 ?_
  refine kR.iload_n dX11_reckons_10 2 rfl ?_
  refine zR.iadd dX11_reckons_11 ?_
  refine zR.istore (i := 4) (ls' := [(4, .int ((1600 * (iG σ 56 13)) + p1)), (3, .int 0), (0, .ref 56), (1, .int p1), (2, .int p2)]) dX11_reckons_12 (by decide) rfl ?_
  refine zR.sub [2, 4, 1, 0] rfl ?_
  exact kX11_reckons_14 zF _ _ _ _ _ h
theorem lX11_reckons {sc : Nat × (Nat → Int32)} (p1 : Int32) (p2 : Int32) (σ : zS) (w : Int64 × zS) (h : fX11_reckons p1 p2 σ = some w) : zC (zY0 sc) 3 0 0 mX11_reckons [.ref 56, .int p1, .int p2] (zE σ) (some (.long w.1), zE w.2) := zC.of (by decide +kernel) (Nat.le_of_ble_eq_true rfl) rfl (eX11_reckons p1 p2 σ w h)
theorem dX11_between_0 : decode cX11_between 0 = .ok (.lload_n 0, 1) := by decide +kernel
theorem dX11_between_1 : decode cX11_between 1 = .ok (.iload_n 2, 1) := by decide +kernel
theorem dX11_between_2 : decode cX11_between 2 = .ok (.i2l, 1) := by decide +kernel
theorem dX11_between_3 : decode cX11_between 3 = .ok (.lcmp, 1) := by decide +kernel
theorem dX11_between_4 : decode cX11_between 4 = .ok (.ifCond .ge 7, 3) := by decide +kernel
theorem dX11_between_7 : decode cX11_between 7 = .ok (.iload_n 2, 1) := by decide +kernel
theorem dX11_between_8 : decode cX11_between 8 = .ok (.goto 16, 3) := by decide +kernel
theorem dX11_between_11 : decode cX11_between 11 = .ok (.lload_n 0, 1) := by decide +kernel
theorem dX11_between_12 : decode cX11_between 12 = .ok (.iload_n 3, 1) := by decide +kernel
theorem dX11_between_13 : decode cX11_between 13 = .ok (.i2l, 1) := by decide +kernel
theorem dX11_between_14 : decode cX11_between 14 = .ok (.lcmp, 1) := by decide +kernel
theorem dX11_between_15 : decode cX11_between 15 = .ok (.ifCond .le 7, 3) := by decide +kernel
theorem dX11_between_18 : decode cX11_between 18 = .ok (.iload_n 3, 1) := by decide +kernel
theorem dX11_between_19 : decode cX11_between 19 = .ok (.goto 5, 3) := by decide +kernel
theorem dX11_between_22 : decode cX11_between 22 = .ok (.lload_n 0, 1) := by decide +kernel
theorem dX11_between_23 : decode cX11_between 23 = .ok (.l2i, 1) := by decide +kernel
theorem dX11_between_24 : decode cX11_between 24 = .ok (.ireturn, 1) := by decide +kernel
def fX11_between (p0 : Int64) (p2 : Int32) (p3 : Int32) : Int32 := if p2.toInt64 ≤ p0 then if p0 ≤ p3.toInt64 then ((p0) : Int64).toInt32 else p3 else p2
theorem eX11_between {sc : Nat × (Nat → Int32)} {μ : zM} (p0 : Int64) (p2 : Int32) (p3 : Int32) (w : Int32) (h : fX11_between p0 p2 p3 = w) : zR (zY0 sc) 1 0 0 mX11_between 0 [(0, .long p0), (2, .int p2), (3, .int p3)] [] μ (some (.int w), μ) := by
  unfold fX11_between at h
  refine kR.lload_n dX11_between_0 0 rfl ?_
  refine kR.iload_n dX11_between_1 1 rfl ?_
  refine zR.i2l dX11_between_2 ?_
  refine kR.lcmp_ge (tgt := 11) dX11_between_3 dX11_between_4 (by decide) h (fun h => ?_) (fun h => ?_)
  · refine kR.lload_n dX11_between_11 0 rfl ?_
    refine kR.iload_n dX11_between_12 2 rfl ?_
    refine zR.i2l dX11_between_13 ?_
    refine kR.lcmp_le (tgt := 22) dX11_between_14 dX11_between_15 (by decide) h (fun h => ?_) (fun h => ?_)
    · refine kR.lload_n dX11_between_22 0 rfl ?_
      refine zR.l2i dX11_between_23 ?_
      exact kR.iret dX11_between_24 (nzI rfl _) h
    · refine kR.iload_n dX11_between_18 2 rfl ?_
      refine zR.goto (tgt := 24) dX11_between_19 (by decide) ?_
      exact kR.iret dX11_between_24 (nzI rfl _) h
  · refine kR.iload_n dX11_between_7 1 rfl ?_
    refine zR.goto (tgt := 24) dX11_between_8 (by decide) ?_
    exact kR.iret dX11_between_24 (nzI rfl _) h
theorem lX11_between {sc : Nat × (Nat → Int32)} {μ : zM} (p0 : Int64) (p2 : Int32) (p3 : Int32) : zC (zY0 sc) 1 0 0 mX11_between [.long p0, .int p2, .int p3] μ (some (.int (fX11_between p0 p2 p3)), μ) := zC.of (by decide +kernel) (Nat.le_of_ble_eq_true rfl) ⟨_, rfl⟩ (eX11_between p0 p2 p3 _ rfl)
theorem dX11_asks_0 : decode cX11_asks 0 = .ok (.aload_n 0, 1) := by decide +kernel
theorem dX11_asks_1 : decode cX11_asks 1 = .ok (.iload_n 3, 1) := by decide +kernel
theorem dX11_asks_2 : decode cX11_asks 2 = .ok (.putfield 198, 3) := by decide +kernel
theorem dX11_asks_5 : decode cX11_asks 5 = .ok (.aload_n 0, 1) := by decide +kernel
theorem dX11_asks_6 : decode cX11_asks 6 = .ok (.iload_n 2, 1) := by decide +kernel
theorem dX11_asks_7 : decode cX11_asks 7 = .ok (.putfield 201, 3) := by decide +kernel
theorem dX11_asks_10 : decode cX11_asks 10 = .ok (.aload_n 0, 1) := by decide +kernel
theorem dX11_asks_11 : decode cX11_asks 11 = .ok (.iload 4, 2) := by decide +kernel
theorem dX11_asks_13 : decode cX11_asks 13 = .ok (.putfield 204, 3) := by decide +kernel
theorem dX11_asks_16 : decode cX11_asks 16 = .ok (.aload_n 0, 1) := by decide +kernel
theorem dX11_asks_17 : decode cX11_asks 17 = .ok (.iload 5, 2) := by decide +kernel
theorem dX11_asks_19 : decode cX11_asks 19 = .ok (.putfield 207, 3) := by decide +kernel
theorem dX11_asks_22 : decode cX11_asks 22 = .ok (.aload_n 0, 1) := by decide +kernel
theorem dX11_asks_23 : decode cX11_asks 23 = .ok (.iload 6, 2) := by decide +kernel
theorem dX11_asks_25 : decode cX11_asks 25 = .ok (.putfield 210, 3) := by decide +kernel
theorem dX11_asks_28 : decode cX11_asks 28 = .ok (.aload_n 0, 1) := by decide +kernel
theorem dX11_asks_29 : decode cX11_asks 29 = .ok (.aload_n 0, 1) := by decide +kernel
theorem dX11_asks_30 : decode cX11_asks 30 = .ok (.getfield 57, 3) := by decide +kernel
theorem dX11_asks_33 : decode cX11_asks 33 = .ok (.bipush 6, 2) := by decide +kernel
theorem dX11_asks_35 : decode cX11_asks 35 = .ok (.aload_n 0, 1) := by decide +kernel
theorem dX11_asks_36 : decode cX11_asks 36 = .ok (.getfield 51, 3) := by decide +kernel
theorem dX11_asks_39 : decode cX11_asks 39 = .ok (.imul, 1) := by decide +kernel
theorem dX11_asks_40 : decode cX11_asks 40 = .ok (.iload_n 1, 1) := by decide +kernel
theorem dX11_asks_41 : decode cX11_asks 41 = .ok (.iadd, 1) := by decide +kernel
theorem dX11_asks_42 : decode cX11_asks 42 = .ok (.iaload, 1) := by decide +kernel
theorem dX11_asks_43 : decode cX11_asks 43 = .ok (.putfield 213, 3) := by decide +kernel
theorem dX11_asks_46 : decode cX11_asks 46 = .ok (.return_, 1) := by decide +kernel
def fX11_asks (p1 : Int32) (p2 : Int32) (p3 : Int32) (p4 : Int32) (p5 : Int32) (p6 : Int32) (σ : zS) : Option zS := bnd (iS σ 56 61 p3) fun σ1 => bnd (iS σ1 56 62 p2) fun σ2 => bnd (iS σ2 56 63 p4) fun σ3 => bnd (iS σ3 56 64 p5) fun σ4 => bnd (iS σ4 56 65 p6) fun σ5 => aI σ5 59 12 ((6 * (iG σ5 56 13)) + p1) fun v6 => bnd (iS σ5 56 66 v6) fun σ7 => some σ7
theorem eX11_asks {sc : Nat × (Nat → Int32)} (p1 : Int32) (p2 : Int32) (p3 : Int32) (p4 : Int32) (p5 : Int32) (p6 : Int32) (σ : zS) (w : zS) (h : fX11_asks p1 p2 p3 p4 p5 p6 σ = some w) : zR (zY0 sc) 1 0 0 mX11_asks 0 [(0, .ref 56), (1, .int p1), (2, .int p2), (3, .int p3), (4, .int p4), (5, .int p5), (6, .int p6)] [] (zE σ) (none, zE w) := by
  unfold fX11_asks at h
  refine kR.aload_n dX11_asks_0 0 rfl ?_
  refine kR.iload_n dX11_asks_1 3 rfl ?_
  refine kR.putI dX11_asks_2 fpX11_198 zcf11 zp56 rfl h (fun σ1 h => ?_)
  refine kR.aload_n dX11_asks_5 0 rfl ?_
  refine kR.iload_n dX11_asks_6 2 rfl ?_
  refine kR.putI dX11_asks_7 fpX11_201 zcf11 zp56 rfl h (fun σ2 h => ?_)
  refine kR.aload_n dX11_asks_10 0 rfl ?_
  refine kR.iload dX11_asks_11 4 rfl ?_
  refine kR.putI dX11_asks_13 fpX11_204 zcf11 zp56 rfl h (fun σ3 h => ?_)
  refine kR.aload_n dX11_asks_16 0 rfl ?_
  refine kR.iload dX11_asks_17 5 rfl ?_
  refine kR.putI dX11_asks_19 fpX11_207 zcf11 zp56 rfl h (fun σ4 h => ?_)
  refine kR.aload_n dX11_asks_22 0 rfl ?_
  refine kR.iload dX11_asks_23 6 rfl ?_
  refine kR.putI dX11_asks_25 fpX11_210 zcf11 zp56 rfl h (fun σ5 h => ?_)
  refine kR.aload_n dX11_asks_28 0 rfl ?_
  refine kR.aload_n dX11_asks_29 0 rfl ?_
  refine kR.getR (v := 59) dX11_asks_30 flX11_57 zcf11 zp56 (Or.inr ⟨_, rfl⟩) rfl ?_
  refine zR.bipush (v := 6) dX11_asks_33 (by decide) ?_
  refine kR.aload_n dX11_asks_35 0 rfl ?_
  refine kR.getI dX11_asks_36 flX11_51 zcf11 zp56 (Or.inl rfl) ?_
  refine zR.imul dX11_asks_39 ?_
  refine kR.iload_n dX11_asks_40 1 rfl ?_
  refine zR.iadd dX11_asks_41 ?_
  refine kR.iald dX11_asks_42 zp59 rfl h (fun v6 h => ?_)
  refine kR.putI dX11_asks_43 fpX11_213 zcf11 zp56 rfl h (fun σ7 h => ?_)
  exact kR.vret dX11_asks_46 h
theorem lX11_asks {sc : Nat × (Nat → Int32)} (p1 : Int32) (p2 : Int32) (p3 : Int32) (p4 : Int32) (p5 : Int32) (p6 : Int32) (σ : zS) (w : zS) (h : fX11_asks p1 p2 p3 p4 p5 p6 σ = some w) : zC (zY0 sc) 1 0 0 mX11_asks [.ref 56, .int p1, .int p2, .int p3, .int p4, .int p5, .int p6] (zE σ) (none, zE w) := zC.of (by decide +kernel) (Nat.le_of_ble_eq_true rfl) rfl (eX11_asks p1 p2 p3 p4 p5 p6 σ w h)
theorem dX11_worthNow_0 : decode cX11_worthNow 0 = .ok (.aload_n 0, 1) := by decide +kernel
theorem dX11_worthNow_1 : decode cX11_worthNow 1 = .ok (.getfield 84, 3) := by decide +kernel
theorem dX11_worthNow_4 : decode cX11_worthNow 4 = .ok (.aload_n 0, 1) := by decide +kernel
theorem dX11_worthNow_5 : decode cX11_worthNow 5 = .ok (.getfield 51, 3) := by decide +kernel
theorem dX11_worthNow_8 : decode cX11_worthNow 8 = .ok (.iaload, 1) := by decide +kernel
theorem dX11_worthNow_9 : decode cX11_worthNow 9 = .ok (.iconst (-1), 1) := by decide +kernel
theorem dX11_worthNow_10 : decode cX11_worthNow 10 = .ok (.if_icmp .ne 7, 3) := by decide +kernel
theorem dX11_worthNow_13 : decode cX11_worthNow 13 = .ok (.iconst 0, 1) := by decide +kernel
theorem dX11_worthNow_14 : decode cX11_worthNow 14 = .ok (.goto 34, 3) := by decide +kernel
theorem dX11_worthNow_17 : decode cX11_worthNow 17 = .ok (.aload_n 0, 1) := by decide +kernel
theorem dX11_worthNow_18 : decode cX11_worthNow 18 = .ok (.aload_n 0, 1) := by decide +kernel
theorem dX11_worthNow_19 : decode cX11_worthNow 19 = .ok (.getfield 84, 3) := by decide +kernel
theorem dX11_worthNow_22 : decode cX11_worthNow 22 = .ok (.aload_n 0, 1) := by decide +kernel
theorem dX11_worthNow_23 : decode cX11_worthNow 23 = .ok (.getfield 51, 3) := by decide +kernel
theorem dX11_worthNow_26 : decode cX11_worthNow 26 = .ok (.iaload, 1) := by decide +kernel
theorem dX11_worthNow_27 : decode cX11_worthNow 27 = .ok (.aload_n 0, 1) := by decide +kernel
theorem dX11_worthNow_28 : decode cX11_worthNow 28 = .ok (.getfield 87, 3) := by decide +kernel
theorem dX11_worthNow_31 : decode cX11_worthNow 31 = .ok (.aload_n 0, 1) := by decide +kernel
theorem dX11_worthNow_32 : decode cX11_worthNow 32 = .ok (.getfield 51, 3) := by decide +kernel
theorem dX11_worthNow_35 : decode cX11_worthNow 35 = .ok (.iaload, 1) := by decide +kernel
theorem dX11_worthNow_36 : decode cX11_worthNow 36 = .ok (.invokevirtual 469, 3) := by decide +kernel
theorem dX11_worthNow_39 : decode cX11_worthNow 39 = .ok (.sipush (-999), 3) := by decide +kernel
theorem dX11_worthNow_42 : decode cX11_worthNow 42 = .ok (.sipush 999, 3) := by decide +kernel
theorem dX11_worthNow_45 : decode cX11_worthNow 45 = .ok (.invokestatic 472, 3) := by decide +kernel
theorem dX11_worthNow_48 : decode cX11_worthNow 48 = .ok (.ireturn, 1) := by decide +kernel
def fX11_worthNow (σ : zS) : Option (Int32 × zS) := aI σ 68 2 (iG σ 56 13) fun v1 => if v1 = ((-1)) then some (0, σ) else aI σ 68 2 (iG σ 56 13) fun v2 => aI σ 69 2 (iG σ 56 13) fun v3 => bnc (fX11_reckons v2 v3 σ) fun v6 σ4 => some (fX11_between v6 ((-999)) 999, σ4)
theorem eX11_worthNow {sc : Nat × (Nat → Int32)} (σ : zS) (w : Int32 × zS) (h : fX11_worthNow σ = some w) : zR (zY0 sc) 4 0 0 mX11_worthNow 0 [(0, .ref 56)] [] (zE σ) (some (.int w.1), zE w.2) := by
  unfold fX11_worthNow at h
  refine kR.aload_n dX11_worthNow_0 0 rfl ?_
  refine kR.getR (v := 68) dX11_worthNow_1 flX11_84 zcf11 zp56 (Or.inr ⟨_, rfl⟩) rfl ?_
  refine kR.aload_n dX11_worthNow_4 0 rfl ?_
  refine kR.getI dX11_worthNow_5 flX11_51 zcf11 zp56 (Or.inl rfl) ?_
  refine kR.iald dX11_worthNow_8 zp68 rfl h (fun v1 h => ?_)
  refine zR.iconst (v := (-1)) dX11_worthNow_9 (by decide) ?_
  refine kR.icmp_ne (tgt := 17) dX11_worthNow_10 (by decide) h (fun h => ?_) (fun h => ?_)
  · refine kR.aload_n dX11_worthNow_17 0 rfl ?_
    refine kR.aload_n dX11_worthNow_18 0 rfl ?_
    refine kR.getR (v := 68) dX11_worthNow_19 flX11_84 zcf11 zp56 (Or.inr ⟨_, rfl⟩) rfl ?_
    refine kR.aload_n dX11_worthNow_22 0 rfl ?_
    refine kR.getI dX11_worthNow_23 flX11_51 zcf11 zp56 (Or.inl rfl) ?_
    refine kR.iald dX11_worthNow_26 zp68 rfl h (fun v2 h => ?_)
    refine kR.aload_n dX11_worthNow_27 0 rfl ?_
    refine kR.getR (v := 69) dX11_worthNow_28 flX11_87 zcf11 zp56 (Or.inr ⟨_, rfl⟩) rfl ?_
    refine kR.aload_n dX11_worthNow_31 0 rfl ?_
    refine kR.getI dX11_worthNow_32 flX11_51 zcf11 zp56 (Or.inl rfl) ?_
    refine kR.iald dX11_worthNow_35 zp69 rfl h (fun v3 h => ?_)
    obtain ⟨v6, σ4, e5, h⟩ := bnc_some h
    refine kR.cVl [.int v2, .int v3] dX11_worthNow_36 rfl (by decide) mwX11_469 zp56 (by decide) rfl rfl (Nat.le_of_ble_eq_true rfl) (lX11_reckons v2 v3 σ _ e5) ?_
    refine zR.sipush (v := (-999)) dX11_worthNow_39 (by decide) ?_
    refine zR.sipush (v := 999) dX11_worthNow_42 (by decide) ?_
    refine kR.cSi [.long v6, .int ((-999)), .int 999] dX11_worthNow_45 rfl (by decide) (Or.inl mwX11_472) rfl (Nat.le_of_ble_eq_true rfl) (lX11_between v6 ((-999)) 999) ?_
    exact kR.iretW dX11_worthNow_48 (nzI rfl _) h
  · refine zR.iconst (v := 0) dX11_worthNow_13 (by decide) ?_
    refine zR.goto (tgt := 48) dX11_worthNow_14 (by decide) ?_
    exact kR.iretW dX11_worthNow_48 (nzI rfl _) h
theorem lX11_worthNow {sc : Nat × (Nat → Int32)} (σ : zS) (w : Int32 × zS) (h : fX11_worthNow σ = some w) : zC (zY0 sc) 4 0 0 mX11_worthNow [.ref 56] (zE σ) (some (.int w.1), zE w.2) := zC.of (by decide +kernel) (Nat.le_of_ble_eq_true rfl) ⟨_, rfl⟩ (eX11_worthNow σ w h)
theorem dX11_breathNow_0 : decode cX11_breathNow 0 = .ok (.aload_n 0, 1) := by decide +kernel
theorem dX11_breathNow_1 : decode cX11_breathNow 1 = .ok (.getfield 90, 3) := by decide +kernel
theorem dX11_breathNow_4 : decode cX11_breathNow 4 = .ok (.aload_n 0, 1) := by decide +kernel
theorem dX11_breathNow_5 : decode cX11_breathNow 5 = .ok (.getfield 51, 3) := by decide +kernel
theorem dX11_breathNow_8 : decode cX11_breathNow 8 = .ok (.iaload, 1) := by decide +kernel
theorem dX11_breathNow_9 : decode cX11_breathNow 9 = .ok (.iconst (-1), 1) := by decide +kernel
theorem dX11_breathNow_10 : decode cX11_breathNow 10 = .ok (.if_icmp .ne 10, 3) := by decide +kernel
theorem dX11_breathNow_13 : decode cX11_breathNow 13 = .ok (.aload_n 0, 1) := by decide +kernel
theorem dX11_breathNow_14 : decode cX11_breathNow 14 = .ok (.getfield 210, 3) := by decide +kernel
theorem dX11_breathNow_17 : decode cX11_breathNow 17 = .ok (.goto 31, 3) := by decide +kernel
theorem dX11_breathNow_20 : decode cX11_breathNow 20 = .ok (.aload_n 0, 1) := by decide +kernel
theorem dX11_breathNow_21 : decode cX11_breathNow 21 = .ok (.aload_n 0, 1) := by decide +kernel
theorem dX11_breathNow_22 : decode cX11_breathNow 22 = .ok (.getfield 90, 3) := by decide +kernel
theorem dX11_breathNow_25 : decode cX11_breathNow 25 = .ok (.aload_n 0, 1) := by decide +kernel
theorem dX11_breathNow_26 : decode cX11_breathNow 26 = .ok (.getfield 51, 3) := by decide +kernel
theorem dX11_breathNow_29 : decode cX11_breathNow 29 = .ok (.iaload, 1) := by decide +kernel
theorem dX11_breathNow_30 : decode cX11_breathNow 30 = .ok (.aload_n 0, 1) := by decide +kernel
theorem dX11_breathNow_31 : decode cX11_breathNow 31 = .ok (.getfield 93, 3) := by decide +kernel
theorem dX11_breathNow_34 : decode cX11_breathNow 34 = .ok (.aload_n 0, 1) := by decide +kernel
theorem dX11_breathNow_35 : decode cX11_breathNow 35 = .ok (.getfield 51, 3) := by decide +kernel
theorem dX11_breathNow_38 : decode cX11_breathNow 38 = .ok (.iaload, 1) := by decide +kernel
theorem dX11_breathNow_39 : decode cX11_breathNow 39 = .ok (.invokevirtual 469, 3) := by decide +kernel
theorem dX11_breathNow_42 : decode cX11_breathNow 42 = .ok (.iconst 0, 1) := by decide +kernel
theorem dX11_breathNow_43 : decode cX11_breathNow 43 = .ok (.bipush 60, 2) := by decide +kernel
theorem dX11_breathNow_45 : decode cX11_breathNow 45 = .ok (.invokestatic 472, 3) := by decide +kernel
theorem dX11_breathNow_48 : decode cX11_breathNow 48 = .ok (.ireturn, 1) := by decide +kernel
def fX11_breathNow (σ : zS) : Option (Int32 × zS) := aI σ 70 2 (iG σ 56 13) fun v1 => if v1 = ((-1)) then some (iG σ 56 65, σ) else aI σ 70 2 (iG σ 56 13) fun v2 => aI σ 71 2 (iG σ 56 13) fun v3 => bnc (fX11_reckons v2 v3 σ) fun v6 σ4 => some (fX11_between v6 0 60, σ4)
theorem eX11_breathNow {sc : Nat × (Nat → Int32)} (σ : zS) (w : Int32 × zS) (h : fX11_breathNow σ = some w) : zR (zY0 sc) 4 0 0 mX11_breathNow 0 [(0, .ref 56)] [] (zE σ) (some (.int w.1), zE w.2) := by
  unfold fX11_breathNow at h
  refine kR.aload_n dX11_breathNow_0 0 rfl ?_
  refine kR.getR (v := 70) dX11_breathNow_1 flX11_90 zcf11 zp56 (Or.inr ⟨_, rfl⟩) rfl ?_
  refine kR.aload_n dX11_breathNow_4 0 rfl ?_
  refine kR.getI dX11_breathNow_5 flX11_51 zcf11 zp56 (Or.inl rfl) ?_
  refine kR.iald dX11_breathNow_8 zp70 rfl h (fun v1 h => ?_)
  refine zR.iconst (v := (-1)) dX11_breathNow_9 (by decide) ?_
  refine kR.icmp_ne (tgt := 20) dX11_breathNow_10 (by decide) h (fun h => ?_) (fun h => ?_)
  · refine kR.aload_n dX11_breathNow_20 0 rfl ?_
    refine kR.aload_n dX11_breathNow_21 0 rfl ?_
    refine kR.getR (v := 70) dX11_breathNow_22 flX11_90 zcf11 zp56 (Or.inr ⟨_, rfl⟩) rfl ?_
    refine kR.aload_n dX11_breathNow_25 0 rfl ?_
    refine kR.getI dX11_breathNow_26 flX11_51 zcf11 zp56 (Or.inl rfl) ?_
    refine kR.iald dX11_breathNow_29 zp70 rfl h (fun v2 h => ?_)
    refine kR.aload_n dX11_breathNow_30 0 rfl ?_
    refine kR.getR (v := 71) dX11_breathNow_31 flX11_93 zcf11 zp56 (Or.inr ⟨_, rfl⟩) rfl ?_
    refine kR.aload_n dX11_breathNow_34 0 rfl ?_
    refine kR.getI dX11_breathNow_35 flX11_51 zcf11 zp56 (Or.inl rfl) ?_
    refine kR.iald dX11_breathNow_38 zp71 rfl h (fun v3 h => ?_)
    obtain ⟨v6, σ4, e5, h⟩ := bnc_some h
    refine kR.cVl [.int v2, .int v3] dX11_breathNow_39 rfl (by decide) mwX11_469 zp56 (by decide) rfl rfl (Nat.le_of_ble_eq_true rfl) (lX11_reckons v2 v3 σ _ e5) ?_
    refine zR.iconst (v := 0) dX11_breathNow_42 (by decide) ?_
    refine zR.bipush (v := 60) dX11_breathNow_43 (by decide) ?_
    refine kR.cSi [.long v6, .int 0, .int 60] dX11_breathNow_45 rfl (by decide) (Or.inl mwX11_472) rfl (Nat.le_of_ble_eq_true rfl) (lX11_between v6 0 60) ?_
    exact kR.iretW dX11_breathNow_48 (nzI rfl _) h
  · refine kR.aload_n dX11_breathNow_13 0 rfl ?_
    refine kR.getI dX11_breathNow_14 flX11_210 zcf11 zp56 (Or.inl rfl) ?_
    refine zR.goto (tgt := 48) dX11_breathNow_17 (by decide) ?_
    exact kR.iretW dX11_breathNow_48 (nzI rfl _) h
theorem lX11_breathNow {sc : Nat × (Nat → Int32)} (σ : zS) (w : Int32 × zS) (h : fX11_breathNow σ = some w) : zC (zY0 sc) 4 0 0 mX11_breathNow [.ref 56] (zE σ) (some (.int w.1), zE w.2) := zC.of (by decide +kernel) (Nat.le_of_ble_eq_true rfl) ⟨_, rfl⟩ (eX11_breathNow σ w h)
theorem dX11_worthAlone_0 : decode cX11_worthAlone 0 = .ok (.aload_n 0, 1) := by decide +kernel
theorem dX11_worthAlone_1 : decode cX11_worthAlone 1 = .ok (.iload_n 1, 1) := by decide +kernel
theorem dX11_worthAlone_2 : decode cX11_worthAlone 2 = .ok (.iload_n 2, 1) := by decide +kernel
theorem dX11_worthAlone_3 : decode cX11_worthAlone 3 = .ok (.iload_n 3, 1) := by decide +kernel
theorem dX11_worthAlone_4 : decode cX11_worthAlone 4 = .ok (.iconst 1, 1) := by decide +kernel
theorem dX11_worthAlone_5 : decode cX11_worthAlone 5 = .ok (.iconst 0, 1) := by decide +kernel
theorem dX11_worthAlone_6 : decode cX11_worthAlone 6 = .ok (.iload 4, 2) := by decide +kernel
theorem dX11_worthAlone_8 : decode cX11_worthAlone 8 = .ok (.invokevirtual 476, 3) := by decide +kernel
theorem dX11_worthAlone_11 : decode cX11_worthAlone 11 = .ok (.aload_n 0, 1) := by decide +kernel
theorem dX11_worthAlone_12 : decode cX11_worthAlone 12 = .ok (.invokevirtual 480, 3) := by decide +kernel
theorem dX11_worthAlone_15 : decode cX11_worthAlone 15 = .ok (.ireturn, 1) := by decide +kernel
def fX11_worthAlone (p1 : Int32) (p2 : Int32) (p3 : Int32) (p4 : Int32) (σ : zS) : Option (Int32 × zS) := bnr (fX11_asks p1 p2 p3 1 0 p4 σ) fun σ1 => bnc (fX11_worthNow σ1) fun v5 σ3 => some (v5, σ3)
theorem eX11_worthAlone {sc : Nat × (Nat → Int32)} (p1 : Int32) (p2 : Int32) (p3 : Int32) (p4 : Int32) (σ : zS) (w : Int32 × zS) (h : fX11_worthAlone p1 p2 p3 p4 σ = some w) : zR (zY0 sc) 5 0 0 mX11_worthAlone 0 [(0, .ref 56), (1, .int p1), (2, .int p2), (3, .int p3), (4, .int p4)] [] (zE σ) (some (.int w.1), zE w.2) := by
  unfold fX11_worthAlone at h
  refine kR.aload_n dX11_worthAlone_0 0 rfl ?_
  refine kR.iload_n dX11_worthAlone_1 1 rfl ?_
  refine kR.iload_n dX11_worthAlone_2 2 rfl ?_
  refine kR.iload_n dX11_worthAlone_3 3 rfl ?_
  refine zR.iconst (v := 1) dX11_worthAlone_4 (by decide) ?_
  refine zR.iconst (v := 0) dX11_worthAlone_5 (by decide) ?_
  refine kR.iload dX11_worthAlone_6 4 rfl ?_
  obtain ⟨σ1, e2, h⟩ := bnr_some h
  refine kR.cVv [.int p1, .int p2, .int p3, .int 1, .int 0, .int p4] dX11_worthAlone_8 rfl (by decide) mwX11_476 zp56 (by decide) rfl rfl (Nat.le_of_ble_eq_true rfl) (lX11_asks p1 p2 p3 1 0 p4 σ _ e2) ?_
  refine kR.aload_n dX11_worthAlone_11 0 rfl ?_
  obtain ⟨v5, σ3, e4, h⟩ := bnc_some h
  refine kR.cVi [] dX11_worthAlone_12 rfl (by decide) mwX11_480 zp56 (by decide) rfl rfl (Nat.le_of_ble_eq_true rfl) (lX11_worthNow σ1 _ e4) ?_
  exact kR.iretW dX11_worthAlone_15 (nzI rfl _) h
theorem lX11_worthAlone {sc : Nat × (Nat → Int32)} (p1 : Int32) (p2 : Int32) (p3 : Int32) (p4 : Int32) (σ : zS) (w : Int32 × zS) (h : fX11_worthAlone p1 p2 p3 p4 σ = some w) : zC (zY0 sc) 5 0 0 mX11_worthAlone [.ref 56, .int p1, .int p2, .int p3, .int p4] (zE σ) (some (.int w.1), zE w.2) := zC.of (by decide +kernel) (Nat.le_of_ble_eq_true rfl) ⟨_, rfl⟩ (eX11_worthAlone p1 p2 p3 p4 σ w h)
theorem dX11_lesser_0 : decode cX11_lesser 0 = .ok (.iload_n 0, 1) := by decide +kernel
theorem dX11_lesser_1 : decode cX11_lesser 1 = .ok (.iload_n 1, 1) := by decide +kernel
theorem dX11_lesser_2 : decode cX11_lesser 2 = .ok (.if_icmp .ge 7, 3) := by decide +kernel
theorem dX11_lesser_5 : decode cX11_lesser 5 = .ok (.iload_n 0, 1) := by decide +kernel
theorem dX11_lesser_6 : decode cX11_lesser 6 = .ok (.goto 4, 3) := by decide +kernel
theorem dX11_lesser_9 : decode cX11_lesser 9 = .ok (.iload_n 1, 1) := by decide +kernel
theorem dX11_lesser_10 : decode cX11_lesser 10 = .ok (.ireturn, 1) := by decide +kernel
def fX11_lesser (p0 : Int32) (p1 : Int32) : Int32 := if p1 ≤ p0 then p1 else p0
theorem eX11_lesser {sc : Nat × (Nat → Int32)} {μ : zM} (p0 : Int32) (p1 : Int32) (w : Int32) (h : fX11_lesser p0 p1 = w) : zR (zY0 sc) 1 0 0 mX11_lesser 0 [(0, .int p0), (1, .int p1)] [] μ (some (.int w), μ) := by
  unfold fX11_lesser at h
  refine kR.iload_n dX11_lesser_0 0 rfl ?_
  refine kR.iload_n dX11_lesser_1 1 rfl ?_
  refine kR.icmp_ge (tgt := 9) dX11_lesser_2 (by decide) h (fun h => ?_) (fun h => ?_)
  · refine kR.iload_n dX11_lesser_9 1 rfl ?_
    exact kR.iret dX11_lesser_10 (nzI rfl _) h
  · refine kR.iload_n dX11_lesser_5 0 rfl ?_
    refine zR.goto (tgt := 10) dX11_lesser_6 (by decide) ?_
    exact kR.iret dX11_lesser_10 (nzI rfl _) h
theorem lX11_lesser {sc : Nat × (Nat → Int32)} {μ : zM} (p0 : Int32) (p1 : Int32) : zC (zY0 sc) 1 0 0 mX11_lesser [.int p0, .int p1] μ (some (.int (fX11_lesser p0 p1)), μ) := zC.of (by decide +kernel) (Nat.le_of_ble_eq_true rfl) ⟨_, rfl⟩ (eX11_lesser p0 p1 _ rfl)
theorem dX11_holdOf_0 : decode cX11_holdOf 0 = .ok (.aload_n 0, 1) := by decide +kernel
theorem dX11_holdOf_1 : decode cX11_holdOf 1 = .ok (.getfield 159, 3) := by decide +kernel
theorem dX11_holdOf_4 : decode cX11_holdOf 4 = .ok (.iload_n 1, 1) := by decide +kernel
theorem dX11_holdOf_5 : decode cX11_holdOf 5 = .ok (.iaload, 1) := by decide +kernel
theorem dX11_holdOf_6 : decode cX11_holdOf 6 = .ok (.aload_n 0, 1) := by decide +kernel
theorem dX11_holdOf_7 : decode cX11_holdOf 7 = .ok (.getfield 162, 3) := by decide +kernel
theorem dX11_holdOf_10 : decode cX11_holdOf 10 = .ok (.iload_n 1, 1) := by decide +kernel
theorem dX11_holdOf_11 : decode cX11_holdOf 11 = .ok (.iaload, 1) := by decide +kernel
theorem dX11_holdOf_12 : decode cX11_holdOf 12 = .ok (.invokestatic 484, 3) := by decide +kernel
theorem dX11_holdOf_15 : decode cX11_holdOf 15 = .ok (.istore 4, 2) := by decide +kernel
theorem dX11_holdOf_17 : decode cX11_holdOf 17 = .ok (.aload_n 0, 1) := by decide +kernel
theorem dX11_holdOf_18 : decode cX11_holdOf 18 = .ok (.getfield 168, 3) := by decide +kernel
theorem dX11_holdOf_21 : decode cX11_holdOf 21 = .ok (.bipush 6, 2) := by decide +kernel
theorem dX11_holdOf_23 : decode cX11_holdOf 23 = .ok (.iload_n 1, 1) := by decide +kernel
theorem dX11_holdOf_24 : decode cX11_holdOf 24 = .ok (.imul, 1) := by decide +kernel
theorem dX11_holdOf_25 : decode cX11_holdOf 25 = .ok (.iload_n 2, 1) := by decide +kernel
theorem dX11_holdOf_26 : decode cX11_holdOf 26 = .ok (.iadd, 1) := by decide +kernel
theorem dX11_holdOf_27 : decode cX11_holdOf 27 = .ok (.iaload, 1) := by decide +kernel
theorem dX11_holdOf_28 : decode cX11_holdOf 28 = .ok (.iload 4, 2) := by decide +kernel
theorem dX11_holdOf_30 : decode cX11_holdOf 30 = .ok (.if_icmp .le 7, 3) := by decide +kernel
theorem dX11_holdOf_33 : decode cX11_holdOf 33 = .ok (.iconst 0, 1) := by decide +kernel
theorem dX11_holdOf_34 : decode cX11_holdOf 34 = .ok (.goto 9, 3) := by decide +kernel
theorem dX11_holdOf_37 : decode cX11_holdOf 37 = .ok (.iload_n 3, 1) := by decide +kernel
theorem dX11_holdOf_38 : decode cX11_holdOf 38 = .ok (.iload 4, 2) := by decide +kernel
theorem dX11_holdOf_40 : decode cX11_holdOf 40 = .ok (.invokestatic 484, 3) := by decide +kernel
theorem dX11_holdOf_43 : decode cX11_holdOf 43 = .ok (.ireturn, 1) := by decide +kernel
def fX11_holdOf (σ : zS) (p1 : Int32) (p2 : Int32) (p3 : Int32) : Option Int32 := aI σ 86 132 p1 fun v1 => aI σ 87 132 p1 fun v2 => aI σ 89 792 ((6 * p1) + p2) fun v3 => if v3 ≤ (fX11_lesser v1 v2) then some (fX11_lesser p3 (fX11_lesser v1 v2)) else some 0
theorem eX11_holdOf {sc : Nat × (Nat → Int32)} (σ : zS) (p1 : Int32) (p2 : Int32) (p3 : Int32) (w : Int32) (h : fX11_holdOf σ p1 p2 p3 = some w) : zR (zY0 sc) 2 0 0 mX11_holdOf 0 [(0, .ref 56), (1, .int p1), (2, .int p2), (3, .int p3)] [] (zE σ) (some (.int w), zE σ) := by
  unfold fX11_holdOf at h
  refine kR.aload_n dX11_holdOf_0 0 rfl ?_
  refine kR.getR (v := 86) dX11_holdOf_1 flX11_159 zcf11 zp56 (Or.inr ⟨_, rfl⟩) rfl ?_
  refine kR.iload_n dX11_holdOf_4 1 rfl ?_
  refine kR.iald dX11_holdOf_5 zp86 rfl h (fun v1 h => ?_)
  refine kR.aload_n dX11_holdOf_6 0 rfl ?_
  refine kR.getR (v := 87) dX11_holdOf_7 flX11_162 zcf11 zp56 (Or.inr ⟨_, rfl⟩) rfl ?_
  refine kR.iload_n dX11_holdOf_10 1 rfl ?_
  refine kR.iald dX11_holdOf_11 zp87 rfl h (fun v2 h => ?_)
  refine kR.cSi [.int v1, .int v2] dX11_holdOf_12 rfl (by decide) (Or.inl mwX11_484) rfl (Nat.le_of_ble_eq_true rfl) (lX11_lesser v1 v2) ?_
  refine zR.istore (i := 4) (ls' := [(4, .int (fX11_lesser v1 v2)), (0, .ref 56), (1, .int p1), (2, .int p2), (3, .int p3)]) dX11_holdOf_15 (by decide) rfl ?_
  refine kR.aload_n dX11_holdOf_17 1 rfl ?_
  refine kR.getR (v := 89) dX11_holdOf_18 flX11_168 zcf11 zp56 (Or.inr ⟨_, rfl⟩) rfl ?_
  refine zR.bipush (v := 6) dX11_holdOf_21 (by decide) ?_
  refine kR.iload_n dX11_holdOf_23 2 rfl ?_
  refine zR.imul dX11_holdOf_24 ?_
  refine kR.iload_n dX11_holdOf_25 3 rfl ?_
  refine zR.iadd dX11_holdOf_26 ?_
  refine kR.iald dX11_holdOf_27 zp89 rfl h (fun v3 h => ?_)
  refine kR.iload dX11_holdOf_28 0 rfl ?_
  refine kR.icmp_le (tgt := 37) dX11_holdOf_30 (by decide) h (fun h => ?_) (fun h => ?_)
  · refine kR.iload_n dX11_holdOf_37 4 rfl ?_
    refine kR.iload dX11_holdOf_38 0 rfl ?_
    refine kR.cSi [.int p3, .int (fX11_lesser v1 v2)] dX11_holdOf_40 rfl (by decide) (Or.inl mwX11_484) rfl (Nat.le_of_ble_eq_true rfl) (lX11_lesser p3 (fX11_lesser v1 v2)) ?_
    exact kR.iretO dX11_holdOf_43 (nzI rfl _) h
  · refine zR.iconst (v := 0) dX11_holdOf_33 (by decide) ?_
    refine zR.goto (tgt := 43) dX11_holdOf_34 (by decide) ?_
    exact kR.iretO dX11_holdOf_43 (nzI rfl _) h
theorem lX11_holdOf {sc : Nat × (Nat → Int32)} (σ : zS) (p1 : Int32) (p2 : Int32) (p3 : Int32) (w : Int32) (h : fX11_holdOf σ p1 p2 p3 = some w) : zC (zY0 sc) 2 0 0 mX11_holdOf [.ref 56, .int p1, .int p2, .int p3] (zE σ) (some (.int w), zE σ) := zC.of (by decide +kernel) (Nat.le_of_ble_eq_true rfl) ⟨_, rfl⟩ (eX11_holdOf σ p1 p2 p3 w h)
theorem dX11_allHold_0 : decode cX11_allHold 0 = .ok (.iconst 0, 1) := by decide +kernel
theorem dX11_allHold_1 : decode cX11_allHold 1 = .ok (.istore_n 3, 1) := by decide +kernel
theorem dX11_allHold_2 : decode cX11_allHold 2 = .ok (.iload_n 3, 1) := by decide +kernel
theorem dX11_allHold_3 : decode cX11_allHold 3 = .ok (.aload_n 0, 1) := by decide +kernel
theorem dX11_allHold_4 : decode cX11_allHold 4 = .ok (.getfield 69, 3) := by decide +kernel
theorem dX11_allHold_7 : decode cX11_allHold 7 = .ok (.aload_n 0, 1) := by decide +kernel
theorem dX11_allHold_8 : decode cX11_allHold 8 = .ok (.getfield 51, 3) := by decide +kernel
theorem dX11_allHold_11 : decode cX11_allHold 11 = .ok (.iaload, 1) := by decide +kernel
theorem dX11_allHold_12 : decode cX11_allHold 12 = .ok (.if_icmp .ge 22, 3) := by decide +kernel
theorem dX11_allHold_15 : decode cX11_allHold 15 = .ok (.aload_n 0, 1) := by decide +kernel
theorem dX11_allHold_16 : decode cX11_allHold 16 = .ok (.getfield 216, 3) := by decide +kernel
theorem dX11_allHold_19 : decode cX11_allHold 19 = .ok (.iload_n 3, 1) := by decide +kernel
theorem dX11_allHold_20 : decode cX11_allHold 20 = .ok (.aload_n 0, 1) := by decide +kernel
theorem dX11_allHold_21 : decode cX11_allHold 21 = .ok (.iload_n 3, 1) := by decide +kernel
theorem dX11_allHold_22 : decode cX11_allHold 22 = .ok (.iload_n 1, 1) := by decide +kernel
theorem dX11_allHold_23 : decode cX11_allHold 23 = .ok (.iload_n 2, 1) := by decide +kernel
theorem dX11_allHold_24 : decode cX11_allHold 24 = .ok (.invokevirtual 487, 3) := by decide +kernel
theorem dX11_allHold_27 : decode cX11_allHold 27 = .ok (.iastore, 1) := by decide +kernel
theorem dX11_allHold_28 : decode cX11_allHold 28 = .ok (.iinc 3 1, 3) := by decide +kernel
theorem dX11_allHold_31 : decode cX11_allHold 31 = .ok (.goto (-29), 3) := by decide +kernel
theorem dX11_allHold_34 : decode cX11_allHold 34 = .ok (.return_, 1) := by decide +kernel
def fX11_allHold_2 : Nat → Int32 → Int32 → Int32 → zS → Option zS
  | 0, _, _, _, _ => none
  | f + 1, x1, x2, x3, σ => aI σ 63 2 (iG σ 56 13) fun v1 => if v1 ≤ x3 then some σ else bnr (fX11_holdOf σ x3 x1 x2) fun v2 => wI σ 96 6 x3 v2 fun σ4 => fX11_allHold_2 f x1 x2 (x3 + 1) σ4
theorem kX11_allHold_2 {sc : Nat × (Nat → Int32)} : ∀ (fuel : Nat) (x1 : Int32) (x2 : Int32) (x3 : Int32) (σ : zS) (w : zS) (h : fX11_allHold_2 fuel x1 x2 x3 σ = some w), zR (zY0 sc) 3 0 0 mX11_allHold 2 [(0, .ref 56), (1, .int x1), (2, .int x2), (3, .int x3)] [] (zE σ) (none, zE w) := by
  intro fuel
  induction fuel with
  | zero => intro x1 x2 x3 σ w h; exact nomatch h
  | succ f ih =>
    intro x1 x2 x3 σ w h
    rw [fX11_allHold_2] at h
    refine kR.iload_n dX11_allHold_2 3 rfl ?_
    refine kR.aload_n dX11_allHold_3 0 rfl ?_
    refine kR.getR (v := 63) dX11_allHold_4 flX11_69 zcf11 zp56 (Or.inr ⟨_, rfl⟩) rfl ?_
    refine kR.aload_n dX11_allHold_7 0 rfl ?_
    refine kR.getI dX11_allHold_8 flX11_51 zcf11 zp56 (Or.inl rfl) ?_
    refine kR.iald dX11_allHold_11 zp63 rfl h (fun v1 h => ?_)
    refine kR.icmp_ge (tgt := 34) dX11_allHold_12 (by decide) h (fun h => ?_) (fun h => ?_)
    · exact kR.vret dX11_allHold_34 h
    · refine kR.aload_n dX11_allHold_15 0 rfl ?_
      refine kR.getR (v := 96) dX11_allHold_16 flX11_216 zcf11 zp56 (Or.inr ⟨_, rfl⟩) rfl ?_
      refine kR.iload_n dX11_allHold_19 3 rfl ?_
      refine kR.aload_n dX11_allHold_20 0 rfl ?_
      refine kR.iload_n dX11_allHold_21 3 rfl ?_
      refine kR.iload_n dX11_allHold_22 1 rfl ?_
      refine kR.iload_n dX11_allHold_23 2 rfl ?_
      obtain ⟨v2, e3, h⟩ := bnr_some h
      refine kR.cVi [.int x3, .int x1, .int x2] dX11_allHold_24 rfl (by decide) mwX11_487 zp56 (by decide) rfl rfl (Nat.le_of_ble_eq_true rfl) (lX11_holdOf σ x3 x1 x2 _ e3) ?_
      refine kR.iast dX11_allHold_27 zp96 rfl h (fun σ4 h => ?_)
      refine zR.iinc 3 (v := x3 + 1) (ls' := [(3, .int (x3 + 1)), (0, .ref 56), (1, .int x1), (2, .int x2)]) dX11_allHold_28 rfl rfl (by decide) rfl ?_
      refine zR.goto (tgt := 2) dX11_allHold_31 (by decide) ?_
      refine zR.sub [1, 2, 3, 0] rfl ?_
      exact ih _ _ _ _ _ h
def fX11_allHold (p1 : Int32) (p2 : Int32) (σ : zS) : Option zS := fX11_allHold_2 zF p1 p2 0 σ
theorem eX11_allHold {sc : Nat × (Nat → Int32)} (p1 : Int32) (p2 : Int32) (σ : zS) (w : zS) (h : fX11_allHold p1 p2 σ = some w) : zR (zY0 sc) 3 0 0 mX11_allHold 0 [(0, .ref 56), (1, .int p1), (2, .int p2)] [] (zE σ) (none, zE w) := by
  unfold fX11_allHold at h
  refine zR.iconst (v := 0) dX11_allHold_0 (by decide) ?_
  refine zR.istore_n (i := 3) (ls' := [(3, .int 0), (0, .ref 56), (1, .int p1), (2, .int p2)]) dX11_allHold_1 rfl (by decide) rfl ?_
  refine zR.sub [1, 2, 3, 0] rfl ?_
  exact kX11_allHold_2 zF _ _ _ _ _ h
theorem lX11_allHold {sc : Nat × (Nat → Int32)} (p1 : Int32) (p2 : Int32) (σ : zS) (w : zS) (h : fX11_allHold p1 p2 σ = some w) : zC (zY0 sc) 3 0 0 mX11_allHold [.ref 56, .int p1, .int p2] (zE σ) (none, zE w) := zC.of (by decide +kernel) (Nat.le_of_ble_eq_true rfl) rfl (eX11_allHold p1 p2 σ w h)
theorem dX11_asksRow_0 : decode cX11_asksRow 0 = .ok (.iconst 1, 1) := by decide +kernel
theorem dX11_asksRow_1 : decode cX11_asksRow 1 = .ok (.istore 4, 2) := by decide +kernel
theorem dX11_asksRow_3 : decode cX11_asksRow 3 = .ok (.iconst 0, 1) := by decide +kernel
theorem dX11_asksRow_4 : decode cX11_asksRow 4 = .ok (.istore 5, 2) := by decide +kernel
theorem dX11_asksRow_6 : decode cX11_asksRow 6 = .ok (.iconst 0, 1) := by decide +kernel
theorem dX11_asksRow_7 : decode cX11_asksRow 7 = .ok (.istore 6, 2) := by decide +kernel
theorem dX11_asksRow_9 : decode cX11_asksRow 9 = .ok (.iload 6, 2) := by decide +kernel
theorem dX11_asksRow_11 : decode cX11_asksRow 11 = .ok (.aload_n 0, 1) := by decide +kernel
theorem dX11_asksRow_12 : decode cX11_asksRow 12 = .ok (.getfield 69, 3) := by decide +kernel
theorem dX11_asksRow_15 : decode cX11_asksRow 15 = .ok (.aload_n 0, 1) := by decide +kernel
theorem dX11_asksRow_16 : decode cX11_asksRow 16 = .ok (.getfield 51, 3) := by decide +kernel
theorem dX11_asksRow_19 : decode cX11_asksRow 19 = .ok (.iaload, 1) := by decide +kernel
theorem dX11_asksRow_20 : decode cX11_asksRow 20 = .ok (.if_icmp .ge 59, 3) := by decide +kernel
theorem dX11_asksRow_23 : decode cX11_asksRow 23 = .ok (.aload_n 0, 1) := by decide +kernel
theorem dX11_asksRow_24 : decode cX11_asksRow 24 = .ok (.getfield 216, 3) := by decide +kernel
theorem dX11_asksRow_27 : decode cX11_asksRow 27 = .ok (.iload 6, 2) := by decide +kernel
theorem dX11_asksRow_29 : decode cX11_asksRow 29 = .ok (.iaload, 1) := by decide +kernel
theorem dX11_asksRow_30 : decode cX11_asksRow 30 = .ok (.aload_n 0, 1) := by decide +kernel
theorem dX11_asksRow_31 : decode cX11_asksRow 31 = .ok (.getfield 216, 3) := by decide +kernel
theorem dX11_asksRow_34 : decode cX11_asksRow 34 = .ok (.iload_n 1, 1) := by decide +kernel
theorem dX11_asksRow_35 : decode cX11_asksRow 35 = .ok (.iaload, 1) := by decide +kernel
theorem dX11_asksRow_36 : decode cX11_asksRow 36 = .ok (.if_icmp .le 7, 3) := by decide +kernel
theorem dX11_asksRow_39 : decode cX11_asksRow 39 = .ok (.iconst 0, 1) := by decide +kernel
theorem dX11_asksRow_40 : decode cX11_asksRow 40 = .ok (.goto 5, 3) := by decide +kernel
theorem dX11_asksRow_43 : decode cX11_asksRow 43 = .ok (.iload 4, 2) := by decide +kernel
theorem dX11_asksRow_45 : decode cX11_asksRow 45 = .ok (.istore 4, 2) := by decide +kernel
theorem dX11_asksRow_47 : decode cX11_asksRow 47 = .ok (.iload 5, 2) := by decide +kernel
theorem dX11_asksRow_49 : decode cX11_asksRow 49 = .ok (.aload_n 0, 1) := by decide +kernel
theorem dX11_asksRow_50 : decode cX11_asksRow 50 = .ok (.getfield 216, 3) := by decide +kernel
theorem dX11_asksRow_53 : decode cX11_asksRow 53 = .ok (.iload 6, 2) := by decide +kernel
theorem dX11_asksRow_55 : decode cX11_asksRow 55 = .ok (.iaload, 1) := by decide +kernel
theorem dX11_asksRow_56 : decode cX11_asksRow 56 = .ok (.aload_n 0, 1) := by decide +kernel
theorem dX11_asksRow_57 : decode cX11_asksRow 57 = .ok (.getfield 216, 3) := by decide +kernel
theorem dX11_asksRow_60 : decode cX11_asksRow 60 = .ok (.iload_n 1, 1) := by decide +kernel
theorem dX11_asksRow_61 : decode cX11_asksRow 61 = .ok (.iaload, 1) := by decide +kernel
theorem dX11_asksRow_62 : decode cX11_asksRow 62 = .ok (.if_icmp .ge 7, 3) := by decide +kernel
theorem dX11_asksRow_65 : decode cX11_asksRow 65 = .ok (.iconst 1, 1) := by decide +kernel
theorem dX11_asksRow_66 : decode cX11_asksRow 66 = .ok (.goto 4, 3) := by decide +kernel
theorem dX11_asksRow_69 : decode cX11_asksRow 69 = .ok (.iconst 0, 1) := by decide +kernel
theorem dX11_asksRow_70 : decode cX11_asksRow 70 = .ok (.iadd, 1) := by decide +kernel
theorem dX11_asksRow_71 : decode cX11_asksRow 71 = .ok (.istore 5, 2) := by decide +kernel
theorem dX11_asksRow_73 : decode cX11_asksRow 73 = .ok (.iinc 6 1, 3) := by decide +kernel
theorem dX11_asksRow_76 : decode cX11_asksRow 76 = .ok (.goto (-67), 3) := by decide +kernel
theorem dX11_asksRow_79 : decode cX11_asksRow 79 = .ok (.aload_n 0, 1) := by decide +kernel
theorem dX11_asksRow_80 : decode cX11_asksRow 80 = .ok (.iload_n 2, 1) := by decide +kernel
theorem dX11_asksRow_81 : decode cX11_asksRow 81 = .ok (.iload_n 3, 1) := by decide +kernel
theorem dX11_asksRow_82 : decode cX11_asksRow 82 = .ok (.aload_n 0, 1) := by decide +kernel
theorem dX11_asksRow_83 : decode cX11_asksRow 83 = .ok (.getfield 216, 3) := by decide +kernel
theorem dX11_asksRow_86 : decode cX11_asksRow 86 = .ok (.iload_n 1, 1) := by decide +kernel
theorem dX11_asksRow_87 : decode cX11_asksRow 87 = .ok (.iaload, 1) := by decide +kernel
theorem dX11_asksRow_88 : decode cX11_asksRow 88 = .ok (.iload 4, 2) := by decide +kernel
theorem dX11_asksRow_90 : decode cX11_asksRow 90 = .ok (.iload 5, 2) := by decide +kernel
theorem dX11_asksRow_92 : decode cX11_asksRow 92 = .ok (.aload_n 0, 1) := by decide +kernel
theorem dX11_asksRow_93 : decode cX11_asksRow 93 = .ok (.getfield 159, 3) := by decide +kernel
theorem dX11_asksRow_96 : decode cX11_asksRow 96 = .ok (.iload_n 1, 1) := by decide +kernel
theorem dX11_asksRow_97 : decode cX11_asksRow 97 = .ok (.iaload, 1) := by decide +kernel
theorem dX11_asksRow_98 : decode cX11_asksRow 98 = .ok (.invokevirtual 476, 3) := by decide +kernel
theorem dX11_asksRow_101 : decode cX11_asksRow 101 = .ok (.return_, 1) := by decide +kernel
def fX11_asksRow_70 (r9 : Int32 → Int32 → Int32 → Int32 → Int32 → Int32 → zS → Option zS) (x1 : Int32) (x2 : Int32) (x3 : Int32) (x4 : Int32) (x6 : Int32) (s0 : Int32) (s1 : Int32) (σ : zS) : Option zS := r9 x1 x2 x3 x4 (s1 + s0) (x6 + 1) σ
theorem kX11_asksRow_70 {sc : Nat × (Nat → Int32)} (r9 : Int32 → Int32 → Int32 → Int32 → Int32 → Int32 → zS → Option zS) (hr9 : ∀ (x1 : Int32) (x2 : Int32) (x3 : Int32) (x4 : Int32) (x5 : Int32) (x6 : Int32) (σ : zS) (w : zS), r9 x1 x2 x3 x4 x5 x6 σ = some w → zR (zY0 sc) 2 0 0 mX11_asksRow 9 [(0, .ref 56), (1, .int x1), (2, .int x2), (3, .int x3), (4, .int x4), (5, .int x5), (6, .int x6)] [] (zE σ) (none, zE w)) (x1 : Int32) (x2 : Int32) (x3 : Int32) (x4 : Int32) (x6 : Int32) (s0 : Int32) (s1 : Int32) (σ : zS) (w : zS) (h : fX11_asksRow_70 r9 x1 x2 x3 x4 x6 s0 s1 σ = some w) : zR (zY0 sc) 2 0 0 mX11_asksRow 70 [(0, .ref 56), (1, .int x1), (2, .int x2), (3, .int x3), (4, .int x4), (6, .int x6)] [.int s0, .int s1] (zE σ) (none, zE w) := by
  unfold fX11_asksRow_70 at h
  refine zR.iadd dX11_asksRow_70 ?_
  refine zR.istore (i := 5) (ls' := [(5, .int (s1 + s0)), (0, .ref 56), (1, .int x1), (2, .int x2), (3, .int x3), (4, .int x4), (6, .int x6)]) dX11_asksRow_71 (by decide) rfl ?_
  refine zR.iinc 6 (v := x6 + 1) (ls' := [(6, .int (x6 + 1)), (5, .int (s1 + s0)), (0, .ref 56), (1, .int x1), (2, .int x2), (3, .int x3), (4, .int x4)]) dX11_asksRow_73 rfl rfl (by decide) rfl ?_
  refine zR.goto (tgt := 9) dX11_asksRow_76 (by decide) ?_
  refine zR.sub [2, 3, 4, 5, 6, 1, 0] rfl ?_
  exact hr9 _ _ _ _ _ _ _ _ h
def fX11_asksRow_45 (r9 : Int32 → Int32 → Int32 → Int32 → Int32 → Int32 → zS → Option zS) (x1 : Int32) (x2 : Int32) (x3 : Int32) (x5 : Int32) (x6 : Int32) (s0 : Int32) (σ : zS) : Option zS := aI σ 96 6 x6 fun v8 => aI σ 96 6 x1 fun v9 => if v9 ≤ v8 then fX11_asksRow_70 r9 x1 x2 x3 s0 x6 0 x5 σ else fX11_asksRow_70 r9 x1 x2 x3 s0 x6 1 x5 σ
theorem kX11_asksRow_45 {sc : Nat × (Nat → Int32)} (r9 : Int32 → Int32 → Int32 → Int32 → Int32 → Int32 → zS → Option zS) (hr9 : ∀ (x1 : Int32) (x2 : Int32) (x3 : Int32) (x4 : Int32) (x5 : Int32) (x6 : Int32) (σ : zS) (w : zS), r9 x1 x2 x3 x4 x5 x6 σ = some w → zR (zY0 sc) 2 0 0 mX11_asksRow 9 [(0, .ref 56), (1, .int x1), (2, .int x2), (3, .int x3), (4, .int x4), (5, .int x5), (6, .int x6)] [] (zE σ) (none, zE w)) (x1 : Int32) (x2 : Int32) (x3 : Int32) (x5 : Int32) (x6 : Int32) (s0 : Int32) (σ : zS) (w : zS) (h : fX11_asksRow_45 r9 x1 x2 x3 x5 x6 s0 σ = some w) : zR (zY0 sc) 2 0 0 mX11_asksRow 45 [(0, .ref 56), (1, .int x1), (2, .int x2), (3, .int x3), (5, .int x5), (6, .int x6)] [.int s0] (zE σ) (none, zE w) := by
  unfold fX11_asksRow_45 at h
  refine zR.istore (i := 4) (ls' := [(4, .int s0), (0, .ref 56), (1, .int x1), (2, .int x2), (3, .int x3), (5, .int x5), (6, .int x6)]) dX11_asksRow_45 (by decide) rfl ?_
  refine kR.iload dX11_asksRow_47 5 rfl ?_
  refine kR.aload_n dX11_asksRow_49 1 rfl ?_
  refine kR.getR (v := 96) dX11_asksRow_50 flX11_216 zcf11 zp56 (Or.inr ⟨_, rfl⟩) rfl ?_
  refine kR.iload dX11_asksRow_53 6 rfl ?_
  refine kR.iald dX11_asksRow_55 zp96 rfl h (fun v8 h => ?_)
  refine kR.aload_n dX11_asksRow_56 1 rfl ?_
  refine kR.getR (v := 96) dX11_asksRow_57 flX11_216 zcf11 zp56 (Or.inr ⟨_, rfl⟩) rfl ?_
  refine kR.iload_n dX11_asksRow_60 2 rfl ?_
  refine kR.iald dX11_asksRow_61 zp96 rfl h (fun v9 h => ?_)
  refine kR.icmp_ge (tgt := 69) dX11_asksRow_62 (by decide) h (fun h => ?_) (fun h => ?_)
  · refine zR.iconst (v := 0) dX11_asksRow_69 (by decide) ?_
    refine zR.sub [1, 2, 3, 4, 0, 6] rfl ?_
    exact kX11_asksRow_70 r9 hr9 _ _ _ _ _ _ _ _ _ h
  · refine zR.iconst (v := 1) dX11_asksRow_65 (by decide) ?_
    refine zR.goto (tgt := 70) dX11_asksRow_66 (by decide) ?_
    refine zR.sub [1, 2, 3, 4, 0, 6] rfl ?_
    exact kX11_asksRow_70 r9 hr9 _ _ _ _ _ _ _ _ _ h
def fX11_asksRow_9 : Nat → Int32 → Int32 → Int32 → Int32 → Int32 → Int32 → zS → Option zS
  | 0, _, _, _, _, _, _, _ => none
  | f + 1, x1, x2, x3, x4, x5, x6, σ => aI σ 63 2 (iG σ 56 13) fun v1 => if v1 ≤ x6 then aI σ 96 6 x1 fun v2 => aI σ 86 132 x1 fun v3 => bnr (fX11_asks x2 x3 v2 x4 x5 v3 σ) fun σ4 => some σ4 else aI σ 96 6 x6 fun v6 => aI σ 96 6 x1 fun v7 => if v6 ≤ v7 then fX11_asksRow_45 (fX11_asksRow_9 f) x1 x2 x3 x5 x6 x4 σ else fX11_asksRow_45 (fX11_asksRow_9 f) x1 x2 x3 x5 x6 0 σ
theorem kX11_asksRow_9 {sc : Nat × (Nat → Int32)} : ∀ (fuel : Nat) (x1 : Int32) (x2 : Int32) (x3 : Int32) (x4 : Int32) (x5 : Int32) (x6 : Int32) (σ : zS) (w : zS) (h : fX11_asksRow_9 fuel x1 x2 x3 x4 x5 x6 σ = some w), zR (zY0 sc) 2 0 0 mX11_asksRow 9 [(0, .ref 56), (1, .int x1), (2, .int x2), (3, .int x3), (4, .int x4), (5, .int x5), (6, .int x6)] [] (zE σ) (none, zE w) := by
  intro fuel
  induction fuel with
  | zero => intro x1 x2 x3 x4 x5 x6 σ w h; exact nomatch h
  | succ f ih =>
    intro x1 x2 x3 x4 x5 x6 σ w h
    rw [fX11_asksRow_9] at h
    refine kR.iload dX11_asksRow_9 6 rfl ?_
    refine kR.aload_n dX11_asksRow_11 0 rfl ?_
    refine kR.getR (v := 63) dX11_asksRow_12 flX11_69 zcf11 zp56 (Or.inr ⟨_, rfl⟩) rfl ?_
    refine kR.aload_n dX11_asksRow_15 0 rfl ?_
    refine kR.getI dX11_asksRow_16 flX11_51 zcf11 zp56 (Or.inl rfl) ?_
    refine kR.iald dX11_asksRow_19 zp63 rfl h (fun v1 h => ?_)
    refine kR.icmp_ge (tgt := 79) dX11_asksRow_20 (by decide) h (fun h => ?_) (fun h => ?_)
    · refine kR.aload_n dX11_asksRow_79 0 rfl ?_
      refine kR.iload_n dX11_asksRow_80 2 rfl ?_
      refine kR.iload_n dX11_asksRow_81 3 rfl ?_
      refine kR.aload_n dX11_asksRow_82 0 rfl ?_
      refine kR.getR (v := 96) dX11_asksRow_83 flX11_216 zcf11 zp56 (Or.inr ⟨_, rfl⟩) rfl ?_
      refine kR.iload_n dX11_asksRow_86 1 rfl ?_
      refine kR.iald dX11_asksRow_87 zp96 rfl h (fun v2 h => ?_)
      refine kR.iload dX11_asksRow_88 4 rfl ?_
      refine kR.iload dX11_asksRow_90 5 rfl ?_
      refine kR.aload_n dX11_asksRow_92 0 rfl ?_
      refine kR.getR (v := 86) dX11_asksRow_93 flX11_159 zcf11 zp56 (Or.inr ⟨_, rfl⟩) rfl ?_
      refine kR.iload_n dX11_asksRow_96 1 rfl ?_
      refine kR.iald dX11_asksRow_97 zp86 rfl h (fun v3 h => ?_)
      obtain ⟨σ4, e5, h⟩ := bnr_some h
      refine kR.cVv [.int x2, .int x3, .int v2, .int x4, .int x5, .int v3] dX11_asksRow_98 rfl (by decide) mwX11_476 zp56 (by decide) rfl rfl (Nat.le_of_ble_eq_true rfl) (lX11_asks x2 x3 v2 x4 x5 v3 σ _ e5) ?_
      exact kR.vret dX11_asksRow_101 h
    · refine kR.aload_n dX11_asksRow_23 0 rfl ?_
      refine kR.getR (v := 96) dX11_asksRow_24 flX11_216 zcf11 zp56 (Or.inr ⟨_, rfl⟩) rfl ?_
      refine kR.iload dX11_asksRow_27 6 rfl ?_
      refine kR.iald dX11_asksRow_29 zp96 rfl h (fun v6 h => ?_)
      refine kR.aload_n dX11_asksRow_30 0 rfl ?_
      refine kR.getR (v := 96) dX11_asksRow_31 flX11_216 zcf11 zp56 (Or.inr ⟨_, rfl⟩) rfl ?_
      refine kR.iload_n dX11_asksRow_34 1 rfl ?_
      refine kR.iald dX11_asksRow_35 zp96 rfl h (fun v7 h => ?_)
      refine kR.icmp_le (tgt := 43) dX11_asksRow_36 (by decide) h (fun h => ?_) (fun h => ?_)
      · refine kR.iload dX11_asksRow_43 4 rfl ?_
        refine zR.sub [0, 1, 2, 3, 5, 6] rfl ?_
        exact kX11_asksRow_45 (fX11_asksRow_9 f) ih _ _ _ _ _ _ _ _ h
      · refine zR.iconst (v := 0) dX11_asksRow_39 (by decide) ?_
        refine zR.goto (tgt := 45) dX11_asksRow_40 (by decide) ?_
        refine zR.sub [0, 1, 2, 3, 5, 6] rfl ?_
        exact kX11_asksRow_45 (fX11_asksRow_9 f) ih _ _ _ _ _ _ _ _ h
def fX11_asksRow (p1 : Int32) (p2 : Int32) (p3 : Int32) (σ : zS) : Option zS := fX11_asksRow_9 zF p1 p2 p3 1 0 0 σ
theorem eX11_asksRow {sc : Nat × (Nat → Int32)} (p1 : Int32) (p2 : Int32) (p3 : Int32) (σ : zS) (w : zS) (h : fX11_asksRow p1 p2 p3 σ = some w) : zR (zY0 sc) 2 0 0 mX11_asksRow 0 [(0, .ref 56), (1, .int p1), (2, .int p2), (3, .int p3)] [] (zE σ) (none, zE w) := by
  unfold fX11_asksRow at h
  refine zR.iconst (v := 1) dX11_asksRow_0 (by decide) ?_
  refine zR.istore (i := 4) (ls' := [(4, .int 1), (0, .ref 56), (1, .int p1), (2, .int p2), (3, .int p3)]) dX11_asksRow_1 (by decide) rfl ?_
  refine zR.iconst (v := 0) dX11_asksRow_3 (by decide) ?_
  refine zR.istore (i := 5) (ls' := [(5, .int 0), (4, .int 1), (0, .ref 56), (1, .int p1), (2, .int p2), (3, .int p3)]) dX11_asksRow_4 (by decide) rfl ?_
  refine zR.iconst (v := 0) dX11_asksRow_6 (by decide) ?_
  refine zR.istore (i := 6) (ls' := [(6, .int 0), (5, .int 0), (4, .int 1), (0, .ref 56), (1, .int p1), (2, .int p2), (3, .int p3)]) dX11_asksRow_7 (by decide) rfl ?_
  refine zR.sub [3, 4, 5, 6, 2, 1, 0] rfl ?_
  exact kX11_asksRow_9 zF _ _ _ _ _ _ _ _ h
theorem lX11_asksRow {sc : Nat × (Nat → Int32)} (p1 : Int32) (p2 : Int32) (p3 : Int32) (σ : zS) (w : zS) (h : fX11_asksRow p1 p2 p3 σ = some w) : zC (zY0 sc) 2 0 0 mX11_asksRow [.ref 56, .int p1, .int p2, .int p3] (zE σ) (none, zE w) := zC.of (by decide +kernel) (Nat.le_of_ble_eq_true rfl) rfl (eX11_asksRow p1 p2 p3 σ w h)
theorem dX11_worthRow_0 : decode cX11_worthRow 0 = .ok (.aload_n 0, 1) := by decide +kernel
theorem dX11_worthRow_1 : decode cX11_worthRow 1 = .ok (.iload_n 1, 1) := by decide +kernel
theorem dX11_worthRow_2 : decode cX11_worthRow 2 = .ok (.iload_n 2, 1) := by decide +kernel
theorem dX11_worthRow_3 : decode cX11_worthRow 3 = .ok (.iload_n 3, 1) := by decide +kernel
theorem dX11_worthRow_4 : decode cX11_worthRow 4 = .ok (.invokevirtual 491, 3) := by decide +kernel
theorem dX11_worthRow_7 : decode cX11_worthRow 7 = .ok (.aload_n 0, 1) := by decide +kernel
theorem dX11_worthRow_8 : decode cX11_worthRow 8 = .ok (.invokevirtual 480, 3) := by decide +kernel
theorem dX11_worthRow_11 : decode cX11_worthRow 11 = .ok (.ireturn, 1) := by decide +kernel
def fX11_worthRow (p1 : Int32) (p2 : Int32) (p3 : Int32) (σ : zS) : Option (Int32 × zS) := bnr (fX11_asksRow p1 p2 p3 σ) fun σ1 => bnc (fX11_worthNow σ1) fun v5 σ3 => some (v5, σ3)
theorem eX11_worthRow {sc : Nat × (Nat → Int32)} (p1 : Int32) (p2 : Int32) (p3 : Int32) (σ : zS) (w : Int32 × zS) (h : fX11_worthRow p1 p2 p3 σ = some w) : zR (zY0 sc) 5 0 0 mX11_worthRow 0 [(0, .ref 56), (1, .int p1), (2, .int p2), (3, .int p3)] [] (zE σ) (some (.int w.1), zE w.2) := by
  unfold fX11_worthRow at h
  refine kR.aload_n dX11_worthRow_0 0 rfl ?_
  refine kR.iload_n dX11_worthRow_1 1 rfl ?_
  refine kR.iload_n dX11_worthRow_2 2 rfl ?_
  refine kR.iload_n dX11_worthRow_3 3 rfl ?_
  obtain ⟨σ1, e2, h⟩ := bnr_some h
  refine kR.cVv [.int p1, .int p2, .int p3] dX11_worthRow_4 rfl (by decide) mwX11_491 zp56 (by decide) rfl rfl (Nat.le_of_ble_eq_true rfl) (lX11_asksRow p1 p2 p3 σ _ e2) ?_
  refine kR.aload_n dX11_worthRow_7 0 rfl ?_
  obtain ⟨v5, σ3, e4, h⟩ := bnc_some h
  refine kR.cVi [] dX11_worthRow_8 rfl (by decide) mwX11_480 zp56 (by decide) rfl rfl (Nat.le_of_ble_eq_true rfl) (lX11_worthNow σ1 _ e4) ?_
  exact kR.iretW dX11_worthRow_11 (nzI rfl _) h
theorem lX11_worthRow {sc : Nat × (Nat → Int32)} (p1 : Int32) (p2 : Int32) (p3 : Int32) (σ : zS) (w : Int32 × zS) (h : fX11_worthRow p1 p2 p3 σ = some w) : zC (zY0 sc) 5 0 0 mX11_worthRow [.ref 56, .int p1, .int p2, .int p3] (zE σ) (some (.int w.1), zE w.2) := zC.of (by decide +kernel) (Nat.le_of_ble_eq_true rfl) ⟨_, rfl⟩ (eX11_worthRow p1 p2 p3 σ w h)
theorem dX11_has_0 : decode cX11_has 0 = .ok (.iload_n 1, 1) := by decide +kernel
theorem dX11_has_1 : decode cX11_has 1 = .ok (.tableswitch 112 0 7 #[47, 57, 67, 77, 87, 94, 101, 106], 47) := by decide +kernel
theorem dX11_has_48 : decode cX11_has 48 = .ok (.aload_n 0, 1) := by decide +kernel
theorem dX11_has_49 : decode cX11_has 49 = .ok (.getfield 54, 3) := by decide +kernel
theorem dX11_has_52 : decode cX11_has 52 = .ok (.aload_n 0, 1) := by decide +kernel
theorem dX11_has_53 : decode cX11_has 53 = .ok (.getfield 51, 3) := by decide +kernel
theorem dX11_has_56 : decode cX11_has 56 = .ok (.iaload, 1) := by decide +kernel
theorem dX11_has_57 : decode cX11_has 57 = .ok (.ireturn, 1) := by decide +kernel
theorem dX11_has_58 : decode cX11_has 58 = .ok (.aload_n 0, 1) := by decide +kernel
theorem dX11_has_59 : decode cX11_has 59 = .ok (.getfield 69, 3) := by decide +kernel
theorem dX11_has_62 : decode cX11_has 62 = .ok (.aload_n 0, 1) := by decide +kernel
theorem dX11_has_63 : decode cX11_has 63 = .ok (.getfield 51, 3) := by decide +kernel
theorem dX11_has_66 : decode cX11_has 66 = .ok (.iaload, 1) := by decide +kernel
theorem dX11_has_67 : decode cX11_has 67 = .ok (.ireturn, 1) := by decide +kernel
theorem dX11_has_68 : decode cX11_has 68 = .ok (.aload_n 0, 1) := by decide +kernel
theorem dX11_has_69 : decode cX11_has 69 = .ok (.getfield 96, 3) := by decide +kernel
theorem dX11_has_72 : decode cX11_has 72 = .ok (.aload_n 0, 1) := by decide +kernel
theorem dX11_has_73 : decode cX11_has 73 = .ok (.getfield 51, 3) := by decide +kernel
theorem dX11_has_76 : decode cX11_has 76 = .ok (.iaload, 1) := by decide +kernel
theorem dX11_has_77 : decode cX11_has 77 = .ok (.ireturn, 1) := by decide +kernel
theorem dX11_has_78 : decode cX11_has 78 = .ok (.aload_n 0, 1) := by decide +kernel
theorem dX11_has_79 : decode cX11_has 79 = .ok (.getfield 99, 3) := by decide +kernel
theorem dX11_has_82 : decode cX11_has 82 = .ok (.aload_n 0, 1) := by decide +kernel
theorem dX11_has_83 : decode cX11_has 83 = .ok (.getfield 51, 3) := by decide +kernel
theorem dX11_has_86 : decode cX11_has 86 = .ok (.iaload, 1) := by decide +kernel
theorem dX11_has_87 : decode cX11_has 87 = .ok (.ireturn, 1) := by decide +kernel
theorem dX11_has_88 : decode cX11_has 88 = .ok (.aload_n 0, 1) := by decide +kernel
theorem dX11_has_89 : decode cX11_has 89 = .ok (.getfield 156, 3) := by decide +kernel
theorem dX11_has_92 : decode cX11_has 92 = .ok (.iconst 0, 1) := by decide +kernel
theorem dX11_has_93 : decode cX11_has 93 = .ok (.iaload, 1) := by decide +kernel
theorem dX11_has_94 : decode cX11_has 94 = .ok (.ireturn, 1) := by decide +kernel
theorem dX11_has_95 : decode cX11_has 95 = .ok (.aload_n 0, 1) := by decide +kernel
theorem dX11_has_96 : decode cX11_has 96 = .ok (.getfield 171, 3) := by decide +kernel
theorem dX11_has_99 : decode cX11_has 99 = .ok (.iconst 0, 1) := by decide +kernel
theorem dX11_has_100 : decode cX11_has 100 = .ok (.iaload, 1) := by decide +kernel
theorem dX11_has_101 : decode cX11_has 101 = .ok (.ireturn, 1) := by decide +kernel
theorem dX11_has_102 : decode cX11_has 102 = .ok (.aload_n 0, 1) := by decide +kernel
theorem dX11_has_103 : decode cX11_has 103 = .ok (.getfield 189, 3) := by decide +kernel
theorem dX11_has_106 : decode cX11_has 106 = .ok (.ireturn, 1) := by decide +kernel
theorem dX11_has_107 : decode cX11_has 107 = .ok (.aload_n 0, 1) := by decide +kernel
theorem dX11_has_108 : decode cX11_has 108 = .ok (.getfield 192, 3) := by decide +kernel
theorem dX11_has_111 : decode cX11_has 111 = .ok (.l2i, 1) := by decide +kernel
theorem dX11_has_112 : decode cX11_has 112 = .ok (.ireturn, 1) := by decide +kernel
theorem dX11_has_113 : decode cX11_has 113 = .ok (.iconst (-1), 1) := by decide +kernel
theorem dX11_has_114 : decode cX11_has 114 = .ok (.ireturn, 1) := by decide +kernel
def fX11_has (σ : zS) (p1 : Int32) : Option Int32 := if p1 = 0 then aI σ 58 2 (iG σ 56 13) fun v1 => some v1 else if p1 = 1 then aI σ 63 2 (iG σ 56 13) fun v2 => some v2 else if p1 = 2 then aI σ 72 2 (iG σ 56 13) fun v3 => some v3 else if p1 = 3 then aI σ 73 2 (iG σ 56 13) fun v4 => some v4 else if p1 = 4 then aI σ 85 22 0 fun v5 => some v5 else if p1 = 5 then aI σ 90 22 0 fun v6 => some v6 else if p1 = 6 then some (iG σ 56 58) else if p1 = 7 then some (((lG σ 56 59) : Int64).toInt32) else some ((-1))
theorem eX11_has {sc : Nat × (Nat → Int32)} (σ : zS) (p1 : Int32) (w : Int32) (h : fX11_has σ p1 = some w) : zR (zY0 sc) 1 0 0 mX11_has 0 [(0, .ref 56), (1, .int p1)] [] (zE σ) (some (.int w), zE σ) := by
  unfold fX11_has at h
  refine kR.iload_n dX11_has_0 1 rfl ?_
  by_cases e0 : p1 = 0
  · rw [if_pos e0] at h
    refine zR.tableIn (off := 47) (tgt := 48) dX11_has_1 (by rw [e0]; decide) (by rw [e0]; decide) (by rw [e0]; rfl) (by decide) ?_
    refine kR.aload_n dX11_has_48 0 rfl ?_
    refine kR.getR (v := 58) dX11_has_49 flX11_54 zcf11 zp56 (Or.inr ⟨_, rfl⟩) rfl ?_
    refine kR.aload_n dX11_has_52 0 rfl ?_
    refine kR.getI dX11_has_53 flX11_51 zcf11 zp56 (Or.inl rfl) ?_
    refine kR.iald dX11_has_56 zp58 rfl h (fun v1 h => ?_)
    exact kR.iretO dX11_has_57 (nzI rfl _) h
  rw [if_neg e0] at h
  by_cases e1 : p1 = 1
  · rw [if_pos e1] at h
    refine zR.tableIn (off := 57) (tgt := 58) dX11_has_1 (by rw [e1]; decide) (by rw [e1]; decide) (by rw [e1]; rfl) (by decide) ?_
    refine kR.aload_n dX11_has_58 0 rfl ?_
    refine kR.getR (v := 63) dX11_has_59 flX11_69 zcf11 zp56 (Or.inr ⟨_, rfl⟩) rfl ?_
    refine kR.aload_n dX11_has_62 0 rfl ?_
    refine kR.getI dX11_has_63 flX11_51 zcf11 zp56 (Or.inl rfl) ?_
    refine kR.iald dX11_has_66 zp63 rfl h (fun v2 h => ?_)
    exact kR.iretO dX11_has_67 (nzI rfl _) h
  rw [if_neg e1] at h
  by_cases e2 : p1 = 2
  · rw [if_pos e2] at h
    refine zR.tableIn (off := 67) (tgt := 68) dX11_has_1 (by rw [e2]; decide) (by rw [e2]; decide) (by rw [e2]; rfl) (by decide) ?_
    refine kR.aload_n dX11_has_68 0 rfl ?_
    refine kR.getR (v := 72) dX11_has_69 flX11_96 zcf11 zp56 (Or.inr ⟨_, rfl⟩) rfl ?_
    refine kR.aload_n dX11_has_72 0 rfl ?_
    refine kR.getI dX11_has_73 flX11_51 zcf11 zp56 (Or.inl rfl) ?_
    refine kR.iald dX11_has_76 zp72 rfl h (fun v3 h => ?_)
    exact kR.iretO dX11_has_77 (nzI rfl _) h
  rw [if_neg e2] at h
  by_cases e3 : p1 = 3
  · rw [if_pos e3] at h
    refine zR.tableIn (off := 77) (tgt := 78) dX11_has_1 (by rw [e3]; decide) (by rw [e3]; decide) (by rw [e3]; rfl) (by decide) ?_
    refine kR.aload_n dX11_has_78 0 rfl ?_
    refine kR.getR (v := 73) dX11_has_79 flX11_99 zcf11 zp56 (Or.inr ⟨_, rfl⟩) rfl ?_
    refine kR.aload_n dX11_has_82 0 rfl ?_
    refine kR.getI dX11_has_83 flX11_51 zcf11 zp56 (Or.inl rfl) ?_
    refine kR.iald dX11_has_86 zp73 rfl h (fun v4 h => ?_)
    exact kR.iretO dX11_has_87 (nzI rfl _) h
  rw [if_neg e3] at h
  by_cases e4 : p1 = 4
  · rw [if_pos e4] at h
    refine zR.tableIn (off := 87) (tgt := 88) dX11_has_1 (by rw [e4]; decide) (by rw [e4]; decide) (by rw [e4]; rfl) (by decide) ?_
    refine kR.aload_n dX11_has_88 0 rfl ?_
    refine kR.getR (v := 85) dX11_has_89 flX11_156 zcf11 zp56 (Or.inr ⟨_, rfl⟩) rfl ?_
    refine zR.iconst (v := 0) dX11_has_92 (by decide) ?_
    refine kR.iald dX11_has_93 zp85 rfl h (fun v5 h => ?_)
    exact kR.iretO dX11_has_94 (nzI rfl _) h
  rw [if_neg e4] at h
  by_cases e5 : p1 = 5
  · rw [if_pos e5] at h
    refine zR.tableIn (off := 94) (tgt := 95) dX11_has_1 (by rw [e5]; decide) (by rw [e5]; decide) (by rw [e5]; rfl) (by decide) ?_
    refine kR.aload_n dX11_has_95 0 rfl ?_
    refine kR.getR (v := 90) dX11_has_96 flX11_171 zcf11 zp56 (Or.inr ⟨_, rfl⟩) rfl ?_
    refine zR.iconst (v := 0) dX11_has_99 (by decide) ?_
    refine kR.iald dX11_has_100 zp90 rfl h (fun v6 h => ?_)
    exact kR.iretO dX11_has_101 (nzI rfl _) h
  rw [if_neg e5] at h
  by_cases e6 : p1 = 6
  · rw [if_pos e6] at h
    refine zR.tableIn (off := 101) (tgt := 102) dX11_has_1 (by rw [e6]; decide) (by rw [e6]; decide) (by rw [e6]; rfl) (by decide) ?_
    refine kR.aload_n dX11_has_102 0 rfl ?_
    refine kR.getI dX11_has_103 flX11_189 zcf11 zp56 (Or.inl rfl) ?_
    exact kR.iretO dX11_has_106 (nzI rfl _) h
  rw [if_neg e6] at h
  by_cases e7 : p1 = 7
  · rw [if_pos e7] at h
    refine zR.tableIn (off := 106) (tgt := 107) dX11_has_1 (by rw [e7]; decide) (by rw [e7]; decide) (by rw [e7]; rfl) (by decide) ?_
    refine kR.aload_n dX11_has_107 0 rfl ?_
    refine kR.getL dX11_has_108 flX11_192 zcf11 zp56 rfl ?_
    refine zR.l2i dX11_has_111 ?_
    exact kR.iretO dX11_has_112 (nzI rfl _) h
  rw [if_neg e7] at h
  refine zR.tableD (tgt := 113) dX11_has_1 (ts_out 8 (by decide) (fun j hj e => match j, hj, e with | 0, _, e => absurd e (tne e0 rfl) | 1, _, e => absurd e (tne e1 rfl) | 2, _, e => absurd e (tne e2 rfl) | 3, _, e => absurd e (tne e3 rfl) | 4, _, e => absurd e (tne e4 rfl) | 5, _, e => absurd e (tne e5 rfl) | 6, _, e => absurd e (tne e6 rfl) | 7, _, e => absurd e (tne e7 rfl) | j + 8, hj, _ => absurd hj (by omega))) (by decide) ?_
  refine zR.iconst (v := (-1)) dX11_has_113 (by decide) ?_
  exact kR.iretO dX11_has_114 (nzI rfl _) h
theorem lX11_has {sc : Nat × (Nat → Int32)} (σ : zS) (p1 : Int32) (w : Int32) (h : fX11_has σ p1 = some w) : zC (zY0 sc) 1 0 0 mX11_has [.ref 56, .int p1] (zE σ) (some (.int w), zE σ) := zC.of (by decide +kernel) (Nat.le_of_ble_eq_true rfl) ⟨_, rfl⟩ (eX11_has σ p1 w h)
theorem dX11_letter_0 : decode cX11_letter 0 = .ok (.iload_n 1, 1) := by decide +kernel
theorem dX11_letter_1 : decode cX11_letter 1 = .ok (.iconst 0, 1) := by decide +kernel
theorem dX11_letter_2 : decode cX11_letter 2 = .ok (.iconst 1, 1) := by decide +kernel
theorem dX11_letter_3 : decode cX11_letter 3 = .ok (.invokestatic 338, 3) := by decide +kernel
theorem dX11_letter_6 : decode cX11_letter 6 = .ok (.ifCond .eq 31, 3) := by decide +kernel
theorem dX11_letter_9 : decode cX11_letter 9 = .ok (.iload_n 2, 1) := by decide +kernel
theorem dX11_letter_10 : decode cX11_letter 10 = .ok (.iconst 0, 1) := by decide +kernel
theorem dX11_letter_11 : decode cX11_letter 11 = .ok (.aload_n 0, 1) := by decide +kernel
theorem dX11_letter_12 : decode cX11_letter 12 = .ok (.aload_n 0, 1) := by decide +kernel
theorem dX11_letter_13 : decode cX11_letter 13 = .ok (.getfield 51, 3) := by decide +kernel
theorem dX11_letter_16 : decode cX11_letter 16 = .ok (.iload_n 1, 1) := by decide +kernel
theorem dX11_letter_17 : decode cX11_letter 17 = .ok (.invokevirtual 330, 3) := by decide +kernel
theorem dX11_letter_20 : decode cX11_letter 20 = .ok (.iconst 1, 1) := by decide +kernel
theorem dX11_letter_21 : decode cX11_letter 21 = .ok (.isub, 1) := by decide +kernel
theorem dX11_letter_22 : decode cX11_letter 22 = .ok (.invokestatic 338, 3) := by decide +kernel
theorem dX11_letter_25 : decode cX11_letter 25 = .ok (.ifCond .eq 12, 3) := by decide +kernel
theorem dX11_letter_28 : decode cX11_letter 28 = .ok (.iload_n 3, 1) := by decide +kernel
theorem dX11_letter_29 : decode cX11_letter 29 = .ok (.iconst 0, 1) := by decide +kernel
theorem dX11_letter_30 : decode cX11_letter 30 = .ok (.iconst 5, 1) := by decide +kernel
theorem dX11_letter_31 : decode cX11_letter 31 = .ok (.invokestatic 338, 3) := by decide +kernel
theorem dX11_letter_34 : decode cX11_letter 34 = .ok (.ifCond .ne 5, 3) := by decide +kernel
theorem dX11_letter_37 : decode cX11_letter 37 = .ok (.iconst (-1), 1) := by decide +kernel
theorem dX11_letter_38 : decode cX11_letter 38 = .ok (.ireturn, 1) := by decide +kernel
theorem dX11_letter_39 : decode cX11_letter 39 = .ok (.aload_n 0, 1) := by decide +kernel
theorem dX11_letter_40 : decode cX11_letter 40 = .ok (.aload_n 0, 1) := by decide +kernel
theorem dX11_letter_41 : decode cX11_letter 41 = .ok (.getfield 51, 3) := by decide +kernel
theorem dX11_letter_44 : decode cX11_letter 44 = .ok (.iload_n 1, 1) := by decide +kernel
theorem dX11_letter_45 : decode cX11_letter 45 = .ok (.iload_n 2, 1) := by decide +kernel
theorem dX11_letter_46 : decode cX11_letter 46 = .ok (.invokevirtual 334, 3) := by decide +kernel
theorem dX11_letter_49 : decode cX11_letter 49 = .ok (.lstore 4, 2) := by decide +kernel
theorem dX11_letter_51 : decode cX11_letter 51 = .ok (.iconst 0, 1) := by decide +kernel
theorem dX11_letter_52 : decode cX11_letter 52 = .ok (.istore 6, 2) := by decide +kernel
theorem dX11_letter_54 : decode cX11_letter 54 = .ok (.lload 4, 2) := by decide +kernel
theorem dX11_letter_56 : decode cX11_letter 56 = .ok (.lstore 7, 2) := by decide +kernel
theorem dX11_letter_58 : decode cX11_letter 58 = .ok (.lload 7, 2) := by decide +kernel
theorem dX11_letter_60 : decode cX11_letter 60 = .ok (.lconst 0, 1) := by decide +kernel
theorem dX11_letter_61 : decode cX11_letter 61 = .ok (.lcmp, 1) := by decide +kernel
theorem dX11_letter_62 : decode cX11_letter 62 = .ok (.ifCond .le 16, 3) := by decide +kernel
theorem dX11_letter_65 : decode cX11_letter 65 = .ok (.iinc 6 1, 3) := by decide +kernel
theorem dX11_letter_68 : decode cX11_letter 68 = .ok (.lload 7, 2) := by decide +kernel
theorem dX11_letter_70 : decode cX11_letter 70 = .ok (.bipush 8, 2) := by decide +kernel
theorem dX11_letter_72 : decode cX11_letter 72 = .ok (.lshr, 1) := by decide +kernel
theorem dX11_letter_73 : decode cX11_letter 73 = .ok (.lstore 7, 2) := by decide +kernel
theorem dX11_letter_75 : decode cX11_letter 75 = .ok (.goto (-17), 3) := by decide +kernel
theorem dX11_letter_78 : decode cX11_letter 78 = .ok (.iload_n 3, 1) := by decide +kernel
theorem dX11_letter_79 : decode cX11_letter 79 = .ok (.iload 6, 2) := by decide +kernel
theorem dX11_letter_81 : decode cX11_letter 81 = .ok (.if_icmp .lt 7, 3) := by decide +kernel
theorem dX11_letter_84 : decode cX11_letter 84 = .ok (.iconst 0, 1) := by decide +kernel
theorem dX11_letter_85 : decode cX11_letter 85 = .ok (.goto 25, 3) := by decide +kernel
theorem dX11_letter_88 : decode cX11_letter 88 = .ok (.lload 4, 2) := by decide +kernel
theorem dX11_letter_90 : decode cX11_letter 90 = .ok (.bipush 8, 2) := by decide +kernel
theorem dX11_letter_92 : decode cX11_letter 92 = .ok (.iload 6, 2) := by decide +kernel
theorem dX11_letter_94 : decode cX11_letter 94 = .ok (.iconst 1, 1) := by decide +kernel
theorem dX11_letter_95 : decode cX11_letter 95 = .ok (.isub, 1) := by decide +kernel
theorem dX11_letter_96 : decode cX11_letter 96 = .ok (.iload_n 3, 1) := by decide +kernel
theorem dX11_letter_97 : decode cX11_letter 97 = .ok (.isub, 1) := by decide +kernel
theorem dX11_letter_98 : decode cX11_letter 98 = .ok (.imul, 1) := by decide +kernel
theorem dX11_letter_99 : decode cX11_letter 99 = .ok (.lshr, 1) := by decide +kernel
theorem dX11_letter_100 : decode cX11_letter 100 = .ok (.ldc2_w 495, 3) := by decide +kernel
theorem dX11_letter_103 : decode cX11_letter 103 = .ok (.land, 1) := by decide +kernel
theorem dX11_letter_104 : decode cX11_letter 104 = .ok (.l2i, 1) := by decide +kernel
theorem dX11_letter_105 : decode cX11_letter 105 = .ok (.bipush 97, 2) := by decide +kernel
theorem dX11_letter_107 : decode cX11_letter 107 = .ok (.isub, 1) := by decide +kernel
theorem dX11_letter_108 : decode cX11_letter 108 = .ok (.iconst 1, 1) := by decide +kernel
theorem dX11_letter_109 : decode cX11_letter 109 = .ok (.iadd, 1) := by decide +kernel
theorem dX11_letter_110 : decode cX11_letter 110 = .ok (.ireturn, 1) := by decide +kernel
def fX11_letter_58 (σ : zS) : Nat → Int32 → Int64 → Int32 → Int64 → Option Int32
  | 0, _, _, _, _ => none
  | f + 1, x3, x4, x6, x7 => if x7 ≤ 0 then if x3 < x6 then bnd (((((x4 >>> (((8 * ((x6 - 1) - x3)) : Int32).toInt64 &&& 63)) &&& 255) : Int64).toInt32) - 97) fun v5 => some (v5 + 1) else some 0 else fX11_letter_58 σ f x3 x4 (x6 + 1) (x7 >>> (((8) : Int32).toInt64 &&& 63))
theorem kX11_letter_58 {sc : Nat × (Nat → Int32)} (σ : zS) : ∀ (fuel : Nat) (x3 : Int32) (x4 : Int64) (x6 : Int32) (x7 : Int64) (w : Int32) (h : fX11_letter_58 σ fuel x3 x4 x6 x7 = some w), zR (zY0 sc) 2 0 0 mX11_letter 58 [(3, .int x3), (4, .long x4), (6, .int x6), (7, .long x7)] [] (zE σ) (some (.int w), zE σ) := by
  intro fuel
  induction fuel with
  | zero => intro x3 x4 x6 x7 w h; exact nomatch h
  | succ f ih =>
    intro x3 x4 x6 x7 w h
    rw [fX11_letter_58] at h
    refine kR.lload dX11_letter_58 3 rfl ?_
    refine zR.lconst (v := 0) dX11_letter_60 (by decide) ?_
    refine kR.lcmp_le (tgt := 78) dX11_letter_61 dX11_letter_62 (by decide) h (fun h => ?_) (fun h => ?_)
    · refine kR.iload_n dX11_letter_78 0 rfl ?_
      refine kR.iload dX11_letter_79 2 rfl ?_
      refine kR.icmp_lt (tgt := 88) dX11_letter_81 (by decide) h (fun h => ?_) (fun h => ?_)
      · refine kR.lload dX11_letter_88 1 rfl ?_
        refine zR.bipush (v := 8) dX11_letter_90 (by decide) ?_
        refine kR.iload dX11_letter_92 2 rfl ?_
        refine zR.iconst (v := 1) dX11_letter_94 (by decide) ?_
        refine zR.isub dX11_letter_95 ?_
        refine kR.iload_n dX11_letter_96 0 rfl ?_
        refine zR.isub dX11_letter_97 ?_
        refine zR.imul dX11_letter_98 ?_
        refine zR.lshr dX11_letter_99 ?_
        refine zR.ldc2 (v := 255) dX11_letter_100 clX11_495 ?_
        refine zR.land dX11_letter_103 ?_
        refine zR.l2i dX11_letter_104 ?_
        refine zR.bipush (v := 97) dX11_letter_105 (by decide) ?_
        refine zR.isub dX11_letter_107 ?_
        refine kR.nmI h (fun v5 h => ?_)
        refine zR.iconst (v := 1) dX11_letter_108 (by decide) ?_
        refine zR.iadd dX11_letter_109 ?_
        exact kR.iretO dX11_letter_110 (nzI rfl _) h
      · refine zR.iconst (v := 0) dX11_letter_84 (by decide) ?_
        refine zR.goto (tgt := 110) dX11_letter_85 (by decide) ?_
        exact kR.iretO dX11_letter_110 (nzI rfl _) h
    · refine zR.iinc 2 (v := x6 + 1) (ls' := [(6, .int (x6 + 1)), (3, .int x3), (4, .long x4), (7, .long x7)]) dX11_letter_65 rfl rfl (by decide) rfl ?_
      refine kR.lload dX11_letter_68 3 rfl ?_
      refine zR.bipush (v := 8) dX11_letter_70 (by decide) ?_
      refine zR.lshr dX11_letter_72 ?_
      refine zR.lstore (i := 7) (ls' := [(7, .long (x7 >>> (((8) : Int32).toInt64 &&& 63))), (6, .int (x6 + 1)), (3, .int x3), (4, .long x4)]) dX11_letter_73 (by decide) rfl ?_
      refine zR.goto (tgt := 58) dX11_letter_75 (by decide) ?_
      refine zR.sub [2, 3, 1, 0] rfl ?_
      exact ih _ _ _ _ _ h
def fX11_letter (σ : zS) (p1 : Int32) (p2 : Int32) (p3 : Int32) : Option Int32 := if (fX11_is p1 0 1) = 0 then some ((-1)) else bnr (fX11_manyOf σ (iG σ 56 13) p1) fun v1 => if (fX11_is p2 0 (v1 - 1)) = 0 then some ((-1)) else if (fX11_is p3 0 5) = 0 then some ((-1)) else bnr (fX11_nameOf σ (iG σ 56 13) p1 p2) fun v3 => fX11_letter_58 σ zF p3 v3 0 v3
theorem eX11_letter {sc : Nat × (Nat → Int32)} (σ : zS) (p1 : Int32) (p2 : Int32) (p3 : Int32) (w : Int32) (h : fX11_letter σ p1 p2 p3 = some w) : zR (zY0 sc) 2 0 0 mX11_letter 0 [(0, .ref 56), (1, .int p1), (2, .int p2), (3, .int p3)] [] (zE σ) (some (.int w), zE σ) := by
  unfold fX11_letter at h
  refine kR.iload_n dX11_letter_0 1 rfl ?_
  refine zR.iconst (v := 0) dX11_letter_1 (by decide) ?_
  refine zR.iconst (v := 1) dX11_letter_2 (by decide) ?_
  refine kR.cSi [.int p1, .int 0, .int 1] dX11_letter_3 rfl (by decide) (Or.inl mwX11_338) rfl (Nat.le_of_ble_eq_true rfl) (lX11_is p1 0 1) ?_
  refine kR.if_eq (tgt := 37) dX11_letter_6 (by decide) h (fun h => ?_) (fun h => ?_)
  · refine zR.iconst (v := (-1)) dX11_letter_37 (by decide) ?_
    exact kR.iretO dX11_letter_38 (nzI rfl _) h
  · refine kR.iload_n dX11_letter_9 2 rfl ?_
    refine zR.iconst (v := 0) dX11_letter_10 (by decide) ?_
    refine kR.aload_n dX11_letter_11 0 rfl ?_
    refine kR.aload_n dX11_letter_12 0 rfl ?_
    refine kR.getI dX11_letter_13 flX11_51 zcf11 zp56 (Or.inl rfl) ?_
    refine kR.iload_n dX11_letter_16 1 rfl ?_
    obtain ⟨v1, e2, h⟩ := bnr_some h
    refine kR.cVi [.int (iG σ 56 13), .int p1] dX11_letter_17 rfl (by decide) mwX11_330 zp56 (by decide) rfl rfl (Nat.le_of_ble_eq_true rfl) (lX11_manyOf σ (iG σ 56 13) p1 _ e2) ?_
    refine zR.iconst (v := 1) dX11_letter_20 (by decide) ?_
    refine zR.isub dX11_letter_21 ?_
    refine kR.cSi [.int p2, .int 0, .int (v1 - 1)] dX11_letter_22 rfl (by decide) (Or.inl mwX11_338) rfl (Nat.le_of_ble_eq_true rfl) (lX11_is p2 0 (v1 - 1)) ?_
    refine kR.if_eq (tgt := 37) dX11_letter_25 (by decide) h (fun h => ?_) (fun h => ?_)
    · refine zR.iconst (v := (-1)) dX11_letter_37 (by decide) ?_
      exact kR.iretO dX11_letter_38 (nzI rfl _) h
    · refine kR.iload_n dX11_letter_28 3 rfl ?_
      refine zR.iconst (v := 0) dX11_letter_29 (by decide) ?_
      refine zR.iconst (v := 5) dX11_letter_30 (by decide) ?_
      refine kR.cSi [.int p3, .int 0, .int 5] dX11_letter_31 rfl (by decide) (Or.inl mwX11_338) rfl (Nat.le_of_ble_eq_true rfl) (lX11_is p3 0 5) ?_
      refine kR.if_ne (tgt := 39) dX11_letter_34 (by decide) h (fun h => ?_) (fun h => ?_)
      · refine kR.aload_n dX11_letter_39 0 rfl ?_
        refine kR.aload_n dX11_letter_40 0 rfl ?_
        refine kR.getI dX11_letter_41 flX11_51 zcf11 zp56 (Or.inl rfl) ?_
        refine kR.iload_n dX11_letter_44 1 rfl ?_
        refine kR.iload_n dX11_letter_45 2 rfl ?_
        obtain ⟨v3, e4, h⟩ := bnr_some h
        refine kR.cVl [.int (iG σ 56 13), .int p1, .int p2] dX11_letter_46 rfl (by decide) mwX11_334 zp56 (by decide) rfl rfl (Nat.le_of_ble_eq_true rfl) (lX11_nameOf σ (iG σ 56 13) p1 p2 _ e4) ?_
        refine zR.lstore (i := 4) (ls' := [(4, .long v3), (0, .ref 56), (1, .int p1), (2, .int p2), (3, .int p3)]) dX11_letter_49 (by decide) rfl ?_
        refine zR.iconst (v := 0) dX11_letter_51 (by decide) ?_
        refine zR.istore (i := 6) (ls' := [(6, .int 0), (4, .long v3), (0, .ref 56), (1, .int p1), (2, .int p2), (3, .int p3)]) dX11_letter_52 (by decide) rfl ?_
        refine kR.lload dX11_letter_54 1 rfl ?_
        refine zR.lstore (i := 7) (ls' := [(7, .long v3), (6, .int 0), (4, .long v3), (0, .ref 56), (1, .int p1), (2, .int p2), (3, .int p3)]) dX11_letter_56 (by decide) rfl ?_
        refine zR.sub [6, 2, 1, 0] rfl ?_
        exact kX11_letter_58 σ zF _ _ _ _ _ h
      · refine zR.iconst (v := (-1)) dX11_letter_37 (by decide) ?_
        exact kR.iretO dX11_letter_38 (nzI rfl _) h
theorem lX11_letter {sc : Nat × (Nat → Int32)} (σ : zS) (p1 : Int32) (p2 : Int32) (p3 : Int32) (w : Int32) (h : fX11_letter σ p1 p2 p3 = some w) : zC (zY0 sc) 2 0 0 mX11_letter [.ref 56, .int p1, .int p2, .int p3] (zE σ) (some (.int w), zE σ) := zC.of (by decide +kernel) (Nat.le_of_ble_eq_true rfl) ⟨_, rfl⟩ (eX11_letter σ p1 p2 p3 w h)
theorem dX11_tunnel_0 : decode cX11_tunnel 0 = .ok (.aload_n 0, 1) := by decide +kernel
theorem dX11_tunnel_1 : decode cX11_tunnel 1 = .ok (.iload_n 1, 1) := by decide +kernel
theorem dX11_tunnel_2 : decode cX11_tunnel 2 = .ok (.invokevirtual 497, 3) := by decide +kernel
theorem dX11_tunnel_5 : decode cX11_tunnel 5 = .ok (.ifCond .ne 5, 3) := by decide +kernel
theorem dX11_tunnel_8 : decode cX11_tunnel 8 = .ok (.iconst (-1), 1) := by decide +kernel
theorem dX11_tunnel_9 : decode cX11_tunnel 9 = .ok (.ireturn, 1) := by decide +kernel
theorem dX11_tunnel_10 : decode cX11_tunnel 10 = .ok (.iload_n 2, 1) := by decide +kernel
theorem dX11_tunnel_11 : decode cX11_tunnel 11 = .ok (.iconst 3, 1) := by decide +kernel
theorem dX11_tunnel_12 : decode cX11_tunnel 12 = .ok (.if_icmp .ge 52, 3) := by decide +kernel
theorem dX11_tunnel_15 : decode cX11_tunnel 15 = .ok (.iload_n 2, 1) := by decide +kernel
theorem dX11_tunnel_16 : decode cX11_tunnel 16 = .ok (.ifCond .ne 20, 3) := by decide +kernel
theorem dX11_tunnel_19 : decode cX11_tunnel 19 = .ok (.aload_n 0, 1) := by decide +kernel
theorem dX11_tunnel_20 : decode cX11_tunnel 20 = .ok (.getfield 57, 3) := by decide +kernel
theorem dX11_tunnel_23 : decode cX11_tunnel 23 = .ok (.bipush 6, 2) := by decide +kernel
theorem dX11_tunnel_25 : decode cX11_tunnel 25 = .ok (.aload_n 0, 1) := by decide +kernel
theorem dX11_tunnel_26 : decode cX11_tunnel 26 = .ok (.getfield 51, 3) := by decide +kernel
theorem dX11_tunnel_29 : decode cX11_tunnel 29 = .ok (.imul, 1) := by decide +kernel
theorem dX11_tunnel_30 : decode cX11_tunnel 30 = .ok (.iload_n 1, 1) := by decide +kernel
theorem dX11_tunnel_31 : decode cX11_tunnel 31 = .ok (.iadd, 1) := by decide +kernel
theorem dX11_tunnel_32 : decode cX11_tunnel 32 = .ok (.iaload, 1) := by decide +kernel
theorem dX11_tunnel_33 : decode cX11_tunnel 33 = .ok (.goto 30, 3) := by decide +kernel
theorem dX11_tunnel_36 : decode cX11_tunnel 36 = .ok (.iload_n 2, 1) := by decide +kernel
theorem dX11_tunnel_37 : decode cX11_tunnel 37 = .ok (.iconst 1, 1) := by decide +kernel
theorem dX11_tunnel_38 : decode cX11_tunnel 38 = .ok (.if_icmp .ne 11, 3) := by decide +kernel
theorem dX11_tunnel_41 : decode cX11_tunnel 41 = .ok (.aload_n 0, 1) := by decide +kernel
theorem dX11_tunnel_42 : decode cX11_tunnel 42 = .ok (.iload_n 1, 1) := by decide +kernel
theorem dX11_tunnel_43 : decode cX11_tunnel 43 = .ok (.invokevirtual 437, 3) := by decide +kernel
theorem dX11_tunnel_46 : decode cX11_tunnel 46 = .ok (.goto 17, 3) := by decide +kernel
theorem dX11_tunnel_49 : decode cX11_tunnel 49 = .ok (.iload_n 2, 1) := by decide +kernel
theorem dX11_tunnel_50 : decode cX11_tunnel 50 = .ok (.iconst 2, 1) := by decide +kernel
theorem dX11_tunnel_51 : decode cX11_tunnel 51 = .ok (.if_icmp .ne 11, 3) := by decide +kernel
theorem dX11_tunnel_54 : decode cX11_tunnel 54 = .ok (.aload_n 0, 1) := by decide +kernel
theorem dX11_tunnel_55 : decode cX11_tunnel 55 = .ok (.iload_n 1, 1) := by decide +kernel
theorem dX11_tunnel_56 : decode cX11_tunnel 56 = .ok (.invokevirtual 500, 3) := by decide +kernel
theorem dX11_tunnel_59 : decode cX11_tunnel 59 = .ok (.goto 4, 3) := by decide +kernel
theorem dX11_tunnel_62 : decode cX11_tunnel 62 = .ok (.iconst (-1), 1) := by decide +kernel
theorem dX11_tunnel_63 : decode cX11_tunnel 63 = .ok (.ireturn, 1) := by decide +kernel
theorem dX11_tunnel_64 : decode cX11_tunnel 64 = .ok (.iload_n 2, 1) := by decide +kernel
theorem dX11_tunnel_65 : decode cX11_tunnel 65 = .ok (.bipush 10, 2) := by decide +kernel
theorem dX11_tunnel_67 : decode cX11_tunnel 67 = .ok (.bipush 9, 2) := by decide +kernel
theorem dX11_tunnel_69 : decode cX11_tunnel 69 = .ok (.aload_n 0, 1) := by decide +kernel
theorem dX11_tunnel_70 : decode cX11_tunnel 70 = .ok (.iload_n 1, 1) := by decide +kernel
theorem dX11_tunnel_71 : decode cX11_tunnel 71 = .ok (.invokevirtual 437, 3) := by decide +kernel
theorem dX11_tunnel_74 : decode cX11_tunnel 74 = .ok (.iadd, 1) := by decide +kernel
theorem dX11_tunnel_75 : decode cX11_tunnel 75 = .ok (.invokestatic 338, 3) := by decide +kernel
theorem dX11_tunnel_78 : decode cX11_tunnel 78 = .ok (.ifCond .eq 13, 3) := by decide +kernel
theorem dX11_tunnel_81 : decode cX11_tunnel 81 = .ok (.aload_n 0, 1) := by decide +kernel
theorem dX11_tunnel_82 : decode cX11_tunnel 82 = .ok (.iload_n 1, 1) := by decide +kernel
theorem dX11_tunnel_83 : decode cX11_tunnel 83 = .ok (.iload_n 2, 1) := by decide +kernel
theorem dX11_tunnel_84 : decode cX11_tunnel 84 = .ok (.bipush 10, 2) := by decide +kernel
theorem dX11_tunnel_86 : decode cX11_tunnel 86 = .ok (.isub, 1) := by decide +kernel
theorem dX11_tunnel_87 : decode cX11_tunnel 87 = .ok (.invokevirtual 503, 3) := by decide +kernel
theorem dX11_tunnel_90 : decode cX11_tunnel 90 = .ok (.ireturn, 1) := by decide +kernel
theorem dX11_tunnel_91 : decode cX11_tunnel 91 = .ok (.iload_n 2, 1) := by decide +kernel
theorem dX11_tunnel_92 : decode cX11_tunnel 92 = .ok (.bipush 20, 2) := by decide +kernel
theorem dX11_tunnel_94 : decode cX11_tunnel 94 = .ok (.bipush 19, 2) := by decide +kernel
theorem dX11_tunnel_96 : decode cX11_tunnel 96 = .ok (.aload_n 0, 1) := by decide +kernel
theorem dX11_tunnel_97 : decode cX11_tunnel 97 = .ok (.iload_n 1, 1) := by decide +kernel
theorem dX11_tunnel_98 : decode cX11_tunnel 98 = .ok (.invokevirtual 437, 3) := by decide +kernel
theorem dX11_tunnel_101 : decode cX11_tunnel 101 = .ok (.iadd, 1) := by decide +kernel
theorem dX11_tunnel_102 : decode cX11_tunnel 102 = .ok (.invokestatic 338, 3) := by decide +kernel
theorem dX11_tunnel_105 : decode cX11_tunnel 105 = .ok (.ifCond .eq 15, 3) := by decide +kernel
theorem dX11_tunnel_108 : decode cX11_tunnel 108 = .ok (.aload_n 0, 1) := by decide +kernel
theorem dX11_tunnel_109 : decode cX11_tunnel 109 = .ok (.iload_n 1, 1) := by decide +kernel
theorem dX11_tunnel_110 : decode cX11_tunnel 110 = .ok (.iload_n 2, 1) := by decide +kernel
theorem dX11_tunnel_111 : decode cX11_tunnel 111 = .ok (.bipush 20, 2) := by decide +kernel
theorem dX11_tunnel_113 : decode cX11_tunnel 113 = .ok (.isub, 1) := by decide +kernel
theorem dX11_tunnel_114 : decode cX11_tunnel 114 = .ok (.invokevirtual 440, 3) := by decide +kernel
theorem dX11_tunnel_117 : decode cX11_tunnel 117 = .ok (.goto 4, 3) := by decide +kernel
theorem dX11_tunnel_120 : decode cX11_tunnel 120 = .ok (.iconst (-1), 1) := by decide +kernel
theorem dX11_tunnel_121 : decode cX11_tunnel 121 = .ok (.ireturn, 1) := by decide +kernel
def fX11_tunnel (σ : zS) (p1 : Int32) (p2 : Int32) : Option Int32 := bnr (fX11_isTunnel σ p1) fun v1 => if v1 = 0 then some ((-1)) else if 3 ≤ p2 then bnr (fX11_lengthsOf σ p1) fun v3 => if (fX11_is p2 10 (9 + v3)) = 0 then bnr (fX11_lengthsOf σ p1) fun v5 => if (fX11_is p2 20 (19 + v5)) = 0 then some ((-1)) else bnr (fX11_weightAt σ p1 (p2 - 20)) fun v7 => some v7 else bnr (fX11_lengthAt σ p1 (p2 - 10)) fun v9 => some v9 else if p2 = 0 then aI σ 59 12 ((6 * (iG σ 56 13)) + p1) fun v15 => some v15 else if p2 = 1 then bnr (fX11_lengthsOf σ p1) fun v13 => some v13 else if p2 = 2 then bnr (fX11_weights σ p1) fun v11 => some v11 else some ((-1))
theorem eX11_tunnel {sc : Nat × (Nat → Int32)} (σ : zS) (p1 : Int32) (p2 : Int32) (w : Int32) (h : fX11_tunnel σ p1 p2 = some w) : zR (zY0 sc) 3 0 0 mX11_tunnel 0 [(0, .ref 56), (1, .int p1), (2, .int p2)] [] (zE σ) (some (.int w), zE σ) := by
  unfold fX11_tunnel at h
  refine kR.aload_n dX11_tunnel_0 0 rfl ?_
  refine kR.iload_n dX11_tunnel_1 1 rfl ?_
  obtain ⟨v1, e2, h⟩ := bnr_some h
  refine kR.cVi [.int p1] dX11_tunnel_2 rfl (by decide) mwX11_497 zp56 (by decide) rfl rfl (Nat.le_of_ble_eq_true rfl) (lX11_isTunnel σ p1 _ e2) ?_
  refine kR.if_ne (tgt := 10) dX11_tunnel_5 (by decide) h (fun h => ?_) (fun h => ?_)
  · refine kR.iload_n dX11_tunnel_10 2 rfl ?_
    refine zR.iconst (v := 3) dX11_tunnel_11 (by decide) ?_
    refine kR.icmp_ge (tgt := 64) dX11_tunnel_12 (by decide) h (fun h => ?_) (fun h => ?_)
    · refine kR.iload_n dX11_tunnel_64 2 rfl ?_
      refine zR.bipush (v := 10) dX11_tunnel_65 (by decide) ?_
      refine zR.bipush (v := 9) dX11_tunnel_67 (by decide) ?_
      refine kR.aload_n dX11_tunnel_69 0 rfl ?_
      refine kR.iload_n dX11_tunnel_70 1 rfl ?_
      obtain ⟨v3, e4, h⟩ := bnr_some h
      refine kR.cVi [.int p1] dX11_tunnel_71 rfl (by decide) mwX11_437 zp56 (by decide) rfl rfl (Nat.le_of_ble_eq_true rfl) (lX11_lengthsOf σ p1 _ e4) ?_
      refine zR.iadd dX11_tunnel_74 ?_
      refine kR.cSi [.int p2, .int 10, .int (9 + v3)] dX11_tunnel_75 rfl (by decide) (Or.inl mwX11_338) rfl (Nat.le_of_ble_eq_true rfl) (lX11_is p2 10 (9 + v3)) ?_
      refine kR.if_eq (tgt := 91) dX11_tunnel_78 (by decide) h (fun h => ?_) (fun h => ?_)
      · refine kR.iload_n dX11_tunnel_91 2 rfl ?_
        refine zR.bipush (v := 20) dX11_tunnel_92 (by decide) ?_
        refine zR.bipush (v := 19) dX11_tunnel_94 (by decide) ?_
        refine kR.aload_n dX11_tunnel_96 0 rfl ?_
        refine kR.iload_n dX11_tunnel_97 1 rfl ?_
        obtain ⟨v5, e6, h⟩ := bnr_some h
        refine kR.cVi [.int p1] dX11_tunnel_98 rfl (by decide) mwX11_437 zp56 (by decide) rfl rfl (Nat.le_of_ble_eq_true rfl) (lX11_lengthsOf σ p1 _ e6) ?_
        refine zR.iadd dX11_tunnel_101 ?_
        refine kR.cSi [.int p2, .int 20, .int (19 + v5)] dX11_tunnel_102 rfl (by decide) (Or.inl mwX11_338) rfl (Nat.le_of_ble_eq_true rfl) (lX11_is p2 20 (19 + v5)) ?_
        refine kR.if_eq (tgt := 120) dX11_tunnel_105 (by decide) h (fun h => ?_) (fun h => ?_)
        · refine zR.iconst (v := (-1)) dX11_tunnel_120 (by decide) ?_
          exact kR.iretO dX11_tunnel_121 (nzI rfl _) h
        · refine kR.aload_n dX11_tunnel_108 0 rfl ?_
          refine kR.iload_n dX11_tunnel_109 1 rfl ?_
          refine kR.iload_n dX11_tunnel_110 2 rfl ?_
          refine zR.bipush (v := 20) dX11_tunnel_111 (by decide) ?_
          refine zR.isub dX11_tunnel_113 ?_
          obtain ⟨v7, e8, h⟩ := bnr_some h
          refine kR.cVi [.int p1, .int (p2 - 20)] dX11_tunnel_114 rfl (by decide) mwX11_440 zp56 (by decide) rfl rfl (Nat.le_of_ble_eq_true rfl) (lX11_weightAt σ p1 (p2 - 20) _ e8) ?_
          refine zR.goto (tgt := 121) dX11_tunnel_117 (by decide) ?_
          exact kR.iretO dX11_tunnel_121 (nzI rfl _) h
      · refine kR.aload_n dX11_tunnel_81 0 rfl ?_
        refine kR.iload_n dX11_tunnel_82 1 rfl ?_
        refine kR.iload_n dX11_tunnel_83 2 rfl ?_
        refine zR.bipush (v := 10) dX11_tunnel_84 (by decide) ?_
        refine zR.isub dX11_tunnel_86 ?_
        obtain ⟨v9, e10, h⟩ := bnr_some h
        refine kR.cVi [.int p1, .int (p2 - 10)] dX11_tunnel_87 rfl (by decide) mwX11_503 zp56 (by decide) rfl rfl (Nat.le_of_ble_eq_true rfl) (lX11_lengthAt σ p1 (p2 - 10) _ e10) ?_
        exact kR.iretO dX11_tunnel_90 (nzI rfl _) h
    · refine kR.iload_n dX11_tunnel_15 2 rfl ?_
      refine kR.if_ne (tgt := 36) dX11_tunnel_16 (by decide) h (fun h => ?_) (fun h => ?_)
      · refine kR.iload_n dX11_tunnel_36 2 rfl ?_
        refine zR.iconst (v := 1) dX11_tunnel_37 (by decide) ?_
        refine kR.icmp_ne (tgt := 49) dX11_tunnel_38 (by decide) h (fun h => ?_) (fun h => ?_)
        · refine kR.iload_n dX11_tunnel_49 2 rfl ?_
          refine zR.iconst (v := 2) dX11_tunnel_50 (by decide) ?_
          refine kR.icmp_ne (tgt := 62) dX11_tunnel_51 (by decide) h (fun h => ?_) (fun h => ?_)
          · refine zR.iconst (v := (-1)) dX11_tunnel_62 (by decide) ?_
            exact kR.iretO dX11_tunnel_63 (nzI rfl _) h
          · refine kR.aload_n dX11_tunnel_54 0 rfl ?_
            refine kR.iload_n dX11_tunnel_55 1 rfl ?_
            obtain ⟨v11, e12, h⟩ := bnr_some h
            refine kR.cVi [.int p1] dX11_tunnel_56 rfl (by decide) mwX11_500 zp56 (by decide) rfl rfl (Nat.le_of_ble_eq_true rfl) (lX11_weights σ p1 _ e12) ?_
            refine zR.goto (tgt := 63) dX11_tunnel_59 (by decide) ?_
            exact kR.iretO dX11_tunnel_63 (nzI rfl _) h
        · refine kR.aload_n dX11_tunnel_41 0 rfl ?_
          refine kR.iload_n dX11_tunnel_42 1 rfl ?_
          obtain ⟨v13, e14, h⟩ := bnr_some h
          refine kR.cVi [.int p1] dX11_tunnel_43 rfl (by decide) mwX11_437 zp56 (by decide) rfl rfl (Nat.le_of_ble_eq_true rfl) (lX11_lengthsOf σ p1 _ e14) ?_
          refine zR.goto (tgt := 63) dX11_tunnel_46 (by decide) ?_
          exact kR.iretO dX11_tunnel_63 (nzI rfl _) h
      · refine kR.aload_n dX11_tunnel_19 0 rfl ?_
        refine kR.getR (v := 59) dX11_tunnel_20 flX11_57 zcf11 zp56 (Or.inr ⟨_, rfl⟩) rfl ?_
        refine zR.bipush (v := 6) dX11_tunnel_23 (by decide) ?_
        refine kR.aload_n dX11_tunnel_25 0 rfl ?_
        refine kR.getI dX11_tunnel_26 flX11_51 zcf11 zp56 (Or.inl rfl) ?_
        refine zR.imul dX11_tunnel_29 ?_
        refine kR.iload_n dX11_tunnel_30 1 rfl ?_
        refine zR.iadd dX11_tunnel_31 ?_
        refine kR.iald dX11_tunnel_32 zp59 rfl h (fun v15 h => ?_)
        refine zR.goto (tgt := 63) dX11_tunnel_33 (by decide) ?_
        exact kR.iretO dX11_tunnel_63 (nzI rfl _) h
  · refine zR.iconst (v := (-1)) dX11_tunnel_8 (by decide) ?_
    exact kR.iretO dX11_tunnel_9 (nzI rfl _) h
theorem lX11_tunnel {sc : Nat × (Nat → Int32)} (σ : zS) (p1 : Int32) (p2 : Int32) (w : Int32) (h : fX11_tunnel σ p1 p2 = some w) : zC (zY0 sc) 3 0 0 mX11_tunnel [.ref 56, .int p1, .int p2] (zE σ) (some (.int w), zE σ) := zC.of (by decide +kernel) (Nat.le_of_ble_eq_true rfl) ⟨_, rfl⟩ (eX11_tunnel σ p1 p2 w h)
theorem dX11_holder_0 : decode cX11_holder 0 = .ok (.aload_n 0, 1) := by decide +kernel
theorem dX11_holder_1 : decode cX11_holder 1 = .ok (.iload_n 1, 1) := by decide +kernel
theorem dX11_holder_2 : decode cX11_holder 2 = .ok (.invokevirtual 506, 3) := by decide +kernel
theorem dX11_holder_5 : decode cX11_holder 5 = .ok (.ifCond .ne 5, 3) := by decide +kernel
theorem dX11_holder_8 : decode cX11_holder 8 = .ok (.iconst (-1), 1) := by decide +kernel
theorem dX11_holder_9 : decode cX11_holder 9 = .ok (.ireturn, 1) := by decide +kernel
theorem dX11_holder_10 : decode cX11_holder 10 = .ok (.iload_n 2, 1) := by decide +kernel
theorem dX11_holder_11 : decode cX11_holder 11 = .ok (.tableswitch 73 0 3 #[29, 36, 51, 66], 29) := by decide +kernel
theorem dX11_holder_40 : decode cX11_holder 40 = .ok (.aload_n 0, 1) := by decide +kernel
theorem dX11_holder_41 : decode cX11_holder 41 = .ok (.getfield 159, 3) := by decide +kernel
theorem dX11_holder_44 : decode cX11_holder 44 = .ok (.iload_n 1, 1) := by decide +kernel
theorem dX11_holder_45 : decode cX11_holder 45 = .ok (.iaload, 1) := by decide +kernel
theorem dX11_holder_46 : decode cX11_holder 46 = .ok (.ireturn, 1) := by decide +kernel
theorem dX11_holder_47 : decode cX11_holder 47 = .ok (.aload_n 0, 1) := by decide +kernel
theorem dX11_holder_48 : decode cX11_holder 48 = .ok (.getfield 72, 3) := by decide +kernel
theorem dX11_holder_51 : decode cX11_holder 51 = .ok (.bipush 6, 2) := by decide +kernel
theorem dX11_holder_53 : decode cX11_holder 53 = .ok (.aload_n 0, 1) := by decide +kernel
theorem dX11_holder_54 : decode cX11_holder 54 = .ok (.getfield 51, 3) := by decide +kernel
theorem dX11_holder_57 : decode cX11_holder 57 = .ok (.imul, 1) := by decide +kernel
theorem dX11_holder_58 : decode cX11_holder 58 = .ok (.iload_n 1, 1) := by decide +kernel
theorem dX11_holder_59 : decode cX11_holder 59 = .ok (.iadd, 1) := by decide +kernel
theorem dX11_holder_60 : decode cX11_holder 60 = .ok (.iaload, 1) := by decide +kernel
theorem dX11_holder_61 : decode cX11_holder 61 = .ok (.ireturn, 1) := by decide +kernel
theorem dX11_holder_62 : decode cX11_holder 62 = .ok (.aload_n 0, 1) := by decide +kernel
theorem dX11_holder_63 : decode cX11_holder 63 = .ok (.getfield 75, 3) := by decide +kernel
theorem dX11_holder_66 : decode cX11_holder 66 = .ok (.bipush 6, 2) := by decide +kernel
theorem dX11_holder_68 : decode cX11_holder 68 = .ok (.aload_n 0, 1) := by decide +kernel
theorem dX11_holder_69 : decode cX11_holder 69 = .ok (.getfield 51, 3) := by decide +kernel
theorem dX11_holder_72 : decode cX11_holder 72 = .ok (.imul, 1) := by decide +kernel
theorem dX11_holder_73 : decode cX11_holder 73 = .ok (.iload_n 1, 1) := by decide +kernel
theorem dX11_holder_74 : decode cX11_holder 74 = .ok (.iadd, 1) := by decide +kernel
theorem dX11_holder_75 : decode cX11_holder 75 = .ok (.iaload, 1) := by decide +kernel
theorem dX11_holder_76 : decode cX11_holder 76 = .ok (.ireturn, 1) := by decide +kernel
theorem dX11_holder_77 : decode cX11_holder 77 = .ok (.aload_n 0, 1) := by decide +kernel
theorem dX11_holder_78 : decode cX11_holder 78 = .ok (.getfield 162, 3) := by decide +kernel
theorem dX11_holder_81 : decode cX11_holder 81 = .ok (.iload_n 1, 1) := by decide +kernel
theorem dX11_holder_82 : decode cX11_holder 82 = .ok (.iaload, 1) := by decide +kernel
theorem dX11_holder_83 : decode cX11_holder 83 = .ok (.ireturn, 1) := by decide +kernel
theorem dX11_holder_84 : decode cX11_holder 84 = .ok (.aload_n 0, 1) := by decide +kernel
theorem dX11_holder_85 : decode cX11_holder 85 = .ok (.iload_n 2, 1) := by decide +kernel
theorem dX11_holder_86 : decode cX11_holder 86 = .ok (.bipush 10, 2) := by decide +kernel
theorem dX11_holder_88 : decode cX11_holder 88 = .ok (.isub, 1) := by decide +kernel
theorem dX11_holder_89 : decode cX11_holder 89 = .ok (.invokevirtual 497, 3) := by decide +kernel
theorem dX11_holder_92 : decode cX11_holder 92 = .ok (.ifCond .eq 20, 3) := by decide +kernel
theorem dX11_holder_95 : decode cX11_holder 95 = .ok (.aload_n 0, 1) := by decide +kernel
theorem dX11_holder_96 : decode cX11_holder 96 = .ok (.getfield 168, 3) := by decide +kernel
theorem dX11_holder_99 : decode cX11_holder 99 = .ok (.bipush 6, 2) := by decide +kernel
theorem dX11_holder_101 : decode cX11_holder 101 = .ok (.iload_n 1, 1) := by decide +kernel
theorem dX11_holder_102 : decode cX11_holder 102 = .ok (.imul, 1) := by decide +kernel
theorem dX11_holder_103 : decode cX11_holder 103 = .ok (.iload_n 2, 1) := by decide +kernel
theorem dX11_holder_104 : decode cX11_holder 104 = .ok (.iadd, 1) := by decide +kernel
theorem dX11_holder_105 : decode cX11_holder 105 = .ok (.bipush 10, 2) := by decide +kernel
theorem dX11_holder_107 : decode cX11_holder 107 = .ok (.isub, 1) := by decide +kernel
theorem dX11_holder_108 : decode cX11_holder 108 = .ok (.iaload, 1) := by decide +kernel
theorem dX11_holder_109 : decode cX11_holder 109 = .ok (.goto 4, 3) := by decide +kernel
theorem dX11_holder_112 : decode cX11_holder 112 = .ok (.iconst (-1), 1) := by decide +kernel
theorem dX11_holder_113 : decode cX11_holder 113 = .ok (.ireturn, 1) := by decide +kernel
def fX11_holder (σ : zS) (p1 : Int32) (p2 : Int32) : Option Int32 := bnr (fX11_isHolder σ p1) fun v1 => if v1 = 0 then some ((-1)) else if p2 = 0 then aI σ 86 132 p1 fun v3 => some v3 else if p2 = 1 then aI σ 64 12 ((6 * (iG σ 56 13)) + p1) fun v4 => some v4 else if p2 = 2 then aI σ 65 12 ((6 * (iG σ 56 13)) + p1) fun v5 => some v5 else if p2 = 3 then aI σ 87 132 p1 fun v6 => some v6 else bnr (fX11_isTunnel σ (p2 - 10)) fun v7 => if v7 = 0 then some ((-1)) else aI σ 89 792 (((6 * p1) + p2) - 10) fun v9 => some v9
theorem eX11_holder {sc : Nat × (Nat → Int32)} (σ : zS) (p1 : Int32) (p2 : Int32) (w : Int32) (h : fX11_holder σ p1 p2 = some w) : zR (zY0 sc) 2 0 0 mX11_holder 0 [(0, .ref 56), (1, .int p1), (2, .int p2)] [] (zE σ) (some (.int w), zE σ) := by
  unfold fX11_holder at h
  refine kR.aload_n dX11_holder_0 0 rfl ?_
  refine kR.iload_n dX11_holder_1 1 rfl ?_
  obtain ⟨v1, e2, h⟩ := bnr_some h
  refine kR.cVi [.int p1] dX11_holder_2 rfl (by decide) mwX11_506 zp56 (by decide) rfl rfl (Nat.le_of_ble_eq_true rfl) (lX11_isHolder σ p1 _ e2) ?_
  refine kR.if_ne (tgt := 10) dX11_holder_5 (by decide) h (fun h => ?_) (fun h => ?_)
  · refine kR.iload_n dX11_holder_10 2 rfl ?_
    by_cases e0 : p2 = 0
    · rw [if_pos e0] at h
      refine zR.tableIn (off := 29) (tgt := 40) dX11_holder_11 (by rw [e0]; decide) (by rw [e0]; decide) (by rw [e0]; rfl) (by decide) ?_
      refine kR.aload_n dX11_holder_40 0 rfl ?_
      refine kR.getR (v := 86) dX11_holder_41 flX11_159 zcf11 zp56 (Or.inr ⟨_, rfl⟩) rfl ?_
      refine kR.iload_n dX11_holder_44 1 rfl ?_
      refine kR.iald dX11_holder_45 zp86 rfl h (fun v3 h => ?_)
      exact kR.iretO dX11_holder_46 (nzI rfl _) h
    rw [if_neg e0] at h
    by_cases e1 : p2 = 1
    · rw [if_pos e1] at h
      refine zR.tableIn (off := 36) (tgt := 47) dX11_holder_11 (by rw [e1]; decide) (by rw [e1]; decide) (by rw [e1]; rfl) (by decide) ?_
      refine kR.aload_n dX11_holder_47 0 rfl ?_
      refine kR.getR (v := 64) dX11_holder_48 flX11_72 zcf11 zp56 (Or.inr ⟨_, rfl⟩) rfl ?_
      refine zR.bipush (v := 6) dX11_holder_51 (by decide) ?_
      refine kR.aload_n dX11_holder_53 0 rfl ?_
      refine kR.getI dX11_holder_54 flX11_51 zcf11 zp56 (Or.inl rfl) ?_
      refine zR.imul dX11_holder_57 ?_
      refine kR.iload_n dX11_holder_58 1 rfl ?_
      refine zR.iadd dX11_holder_59 ?_
      refine kR.iald dX11_holder_60 zp64 rfl h (fun v4 h => ?_)
      exact kR.iretO dX11_holder_61 (nzI rfl _) h
    rw [if_neg e1] at h
    by_cases e2 : p2 = 2
    · rw [if_pos e2] at h
      refine zR.tableIn (off := 51) (tgt := 62) dX11_holder_11 (by rw [e2]; decide) (by rw [e2]; decide) (by rw [e2]; rfl) (by decide) ?_
      refine kR.aload_n dX11_holder_62 0 rfl ?_
      refine kR.getR (v := 65) dX11_holder_63 flX11_75 zcf11 zp56 (Or.inr ⟨_, rfl⟩) rfl ?_
      refine zR.bipush (v := 6) dX11_holder_66 (by decide) ?_
      refine kR.aload_n dX11_holder_68 0 rfl ?_
      refine kR.getI dX11_holder_69 flX11_51 zcf11 zp56 (Or.inl rfl) ?_
      refine zR.imul dX11_holder_72 ?_
      refine kR.iload_n dX11_holder_73 1 rfl ?_
      refine zR.iadd dX11_holder_74 ?_
      refine kR.iald dX11_holder_75 zp65 rfl h (fun v5 h => ?_)
      exact kR.iretO dX11_holder_76 (nzI rfl _) h
    rw [if_neg e2] at h
    by_cases e3 : p2 = 3
    · rw [if_pos e3] at h
      refine zR.tableIn (off := 66) (tgt := 77) dX11_holder_11 (by rw [e3]; decide) (by rw [e3]; decide) (by rw [e3]; rfl) (by decide) ?_
      refine kR.aload_n dX11_holder_77 0 rfl ?_
      refine kR.getR (v := 87) dX11_holder_78 flX11_162 zcf11 zp56 (Or.inr ⟨_, rfl⟩) rfl ?_
      refine kR.iload_n dX11_holder_81 1 rfl ?_
      refine kR.iald dX11_holder_82 zp87 rfl h (fun v6 h => ?_)
      exact kR.iretO dX11_holder_83 (nzI rfl _) h
    rw [if_neg e3] at h
    refine zR.tableD (tgt := 84) dX11_holder_11 (ts_out 4 (by decide) (fun j hj e => match j, hj, e with | 0, _, e => absurd e (tne e0 rfl) | 1, _, e => absurd e (tne e1 rfl) | 2, _, e => absurd e (tne e2 rfl) | 3, _, e => absurd e (tne e3 rfl) | j + 4, hj, _ => absurd hj (by omega))) (by decide) ?_
    refine kR.aload_n dX11_holder_84 0 rfl ?_
    refine kR.iload_n dX11_holder_85 2 rfl ?_
    refine zR.bipush (v := 10) dX11_holder_86 (by decide) ?_
    refine zR.isub dX11_holder_88 ?_
    obtain ⟨v7, e8, h⟩ := bnr_some h
    refine kR.cVi [.int (p2 - 10)] dX11_holder_89 rfl (by decide) mwX11_497 zp56 (by decide) rfl rfl (Nat.le_of_ble_eq_true rfl) (lX11_isTunnel σ (p2 - 10) _ e8) ?_
    refine kR.if_eq (tgt := 112) dX11_holder_92 (by decide) h (fun h => ?_) (fun h => ?_)
    · refine zR.iconst (v := (-1)) dX11_holder_112 (by decide) ?_
      exact kR.iretO dX11_holder_113 (nzI rfl _) h
    · refine kR.aload_n dX11_holder_95 0 rfl ?_
      refine kR.getR (v := 89) dX11_holder_96 flX11_168 zcf11 zp56 (Or.inr ⟨_, rfl⟩) rfl ?_
      refine zR.bipush (v := 6) dX11_holder_99 (by decide) ?_
      refine kR.iload_n dX11_holder_101 1 rfl ?_
      refine zR.imul dX11_holder_102 ?_
      refine kR.iload_n dX11_holder_103 2 rfl ?_
      refine zR.iadd dX11_holder_104 ?_
      refine zR.bipush (v := 10) dX11_holder_105 (by decide) ?_
      refine zR.isub dX11_holder_107 ?_
      refine kR.iald dX11_holder_108 zp89 rfl h (fun v9 h => ?_)
      refine zR.goto (tgt := 113) dX11_holder_109 (by decide) ?_
      exact kR.iretO dX11_holder_113 (nzI rfl _) h
  · refine zR.iconst (v := (-1)) dX11_holder_8 (by decide) ?_
    exact kR.iretO dX11_holder_9 (nzI rfl _) h
theorem lX11_holder {sc : Nat × (Nat → Int32)} (σ : zS) (p1 : Int32) (p2 : Int32) (w : Int32) (h : fX11_holder σ p1 p2 = some w) : zC (zY0 sc) 2 0 0 mX11_holder [.ref 56, .int p1, .int p2] (zE σ) (some (.int w), zE σ) := zC.of (by decide +kernel) (Nat.le_of_ble_eq_true rfl) ⟨_, rfl⟩ (eX11_holder σ p1 p2 w h)
theorem dX11_score_0 : decode cX11_score 0 = .ok (.aload_n 0, 1) := by decide +kernel
theorem dX11_score_1 : decode cX11_score 1 = .ok (.iload_n 1, 1) := by decide +kernel
theorem dX11_score_2 : decode cX11_score 2 = .ok (.invokevirtual 506, 3) := by decide +kernel
theorem dX11_score_5 : decode cX11_score 5 = .ok (.ifCond .eq 12, 3) := by decide +kernel
theorem dX11_score_8 : decode cX11_score 8 = .ok (.aload_n 0, 1) := by decide +kernel
theorem dX11_score_9 : decode cX11_score 9 = .ok (.getfield 165, 3) := by decide +kernel
theorem dX11_score_12 : decode cX11_score 12 = .ok (.iload_n 1, 1) := by decide +kernel
theorem dX11_score_13 : decode cX11_score 13 = .ok (.iaload, 1) := by decide +kernel
theorem dX11_score_14 : decode cX11_score 14 = .ok (.goto 6, 3) := by decide +kernel
theorem dX11_score_17 : decode cX11_score 17 = .ok (.ldc_w 509, 3) := by decide +kernel
theorem dX11_score_20 : decode cX11_score 20 = .ok (.ireturn, 1) := by decide +kernel
def fX11_score (σ : zS) (p1 : Int32) : Option Int32 := bnr (fX11_isHolder σ p1) fun v1 => if v1 = 0 then some ((-1000000000)) else aI σ 88 132 p1 fun v3 => some v3
theorem eX11_score {sc : Nat × (Nat → Int32)} (σ : zS) (p1 : Int32) (w : Int32) (h : fX11_score σ p1 = some w) : zR (zY0 sc) 2 0 0 mX11_score 0 [(0, .ref 56), (1, .int p1)] [] (zE σ) (some (.int w), zE σ) := by
  unfold fX11_score at h
  refine kR.aload_n dX11_score_0 0 rfl ?_
  refine kR.iload_n dX11_score_1 1 rfl ?_
  obtain ⟨v1, e2, h⟩ := bnr_some h
  refine kR.cVi [.int p1] dX11_score_2 rfl (by decide) mwX11_506 zp56 (by decide) rfl rfl (Nat.le_of_ble_eq_true rfl) (lX11_isHolder σ p1 _ e2) ?_
  refine kR.if_eq (tgt := 17) dX11_score_5 (by decide) h (fun h => ?_) (fun h => ?_)
  · refine zR.ldcw (v := (-1000000000)) dX11_score_17 ciX11_509 ?_
    exact kR.iretO dX11_score_20 (nzI rfl _) h
  · refine kR.aload_n dX11_score_8 0 rfl ?_
    refine kR.getR (v := 88) dX11_score_9 flX11_165 zcf11 zp56 (Or.inr ⟨_, rfl⟩) rfl ?_
    refine kR.iload_n dX11_score_12 1 rfl ?_
    refine kR.iald dX11_score_13 zp88 rfl h (fun v3 h => ?_)
    refine zR.goto (tgt := 20) dX11_score_14 (by decide) ?_
    exact kR.iretO dX11_score_20 (nzI rfl _) h
theorem lX11_score {sc : Nat × (Nat → Int32)} (σ : zS) (p1 : Int32) (w : Int32) (h : fX11_score σ p1 = some w) : zC (zY0 sc) 2 0 0 mX11_score [.ref 56, .int p1] (zE σ) (some (.int w), zE σ) := zC.of (by decide +kernel) (Nat.le_of_ble_eq_true rfl) ⟨_, rfl⟩ (eX11_score σ p1 w h)
theorem dX11_likely_0 : decode cX11_likely 0 = .ok (.aload_n 0, 1) := by decide +kernel
theorem dX11_likely_1 : decode cX11_likely 1 = .ok (.iload_n 1, 1) := by decide +kernel
theorem dX11_likely_2 : decode cX11_likely 2 = .ok (.invokevirtual 497, 3) := by decide +kernel
theorem dX11_likely_5 : decode cX11_likely 5 = .ok (.ifCond .eq 7, 3) := by decide +kernel
theorem dX11_likely_8 : decode cX11_likely 8 = .ok (.iload_n 2, 1) := by decide +kernel
theorem dX11_likely_9 : decode cX11_likely 9 = .ok (.ifCond .ge 5, 3) := by decide +kernel
theorem dX11_likely_12 : decode cX11_likely 12 = .ok (.iconst (-1), 1) := by decide +kernel
theorem dX11_likely_13 : decode cX11_likely 13 = .ok (.ireturn, 1) := by decide +kernel
theorem dX11_likely_14 : decode cX11_likely 14 = .ok (.iconst 0, 1) := by decide +kernel
theorem dX11_likely_15 : decode cX11_likely 15 = .ok (.istore_n 3, 1) := by decide +kernel
theorem dX11_likely_16 : decode cX11_likely 16 = .ok (.iconst 0, 1) := by decide +kernel
theorem dX11_likely_17 : decode cX11_likely 17 = .ok (.istore 4, 2) := by decide +kernel
theorem dX11_likely_19 : decode cX11_likely 19 = .ok (.iload 4, 2) := by decide +kernel
theorem dX11_likely_21 : decode cX11_likely 21 = .ok (.aload_n 0, 1) := by decide +kernel
theorem dX11_likely_22 : decode cX11_likely 22 = .ok (.iload_n 1, 1) := by decide +kernel
theorem dX11_likely_23 : decode cX11_likely 23 = .ok (.invokevirtual 437, 3) := by decide +kernel
theorem dX11_likely_26 : decode cX11_likely 26 = .ok (.if_icmp .ge 34, 3) := by decide +kernel
theorem dX11_likely_29 : decode cX11_likely 29 = .ok (.iload_n 3, 1) := by decide +kernel
theorem dX11_likely_30 : decode cX11_likely 30 = .ok (.aload_n 0, 1) := by decide +kernel
theorem dX11_likely_31 : decode cX11_likely 31 = .ok (.iload_n 1, 1) := by decide +kernel
theorem dX11_likely_32 : decode cX11_likely 32 = .ok (.iload 4, 2) := by decide +kernel
theorem dX11_likely_34 : decode cX11_likely 34 = .ok (.invokevirtual 503, 3) := by decide +kernel
theorem dX11_likely_37 : decode cX11_likely 37 = .ok (.iload_n 2, 1) := by decide +kernel
theorem dX11_likely_38 : decode cX11_likely 38 = .ok (.if_icmp .le 13, 3) := by decide +kernel
theorem dX11_likely_41 : decode cX11_likely 41 = .ok (.aload_n 0, 1) := by decide +kernel
theorem dX11_likely_42 : decode cX11_likely 42 = .ok (.iload_n 1, 1) := by decide +kernel
theorem dX11_likely_43 : decode cX11_likely 43 = .ok (.iload 4, 2) := by decide +kernel
theorem dX11_likely_45 : decode cX11_likely 45 = .ok (.invokevirtual 440, 3) := by decide +kernel
theorem dX11_likely_48 : decode cX11_likely 48 = .ok (.goto 4, 3) := by decide +kernel
theorem dX11_likely_51 : decode cX11_likely 51 = .ok (.iconst 0, 1) := by decide +kernel
theorem dX11_likely_52 : decode cX11_likely 52 = .ok (.iadd, 1) := by decide +kernel
theorem dX11_likely_53 : decode cX11_likely 53 = .ok (.istore_n 3, 1) := by decide +kernel
theorem dX11_likely_54 : decode cX11_likely 54 = .ok (.iinc 4 1, 3) := by decide +kernel
theorem dX11_likely_57 : decode cX11_likely 57 = .ok (.goto (-38), 3) := by decide +kernel
theorem dX11_likely_60 : decode cX11_likely 60 = .ok (.sipush 1000, 3) := by decide +kernel
theorem dX11_likely_63 : decode cX11_likely 63 = .ok (.iload_n 3, 1) := by decide +kernel
theorem dX11_likely_64 : decode cX11_likely 64 = .ok (.imul, 1) := by decide +kernel
theorem dX11_likely_65 : decode cX11_likely 65 = .ok (.aload_n 0, 1) := by decide +kernel
theorem dX11_likely_66 : decode cX11_likely 66 = .ok (.iload_n 1, 1) := by decide +kernel
theorem dX11_likely_67 : decode cX11_likely 67 = .ok (.invokevirtual 500, 3) := by decide +kernel
theorem dX11_likely_70 : decode cX11_likely 70 = .ok (.idiv, 1) := by decide +kernel
theorem dX11_likely_71 : decode cX11_likely 71 = .ok (.ireturn, 1) := by decide +kernel
def fX11_likely_52 (σ : zS) (r19 : Int32 → Int32 → Int32 → Int32 → Option Int32) (x1 : Int32) (x2 : Int32) (x4 : Int32) (s0 : Int32) (s1 : Int32) : Option Int32 := r19 x1 x2 (s1 + s0) (x4 + 1)
theorem kX11_likely_52 {sc : Nat × (Nat → Int32)} (σ : zS) (r19 : Int32 → Int32 → Int32 → Int32 → Option Int32) (hr19 : ∀ (x1 : Int32) (x2 : Int32) (x3 : Int32) (x4 : Int32) (w : Int32), r19 x1 x2 x3 x4 = some w → zR (zY0 sc) 3 0 0 mX11_likely 19 [(0, .ref 56), (1, .int x1), (2, .int x2), (3, .int x3), (4, .int x4)] [] (zE σ) (some (.int w), zE σ)) (x1 : Int32) (x2 : Int32) (x4 : Int32) (s0 : Int32) (s1 : Int32) (w : Int32) (h : fX11_likely_52 σ r19 x1 x2 x4 s0 s1 = some w) : zR (zY0 sc) 3 0 0 mX11_likely 52 [(0, .ref 56), (1, .int x1), (2, .int x2), (4, .int x4)] [.int s0, .int s1] (zE σ) (some (.int w), zE σ) := by
  unfold fX11_likely_52 at h
  refine zR.iadd dX11_likely_52 ?_
  refine zR.istore_n (i := 3) (ls' := [(3, .int (s1 + s0)), (0, .ref 56), (1, .int x1), (2, .int x2), (4, .int x4)]) dX11_likely_53 rfl (by decide) rfl ?_
  refine zR.iinc 4 (v := x4 + 1) (ls' := [(4, .int (x4 + 1)), (3, .int (s1 + s0)), (0, .ref 56), (1, .int x1), (2, .int x2)]) dX11_likely_54 rfl rfl (by decide) rfl ?_
  refine zR.goto (tgt := 19) dX11_likely_57 (by decide) ?_
  refine zR.sub [2, 3, 4, 1, 0] rfl ?_
  exact hr19 _ _ _ _ _ h
def fX11_likely_19 (σ : zS) : Nat → Int32 → Int32 → Int32 → Int32 → Option Int32
  | 0, _, _, _, _ => none
  | f + 1, x1, x2, x3, x4 => bnr (fX11_lengthsOf σ x1) fun v3 => if v3 ≤ x4 then bnr (fX11_weights σ x1) fun v5 => gd (¬ v5 = 0) (some ((1000 * x3) / v5)) else bnr (fX11_lengthAt σ x1 x4) fun v7 => if v7 ≤ x2 then fX11_likely_52 σ (fX11_likely_19 σ f) x1 x2 x4 0 x3 else bnr (fX11_weightAt σ x1 x4) fun v9 => fX11_likely_52 σ (fX11_likely_19 σ f) x1 x2 x4 v9 x3
theorem kX11_likely_19 {sc : Nat × (Nat → Int32)} (σ : zS) : ∀ (fuel : Nat) (x1 : Int32) (x2 : Int32) (x3 : Int32) (x4 : Int32) (w : Int32) (h : fX11_likely_19 σ fuel x1 x2 x3 x4 = some w), zR (zY0 sc) 3 0 0 mX11_likely 19 [(0, .ref 56), (1, .int x1), (2, .int x2), (3, .int x3), (4, .int x4)] [] (zE σ) (some (.int w), zE σ) := by
  intro fuel
  induction fuel with
  | zero => intro x1 x2 x3 x4 w h; exact nomatch h
  | succ f ih =>
    intro x1 x2 x3 x4 w h
    rw [fX11_likely_19] at h
    refine kR.iload dX11_likely_19 4 rfl ?_
    refine kR.aload_n dX11_likely_21 0 rfl ?_
    refine kR.iload_n dX11_likely_22 1 rfl ?_
    obtain ⟨v3, e4, h⟩ := bnr_some h
    refine kR.cVi [.int x1] dX11_likely_23 rfl (by decide) mwX11_437 zp56 (by decide) rfl rfl (Nat.le_of_ble_eq_true rfl) (lX11_lengthsOf σ x1 _ e4) ?_
    refine kR.icmp_ge (tgt := 60) dX11_likely_26 (by decide) h (fun h => ?_) (fun h => ?_)
    · refine zR.sipush (v := 1000) dX11_likely_60 (by decide) ?_
      refine kR.iload_n dX11_likely_63 3 rfl ?_
      refine zR.imul dX11_likely_64 ?_
      refine kR.aload_n dX11_likely_65 0 rfl ?_
      refine kR.iload_n dX11_likely_66 1 rfl ?_
      obtain ⟨v5, e6, h⟩ := bnr_some h
      refine kR.cVi [.int x1] dX11_likely_67 rfl (by decide) mwX11_500 zp56 (by decide) rfl rfl (Nat.le_of_ble_eq_true rfl) (lX11_weights σ x1 _ e6) ?_
      refine kR.idiv dX11_likely_70 h (fun h => ?_)
      exact kR.iretO dX11_likely_71 (nzI rfl _) h
    · refine kR.iload_n dX11_likely_29 3 rfl ?_
      refine kR.aload_n dX11_likely_30 0 rfl ?_
      refine kR.iload_n dX11_likely_31 1 rfl ?_
      refine kR.iload dX11_likely_32 4 rfl ?_
      obtain ⟨v7, e8, h⟩ := bnr_some h
      refine kR.cVi [.int x1, .int x4] dX11_likely_34 rfl (by decide) mwX11_503 zp56 (by decide) rfl rfl (Nat.le_of_ble_eq_true rfl) (lX11_lengthAt σ x1 x4 _ e8) ?_
      refine kR.iload_n dX11_likely_37 2 rfl ?_
      refine kR.icmp_le (tgt := 51) dX11_likely_38 (by decide) h (fun h => ?_) (fun h => ?_)
      · refine zR.iconst (v := 0) dX11_likely_51 (by decide) ?_
        refine zR.sub [0, 1, 2, 4] rfl ?_
        exact kX11_likely_52 σ (fX11_likely_19 σ f) ih _ _ _ _ _ _ h
      · refine kR.aload_n dX11_likely_41 0 rfl ?_
        refine kR.iload_n dX11_likely_42 1 rfl ?_
        refine kR.iload dX11_likely_43 4 rfl ?_
        obtain ⟨v9, e10, h⟩ := bnr_some h
        refine kR.cVi [.int x1, .int x4] dX11_likely_45 rfl (by decide) mwX11_440 zp56 (by decide) rfl rfl (Nat.le_of_ble_eq_true rfl) (lX11_weightAt σ x1 x4 _ e10) ?_
        refine zR.goto (tgt := 52) dX11_likely_48 (by decide) ?_
        refine zR.sub [0, 1, 2, 4] rfl ?_
        exact kX11_likely_52 σ (fX11_likely_19 σ f) ih _ _ _ _ _ _ h
def fX11_likely (σ : zS) (p1 : Int32) (p2 : Int32) : Option Int32 := bnr (fX11_isTunnel σ p1) fun v1 => if v1 = 0 then some ((-1)) else if 0 ≤ p2 then fX11_likely_19 σ zF p1 p2 0 0 else some ((-1))
theorem eX11_likely {sc : Nat × (Nat → Int32)} (σ : zS) (p1 : Int32) (p2 : Int32) (w : Int32) (h : fX11_likely σ p1 p2 = some w) : zR (zY0 sc) 3 0 0 mX11_likely 0 [(0, .ref 56), (1, .int p1), (2, .int p2)] [] (zE σ) (some (.int w), zE σ) := by
  unfold fX11_likely at h
  refine kR.aload_n dX11_likely_0 0 rfl ?_
  refine kR.iload_n dX11_likely_1 1 rfl ?_
  obtain ⟨v1, e2, h⟩ := bnr_some h
  refine kR.cVi [.int p1] dX11_likely_2 rfl (by decide) mwX11_497 zp56 (by decide) rfl rfl (Nat.le_of_ble_eq_true rfl) (lX11_isTunnel σ p1 _ e2) ?_
  refine kR.if_eq (tgt := 12) dX11_likely_5 (by decide) h (fun h => ?_) (fun h => ?_)
  · refine zR.iconst (v := (-1)) dX11_likely_12 (by decide) ?_
    exact kR.iretO dX11_likely_13 (nzI rfl _) h
  · refine kR.iload_n dX11_likely_8 2 rfl ?_
    refine kR.if_ge (tgt := 14) dX11_likely_9 (by decide) h (fun h => ?_) (fun h => ?_)
    · refine zR.iconst (v := 0) dX11_likely_14 (by decide) ?_
      refine zR.istore_n (i := 3) (ls' := [(3, .int 0), (0, .ref 56), (1, .int p1), (2, .int p2)]) dX11_likely_15 rfl (by decide) rfl ?_
      refine zR.iconst (v := 0) dX11_likely_16 (by decide) ?_
      refine zR.istore (i := 4) (ls' := [(4, .int 0), (3, .int 0), (0, .ref 56), (1, .int p1), (2, .int p2)]) dX11_likely_17 (by decide) rfl ?_
      refine zR.sub [2, 3, 4, 1, 0] rfl ?_
      exact kX11_likely_19 σ zF _ _ _ _ _ h
    · refine zR.iconst (v := (-1)) dX11_likely_12 (by decide) ?_
      exact kR.iretO dX11_likely_13 (nzI rfl _) h
theorem lX11_likely {sc : Nat × (Nat → Int32)} (σ : zS) (p1 : Int32) (p2 : Int32) (w : Int32) (h : fX11_likely σ p1 p2 = some w) : zC (zY0 sc) 3 0 0 mX11_likely [.ref 56, .int p1, .int p2] (zE σ) (some (.int w), zE σ) := zC.of (by decide +kernel) (Nat.le_of_ble_eq_true rfl) ⟨_, rfl⟩ (eX11_likely σ p1 p2 w h)

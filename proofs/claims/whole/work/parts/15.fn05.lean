/-! MY OWN (by program): X0_plan, X10_alone, X10_on, X0_fillAgainstOthers, X0_isAnyMoved, X0_settle, X10_rest, X0_hiddenTotal, X10_hidden, X4_madeBits, X0_paceWeights, X0_bestPace -/
theorem dX0_plan_0 : decode cX0_plan 0 = .ok (.aload_n 0, 1) := by decide +kernel
theorem dX0_plan_1 : decode cX0_plan 1 = .ok (.getfield 21, 3) := by decide +kernel
theorem dX0_plan_4 : decode cX0_plan 4 = .ok (.iload_n 1, 1) := by decide +kernel
theorem dX0_plan_5 : decode cX0_plan 5 = .ok (.if_icmp .ne 20, 3) := by decide +kernel
theorem dX0_plan_8 : decode cX0_plan 8 = .ok (.aload_n 0, 1) := by decide +kernel
theorem dX0_plan_9 : decode cX0_plan 9 = .ok (.getfield 25, 3) := by decide +kernel
theorem dX0_plan_12 : decode cX0_plan 12 = .ok (.iload_n 2, 1) := by decide +kernel
theorem dX0_plan_13 : decode cX0_plan 13 = .ok (.if_icmp .ne 12, 3) := by decide +kernel
theorem dX0_plan_16 : decode cX0_plan 16 = .ok (.aload_n 0, 1) := by decide +kernel
theorem dX0_plan_17 : decode cX0_plan 17 = .ok (.getfield 28, 3) := by decide +kernel
theorem dX0_plan_20 : decode cX0_plan 20 = .ok (.iload_n 3, 1) := by decide +kernel
theorem dX0_plan_21 : decode cX0_plan 21 = .ok (.if_icmp .ne 4, 3) := by decide +kernel
theorem dX0_plan_24 : decode cX0_plan 24 = .ok (.return_, 1) := by decide +kernel
theorem dX0_plan_25 : decode cX0_plan 25 = .ok (.aload_n 0, 1) := by decide +kernel
theorem dX0_plan_26 : decode cX0_plan 26 = .ok (.iload_n 1, 1) := by decide +kernel
theorem dX0_plan_27 : decode cX0_plan 27 = .ok (.putfield 21, 3) := by decide +kernel
theorem dX0_plan_30 : decode cX0_plan 30 = .ok (.aload_n 0, 1) := by decide +kernel
theorem dX0_plan_31 : decode cX0_plan 31 = .ok (.iload_n 2, 1) := by decide +kernel
theorem dX0_plan_32 : decode cX0_plan 32 = .ok (.putfield 25, 3) := by decide +kernel
theorem dX0_plan_35 : decode cX0_plan 35 = .ok (.aload_n 0, 1) := by decide +kernel
theorem dX0_plan_36 : decode cX0_plan 36 = .ok (.iload_n 3, 1) := by decide +kernel
theorem dX0_plan_37 : decode cX0_plan 37 = .ok (.putfield 28, 3) := by decide +kernel
theorem dX0_plan_40 : decode cX0_plan 40 = .ok (.aload_n 0, 1) := by decide +kernel
theorem dX0_plan_41 : decode cX0_plan 41 = .ok (.getfield 18, 3) := by decide +kernel
theorem dX0_plan_44 : decode cX0_plan 44 = .ok (.iload_n 2, 1) := by decide +kernel
theorem dX0_plan_45 : decode cX0_plan 45 = .ok (.lconst 1, 1) := by decide +kernel
theorem dX0_plan_46 : decode cX0_plan 46 = .ok (.lastore, 1) := by decide +kernel
theorem dX0_plan_47 : decode cX0_plan 47 = .ok (.iload_n 2, 1) := by decide +kernel
theorem dX0_plan_48 : decode cX0_plan 48 = .ok (.iconst 1, 1) := by decide +kernel
theorem dX0_plan_49 : decode cX0_plan 49 = .ok (.isub, 1) := by decide +kernel
theorem dX0_plan_50 : decode cX0_plan 50 = .ok (.istore 4, 2) := by decide +kernel
theorem dX0_plan_52 : decode cX0_plan 52 = .ok (.iload 4, 2) := by decide +kernel
theorem dX0_plan_54 : decode cX0_plan 54 = .ok (.ifCond .lt 43, 3) := by decide +kernel
theorem dX0_plan_57 : decode cX0_plan 57 = .ok (.aload_n 0, 1) := by decide +kernel
theorem dX0_plan_58 : decode cX0_plan 58 = .ok (.getfield 18, 3) := by decide +kernel
theorem dX0_plan_61 : decode cX0_plan 61 = .ok (.iload 4, 2) := by decide +kernel
theorem dX0_plan_63 : decode cX0_plan 63 = .ok (.aload_n 0, 1) := by decide +kernel
theorem dX0_plan_64 : decode cX0_plan 64 = .ok (.getfield 18, 3) := by decide +kernel
theorem dX0_plan_67 : decode cX0_plan 67 = .ok (.iload 4, 2) := by decide +kernel
theorem dX0_plan_69 : decode cX0_plan 69 = .ok (.iconst 1, 1) := by decide +kernel
theorem dX0_plan_70 : decode cX0_plan 70 = .ok (.iadd, 1) := by decide +kernel
theorem dX0_plan_71 : decode cX0_plan 71 = .ok (.laload, 1) := by decide +kernel
theorem dX0_plan_72 : decode cX0_plan 72 = .ok (.aload_n 0, 1) := by decide +kernel
theorem dX0_plan_73 : decode cX0_plan 73 = .ok (.getfield 51, 3) := by decide +kernel
theorem dX0_plan_76 : decode cX0_plan 76 = .ok (.getfield 55, 3) := by decide +kernel
theorem dX0_plan_79 : decode cX0_plan 79 = .ok (.aload_n 0, 1) := by decide +kernel
theorem dX0_plan_80 : decode cX0_plan 80 = .ok (.iload 4, 2) := by decide +kernel
theorem dX0_plan_82 : decode cX0_plan 82 = .ok (.invokevirtual 61, 3) := by decide +kernel
theorem dX0_plan_85 : decode cX0_plan 85 = .ok (.invokevirtual 65, 3) := by decide +kernel
theorem dX0_plan_88 : decode cX0_plan 88 = .ok (.i2l, 1) := by decide +kernel
theorem dX0_plan_89 : decode cX0_plan 89 = .ok (.lmul, 1) := by decide +kernel
theorem dX0_plan_90 : decode cX0_plan 90 = .ok (.lastore, 1) := by decide +kernel
theorem dX0_plan_91 : decode cX0_plan 91 = .ok (.iinc 4 (-1), 3) := by decide +kernel
theorem dX0_plan_94 : decode cX0_plan 94 = .ok (.goto (-42), 3) := by decide +kernel
theorem dX0_plan_97 : decode cX0_plan 97 = .ok (.aload_n 0, 1) := by decide +kernel
theorem dX0_plan_98 : decode cX0_plan 98 = .ok (.getfield 15, 3) := by decide +kernel
theorem dX0_plan_101 : decode cX0_plan 101 = .ok (.ldc2_w 70, 3) := by decide +kernel
theorem dX0_plan_104 : decode cX0_plan 104 = .ok (.invokestatic 72, 3) := by decide +kernel
theorem dX0_plan_107 : decode cX0_plan 107 = .ok (.aload_n 0, 1) := by decide +kernel
theorem dX0_plan_108 : decode cX0_plan 108 = .ok (.aload_n 0, 1) := by decide +kernel
theorem dX0_plan_109 : decode cX0_plan 109 = .ok (.iconst 0, 1) := by decide +kernel
theorem dX0_plan_110 : decode cX0_plan 110 = .ok (.iload_n 3, 1) := by decide +kernel
theorem dX0_plan_111 : decode cX0_plan 111 = .ok (.invokevirtual 78, 3) := by decide +kernel
theorem dX0_plan_114 : decode cX0_plan 114 = .ok (.putfield 34, 3) := by decide +kernel
theorem dX0_plan_117 : decode cX0_plan 117 = .ok (.aload_n 0, 1) := by decide +kernel
theorem dX0_plan_118 : decode cX0_plan 118 = .ok (.aload_n 0, 1) := by decide +kernel
theorem dX0_plan_119 : decode cX0_plan 119 = .ok (.getfield 18, 3) := by decide +kernel
theorem dX0_plan_122 : decode cX0_plan 122 = .ok (.iconst 0, 1) := by decide +kernel
theorem dX0_plan_123 : decode cX0_plan 123 = .ok (.laload, 1) := by decide +kernel
theorem dX0_plan_124 : decode cX0_plan 124 = .ok (.putfield 38, 3) := by decide +kernel
theorem dX0_plan_127 : decode cX0_plan 127 = .ok (.aload_n 0, 1) := by decide +kernel
theorem dX0_plan_128 : decode cX0_plan 128 = .ok (.aload_n 0, 1) := by decide +kernel
theorem dX0_plan_129 : decode cX0_plan 129 = .ok (.iconst 0, 1) := by decide +kernel
theorem dX0_plan_130 : decode cX0_plan 130 = .ok (.iload_n 3, 1) := by decide +kernel
theorem dX0_plan_131 : decode cX0_plan 131 = .ok (.invokevirtual 82, 3) := by decide +kernel
theorem dX0_plan_134 : decode cX0_plan 134 = .ok (.putfield 31, 3) := by decide +kernel
theorem dX0_plan_137 : decode cX0_plan 137 = .ok (.return_, 1) := by decide +kernel
def fX0_plan_52 : Nat → Int32 → Int32 → zS → Option zS
  | 0, _, _, _ => none
  | f + 1, x3, x4, σ => if x4 < 0 then bnr (fJ7_fill_d0a16 29 244 ((-1000000000000000)) σ) fun σ5 => bnc (fX0_bestFrom zD 0 x3 σ5) fun v9 σ7 => bnd (lS σ7 27 8 v9) fun σ10 => aL σ10 30 5 0 fun v11 => bnd (lS σ10 27 9 v11) fun σ12 => bnr (fX0_bestSecond σ12 0 x3) fun v13 => bnd (iS σ12 27 7 v13) fun σ15 => some σ15 else aL σ 30 5 (x4 + 1) fun v16 => bnr (fX0_tunnelAt σ x4) fun v17 => bnr (fX6_allWeights σ.2.2.2.1 σ v17) fun v19 => wL σ 30 5 x4 (v16 * v19.toInt64) fun σ21 => fX0_plan_52 f x3 (x4 + (-1)) σ21
theorem kX0_plan_52 {sc : Nat × (Nat → Int32)} : ∀ (fuel : Nat) (x3 : Int32) (x4 : Int32) (σ : zS) (w : zS) (h : fX0_plan_52 fuel x3 x4 σ = some w), zR (zY0 sc) 126 0 0 mX0_plan 52 [(0, .ref 27), (3, .int x3), (4, .int x4)] [] (zE σ) (none, zE w) := by
  intro fuel
  induction fuel with
  | zero => intro x3 x4 σ w h; exact nomatch h
  | succ f ih =>
    intro x3 x4 σ w h
    rw [fX0_plan_52] at h
    refine kR.iload dX0_plan_52 2 rfl ?_
    refine kR.if_lt (tgt := 97) dX0_plan_54 (by decide) h (fun h => ?_) (fun h => ?_)
    · refine kR.aload_n dX0_plan_97 0 rfl ?_
      refine kR.getR (v := 29) dX0_plan_98 flX0_15 zcf0 zp27 (Or.inr ⟨_, rfl⟩) rfl ?_
      refine zR.ldc2 (v := (-1000000000000000)) dX0_plan_101 clX0_70 ?_
      obtain ⟨σ5, e6, h⟩ := bnr_some h
      refine kR.cSv [.ref 29, .long ((-1000000000000000))] dX0_plan_104 rfl (by decide) (Or.inl mwX0_72) rfl (Nat.le_of_ble_eq_true rfl) (lJ7_fill_d0a16 29 244 (fun _ => zp29) rfl ((-1000000000000000)) σ _ e6) ?_
      refine kR.aload_n dX0_plan_107 0 rfl ?_
      refine kR.aload_n dX0_plan_108 0 rfl ?_
      refine zR.iconst (v := 0) dX0_plan_109 (by decide) ?_
      refine kR.iload_n dX0_plan_110 1 rfl ?_
      obtain ⟨v9, σ7, e8, h⟩ := bnc_some h
      refine kR.cVl [.int 0, .int x3] dX0_plan_111 rfl (by decide) mwX0_78 zp27 (by decide) rfl rfl (Nat.le_of_ble_eq_true rfl) (lX0_bestFrom zD 0 x3 σ5 _ e8) ?_
      refine kR.putL dX0_plan_114 fpX0_34 zcf0 zp27 rfl h (fun σ10 h => ?_)
      refine kR.aload_n dX0_plan_117 0 rfl ?_
      refine kR.aload_n dX0_plan_118 0 rfl ?_
      refine kR.getR (v := 30) dX0_plan_119 flX0_18 zcf0 zp27 (Or.inr ⟨_, rfl⟩) rfl ?_
      refine zR.iconst (v := 0) dX0_plan_122 (by decide) ?_
      refine kR.lald dX0_plan_123 zp30 rfl h (fun v11 h => ?_)
      refine kR.putL dX0_plan_124 fpX0_38 zcf0 zp27 rfl h (fun σ12 h => ?_)
      refine kR.aload_n dX0_plan_127 0 rfl ?_
      refine kR.aload_n dX0_plan_128 0 rfl ?_
      refine zR.iconst (v := 0) dX0_plan_129 (by decide) ?_
      refine kR.iload_n dX0_plan_130 1 rfl ?_
      obtain ⟨v13, e14, h⟩ := bnr_some h
      refine kR.cVi [.int 0, .int x3] dX0_plan_131 rfl (by decide) mwX0_82 zp27 (by decide) rfl rfl (Nat.le_of_ble_eq_true rfl) (lX0_bestSecond σ12 0 x3 _ e14) ?_
      refine kR.putI dX0_plan_134 fpX0_31 zcf0 zp27 rfl h (fun σ15 h => ?_)
      exact kR.vret dX0_plan_137 h
    · refine kR.aload_n dX0_plan_57 0 rfl ?_
      refine kR.getR (v := 30) dX0_plan_58 flX0_18 zcf0 zp27 (Or.inr ⟨_, rfl⟩) rfl ?_
      refine kR.iload dX0_plan_61 2 rfl ?_
      refine kR.aload_n dX0_plan_63 0 rfl ?_
      refine kR.getR (v := 30) dX0_plan_64 flX0_18 zcf0 zp27 (Or.inr ⟨_, rfl⟩) rfl ?_
      refine kR.iload dX0_plan_67 2 rfl ?_
      refine zR.iconst (v := 1) dX0_plan_69 (by decide) ?_
      refine zR.iadd dX0_plan_70 ?_
      refine kR.lald dX0_plan_71 zp30 rfl h (fun v16 h => ?_)
      refine kR.aload_n dX0_plan_72 0 rfl ?_
      refine kR.getR (v := 8) dX0_plan_73 flX0_51 zcf0 zp27 (Or.inl ⟨_, rfl⟩) rfl ?_
      refine kR.getR (v := (rp σ.2.2.2.1 + 0)) dX0_plan_76 flX0_55 zcf4 zp8 (Or.inl ⟨_, rfl⟩) rfl ?_
      refine kR.aload_n dX0_plan_79 0 rfl ?_
      refine kR.iload dX0_plan_80 2 rfl ?_
      obtain ⟨v17, e18, h⟩ := bnr_some h
      refine kR.cVi [.int x4] dX0_plan_82 rfl (by decide) mwX0_61 zp27 (by decide) rfl rfl (Nat.le_of_ble_eq_true rfl) (lX0_tunnelAt σ x4 _ e18) ?_
      obtain ⟨v19, e20, h⟩ := bnr_some h
      refine kR.cVi [.int v17] dX0_plan_85 rfl (by decide) mwX0_65 (zq0 σ.2.2.2.1) (by decide) rfl rfl (Nat.le_of_ble_eq_true rfl) (lX6_allWeights σ.2.2.2.1 σ v17 _ e20) ?_
      refine zR.i2l dX0_plan_88 ?_
      refine zR.lmul dX0_plan_89 ?_
      refine kR.last dX0_plan_90 zp30 rfl h (fun σ21 h => ?_)
      refine zR.iinc 2 (v := x4 + (-1)) (ls' := [(4, .int (x4 + (-1))), (0, .ref 27), (3, .int x3)]) dX0_plan_91 rfl rfl (by decide) rfl ?_
      refine zR.goto (tgt := 52) dX0_plan_94 (by decide) ?_
      refine zR.sub [1, 2, 0] rfl ?_
      exact ih _ _ _ _ h
def fX0_plan_25 (x1 : Int32) (x2 : Int32) (x3 : Int32) (σ : zS) : Option zS := bnd (iS σ 27 4 x1) fun σ1 => bnd (iS σ1 27 5 x2) fun σ2 => bnd (iS σ2 27 6 x3) fun σ3 => wL σ3 30 5 x2 1 fun σ4 => fX0_plan_52 zF x3 (x2 - 1) σ4
theorem kX0_plan_25 {sc : Nat × (Nat → Int32)} (x1 : Int32) (x2 : Int32) (x3 : Int32) (σ : zS) (w : zS) (h : fX0_plan_25 x1 x2 x3 σ = some w) : zR (zY0 sc) 126 0 0 mX0_plan 25 [(0, .ref 27), (1, .int x1), (2, .int x2), (3, .int x3)] [] (zE σ) (none, zE w) := by
  unfold fX0_plan_25 at h
  refine kR.aload_n dX0_plan_25 0 rfl ?_
  refine kR.iload_n dX0_plan_26 1 rfl ?_
  refine kR.putI dX0_plan_27 fpX0_21 zcf0 zp27 rfl h (fun σ1 h => ?_)
  refine kR.aload_n dX0_plan_30 0 rfl ?_
  refine kR.iload_n dX0_plan_31 2 rfl ?_
  refine kR.putI dX0_plan_32 fpX0_25 zcf0 zp27 rfl h (fun σ2 h => ?_)
  refine kR.aload_n dX0_plan_35 0 rfl ?_
  refine kR.iload_n dX0_plan_36 3 rfl ?_
  refine kR.putI dX0_plan_37 fpX0_28 zcf0 zp27 rfl h (fun σ3 h => ?_)
  refine kR.aload_n dX0_plan_40 0 rfl ?_
  refine kR.getR (v := 30) dX0_plan_41 flX0_18 zcf0 zp27 (Or.inr ⟨_, rfl⟩) rfl ?_
  refine kR.iload_n dX0_plan_44 2 rfl ?_
  refine zR.lconst (v := 1) dX0_plan_45 (by decide) ?_
  refine kR.last dX0_plan_46 zp30 rfl h (fun σ4 h => ?_)
  refine kR.iload_n dX0_plan_47 2 rfl ?_
  refine zR.iconst (v := 1) dX0_plan_48 (by decide) ?_
  refine zR.isub dX0_plan_49 ?_
  refine zR.istore (i := 4) (ls' := [(4, .int (x2 - 1)), (0, .ref 27), (1, .int x1), (2, .int x2), (3, .int x3)]) dX0_plan_50 (by decide) rfl ?_
  refine zR.sub [1, 4, 0] rfl ?_
  exact kX0_plan_52 zF _ _ _ _ h
def fX0_plan (p1 : Int32) (p2 : Int32) (p3 : Int32) (σ : zS) : Option zS := if (iG σ 27 4) = p1 then if (iG σ 27 5) = p2 then if (iG σ 27 6) = p3 then some σ else fX0_plan_25 p1 p2 p3 σ else fX0_plan_25 p1 p2 p3 σ else fX0_plan_25 p1 p2 p3 σ
theorem eX0_plan {sc : Nat × (Nat → Int32)} (p1 : Int32) (p2 : Int32) (p3 : Int32) (σ : zS) (w : zS) (h : fX0_plan p1 p2 p3 σ = some w) : zR (zY0 sc) 126 0 0 mX0_plan 0 [(0, .ref 27), (1, .int p1), (2, .int p2), (3, .int p3)] [] (zE σ) (none, zE w) := by
  unfold fX0_plan at h
  refine kR.aload_n dX0_plan_0 0 rfl ?_
  refine kR.getI dX0_plan_1 flX0_21 zcf0 zp27 (Or.inl rfl) ?_
  refine kR.iload_n dX0_plan_4 1 rfl ?_
  refine kR.icmp_ne (tgt := 25) dX0_plan_5 (by decide) h (fun h => ?_) (fun h => ?_)
  · exact kX0_plan_25 _ _ _ _ _ h
  · refine kR.aload_n dX0_plan_8 0 rfl ?_
    refine kR.getI dX0_plan_9 flX0_25 zcf0 zp27 (Or.inl rfl) ?_
    refine kR.iload_n dX0_plan_12 2 rfl ?_
    refine kR.icmp_ne (tgt := 25) dX0_plan_13 (by decide) h (fun h => ?_) (fun h => ?_)
    · exact kX0_plan_25 _ _ _ _ _ h
    · refine kR.aload_n dX0_plan_16 0 rfl ?_
      refine kR.getI dX0_plan_17 flX0_28 zcf0 zp27 (Or.inl rfl) ?_
      refine kR.iload_n dX0_plan_20 3 rfl ?_
      refine kR.icmp_ne (tgt := 25) dX0_plan_21 (by decide) h (fun h => ?_) (fun h => ?_)
      · exact kX0_plan_25 _ _ _ _ _ h
      · exact kR.vret dX0_plan_24 h
theorem lX0_plan {sc : Nat × (Nat → Int32)} (p1 : Int32) (p2 : Int32) (p3 : Int32) (σ : zS) (w : zS) (h : fX0_plan p1 p2 p3 σ = some w) : zC (zY0 sc) 126 0 0 mX0_plan [.ref 27, .int p1, .int p2, .int p3] (zE σ) (none, zE w) := zC.of (by decide +kernel) (Nat.le_of_ble_eq_true rfl) rfl (eX0_plan p1 p2 p3 σ w h)
theorem dX10_alone_0 : decode cX10_alone 0 = .ok (.aload_n 0, 1) := by decide +kernel
theorem dX10_alone_1 : decode cX10_alone 1 = .ok (.getfield 38, 3) := by decide +kernel
theorem dX10_alone_4 : decode cX10_alone 4 = .ok (.getfield 111, 3) := by decide +kernel
theorem dX10_alone_7 : decode cX10_alone 7 = .ok (.iload_n 1, 1) := by decide +kernel
theorem dX10_alone_8 : decode cX10_alone 8 = .ok (.iload_n 2, 1) := by decide +kernel
theorem dX10_alone_9 : decode cX10_alone 9 = .ok (.invokevirtual 202, 3) := by decide +kernel
theorem dX10_alone_12 : decode cX10_alone 12 = .ok (.ifCond .eq 12, 3) := by decide +kernel
theorem dX10_alone_15 : decode cX10_alone 15 = .ok (.iload_n 3, 1) := by decide +kernel
theorem dX10_alone_16 : decode cX10_alone 16 = .ok (.ifCond .lt 8, 3) := by decide +kernel
theorem dX10_alone_19 : decode cX10_alone 19 = .ok (.iload_n 3, 1) := by decide +kernel
theorem dX10_alone_20 : decode cX10_alone 20 = .ok (.iconst 1, 1) := by decide +kernel
theorem dX10_alone_21 : decode cX10_alone 21 = .ok (.if_icmp .le 6, 3) := by decide +kernel
theorem dX10_alone_24 : decode cX10_alone 24 = .ok (.ldc 197, 2) := by decide +kernel
theorem dX10_alone_26 : decode cX10_alone 26 = .ok (.ireturn, 1) := by decide +kernel
theorem dX10_alone_27 : decode cX10_alone 27 = .ok (.aload_n 0, 1) := by decide +kernel
theorem dX10_alone_28 : decode cX10_alone 28 = .ok (.getfield 47, 3) := by decide +kernel
theorem dX10_alone_31 : decode cX10_alone 31 = .ok (.iload_n 2, 1) := by decide +kernel
theorem dX10_alone_32 : decode cX10_alone 32 = .ok (.iconst 1, 1) := by decide +kernel
theorem dX10_alone_33 : decode cX10_alone 33 = .ok (.aload_n 0, 1) := by decide +kernel
theorem dX10_alone_34 : decode cX10_alone 34 = .ok (.getfield 19, 3) := by decide +kernel
theorem dX10_alone_37 : decode cX10_alone 37 = .ok (.iload_n 1, 1) := by decide +kernel
theorem dX10_alone_38 : decode cX10_alone 38 = .ok (.invokevirtual 182, 3) := by decide +kernel
theorem dX10_alone_41 : decode cX10_alone 41 = .ok (.invokevirtual 224, 3) := by decide +kernel
theorem dX10_alone_44 : decode cX10_alone 44 = .ok (.iload_n 3, 1) := by decide +kernel
theorem dX10_alone_45 : decode cX10_alone 45 = .ok (.ifCond .ne 13, 3) := by decide +kernel
theorem dX10_alone_48 : decode cX10_alone 48 = .ok (.aload_n 0, 1) := by decide +kernel
theorem dX10_alone_49 : decode cX10_alone 49 = .ok (.getfield 47, 3) := by decide +kernel
theorem dX10_alone_52 : decode cX10_alone 52 = .ok (.getfield 228, 3) := by decide +kernel
theorem dX10_alone_55 : decode cX10_alone 55 = .ok (.goto 20, 3) := by decide +kernel
theorem dX10_alone_58 : decode cX10_alone 58 = .ok (.aload_n 0, 1) := by decide +kernel
theorem dX10_alone_59 : decode cX10_alone 59 = .ok (.getfield 47, 3) := by decide +kernel
theorem dX10_alone_62 : decode cX10_alone 62 = .ok (.getfield 231, 3) := by decide +kernel
theorem dX10_alone_65 : decode cX10_alone 65 = .ok (.aload_n 0, 1) := by decide +kernel
theorem dX10_alone_66 : decode cX10_alone 66 = .ok (.getfield 47, 3) := by decide +kernel
theorem dX10_alone_69 : decode cX10_alone 69 = .ok (.getfield 235, 3) := by decide +kernel
theorem dX10_alone_72 : decode cX10_alone 72 = .ok (.invokestatic 198, 3) := by decide +kernel
theorem dX10_alone_75 : decode cX10_alone 75 = .ok (.ireturn, 1) := by decide +kernel
def fX10_alone (p1 : Int32) (p2 : Int32) (p3 : Int32) (σ : zS) : Option (Int32 × zS) := if (fX6_hasBoth σ.2.2.2.1 σ p1 p2) = 0 then some ((-1000000000), σ) else if p3 < 0 then some ((-1000000000), σ) else if p3 ≤ 1 then bnr (fX7_breathOf σ p1) fun v1 => bnr (fX0_plan p2 1 v1 σ) fun σ3 => if p3 = 0 then some (iG σ3 27 7, σ3) else bnr (fX10_thousandths (lG σ3 27 8) (lG σ3 27 9)) fun v5 => some (v5, σ3) else some ((-1000000000), σ)
theorem eX10_alone {sc : Nat × (Nat → Int32)} (p1 : Int32) (p2 : Int32) (p3 : Int32) (σ : zS) (w : Int32 × zS) (h : fX10_alone p1 p2 p3 σ = some w) : zR (zY0 sc) 127 0 0 mX10_alone 0 [(0, .ref 1), (1, .int p1), (2, .int p2), (3, .int p3)] [] (zE σ) (some (.int w.1), zE w.2) := by
  unfold fX10_alone at h
  refine kR.aload_n dX10_alone_0 0 rfl ?_
  refine kR.getR (v := 8) dX10_alone_1 flX10_38 zcf10 zp1 (Or.inl ⟨_, rfl⟩) rfl ?_
  refine kR.getR (v := (rp σ.2.2.2.1 + 0)) dX10_alone_4 flX10_111 zcf4 zp8 (Or.inl ⟨_, rfl⟩) rfl ?_
  refine kR.iload_n dX10_alone_7 1 rfl ?_
  refine kR.iload_n dX10_alone_8 2 rfl ?_
  refine kR.cVi [.int p1, .int p2] dX10_alone_9 rfl (by decide) mwX10_202 (zq0 σ.2.2.2.1) (by decide) rfl rfl (Nat.le_of_ble_eq_true rfl) (lX6_hasBoth σ.2.2.2.1 σ p1 p2) ?_
  refine kR.if_eq (tgt := 24) dX10_alone_12 (by decide) h (fun h => ?_) (fun h => ?_)
  · refine zR.ldc (v := (-1000000000)) dX10_alone_24 ciX10_197 ?_
    exact kR.iretW dX10_alone_26 (nzI rfl _) h
  · refine kR.iload_n dX10_alone_15 3 rfl ?_
    refine kR.if_lt (tgt := 24) dX10_alone_16 (by decide) h (fun h => ?_) (fun h => ?_)
    · refine zR.ldc (v := (-1000000000)) dX10_alone_24 ciX10_197 ?_
      exact kR.iretW dX10_alone_26 (nzI rfl _) h
    · refine kR.iload_n dX10_alone_19 3 rfl ?_
      refine zR.iconst (v := 1) dX10_alone_20 (by decide) ?_
      refine kR.icmp_le (tgt := 27) dX10_alone_21 (by decide) h (fun h => ?_) (fun h => ?_)
      · refine kR.aload_n dX10_alone_27 0 rfl ?_
        refine kR.getR (v := 27) dX10_alone_28 flX10_47 zcf10 zp1 (Or.inl ⟨_, rfl⟩) rfl ?_
        refine kR.iload_n dX10_alone_31 2 rfl ?_
        refine zR.iconst (v := 1) dX10_alone_32 (by decide) ?_
        refine kR.aload_n dX10_alone_33 0 rfl ?_
        refine kR.getR (v := 4) dX10_alone_34 flX10_19 zcf10 zp1 (Or.inl ⟨_, rfl⟩) rfl ?_
        refine kR.iload_n dX10_alone_37 1 rfl ?_
        obtain ⟨v1, e2, h⟩ := bnr_some h
        refine kR.cVi [.int p1] dX10_alone_38 rfl (by decide) mwX10_182 zp4 (by decide) rfl rfl (Nat.le_of_ble_eq_true rfl) (lX7_breathOf σ p1 _ e2) ?_
        obtain ⟨σ3, e4, h⟩ := bnr_some h
        refine kR.cVv [.int p2, .int 1, .int v1] dX10_alone_41 rfl (by decide) mwX10_224 zp27 (by decide) rfl rfl (Nat.le_of_ble_eq_true rfl) (lX0_plan p2 1 v1 σ _ e4) ?_
        refine kR.iload_n dX10_alone_44 3 rfl ?_
        refine kR.if_ne (tgt := 58) dX10_alone_45 (by decide) h (fun h => ?_) (fun h => ?_)
        · refine kR.aload_n dX10_alone_58 0 rfl ?_
          refine kR.getR (v := 27) dX10_alone_59 flX10_47 zcf10 zp1 (Or.inl ⟨_, rfl⟩) rfl ?_
          refine kR.getL dX10_alone_62 flX10_231 zcf0 zp27 rfl ?_
          refine kR.aload_n dX10_alone_65 0 rfl ?_
          refine kR.getR (v := 27) dX10_alone_66 flX10_47 zcf10 zp1 (Or.inl ⟨_, rfl⟩) rfl ?_
          refine kR.getL dX10_alone_69 flX10_235 zcf0 zp27 rfl ?_
          obtain ⟨v5, e6, h⟩ := bnr_some h
          refine kR.cSi [.long (lG σ3 27 8), .long (lG σ3 27 9)] dX10_alone_72 rfl (by decide) (Or.inl mwX10_198) rfl (Nat.le_of_ble_eq_true rfl) (lX10_thousandths (lG σ3 27 8) (lG σ3 27 9) _ e6) ?_
          exact kR.iretW dX10_alone_75 (nzI rfl _) h
        · refine kR.aload_n dX10_alone_48 0 rfl ?_
          refine kR.getR (v := 27) dX10_alone_49 flX10_47 zcf10 zp1 (Or.inl ⟨_, rfl⟩) rfl ?_
          refine kR.getI dX10_alone_52 flX10_228 zcf0 zp27 (Or.inl rfl) ?_
          refine zR.goto (tgt := 75) dX10_alone_55 (by decide) ?_
          exact kR.iretW dX10_alone_75 (nzI rfl _) h
      · refine zR.ldc (v := (-1000000000)) dX10_alone_24 ciX10_197 ?_
        exact kR.iretW dX10_alone_26 (nzI rfl _) h
theorem lX10_alone {sc : Nat × (Nat → Int32)} (p1 : Int32) (p2 : Int32) (p3 : Int32) (σ : zS) (w : Int32 × zS) (h : fX10_alone p1 p2 p3 σ = some w) : zC (zY0 sc) 127 0 0 mX10_alone [.ref 1, .int p1, .int p2, .int p3] (zE σ) (some (.int w.1), zE w.2) := zC.of (by decide +kernel) (Nat.le_of_ble_eq_true rfl) ⟨_, rfl⟩ (eX10_alone p1 p2 p3 σ w h)
theorem dX10_on_0 : decode cX10_on 0 = .ok (.aload_n 0, 1) := by decide +kernel
theorem dX10_on_1 : decode cX10_on 1 = .ok (.getfield 19, 3) := by decide +kernel
theorem dX10_on_4 : decode cX10_on 4 = .ok (.invokevirtual 140, 3) := by decide +kernel
theorem dX10_on_7 : decode cX10_on 7 = .ok (.istore 4, 2) := by decide +kernel
theorem dX10_on_9 : decode cX10_on 9 = .ok (.aload_n 0, 1) := by decide +kernel
theorem dX10_on_10 : decode cX10_on 10 = .ok (.getfield 38, 3) := by decide +kernel
theorem dX10_on_13 : decode cX10_on 13 = .ok (.getfield 111, 3) := by decide +kernel
theorem dX10_on_16 : decode cX10_on 16 = .ok (.iload_n 1, 1) := by decide +kernel
theorem dX10_on_17 : decode cX10_on 17 = .ok (.iload 4, 2) := by decide +kernel
theorem dX10_on_19 : decode cX10_on 19 = .ok (.invokevirtual 202, 3) := by decide +kernel
theorem dX10_on_22 : decode cX10_on 22 = .ok (.ifCond .eq 22, 3) := by decide +kernel
theorem dX10_on_25 : decode cX10_on 25 = .ok (.iload_n 2, 1) := by decide +kernel
theorem dX10_on_26 : decode cX10_on 26 = .ok (.iconst 1, 1) := by decide +kernel
theorem dX10_on_27 : decode cX10_on 27 = .ok (.if_icmp .lt 17, 3) := by decide +kernel
theorem dX10_on_30 : decode cX10_on 30 = .ok (.iload_n 2, 1) := by decide +kernel
theorem dX10_on_31 : decode cX10_on 31 = .ok (.iconst 4, 1) := by decide +kernel
theorem dX10_on_32 : decode cX10_on 32 = .ok (.if_icmp .gt 12, 3) := by decide +kernel
theorem dX10_on_35 : decode cX10_on 35 = .ok (.iload_n 3, 1) := by decide +kernel
theorem dX10_on_36 : decode cX10_on 36 = .ok (.ifCond .lt 8, 3) := by decide +kernel
theorem dX10_on_39 : decode cX10_on 39 = .ok (.iload_n 3, 1) := by decide +kernel
theorem dX10_on_40 : decode cX10_on 40 = .ok (.iconst 1, 1) := by decide +kernel
theorem dX10_on_41 : decode cX10_on 41 = .ok (.if_icmp .le 6, 3) := by decide +kernel
theorem dX10_on_44 : decode cX10_on 44 = .ok (.ldc 197, 2) := by decide +kernel
theorem dX10_on_46 : decode cX10_on 46 = .ok (.ireturn, 1) := by decide +kernel
theorem dX10_on_47 : decode cX10_on 47 = .ok (.aload_n 0, 1) := by decide +kernel
theorem dX10_on_48 : decode cX10_on 48 = .ok (.getfield 47, 3) := by decide +kernel
theorem dX10_on_51 : decode cX10_on 51 = .ok (.iload 4, 2) := by decide +kernel
theorem dX10_on_53 : decode cX10_on 53 = .ok (.iload_n 2, 1) := by decide +kernel
theorem dX10_on_54 : decode cX10_on 54 = .ok (.aload_n 0, 1) := by decide +kernel
theorem dX10_on_55 : decode cX10_on 55 = .ok (.getfield 19, 3) := by decide +kernel
theorem dX10_on_58 : decode cX10_on 58 = .ok (.iload_n 1, 1) := by decide +kernel
theorem dX10_on_59 : decode cX10_on 59 = .ok (.invokevirtual 182, 3) := by decide +kernel
theorem dX10_on_62 : decode cX10_on 62 = .ok (.invokevirtual 224, 3) := by decide +kernel
theorem dX10_on_65 : decode cX10_on 65 = .ok (.iload_n 3, 1) := by decide +kernel
theorem dX10_on_66 : decode cX10_on 66 = .ok (.ifCond .ne 13, 3) := by decide +kernel
theorem dX10_on_69 : decode cX10_on 69 = .ok (.aload_n 0, 1) := by decide +kernel
theorem dX10_on_70 : decode cX10_on 70 = .ok (.getfield 47, 3) := by decide +kernel
theorem dX10_on_73 : decode cX10_on 73 = .ok (.getfield 228, 3) := by decide +kernel
theorem dX10_on_76 : decode cX10_on 76 = .ok (.goto 20, 3) := by decide +kernel
theorem dX10_on_79 : decode cX10_on 79 = .ok (.aload_n 0, 1) := by decide +kernel
theorem dX10_on_80 : decode cX10_on 80 = .ok (.getfield 47, 3) := by decide +kernel
theorem dX10_on_83 : decode cX10_on 83 = .ok (.getfield 231, 3) := by decide +kernel
theorem dX10_on_86 : decode cX10_on 86 = .ok (.aload_n 0, 1) := by decide +kernel
theorem dX10_on_87 : decode cX10_on 87 = .ok (.getfield 47, 3) := by decide +kernel
theorem dX10_on_90 : decode cX10_on 90 = .ok (.getfield 235, 3) := by decide +kernel
theorem dX10_on_93 : decode cX10_on 93 = .ok (.invokestatic 198, 3) := by decide +kernel
theorem dX10_on_96 : decode cX10_on 96 = .ok (.ireturn, 1) := by decide +kernel
def fX10_on (p1 : Int32) (p2 : Int32) (p3 : Int32) (σ : zS) : Option (Int32 × zS) := bnr (fX7_nextTunnel σ) fun v1 => if (fX6_hasBoth σ.2.2.2.1 σ p1 v1) = 0 then some ((-1000000000), σ) else if p2 < 1 then some ((-1000000000), σ) else if 4 < p2 then some ((-1000000000), σ) else if p3 < 0 then some ((-1000000000), σ) else if p3 ≤ 1 then bnr (fX7_breathOf σ p1) fun v3 => bnr (fX0_plan v1 p2 v3 σ) fun σ5 => if p3 = 0 then some (iG σ5 27 7, σ5) else bnr (fX10_thousandths (lG σ5 27 8) (lG σ5 27 9)) fun v7 => some (v7, σ5) else some ((-1000000000), σ)
theorem eX10_on {sc : Nat × (Nat → Int32)} (p1 : Int32) (p2 : Int32) (p3 : Int32) (σ : zS) (w : Int32 × zS) (h : fX10_on p1 p2 p3 σ = some w) : zR (zY0 sc) 127 0 0 mX10_on 0 [(0, .ref 1), (1, .int p1), (2, .int p2), (3, .int p3)] [] (zE σ) (some (.int w.1), zE w.2) := by
  unfold fX10_on at h
  refine kR.aload_n dX10_on_0 0 rfl ?_
  refine kR.getR (v := 4) dX10_on_1 flX10_19 zcf10 zp1 (Or.inl ⟨_, rfl⟩) rfl ?_
  obtain ⟨v1, e2, h⟩ := bnr_some h
  refine kR.cVi [] dX10_on_4 rfl (by decide) mwX10_140 zp4 (by decide) rfl rfl (Nat.le_of_ble_eq_true rfl) (lX7_nextTunnel σ _ e2) ?_
  refine zR.istore (i := 4) (ls' := [(4, .int v1), (0, .ref 1), (1, .int p1), (2, .int p2), (3, .int p3)]) dX10_on_7 (by decide) rfl ?_
  refine kR.aload_n dX10_on_9 1 rfl ?_
  refine kR.getR (v := 8) dX10_on_10 flX10_38 zcf10 zp1 (Or.inl ⟨_, rfl⟩) rfl ?_
  refine kR.getR (v := (rp σ.2.2.2.1 + 0)) dX10_on_13 flX10_111 zcf4 zp8 (Or.inl ⟨_, rfl⟩) rfl ?_
  refine kR.iload_n dX10_on_16 2 rfl ?_
  refine kR.iload dX10_on_17 0 rfl ?_
  refine kR.cVi [.int p1, .int v1] dX10_on_19 rfl (by decide) mwX10_202 (zq0 σ.2.2.2.1) (by decide) rfl rfl (Nat.le_of_ble_eq_true rfl) (lX6_hasBoth σ.2.2.2.1 σ p1 v1) ?_
  refine kR.if_eq (tgt := 44) dX10_on_22 (by decide) h (fun h => ?_) (fun h => ?_)
  · refine zR.ldc (v := (-1000000000)) dX10_on_44 ciX10_197 ?_
    exact kR.iretW dX10_on_46 (nzI rfl _) h
  · refine kR.iload_n dX10_on_25 3 rfl ?_
    refine zR.iconst (v := 1) dX10_on_26 (by decide) ?_
    refine kR.icmp_lt (tgt := 44) dX10_on_27 (by decide) h (fun h => ?_) (fun h => ?_)
    · refine zR.ldc (v := (-1000000000)) dX10_on_44 ciX10_197 ?_
      exact kR.iretW dX10_on_46 (nzI rfl _) h
    · refine kR.iload_n dX10_on_30 3 rfl ?_
      refine zR.iconst (v := 4) dX10_on_31 (by decide) ?_
      refine kR.icmp_gt (tgt := 44) dX10_on_32 (by decide) h (fun h => ?_) (fun h => ?_)
      · refine zR.ldc (v := (-1000000000)) dX10_on_44 ciX10_197 ?_
        exact kR.iretW dX10_on_46 (nzI rfl _) h
      · refine kR.iload_n dX10_on_35 4 rfl ?_
        refine kR.if_lt (tgt := 44) dX10_on_36 (by decide) h (fun h => ?_) (fun h => ?_)
        · refine zR.ldc (v := (-1000000000)) dX10_on_44 ciX10_197 ?_
          exact kR.iretW dX10_on_46 (nzI rfl _) h
        · refine kR.iload_n dX10_on_39 4 rfl ?_
          refine zR.iconst (v := 1) dX10_on_40 (by decide) ?_
          refine kR.icmp_le (tgt := 47) dX10_on_41 (by decide) h (fun h => ?_) (fun h => ?_)
          · refine kR.aload_n dX10_on_47 1 rfl ?_
            refine kR.getR (v := 27) dX10_on_48 flX10_47 zcf10 zp1 (Or.inl ⟨_, rfl⟩) rfl ?_
            refine kR.iload dX10_on_51 0 rfl ?_
            refine kR.iload_n dX10_on_53 3 rfl ?_
            refine kR.aload_n dX10_on_54 1 rfl ?_
            refine kR.getR (v := 4) dX10_on_55 flX10_19 zcf10 zp1 (Or.inl ⟨_, rfl⟩) rfl ?_
            refine kR.iload_n dX10_on_58 2 rfl ?_
            obtain ⟨v3, e4, h⟩ := bnr_some h
            refine kR.cVi [.int p1] dX10_on_59 rfl (by decide) mwX10_182 zp4 (by decide) rfl rfl (Nat.le_of_ble_eq_true rfl) (lX7_breathOf σ p1 _ e4) ?_
            obtain ⟨σ5, e6, h⟩ := bnr_some h
            refine kR.cVv [.int v1, .int p2, .int v3] dX10_on_62 rfl (by decide) mwX10_224 zp27 (by decide) rfl rfl (Nat.le_of_ble_eq_true rfl) (lX0_plan v1 p2 v3 σ _ e6) ?_
            refine kR.iload_n dX10_on_65 4 rfl ?_
            refine kR.if_ne (tgt := 79) dX10_on_66 (by decide) h (fun h => ?_) (fun h => ?_)
            · refine kR.aload_n dX10_on_79 1 rfl ?_
              refine kR.getR (v := 27) dX10_on_80 flX10_47 zcf10 zp1 (Or.inl ⟨_, rfl⟩) rfl ?_
              refine kR.getL dX10_on_83 flX10_231 zcf0 zp27 rfl ?_
              refine kR.aload_n dX10_on_86 1 rfl ?_
              refine kR.getR (v := 27) dX10_on_87 flX10_47 zcf10 zp1 (Or.inl ⟨_, rfl⟩) rfl ?_
              refine kR.getL dX10_on_90 flX10_235 zcf0 zp27 rfl ?_
              obtain ⟨v7, e8, h⟩ := bnr_some h
              refine kR.cSi [.long (lG σ5 27 8), .long (lG σ5 27 9)] dX10_on_93 rfl (by decide) (Or.inl mwX10_198) rfl (Nat.le_of_ble_eq_true rfl) (lX10_thousandths (lG σ5 27 8) (lG σ5 27 9) _ e8) ?_
              exact kR.iretW dX10_on_96 (nzI rfl _) h
            · refine kR.aload_n dX10_on_69 1 rfl ?_
              refine kR.getR (v := 27) dX10_on_70 flX10_47 zcf10 zp1 (Or.inl ⟨_, rfl⟩) rfl ?_
              refine kR.getI dX10_on_73 flX10_228 zcf0 zp27 (Or.inl rfl) ?_
              refine zR.goto (tgt := 96) dX10_on_76 (by decide) ?_
              exact kR.iretW dX10_on_96 (nzI rfl _) h
          · refine zR.ldc (v := (-1000000000)) dX10_on_44 ciX10_197 ?_
            exact kR.iretW dX10_on_46 (nzI rfl _) h
theorem lX10_on {sc : Nat × (Nat → Int32)} (p1 : Int32) (p2 : Int32) (p3 : Int32) (σ : zS) (w : Int32 × zS) (h : fX10_on p1 p2 p3 σ = some w) : zC (zY0 sc) 127 0 0 mX10_on [.ref 1, .int p1, .int p2, .int p3] (zE σ) (some (.int w.1), zE w.2) := zC.of (by decide +kernel) (Nat.le_of_ble_eq_true rfl) ⟨_, rfl⟩ (eX10_on p1 p2 p3 σ w h)
theorem dX0_fillAgainstOthers_0 : decode cX0_fillAgainstOthers 0 = .ok (.aload_n 0, 1) := by decide +kernel
theorem dX0_fillAgainstOthers_1 : decode cX0_fillAgainstOthers 1 = .ok (.getfield 9, 3) := by decide +kernel
theorem dX0_fillAgainstOthers_4 : decode cX0_fillAgainstOthers 4 = .ok (.iconst 0, 1) := by decide +kernel
theorem dX0_fillAgainstOthers_5 : decode cX0_fillAgainstOthers 5 = .ok (.bipush 61, 2) := by decide +kernel
theorem dX0_fillAgainstOthers_7 : decode cX0_fillAgainstOthers 7 = .ok (.lconst 0, 1) := by decide +kernel
theorem dX0_fillAgainstOthers_8 : decode cX0_fillAgainstOthers 8 = .ok (.invokestatic 89, 3) := by decide +kernel
theorem dX0_fillAgainstOthers_11 : decode cX0_fillAgainstOthers 11 = .ok (.iconst 0, 1) := by decide +kernel
theorem dX0_fillAgainstOthers_12 : decode cX0_fillAgainstOthers 12 = .ok (.istore 4, 2) := by decide +kernel
theorem dX0_fillAgainstOthers_14 : decode cX0_fillAgainstOthers 14 = .ok (.iload 4, 2) := by decide +kernel
theorem dX0_fillAgainstOthers_16 : decode cX0_fillAgainstOthers 16 = .ok (.aload_n 0, 1) := by decide +kernel
theorem dX0_fillAgainstOthers_17 : decode cX0_fillAgainstOthers 17 = .ok (.getfield 51, 3) := by decide +kernel
theorem dX0_fillAgainstOthers_20 : decode cX0_fillAgainstOthers 20 = .ok (.getfield 55, 3) := by decide +kernel
theorem dX0_fillAgainstOthers_23 : decode cX0_fillAgainstOthers 23 = .ok (.getfield 92, 3) := by decide +kernel
theorem dX0_fillAgainstOthers_26 : decode cX0_fillAgainstOthers 26 = .ok (.iload_n 2, 1) := by decide +kernel
theorem dX0_fillAgainstOthers_27 : decode cX0_fillAgainstOthers 27 = .ok (.iaload, 1) := by decide +kernel
theorem dX0_fillAgainstOthers_28 : decode cX0_fillAgainstOthers 28 = .ok (.if_icmp .ge 156, 3) := by decide +kernel
theorem dX0_fillAgainstOthers_31 : decode cX0_fillAgainstOthers 31 = .ok (.aload_n 0, 1) := by decide +kernel
theorem dX0_fillAgainstOthers_32 : decode cX0_fillAgainstOthers 32 = .ok (.getfield 51, 3) := by decide +kernel
theorem dX0_fillAgainstOthers_35 : decode cX0_fillAgainstOthers 35 = .ok (.getfield 55, 3) := by decide +kernel
theorem dX0_fillAgainstOthers_38 : decode cX0_fillAgainstOthers 38 = .ok (.iload_n 2, 1) := by decide +kernel
theorem dX0_fillAgainstOthers_39 : decode cX0_fillAgainstOthers 39 = .ok (.iload 4, 2) := by decide +kernel
theorem dX0_fillAgainstOthers_41 : decode cX0_fillAgainstOthers 41 = .ok (.invokevirtual 99, 3) := by decide +kernel
theorem dX0_fillAgainstOthers_44 : decode cX0_fillAgainstOthers 44 = .ok (.istore 5, 2) := by decide +kernel
theorem dX0_fillAgainstOthers_46 : decode cX0_fillAgainstOthers 46 = .ok (.aload_n 0, 1) := by decide +kernel
theorem dX0_fillAgainstOthers_47 : decode cX0_fillAgainstOthers 47 = .ok (.getfield 51, 3) := by decide +kernel
theorem dX0_fillAgainstOthers_50 : decode cX0_fillAgainstOthers 50 = .ok (.getfield 55, 3) := by decide +kernel
theorem dX0_fillAgainstOthers_53 : decode cX0_fillAgainstOthers 53 = .ok (.iload_n 2, 1) := by decide +kernel
theorem dX0_fillAgainstOthers_54 : decode cX0_fillAgainstOthers 54 = .ok (.iload 4, 2) := by decide +kernel
theorem dX0_fillAgainstOthers_56 : decode cX0_fillAgainstOthers 56 = .ok (.invokevirtual 102, 3) := by decide +kernel
theorem dX0_fillAgainstOthers_59 : decode cX0_fillAgainstOthers 59 = .ok (.i2l, 1) := by decide +kernel
theorem dX0_fillAgainstOthers_60 : decode cX0_fillAgainstOthers 60 = .ok (.lstore 6, 2) := by decide +kernel
theorem dX0_fillAgainstOthers_62 : decode cX0_fillAgainstOthers 62 = .ok (.iconst 0, 1) := by decide +kernel
theorem dX0_fillAgainstOthers_63 : decode cX0_fillAgainstOthers 63 = .ok (.istore 8, 2) := by decide +kernel
theorem dX0_fillAgainstOthers_65 : decode cX0_fillAgainstOthers 65 = .ok (.iload 8, 2) := by decide +kernel
theorem dX0_fillAgainstOthers_67 : decode cX0_fillAgainstOthers 67 = .ok (.aload_n 0, 1) := by decide +kernel
theorem dX0_fillAgainstOthers_68 : decode cX0_fillAgainstOthers 68 = .ok (.getfield 51, 3) := by decide +kernel
theorem dX0_fillAgainstOthers_71 : decode cX0_fillAgainstOthers 71 = .ok (.getfield 55, 3) := by decide +kernel
theorem dX0_fillAgainstOthers_74 : decode cX0_fillAgainstOthers 74 = .ok (.getfield 121, 3) := by decide +kernel
theorem dX0_fillAgainstOthers_77 : decode cX0_fillAgainstOthers 77 = .ok (.if_icmp .ge 31, 3) := by decide +kernel
theorem dX0_fillAgainstOthers_80 : decode cX0_fillAgainstOthers 80 = .ok (.aload_n 0, 1) := by decide +kernel
theorem dX0_fillAgainstOthers_81 : decode cX0_fillAgainstOthers 81 = .ok (.getfield 51, 3) := by decide +kernel
theorem dX0_fillAgainstOthers_84 : decode cX0_fillAgainstOthers 84 = .ok (.getfield 140, 3) := by decide +kernel
theorem dX0_fillAgainstOthers_87 : decode cX0_fillAgainstOthers 87 = .ok (.iload 8, 2) := by decide +kernel
theorem dX0_fillAgainstOthers_89 : decode cX0_fillAgainstOthers 89 = .ok (.iload 5, 2) := by decide +kernel
theorem dX0_fillAgainstOthers_91 : decode cX0_fillAgainstOthers 91 = .ok (.aload_n 0, 1) := by decide +kernel
theorem dX0_fillAgainstOthers_92 : decode cX0_fillAgainstOthers 92 = .ok (.getfield 44, 3) := by decide +kernel
theorem dX0_fillAgainstOthers_95 : decode cX0_fillAgainstOthers 95 = .ok (.iload 8, 2) := by decide +kernel
theorem dX0_fillAgainstOthers_97 : decode cX0_fillAgainstOthers 97 = .ok (.iaload, 1) := by decide +kernel
theorem dX0_fillAgainstOthers_98 : decode cX0_fillAgainstOthers 98 = .ok (.invokestatic 105, 3) := by decide +kernel
theorem dX0_fillAgainstOthers_101 : decode cX0_fillAgainstOthers 101 = .ok (.iastore, 1) := by decide +kernel
theorem dX0_fillAgainstOthers_102 : decode cX0_fillAgainstOthers 102 = .ok (.iinc 8 1, 3) := by decide +kernel
theorem dX0_fillAgainstOthers_105 : decode cX0_fillAgainstOthers 105 = .ok (.goto (-40), 3) := by decide +kernel
theorem dX0_fillAgainstOthers_108 : decode cX0_fillAgainstOthers 108 = .ok (.iconst 0, 1) := by decide +kernel
theorem dX0_fillAgainstOthers_109 : decode cX0_fillAgainstOthers 109 = .ok (.istore 8, 2) := by decide +kernel
theorem dX0_fillAgainstOthers_111 : decode cX0_fillAgainstOthers 111 = .ok (.iload 8, 2) := by decide +kernel
theorem dX0_fillAgainstOthers_113 : decode cX0_fillAgainstOthers 113 = .ok (.iload 5, 2) := by decide +kernel
theorem dX0_fillAgainstOthers_115 : decode cX0_fillAgainstOthers 115 = .ok (.iload_n 3, 1) := by decide +kernel
theorem dX0_fillAgainstOthers_116 : decode cX0_fillAgainstOthers 116 = .ok (.invokestatic 105, 3) := by decide +kernel
theorem dX0_fillAgainstOthers_119 : decode cX0_fillAgainstOthers 119 = .ok (.if_icmp .gt 59, 3) := by decide +kernel
theorem dX0_fillAgainstOthers_122 : decode cX0_fillAgainstOthers 122 = .ok (.aload_n 0, 1) := by decide +kernel
theorem dX0_fillAgainstOthers_123 : decode cX0_fillAgainstOthers 123 = .ok (.getfield 51, 3) := by decide +kernel
theorem dX0_fillAgainstOthers_126 : decode cX0_fillAgainstOthers 126 = .ok (.getfield 140, 3) := by decide +kernel
theorem dX0_fillAgainstOthers_129 : decode cX0_fillAgainstOthers 129 = .ok (.iload_n 1, 1) := by decide +kernel
theorem dX0_fillAgainstOthers_130 : decode cX0_fillAgainstOthers 130 = .ok (.iload 8, 2) := by decide +kernel
theorem dX0_fillAgainstOthers_132 : decode cX0_fillAgainstOthers 132 = .ok (.iastore, 1) := by decide +kernel
theorem dX0_fillAgainstOthers_133 : decode cX0_fillAgainstOthers 133 = .ok (.lload 6, 2) := by decide +kernel
theorem dX0_fillAgainstOthers_135 : decode cX0_fillAgainstOthers 135 = .ok (.aload_n 0, 1) := by decide +kernel
theorem dX0_fillAgainstOthers_136 : decode cX0_fillAgainstOthers 136 = .ok (.getfield 51, 3) := by decide +kernel
theorem dX0_fillAgainstOthers_139 : decode cX0_fillAgainstOthers 139 = .ok (.iload_n 1, 1) := by decide +kernel
theorem dX0_fillAgainstOthers_140 : decode cX0_fillAgainstOthers 140 = .ok (.iload_n 2, 1) := by decide +kernel
theorem dX0_fillAgainstOthers_141 : decode cX0_fillAgainstOthers 141 = .ok (.iload 5, 2) := by decide +kernel
theorem dX0_fillAgainstOthers_143 : decode cX0_fillAgainstOthers 143 = .ok (.invokevirtual 143, 3) := by decide +kernel
theorem dX0_fillAgainstOthers_146 : decode cX0_fillAgainstOthers 146 = .ok (.i2l, 1) := by decide +kernel
theorem dX0_fillAgainstOthers_147 : decode cX0_fillAgainstOthers 147 = .ok (.lmul, 1) := by decide +kernel
theorem dX0_fillAgainstOthers_148 : decode cX0_fillAgainstOthers 148 = .ok (.lstore 9, 2) := by decide +kernel
theorem dX0_fillAgainstOthers_150 : decode cX0_fillAgainstOthers 150 = .ok (.aload_n 0, 1) := by decide +kernel
theorem dX0_fillAgainstOthers_151 : decode cX0_fillAgainstOthers 151 = .ok (.iconst 0, 1) := by decide +kernel
theorem dX0_fillAgainstOthers_152 : decode cX0_fillAgainstOthers 152 = .ok (.iload 8, 2) := by decide +kernel
theorem dX0_fillAgainstOthers_154 : decode cX0_fillAgainstOthers 154 = .ok (.iload 8, 2) := by decide +kernel
theorem dX0_fillAgainstOthers_156 : decode cX0_fillAgainstOthers 156 = .ok (.iload 5, 2) := by decide +kernel
theorem dX0_fillAgainstOthers_158 : decode cX0_fillAgainstOthers 158 = .ok (.if_icmp .ne 7, 3) := by decide +kernel
theorem dX0_fillAgainstOthers_161 : decode cX0_fillAgainstOthers 161 = .ok (.iload_n 3, 1) := by decide +kernel
theorem dX0_fillAgainstOthers_162 : decode cX0_fillAgainstOthers 162 = .ok (.goto 5, 3) := by decide +kernel
theorem dX0_fillAgainstOthers_165 : decode cX0_fillAgainstOthers 165 = .ok (.iload 8, 2) := by decide +kernel
theorem dX0_fillAgainstOthers_167 : decode cX0_fillAgainstOthers 167 = .ok (.lload 9, 2) := by decide +kernel
theorem dX0_fillAgainstOthers_169 : decode cX0_fillAgainstOthers 169 = .ok (.invokevirtual 117, 3) := by decide +kernel
theorem dX0_fillAgainstOthers_172 : decode cX0_fillAgainstOthers 172 = .ok (.iinc 8 1, 3) := by decide +kernel
theorem dX0_fillAgainstOthers_175 : decode cX0_fillAgainstOthers 175 = .ok (.goto (-64), 3) := by decide +kernel
theorem dX0_fillAgainstOthers_178 : decode cX0_fillAgainstOthers 178 = .ok (.iinc 4 1, 3) := by decide +kernel
theorem dX0_fillAgainstOthers_181 : decode cX0_fillAgainstOthers 181 = .ok (.goto (-167), 3) := by decide +kernel
theorem dX0_fillAgainstOthers_184 : decode cX0_fillAgainstOthers 184 = .ok (.return_, 1) := by decide +kernel
def fX0_fillAgainstOthers_167 (r14 : Int32 → Int32 → Int32 → Int32 → zS → Option zS) (r111 : Int32 → Int32 → Int32 → Int32 → Int32 → Int64 → Int32 → zS → Option zS) (x1 : Int32) (x2 : Int32) (x3 : Int32) (x4 : Int32) (x5 : Int32) (x6 : Int64) (x8 : Int32) (x9 : Int64) (s0 : Int32) (s1 : Int32) (s2 : Int32) (σ : zS) : Option zS := bnr (fX0_addToSeconds s2 s1 s0 x9 σ) fun σ12 => r111 x1 x2 x3 x4 x5 x6 (x8 + 1) σ12
theorem kX0_fillAgainstOthers_167 {sc : Nat × (Nat → Int32)} (r14 : Int32 → Int32 → Int32 → Int32 → zS → Option zS) (r111 : Int32 → Int32 → Int32 → Int32 → Int32 → Int64 → Int32 → zS → Option zS) (hr14 : ∀ (x1 : Int32) (x2 : Int32) (x3 : Int32) (x4 : Int32) (σ : zS) (w : zS), r14 x1 x2 x3 x4 σ = some w → zR (zY0 sc) 5 0 0 mX0_fillAgainstOthers 14 [(0, .ref 27), (1, .int x1), (2, .int x2), (3, .int x3), (4, .int x4)] [] (zE σ) (none, zE w)) (hr111 : ∀ (x1 : Int32) (x2 : Int32) (x3 : Int32) (x4 : Int32) (x5 : Int32) (x6 : Int64) (x8 : Int32) (σ : zS) (w : zS), r111 x1 x2 x3 x4 x5 x6 x8 σ = some w → zR (zY0 sc) 5 0 0 mX0_fillAgainstOthers 111 [(0, .ref 27), (1, .int x1), (2, .int x2), (3, .int x3), (4, .int x4), (5, .int x5), (6, .long x6), (8, .int x8)] [] (zE σ) (none, zE w)) (x1 : Int32) (x2 : Int32) (x3 : Int32) (x4 : Int32) (x5 : Int32) (x6 : Int64) (x8 : Int32) (x9 : Int64) (s0 : Int32) (s1 : Int32) (s2 : Int32) (σ : zS) (w : zS) (h : fX0_fillAgainstOthers_167 r14 r111 x1 x2 x3 x4 x5 x6 x8 x9 s0 s1 s2 σ = some w) : zR (zY0 sc) 5 0 0 mX0_fillAgainstOthers 167 [(0, .ref 27), (1, .int x1), (2, .int x2), (3, .int x3), (4, .int x4), (5, .int x5), (6, .long x6), (8, .int x8), (9, .long x9)] [.int s0, .int s1, .int s2, .ref 27] (zE σ) (none, zE w) := by
  unfold fX0_fillAgainstOthers_167 at h
  refine kR.lload dX0_fillAgainstOthers_167 8 rfl ?_
  obtain ⟨σ12, e13, h⟩ := bnr_some h
  refine kR.cVv [.int s2, .int s1, .int s0, .long x9] dX0_fillAgainstOthers_169 rfl (by decide) mwX0_117 zp27 (by decide) rfl rfl (Nat.le_of_ble_eq_true rfl) (lX0_addToSeconds s2 s1 s0 x9 σ _ e13) ?_
  refine zR.iinc 7 (v := x8 + 1) (ls' := [(8, .int (x8 + 1)), (0, .ref 27), (1, .int x1), (2, .int x2), (3, .int x3), (4, .int x4), (5, .int x5), (6, .long x6), (9, .long x9)]) dX0_fillAgainstOthers_172 rfl rfl (by decide) rfl ?_
  refine zR.goto (tgt := 111) dX0_fillAgainstOthers_175 (by decide) ?_
  refine zR.sub [1, 2, 3, 4, 5, 6, 7, 0] rfl ?_
  exact hr111 _ _ _ _ _ _ _ _ _ h
def fX0_fillAgainstOthers_111 (r14 : Int32 → Int32 → Int32 → Int32 → zS → Option zS) : Nat → Int32 → Int32 → Int32 → Int32 → Int32 → Int64 → Int32 → zS → Option zS
  | 0, _, _, _, _, _, _, _, _ => none
  | f + 1, x1, x2, x3, x4, x5, x6, x8, σ => if (fJ9_min_7cf53 x5 x3) < x8 then r14 x1 x2 x3 (x4 + 1) σ else wI σ 25 6 x1 x8 fun σ8 => bnc (fX4_worthAmong x1 x2 x5 σ8) fun v11 σ9 => if x8 = x5 then fX0_fillAgainstOthers_167 r14 (fX0_fillAgainstOthers_111 r14 f) x1 x2 x3 x4 x5 x6 x8 (x6 * v11.toInt64) x3 x8 0 σ9 else fX0_fillAgainstOthers_167 r14 (fX0_fillAgainstOthers_111 r14 f) x1 x2 x3 x4 x5 x6 x8 (x6 * v11.toInt64) x8 x8 0 σ9
theorem kX0_fillAgainstOthers_111 {sc : Nat × (Nat → Int32)} (r14 : Int32 → Int32 → Int32 → Int32 → zS → Option zS) (hr14 : ∀ (x1 : Int32) (x2 : Int32) (x3 : Int32) (x4 : Int32) (σ : zS) (w : zS), r14 x1 x2 x3 x4 σ = some w → zR (zY0 sc) 5 0 0 mX0_fillAgainstOthers 14 [(0, .ref 27), (1, .int x1), (2, .int x2), (3, .int x3), (4, .int x4)] [] (zE σ) (none, zE w)) : ∀ (fuel : Nat) (x1 : Int32) (x2 : Int32) (x3 : Int32) (x4 : Int32) (x5 : Int32) (x6 : Int64) (x8 : Int32) (σ : zS) (w : zS) (h : fX0_fillAgainstOthers_111 r14 fuel x1 x2 x3 x4 x5 x6 x8 σ = some w), zR (zY0 sc) 5 0 0 mX0_fillAgainstOthers 111 [(0, .ref 27), (1, .int x1), (2, .int x2), (3, .int x3), (4, .int x4), (5, .int x5), (6, .long x6), (8, .int x8)] [] (zE σ) (none, zE w) := by
  intro fuel
  induction fuel with
  | zero => intro x1 x2 x3 x4 x5 x6 x8 σ w h; exact nomatch h
  | succ f ih =>
    intro x1 x2 x3 x4 x5 x6 x8 σ w h
    rw [fX0_fillAgainstOthers_111] at h
    refine kR.iload dX0_fillAgainstOthers_111 7 rfl ?_
    refine kR.iload dX0_fillAgainstOthers_113 5 rfl ?_
    refine kR.iload_n dX0_fillAgainstOthers_115 3 rfl ?_
    refine kR.cSi [.int x5, .int x3] dX0_fillAgainstOthers_116 rfl (by decide) (Or.inl mwX0_105) rfl (Nat.le_of_ble_eq_true rfl) (lJ9_min_7cf53 x5 x3) ?_
    refine kR.icmp_gt (tgt := 178) dX0_fillAgainstOthers_119 (by decide) h (fun h => ?_) (fun h => ?_)
    · refine zR.iinc 4 (v := x4 + 1) (ls' := [(4, .int (x4 + 1)), (0, .ref 27), (1, .int x1), (2, .int x2), (3, .int x3), (5, .int x5), (6, .long x6), (8, .int x8)]) dX0_fillAgainstOthers_178 rfl rfl (by decide) rfl ?_
      refine zR.goto (tgt := 14) dX0_fillAgainstOthers_181 (by decide) ?_
      refine zR.sub [1, 2, 3, 4, 0] rfl ?_
      exact hr14 _ _ _ _ _ _ h
    · refine kR.aload_n dX0_fillAgainstOthers_122 0 rfl ?_
      refine kR.getR (v := 8) dX0_fillAgainstOthers_123 flX0_51 zcf0 zp27 (Or.inl ⟨_, rfl⟩) rfl ?_
      refine kR.getR (v := 25) dX0_fillAgainstOthers_126 flX0_140 zcf4 zp8 (Or.inr ⟨_, rfl⟩) rfl ?_
      refine kR.iload_n dX0_fillAgainstOthers_129 1 rfl ?_
      refine kR.iload dX0_fillAgainstOthers_130 7 rfl ?_
      refine kR.iast dX0_fillAgainstOthers_132 zp25 rfl h (fun σ8 h => ?_)
      refine kR.lload dX0_fillAgainstOthers_133 6 rfl ?_
      refine kR.aload_n dX0_fillAgainstOthers_135 0 rfl ?_
      refine kR.getR (v := 8) dX0_fillAgainstOthers_136 flX0_51 zcf0 zp27 (Or.inl ⟨_, rfl⟩) rfl ?_
      refine kR.iload_n dX0_fillAgainstOthers_139 1 rfl ?_
      refine kR.iload_n dX0_fillAgainstOthers_140 2 rfl ?_
      refine kR.iload dX0_fillAgainstOthers_141 5 rfl ?_
      obtain ⟨v11, σ9, e10, h⟩ := bnc_some h
      refine kR.cVi [.int x1, .int x2, .int x5] dX0_fillAgainstOthers_143 rfl (by decide) mwX0_143 zp8 (by decide) rfl rfl (Nat.le_of_ble_eq_true rfl) (lX4_worthAmong x1 x2 x5 σ8 _ e10) ?_
      refine zR.i2l dX0_fillAgainstOthers_146 ?_
      refine zR.lmul dX0_fillAgainstOthers_147 ?_
      refine zR.lstore (i := 9) (ls' := [(9, .long (x6 * v11.toInt64)), (0, .ref 27), (1, .int x1), (2, .int x2), (3, .int x3), (4, .int x4), (5, .int x5), (6, .long x6), (8, .int x8)]) dX0_fillAgainstOthers_148 (by decide) rfl ?_
      refine kR.aload_n dX0_fillAgainstOthers_150 1 rfl ?_
      refine zR.iconst (v := 0) dX0_fillAgainstOthers_151 (by decide) ?_
      refine kR.iload dX0_fillAgainstOthers_152 8 rfl ?_
      refine kR.iload dX0_fillAgainstOthers_154 8 rfl ?_
      refine kR.iload dX0_fillAgainstOthers_156 6 rfl ?_
      refine kR.icmp_ne (tgt := 165) dX0_fillAgainstOthers_158 (by decide) h (fun h => ?_) (fun h => ?_)
      · refine kR.iload dX0_fillAgainstOthers_165 8 rfl ?_
        refine zR.sub [1, 2, 3, 4, 5, 6, 7, 8, 0] rfl ?_
        exact kX0_fillAgainstOthers_167 r14 (fX0_fillAgainstOthers_111 r14 f) hr14 ih _ _ _ _ _ _ _ _ _ _ _ _ _ h
      · refine kR.iload_n dX0_fillAgainstOthers_161 4 rfl ?_
        refine zR.goto (tgt := 167) dX0_fillAgainstOthers_162 (by decide) ?_
        refine zR.sub [1, 2, 3, 4, 5, 6, 7, 8, 0] rfl ?_
        exact kX0_fillAgainstOthers_167 r14 (fX0_fillAgainstOthers_111 r14 f) hr14 ih _ _ _ _ _ _ _ _ _ _ _ _ _ h
def fX0_fillAgainstOthers_65 (r14 : Int32 → Int32 → Int32 → Int32 → zS → Option zS) : Nat → Int32 → Int32 → Int32 → Int32 → Int32 → Int64 → Int32 → zS → Option zS
  | 0, _, _, _, _, _, _, _, _ => none
  | f + 1, x1, x2, x3, x4, x5, x6, x8, σ => if (iG σ (rp σ.2.2.2.1 + 0) 2) ≤ x8 then fX0_fillAgainstOthers_111 r14 zF x1 x2 x3 x4 x5 x6 0 σ else aI σ 31 6 x8 fun v14 => wI σ 25 6 x8 (fJ9_min_7cf53 x5 v14) fun σ15 => fX0_fillAgainstOthers_65 r14 f x1 x2 x3 x4 x5 x6 (x8 + 1) σ15
theorem kX0_fillAgainstOthers_65 {sc : Nat × (Nat → Int32)} (r14 : Int32 → Int32 → Int32 → Int32 → zS → Option zS) (hr14 : ∀ (x1 : Int32) (x2 : Int32) (x3 : Int32) (x4 : Int32) (σ : zS) (w : zS), r14 x1 x2 x3 x4 σ = some w → zR (zY0 sc) 5 0 0 mX0_fillAgainstOthers 14 [(0, .ref 27), (1, .int x1), (2, .int x2), (3, .int x3), (4, .int x4)] [] (zE σ) (none, zE w)) : ∀ (fuel : Nat) (x1 : Int32) (x2 : Int32) (x3 : Int32) (x4 : Int32) (x5 : Int32) (x6 : Int64) (x8 : Int32) (σ : zS) (w : zS) (h : fX0_fillAgainstOthers_65 r14 fuel x1 x2 x3 x4 x5 x6 x8 σ = some w), zR (zY0 sc) 5 0 0 mX0_fillAgainstOthers 65 [(0, .ref 27), (1, .int x1), (2, .int x2), (3, .int x3), (4, .int x4), (5, .int x5), (6, .long x6), (8, .int x8)] [] (zE σ) (none, zE w) := by
  intro fuel
  induction fuel with
  | zero => intro x1 x2 x3 x4 x5 x6 x8 σ w h; exact nomatch h
  | succ f ih =>
    intro x1 x2 x3 x4 x5 x6 x8 σ w h
    rw [fX0_fillAgainstOthers_65] at h
    refine kR.iload dX0_fillAgainstOthers_65 7 rfl ?_
    refine kR.aload_n dX0_fillAgainstOthers_67 0 rfl ?_
    refine kR.getR (v := 8) dX0_fillAgainstOthers_68 flX0_51 zcf0 zp27 (Or.inl ⟨_, rfl⟩) rfl ?_
    refine kR.getR (v := (rp σ.2.2.2.1 + 0)) dX0_fillAgainstOthers_71 flX0_55 zcf4 zp8 (Or.inl ⟨_, rfl⟩) rfl ?_
    refine kR.getI dX0_fillAgainstOthers_74 flX0_121 zcf6 (zq0 σ.2.2.2.1) (Or.inl rfl) ?_
    refine kR.icmp_ge (tgt := 108) dX0_fillAgainstOthers_77 (by decide) h (fun h => ?_) (fun h => ?_)
    · refine zR.iconst (v := 0) dX0_fillAgainstOthers_108 (by decide) ?_
      refine zR.istore (i := 8) (ls' := [(8, .int 0), (0, .ref 27), (1, .int x1), (2, .int x2), (3, .int x3), (4, .int x4), (5, .int x5), (6, .long x6)]) dX0_fillAgainstOthers_109 (by decide) rfl ?_
      refine zR.sub [1, 2, 3, 4, 5, 6, 7, 0] rfl ?_
      exact kX0_fillAgainstOthers_111 r14 hr14 zF _ _ _ _ _ _ _ _ _ h
    · refine kR.aload_n dX0_fillAgainstOthers_80 0 rfl ?_
      refine kR.getR (v := 8) dX0_fillAgainstOthers_81 flX0_51 zcf0 zp27 (Or.inl ⟨_, rfl⟩) rfl ?_
      refine kR.getR (v := 25) dX0_fillAgainstOthers_84 flX0_140 zcf4 zp8 (Or.inr ⟨_, rfl⟩) rfl ?_
      refine kR.iload dX0_fillAgainstOthers_87 7 rfl ?_
      refine kR.iload dX0_fillAgainstOthers_89 5 rfl ?_
      refine kR.aload_n dX0_fillAgainstOthers_91 0 rfl ?_
      refine kR.getR (v := 31) dX0_fillAgainstOthers_92 flX0_44 zcf0 zp27 (Or.inr ⟨_, rfl⟩) rfl ?_
      refine kR.iload dX0_fillAgainstOthers_95 7 rfl ?_
      refine kR.iald dX0_fillAgainstOthers_97 zp31 rfl h (fun v14 h => ?_)
      refine kR.cSi [.int x5, .int v14] dX0_fillAgainstOthers_98 rfl (by decide) (Or.inl mwX0_105) rfl (Nat.le_of_ble_eq_true rfl) (lJ9_min_7cf53 x5 v14) ?_
      refine kR.iast dX0_fillAgainstOthers_101 zp25 rfl h (fun σ15 h => ?_)
      refine zR.iinc 7 (v := x8 + 1) (ls' := [(8, .int (x8 + 1)), (0, .ref 27), (1, .int x1), (2, .int x2), (3, .int x3), (4, .int x4), (5, .int x5), (6, .long x6)]) dX0_fillAgainstOthers_102 rfl rfl (by decide) rfl ?_
      refine zR.goto (tgt := 65) dX0_fillAgainstOthers_105 (by decide) ?_
      refine zR.sub [1, 2, 3, 4, 5, 6, 7, 0] rfl ?_
      exact ih _ _ _ _ _ _ _ _ _ h
def fX0_fillAgainstOthers_14 : Nat → Int32 → Int32 → Int32 → Int32 → zS → Option zS
  | 0, _, _, _, _, _ => none
  | f + 1, x1, x2, x3, x4, σ => aI σ (rp σ.2.2.2.1 + 3) 6 x2 fun v3 => if v3 ≤ x4 then some σ else bnr (fX6_lengthAt σ.2.2.2.1 σ x2 x4) fun v4 => bnr (fX6_weightAt σ.2.2.2.1 σ x2 x4) fun v6 => fX0_fillAgainstOthers_65 (fX0_fillAgainstOthers_14 f) zF x1 x2 x3 x4 v4 v6.toInt64 0 σ
theorem kX0_fillAgainstOthers_14 {sc : Nat × (Nat → Int32)} : ∀ (fuel : Nat) (x1 : Int32) (x2 : Int32) (x3 : Int32) (x4 : Int32) (σ : zS) (w : zS) (h : fX0_fillAgainstOthers_14 fuel x1 x2 x3 x4 σ = some w), zR (zY0 sc) 5 0 0 mX0_fillAgainstOthers 14 [(0, .ref 27), (1, .int x1), (2, .int x2), (3, .int x3), (4, .int x4)] [] (zE σ) (none, zE w) := by
  intro fuel
  induction fuel with
  | zero => intro x1 x2 x3 x4 σ w h; exact nomatch h
  | succ f ih =>
    intro x1 x2 x3 x4 σ w h
    rw [fX0_fillAgainstOthers_14] at h
    refine kR.iload dX0_fillAgainstOthers_14 4 rfl ?_
    refine kR.aload_n dX0_fillAgainstOthers_16 0 rfl ?_
    refine kR.getR (v := 8) dX0_fillAgainstOthers_17 flX0_51 zcf0 zp27 (Or.inl ⟨_, rfl⟩) rfl ?_
    refine kR.getR (v := (rp σ.2.2.2.1 + 0)) dX0_fillAgainstOthers_20 flX0_55 zcf4 zp8 (Or.inl ⟨_, rfl⟩) rfl ?_
    refine kR.getR (v := (rp σ.2.2.2.1 + 3)) dX0_fillAgainstOthers_23 flX0_92 zcf6 (zq0 σ.2.2.2.1) (Or.inr ⟨_, rfl⟩) (zr0_7 _ σ.2.2.2.1) ?_
    refine kR.iload_n dX0_fillAgainstOthers_26 2 rfl ?_
    refine kR.iald dX0_fillAgainstOthers_27 (zq3 σ.2.2.2.1) (zl3 σ.2.2.2.1) h (fun v3 h => ?_)
    refine kR.icmp_ge (tgt := 184) dX0_fillAgainstOthers_28 (by decide) h (fun h => ?_) (fun h => ?_)
    · exact kR.vret dX0_fillAgainstOthers_184 h
    · refine kR.aload_n dX0_fillAgainstOthers_31 0 rfl ?_
      refine kR.getR (v := 8) dX0_fillAgainstOthers_32 flX0_51 zcf0 zp27 (Or.inl ⟨_, rfl⟩) rfl ?_
      refine kR.getR (v := (rp σ.2.2.2.1 + 0)) dX0_fillAgainstOthers_35 flX0_55 zcf4 zp8 (Or.inl ⟨_, rfl⟩) rfl ?_
      refine kR.iload_n dX0_fillAgainstOthers_38 2 rfl ?_
      refine kR.iload dX0_fillAgainstOthers_39 4 rfl ?_
      obtain ⟨v4, e5, h⟩ := bnr_some h
      refine kR.cVi [.int x2, .int x4] dX0_fillAgainstOthers_41 rfl (by decide) mwX0_99 (zq0 σ.2.2.2.1) (by decide) rfl rfl (Nat.le_of_ble_eq_true rfl) (lX6_lengthAt σ.2.2.2.1 σ x2 x4 _ e5) ?_
      refine zR.istore (i := 5) (ls' := [(5, .int v4), (0, .ref 27), (1, .int x1), (2, .int x2), (3, .int x3), (4, .int x4)]) dX0_fillAgainstOthers_44 (by decide) rfl ?_
      refine kR.aload_n dX0_fillAgainstOthers_46 1 rfl ?_
      refine kR.getR (v := 8) dX0_fillAgainstOthers_47 flX0_51 zcf0 zp27 (Or.inl ⟨_, rfl⟩) rfl ?_
      refine kR.getR (v := (rp σ.2.2.2.1 + 0)) dX0_fillAgainstOthers_50 flX0_55 zcf4 zp8 (Or.inl ⟨_, rfl⟩) rfl ?_
      refine kR.iload_n dX0_fillAgainstOthers_53 3 rfl ?_
      refine kR.iload dX0_fillAgainstOthers_54 5 rfl ?_
      obtain ⟨v6, e7, h⟩ := bnr_some h
      refine kR.cVi [.int x2, .int x4] dX0_fillAgainstOthers_56 rfl (by decide) mwX0_102 (zq0 σ.2.2.2.1) (by decide) rfl rfl (Nat.le_of_ble_eq_true rfl) (lX6_weightAt σ.2.2.2.1 σ x2 x4 _ e7) ?_
      refine zR.i2l dX0_fillAgainstOthers_59 ?_
      refine zR.lstore (i := 6) (ls' := [(6, .long (v6.toInt64)), (5, .int v4), (0, .ref 27), (1, .int x1), (2, .int x2), (3, .int x3), (4, .int x4)]) dX0_fillAgainstOthers_60 (by decide) rfl ?_
      refine zR.iconst (v := 0) dX0_fillAgainstOthers_62 (by decide) ?_
      refine zR.istore (i := 8) (ls' := [(8, .int 0), (6, .long (v6.toInt64)), (5, .int v4), (0, .ref 27), (1, .int x1), (2, .int x2), (3, .int x3), (4, .int x4)]) dX0_fillAgainstOthers_63 (by decide) rfl ?_
      refine zR.sub [3, 4, 5, 6, 7, 2, 1, 0] rfl ?_
      exact kX0_fillAgainstOthers_65 (fX0_fillAgainstOthers_14 f) ih zF _ _ _ _ _ _ _ _ _ h
def fX0_fillAgainstOthers (p1 : Int32) (p2 : Int32) (p3 : Int32) (σ : zS) : Option zS := bnr (fJ7_fill_bad5a 28 244 0 61 0 σ) fun σ1 => fX0_fillAgainstOthers_14 zF p1 p2 p3 0 σ1
theorem eX0_fillAgainstOthers {sc : Nat × (Nat → Int32)} (p1 : Int32) (p2 : Int32) (p3 : Int32) (σ : zS) (w : zS) (h : fX0_fillAgainstOthers p1 p2 p3 σ = some w) : zR (zY0 sc) 5 0 0 mX0_fillAgainstOthers 0 [(0, .ref 27), (1, .int p1), (2, .int p2), (3, .int p3)] [] (zE σ) (none, zE w) := by
  unfold fX0_fillAgainstOthers at h
  refine kR.aload_n dX0_fillAgainstOthers_0 0 rfl ?_
  refine kR.getR (v := 28) dX0_fillAgainstOthers_1 flX0_9 zcf0 zp27 (Or.inr ⟨_, rfl⟩) rfl ?_
  refine zR.iconst (v := 0) dX0_fillAgainstOthers_4 (by decide) ?_
  refine zR.bipush (v := 61) dX0_fillAgainstOthers_5 (by decide) ?_
  refine zR.lconst (v := 0) dX0_fillAgainstOthers_7 (by decide) ?_
  obtain ⟨σ1, e2, h⟩ := bnr_some h
  refine kR.cSv [.ref 28, .int 0, .int 61, .long 0] dX0_fillAgainstOthers_8 rfl (by decide) (Or.inl mwX0_89) rfl (Nat.le_of_ble_eq_true rfl) (lJ7_fill_bad5a 28 244 (fun _ => zp28) rfl 0 61 0 σ _ e2) ?_
  refine zR.iconst (v := 0) dX0_fillAgainstOthers_11 (by decide) ?_
  refine zR.istore (i := 4) (ls' := [(4, .int 0), (0, .ref 27), (1, .int p1), (2, .int p2), (3, .int p3)]) dX0_fillAgainstOthers_12 (by decide) rfl ?_
  refine zR.sub [1, 2, 3, 4, 0] rfl ?_
  exact kX0_fillAgainstOthers_14 zF _ _ _ _ _ _ h
theorem lX0_fillAgainstOthers {sc : Nat × (Nat → Int32)} (p1 : Int32) (p2 : Int32) (p3 : Int32) (σ : zS) (w : zS) (h : fX0_fillAgainstOthers p1 p2 p3 σ = some w) : zC (zY0 sc) 5 0 0 mX0_fillAgainstOthers [.ref 27, .int p1, .int p2, .int p3] (zE σ) (none, zE w) := zC.of (by decide +kernel) (Nat.le_of_ble_eq_true rfl) rfl (eX0_fillAgainstOthers p1 p2 p3 σ w h)
theorem dX0_isAnyMoved_0 : decode cX0_isAnyMoved 0 = .ok (.iconst 0, 1) := by decide +kernel
theorem dX0_isAnyMoved_1 : decode cX0_isAnyMoved 1 = .ok (.istore_n 2, 1) := by decide +kernel
theorem dX0_isAnyMoved_2 : decode cX0_isAnyMoved 2 = .ok (.iconst 0, 1) := by decide +kernel
theorem dX0_isAnyMoved_3 : decode cX0_isAnyMoved 3 = .ok (.istore_n 3, 1) := by decide +kernel
theorem dX0_isAnyMoved_4 : decode cX0_isAnyMoved 4 = .ok (.iload_n 3, 1) := by decide +kernel
theorem dX0_isAnyMoved_5 : decode cX0_isAnyMoved 5 = .ok (.aload_n 0, 1) := by decide +kernel
theorem dX0_isAnyMoved_6 : decode cX0_isAnyMoved 6 = .ok (.getfield 51, 3) := by decide +kernel
theorem dX0_isAnyMoved_9 : decode cX0_isAnyMoved 9 = .ok (.getfield 55, 3) := by decide +kernel
theorem dX0_isAnyMoved_12 : decode cX0_isAnyMoved 12 = .ok (.getfield 121, 3) := by decide +kernel
theorem dX0_isAnyMoved_15 : decode cX0_isAnyMoved 15 = .ok (.if_icmp .ge 71, 3) := by decide +kernel
theorem dX0_isAnyMoved_18 : decode cX0_isAnyMoved 18 = .ok (.aload_n 0, 1) := by decide +kernel
theorem dX0_isAnyMoved_19 : decode cX0_isAnyMoved 19 = .ok (.getfield 51, 3) := by decide +kernel
theorem dX0_isAnyMoved_22 : decode cX0_isAnyMoved 22 = .ok (.getfield 124, 3) := by decide +kernel
theorem dX0_isAnyMoved_25 : decode cX0_isAnyMoved 25 = .ok (.iload_n 3, 1) := by decide +kernel
theorem dX0_isAnyMoved_26 : decode cX0_isAnyMoved 26 = .ok (.invokevirtual 128, 3) := by decide +kernel
theorem dX0_isAnyMoved_29 : decode cX0_isAnyMoved 29 = .ok (.istore 4, 2) := by decide +kernel
theorem dX0_isAnyMoved_31 : decode cX0_isAnyMoved 31 = .ok (.aload_n 0, 1) := by decide +kernel
theorem dX0_isAnyMoved_32 : decode cX0_isAnyMoved 32 = .ok (.iload_n 3, 1) := by decide +kernel
theorem dX0_isAnyMoved_33 : decode cX0_isAnyMoved 33 = .ok (.iload_n 1, 1) := by decide +kernel
theorem dX0_isAnyMoved_34 : decode cX0_isAnyMoved 34 = .ok (.iload 4, 2) := by decide +kernel
theorem dX0_isAnyMoved_36 : decode cX0_isAnyMoved 36 = .ok (.invokevirtual 137, 3) := by decide +kernel
theorem dX0_isAnyMoved_39 : decode cX0_isAnyMoved 39 = .ok (.aload_n 0, 1) := by decide +kernel
theorem dX0_isAnyMoved_40 : decode cX0_isAnyMoved 40 = .ok (.iconst 0, 1) := by decide +kernel
theorem dX0_isAnyMoved_41 : decode cX0_isAnyMoved 41 = .ok (.iload 4, 2) := by decide +kernel
theorem dX0_isAnyMoved_43 : decode cX0_isAnyMoved 43 = .ok (.invokevirtual 82, 3) := by decide +kernel
theorem dX0_isAnyMoved_46 : decode cX0_isAnyMoved 46 = .ok (.istore 5, 2) := by decide +kernel
theorem dX0_isAnyMoved_48 : decode cX0_isAnyMoved 48 = .ok (.aload_n 0, 1) := by decide +kernel
theorem dX0_isAnyMoved_49 : decode cX0_isAnyMoved 49 = .ok (.getfield 9, 3) := by decide +kernel
theorem dX0_isAnyMoved_52 : decode cX0_isAnyMoved 52 = .ok (.iload 5, 2) := by decide +kernel
theorem dX0_isAnyMoved_54 : decode cX0_isAnyMoved 54 = .ok (.laload, 1) := by decide +kernel
theorem dX0_isAnyMoved_55 : decode cX0_isAnyMoved 55 = .ok (.aload_n 0, 1) := by decide +kernel
theorem dX0_isAnyMoved_56 : decode cX0_isAnyMoved 56 = .ok (.getfield 9, 3) := by decide +kernel
theorem dX0_isAnyMoved_59 : decode cX0_isAnyMoved 59 = .ok (.aload_n 0, 1) := by decide +kernel
theorem dX0_isAnyMoved_60 : decode cX0_isAnyMoved 60 = .ok (.getfield 44, 3) := by decide +kernel
theorem dX0_isAnyMoved_63 : decode cX0_isAnyMoved 63 = .ok (.iload_n 3, 1) := by decide +kernel
theorem dX0_isAnyMoved_64 : decode cX0_isAnyMoved 64 = .ok (.iaload, 1) := by decide +kernel
theorem dX0_isAnyMoved_65 : decode cX0_isAnyMoved 65 = .ok (.laload, 1) := by decide +kernel
theorem dX0_isAnyMoved_66 : decode cX0_isAnyMoved 66 = .ok (.lcmp, 1) := by decide +kernel
theorem dX0_isAnyMoved_67 : decode cX0_isAnyMoved 67 = .ok (.ifCond .le 13, 3) := by decide +kernel
theorem dX0_isAnyMoved_70 : decode cX0_isAnyMoved 70 = .ok (.aload_n 0, 1) := by decide +kernel
theorem dX0_isAnyMoved_71 : decode cX0_isAnyMoved 71 = .ok (.getfield 44, 3) := by decide +kernel
theorem dX0_isAnyMoved_74 : decode cX0_isAnyMoved 74 = .ok (.iload_n 3, 1) := by decide +kernel
theorem dX0_isAnyMoved_75 : decode cX0_isAnyMoved 75 = .ok (.iload 5, 2) := by decide +kernel
theorem dX0_isAnyMoved_77 : decode cX0_isAnyMoved 77 = .ok (.iastore, 1) := by decide +kernel
theorem dX0_isAnyMoved_78 : decode cX0_isAnyMoved 78 = .ok (.iconst 1, 1) := by decide +kernel
theorem dX0_isAnyMoved_79 : decode cX0_isAnyMoved 79 = .ok (.istore_n 2, 1) := by decide +kernel
theorem dX0_isAnyMoved_80 : decode cX0_isAnyMoved 80 = .ok (.iinc 3 1, 3) := by decide +kernel
theorem dX0_isAnyMoved_83 : decode cX0_isAnyMoved 83 = .ok (.goto (-79), 3) := by decide +kernel
theorem dX0_isAnyMoved_86 : decode cX0_isAnyMoved 86 = .ok (.iload_n 2, 1) := by decide +kernel
theorem dX0_isAnyMoved_87 : decode cX0_isAnyMoved 87 = .ok (.ireturn, 1) := by decide +kernel
def fX0_isAnyMoved_80 (r4 : Int32 → Int32 → Int32 → zS → Option (Int32 × zS)) (x1 : Int32) (x2 : Int32) (x3 : Int32) (σ : zS) : Option (Int32 × zS) := r4 x1 x2 (x3 + 1) σ
theorem kX0_isAnyMoved_80 {sc : Nat × (Nat → Int32)} (r4 : Int32 → Int32 → Int32 → zS → Option (Int32 × zS)) (hr4 : ∀ (x1 : Int32) (x2 : Int32) (x3 : Int32) (σ : zS) (w : Int32 × zS), r4 x1 x2 x3 σ = some w → zR (zY0 sc) 6 0 0 mX0_isAnyMoved 4 [(0, .ref 27), (1, .int x1), (2, .int x2), (3, .int x3)] [] (zE σ) (some (.int w.1), zE w.2)) (x1 : Int32) (x2 : Int32) (x3 : Int32) (σ : zS) (w : Int32 × zS) (h : fX0_isAnyMoved_80 r4 x1 x2 x3 σ = some w) : zR (zY0 sc) 6 0 0 mX0_isAnyMoved 80 [(0, .ref 27), (1, .int x1), (2, .int x2), (3, .int x3)] [] (zE σ) (some (.int w.1), zE w.2) := by
  unfold fX0_isAnyMoved_80 at h
  refine zR.iinc 3 (v := x3 + 1) (ls' := [(3, .int (x3 + 1)), (0, .ref 27), (1, .int x1), (2, .int x2)]) dX0_isAnyMoved_80 rfl rfl (by decide) rfl ?_
  refine zR.goto (tgt := 4) dX0_isAnyMoved_83 (by decide) ?_
  refine zR.sub [1, 2, 3, 0] rfl ?_
  exact hr4 _ _ _ _ _ h
def fX0_isAnyMoved_4 : Nat → Int32 → Int32 → Int32 → zS → Option (Int32 × zS)
  | 0, _, _, _, _ => none
  | f + 1, x1, x2, x3, σ => if (iG σ (rp σ.2.2.2.1 + 0) 2) ≤ x3 then gd (x2 = 0 ∨ x2 = 1) (some (x2, σ)) else bnr (fX7_breathOf σ x3) fun v1 => bnr (fX0_fillAgainstOthers x3 x1 v1 σ) fun σ3 => bnr (fX0_bestSecond σ3 0 v1) fun v5 => aL σ3 28 244 v5 fun v7 => aI σ3 31 6 x3 fun v8 => aL σ3 28 244 v8 fun v9 => if v7 ≤ v9 then fX0_isAnyMoved_80 (fX0_isAnyMoved_4 f) x1 x2 x3 σ3 else wI σ3 31 6 x3 v5 fun σ10 => fX0_isAnyMoved_80 (fX0_isAnyMoved_4 f) x1 1 x3 σ10
theorem kX0_isAnyMoved_4 {sc : Nat × (Nat → Int32)} : ∀ (fuel : Nat) (x1 : Int32) (x2 : Int32) (x3 : Int32) (σ : zS) (w : Int32 × zS) (h : fX0_isAnyMoved_4 fuel x1 x2 x3 σ = some w), zR (zY0 sc) 6 0 0 mX0_isAnyMoved 4 [(0, .ref 27), (1, .int x1), (2, .int x2), (3, .int x3)] [] (zE σ) (some (.int w.1), zE w.2) := by
  intro fuel
  induction fuel with
  | zero => intro x1 x2 x3 σ w h; exact nomatch h
  | succ f ih =>
    intro x1 x2 x3 σ w h
    rw [fX0_isAnyMoved_4] at h
    refine kR.iload_n dX0_isAnyMoved_4 3 rfl ?_
    refine kR.aload_n dX0_isAnyMoved_5 0 rfl ?_
    refine kR.getR (v := 8) dX0_isAnyMoved_6 flX0_51 zcf0 zp27 (Or.inl ⟨_, rfl⟩) rfl ?_
    refine kR.getR (v := (rp σ.2.2.2.1 + 0)) dX0_isAnyMoved_9 flX0_55 zcf4 zp8 (Or.inl ⟨_, rfl⟩) rfl ?_
    refine kR.getI dX0_isAnyMoved_12 flX0_121 zcf6 (zq0 σ.2.2.2.1) (Or.inl rfl) ?_
    refine kR.icmp_ge (tgt := 86) dX0_isAnyMoved_15 (by decide) h (fun h => ?_) (fun h => ?_)
    · refine kR.iload_n dX0_isAnyMoved_86 2 rfl ?_
      obtain ⟨gz, h⟩ := kR.guard h
      exact kR.iretW dX0_isAnyMoved_87 (nzZ rfl gz) h
    · refine kR.aload_n dX0_isAnyMoved_18 0 rfl ?_
      refine kR.getR (v := 8) dX0_isAnyMoved_19 flX0_51 zcf0 zp27 (Or.inl ⟨_, rfl⟩) rfl ?_
      refine kR.getR (v := 4) dX0_isAnyMoved_22 flX0_124 zcf4 zp8 (Or.inl ⟨_, rfl⟩) rfl ?_
      refine kR.iload_n dX0_isAnyMoved_25 3 rfl ?_
      obtain ⟨v1, e2, h⟩ := bnr_some h
      refine kR.cVi [.int x3] dX0_isAnyMoved_26 rfl (by decide) mwX0_128 zp4 (by decide) rfl rfl (Nat.le_of_ble_eq_true rfl) (lX7_breathOf σ x3 _ e2) ?_
      refine zR.istore (i := 4) (ls' := [(4, .int v1), (0, .ref 27), (1, .int x1), (2, .int x2), (3, .int x3)]) dX0_isAnyMoved_29 (by decide) rfl ?_
      refine kR.aload_n dX0_isAnyMoved_31 1 rfl ?_
      refine kR.iload_n dX0_isAnyMoved_32 4 rfl ?_
      refine kR.iload_n dX0_isAnyMoved_33 2 rfl ?_
      refine kR.iload dX0_isAnyMoved_34 0 rfl ?_
      obtain ⟨σ3, e4, h⟩ := bnr_some h
      refine kR.cVv [.int x3, .int x1, .int v1] dX0_isAnyMoved_36 rfl (by decide) mwX0_137 zp27 (by decide) rfl rfl (Nat.le_of_ble_eq_true rfl) (lX0_fillAgainstOthers x3 x1 v1 σ _ e4) ?_
      refine kR.aload_n dX0_isAnyMoved_39 1 rfl ?_
      refine zR.iconst (v := 0) dX0_isAnyMoved_40 (by decide) ?_
      refine kR.iload dX0_isAnyMoved_41 0 rfl ?_
      obtain ⟨v5, e6, h⟩ := bnr_some h
      refine kR.cVi [.int 0, .int v1] dX0_isAnyMoved_43 rfl (by decide) mwX0_82 zp27 (by decide) rfl rfl (Nat.le_of_ble_eq_true rfl) (lX0_bestSecond σ3 0 v1 _ e6) ?_
      refine zR.istore (i := 5) (ls' := [(5, .int v5), (4, .int v1), (0, .ref 27), (1, .int x1), (2, .int x2), (3, .int x3)]) dX0_isAnyMoved_46 (by decide) rfl ?_
      refine kR.aload_n dX0_isAnyMoved_48 2 rfl ?_
      refine kR.getR (v := 28) dX0_isAnyMoved_49 flX0_9 zcf0 zp27 (Or.inr ⟨_, rfl⟩) rfl ?_
      refine kR.iload dX0_isAnyMoved_52 0 rfl ?_
      refine kR.lald dX0_isAnyMoved_54 zp28 rfl h (fun v7 h => ?_)
      refine kR.aload_n dX0_isAnyMoved_55 2 rfl ?_
      refine kR.getR (v := 28) dX0_isAnyMoved_56 flX0_9 zcf0 zp27 (Or.inr ⟨_, rfl⟩) rfl ?_
      refine kR.aload_n dX0_isAnyMoved_59 2 rfl ?_
      refine kR.getR (v := 31) dX0_isAnyMoved_60 flX0_44 zcf0 zp27 (Or.inr ⟨_, rfl⟩) rfl ?_
      refine kR.iload_n dX0_isAnyMoved_63 5 rfl ?_
      refine kR.iald dX0_isAnyMoved_64 zp31 rfl h (fun v8 h => ?_)
      refine kR.lald dX0_isAnyMoved_65 zp28 rfl h (fun v9 h => ?_)
      refine kR.lcmp_le (tgt := 80) dX0_isAnyMoved_66 dX0_isAnyMoved_67 (by decide) h (fun h => ?_) (fun h => ?_)
      · refine zR.sub [2, 3, 4, 5] rfl ?_
        exact kX0_isAnyMoved_80 (fX0_isAnyMoved_4 f) ih _ _ _ _ _ h
      · refine kR.aload_n dX0_isAnyMoved_70 2 rfl ?_
        refine kR.getR (v := 31) dX0_isAnyMoved_71 flX0_44 zcf0 zp27 (Or.inr ⟨_, rfl⟩) rfl ?_
        refine kR.iload_n dX0_isAnyMoved_74 5 rfl ?_
        refine kR.iload dX0_isAnyMoved_75 0 rfl ?_
        refine kR.iast dX0_isAnyMoved_77 zp31 rfl h (fun σ10 h => ?_)
        refine zR.iconst (v := 1) dX0_isAnyMoved_78 (by decide) ?_
        refine zR.istore_n (i := 2) (ls' := [(2, .int 1), (5, .int v5), (4, .int v1), (0, .ref 27), (1, .int x1), (3, .int x3)]) dX0_isAnyMoved_79 rfl (by decide) rfl ?_
        refine zR.sub [3, 4, 0, 5] rfl ?_
        exact kX0_isAnyMoved_80 (fX0_isAnyMoved_4 f) ih _ _ _ _ _ h
def fX0_isAnyMoved (p1 : Int32) (σ : zS) : Option (Int32 × zS) := fX0_isAnyMoved_4 zF p1 0 0 σ
theorem eX0_isAnyMoved {sc : Nat × (Nat → Int32)} (p1 : Int32) (σ : zS) (w : Int32 × zS) (h : fX0_isAnyMoved p1 σ = some w) : zR (zY0 sc) 6 0 0 mX0_isAnyMoved 0 [(0, .ref 27), (1, .int p1)] [] (zE σ) (some (.int w.1), zE w.2) := by
  unfold fX0_isAnyMoved at h
  refine zR.iconst (v := 0) dX0_isAnyMoved_0 (by decide) ?_
  refine zR.istore_n (i := 2) (ls' := [(2, .int 0), (0, .ref 27), (1, .int p1)]) dX0_isAnyMoved_1 rfl (by decide) rfl ?_
  refine zR.iconst (v := 0) dX0_isAnyMoved_2 (by decide) ?_
  refine zR.istore_n (i := 3) (ls' := [(3, .int 0), (2, .int 0), (0, .ref 27), (1, .int p1)]) dX0_isAnyMoved_3 rfl (by decide) rfl ?_
  refine zR.sub [2, 3, 1, 0] rfl ?_
  exact kX0_isAnyMoved_4 zF _ _ _ _ _ h
theorem lX0_isAnyMoved {sc : Nat × (Nat → Int32)} (p1 : Int32) (σ : zS) (w : Int32 × zS) (h : fX0_isAnyMoved p1 σ = some w) : zC (zY0 sc) 6 0 0 mX0_isAnyMoved [.ref 27, .int p1] (zE σ) (some (.int w.1), zE w.2) := zC.of (by decide +kernel) (Nat.le_of_ble_eq_true rfl) ⟨_, rfl⟩ (eX0_isAnyMoved p1 σ w h)
theorem dX0_settle_0 : decode cX0_settle 0 = .ok (.aload_n 0, 1) := by decide +kernel
theorem dX0_settle_1 : decode cX0_settle 1 = .ok (.getfield 41, 3) := by decide +kernel
theorem dX0_settle_4 : decode cX0_settle 4 = .ok (.iload_n 1, 1) := by decide +kernel
theorem dX0_settle_5 : decode cX0_settle 5 = .ok (.if_icmp .ne 4, 3) := by decide +kernel
theorem dX0_settle_8 : decode cX0_settle 8 = .ok (.return_, 1) := by decide +kernel
theorem dX0_settle_9 : decode cX0_settle 9 = .ok (.aload_n 0, 1) := by decide +kernel
theorem dX0_settle_10 : decode cX0_settle 10 = .ok (.iload_n 1, 1) := by decide +kernel
theorem dX0_settle_11 : decode cX0_settle 11 = .ok (.putfield 41, 3) := by decide +kernel
theorem dX0_settle_14 : decode cX0_settle 14 = .ok (.iconst 0, 1) := by decide +kernel
theorem dX0_settle_15 : decode cX0_settle 15 = .ok (.istore_n 2, 1) := by decide +kernel
theorem dX0_settle_16 : decode cX0_settle 16 = .ok (.iload_n 2, 1) := by decide +kernel
theorem dX0_settle_17 : decode cX0_settle 17 = .ok (.aload_n 0, 1) := by decide +kernel
theorem dX0_settle_18 : decode cX0_settle 18 = .ok (.getfield 51, 3) := by decide +kernel
theorem dX0_settle_21 : decode cX0_settle 21 = .ok (.getfield 55, 3) := by decide +kernel
theorem dX0_settle_24 : decode cX0_settle 24 = .ok (.getfield 121, 3) := by decide +kernel
theorem dX0_settle_27 : decode cX0_settle 27 = .ok (.if_icmp .ge 26, 3) := by decide +kernel
theorem dX0_settle_30 : decode cX0_settle 30 = .ok (.aload_n 0, 1) := by decide +kernel
theorem dX0_settle_31 : decode cX0_settle 31 = .ok (.getfield 44, 3) := by decide +kernel
theorem dX0_settle_34 : decode cX0_settle 34 = .ok (.iload_n 2, 1) := by decide +kernel
theorem dX0_settle_35 : decode cX0_settle 35 = .ok (.aload_n 0, 1) := by decide +kernel
theorem dX0_settle_36 : decode cX0_settle 36 = .ok (.getfield 51, 3) := by decide +kernel
theorem dX0_settle_39 : decode cX0_settle 39 = .ok (.getfield 124, 3) := by decide +kernel
theorem dX0_settle_42 : decode cX0_settle 42 = .ok (.iload_n 2, 1) := by decide +kernel
theorem dX0_settle_43 : decode cX0_settle 43 = .ok (.invokevirtual 128, 3) := by decide +kernel
theorem dX0_settle_46 : decode cX0_settle 46 = .ok (.iastore, 1) := by decide +kernel
theorem dX0_settle_47 : decode cX0_settle 47 = .ok (.iinc 2 1, 3) := by decide +kernel
theorem dX0_settle_50 : decode cX0_settle 50 = .ok (.goto (-34), 3) := by decide +kernel
theorem dX0_settle_53 : decode cX0_settle 53 = .ok (.aload_n 0, 1) := by decide +kernel
theorem dX0_settle_54 : decode cX0_settle 54 = .ok (.bipush 13, 2) := by decide +kernel
theorem dX0_settle_56 : decode cX0_settle 56 = .ok (.putfield 48, 3) := by decide +kernel
theorem dX0_settle_59 : decode cX0_settle 59 = .ok (.iconst 1, 1) := by decide +kernel
theorem dX0_settle_60 : decode cX0_settle 60 = .ok (.istore_n 2, 1) := by decide +kernel
theorem dX0_settle_61 : decode cX0_settle 61 = .ok (.iload_n 2, 1) := by decide +kernel
theorem dX0_settle_62 : decode cX0_settle 62 = .ok (.bipush 12, 2) := by decide +kernel
theorem dX0_settle_64 : decode cX0_settle 64 = .ok (.if_icmp .gt 23, 3) := by decide +kernel
theorem dX0_settle_67 : decode cX0_settle 67 = .ok (.aload_n 0, 1) := by decide +kernel
theorem dX0_settle_68 : decode cX0_settle 68 = .ok (.iload_n 1, 1) := by decide +kernel
theorem dX0_settle_69 : decode cX0_settle 69 = .ok (.invokevirtual 133, 3) := by decide +kernel
theorem dX0_settle_72 : decode cX0_settle 72 = .ok (.ifCond .ne 9, 3) := by decide +kernel
theorem dX0_settle_75 : decode cX0_settle 75 = .ok (.aload_n 0, 1) := by decide +kernel
theorem dX0_settle_76 : decode cX0_settle 76 = .ok (.iload_n 2, 1) := by decide +kernel
theorem dX0_settle_77 : decode cX0_settle 77 = .ok (.putfield 48, 3) := by decide +kernel
theorem dX0_settle_80 : decode cX0_settle 80 = .ok (.return_, 1) := by decide +kernel
theorem dX0_settle_81 : decode cX0_settle 81 = .ok (.iinc 2 1, 3) := by decide +kernel
theorem dX0_settle_84 : decode cX0_settle 84 = .ok (.goto (-23), 3) := by decide +kernel
theorem dX0_settle_87 : decode cX0_settle 87 = .ok (.return_, 1) := by decide +kernel
def fX0_settle_61 : Nat → Int32 → Int32 → zS → Option zS
  | 0, _, _, _ => none
  | f + 1, x1, x2, σ => if 12 < x2 then some σ else bnc (fX0_isAnyMoved x1 σ) fun v5 σ3 => if v5 = 0 then bnd (iS σ3 27 12 x2) fun σ6 => some σ6 else fX0_settle_61 f x1 (x2 + 1) σ3
theorem kX0_settle_61 {sc : Nat × (Nat → Int32)} : ∀ (fuel : Nat) (x1 : Int32) (x2 : Int32) (σ : zS) (w : zS) (h : fX0_settle_61 fuel x1 x2 σ = some w), zR (zY0 sc) 7 0 0 mX0_settle 61 [(0, .ref 27), (1, .int x1), (2, .int x2)] [] (zE σ) (none, zE w) := by
  intro fuel
  induction fuel with
  | zero => intro x1 x2 σ w h; exact nomatch h
  | succ f ih =>
    intro x1 x2 σ w h
    rw [fX0_settle_61] at h
    refine kR.iload_n dX0_settle_61 2 rfl ?_
    refine zR.bipush (v := 12) dX0_settle_62 (by decide) ?_
    refine kR.icmp_gt (tgt := 87) dX0_settle_64 (by decide) h (fun h => ?_) (fun h => ?_)
    · exact kR.vret dX0_settle_87 h
    · refine kR.aload_n dX0_settle_67 0 rfl ?_
      refine kR.iload_n dX0_settle_68 1 rfl ?_
      obtain ⟨v5, σ3, e4, h⟩ := bnc_some h
      refine kR.cVi [.int x1] dX0_settle_69 rfl (by decide) mwX0_133 zp27 (by decide) rfl rfl (Nat.le_of_ble_eq_true rfl) (lX0_isAnyMoved x1 σ _ e4) ?_
      refine kR.if_ne (tgt := 81) dX0_settle_72 (by decide) h (fun h => ?_) (fun h => ?_)
      · refine zR.iinc 2 (v := x2 + 1) (ls' := [(2, .int (x2 + 1)), (0, .ref 27), (1, .int x1)]) dX0_settle_81 rfl rfl (by decide) rfl ?_
        refine zR.goto (tgt := 61) dX0_settle_84 (by decide) ?_
        refine zR.sub [1, 2, 0] rfl ?_
        exact ih _ _ _ _ h
      · refine kR.aload_n dX0_settle_75 0 rfl ?_
        refine kR.iload_n dX0_settle_76 2 rfl ?_
        refine kR.putI dX0_settle_77 fpX0_48 zcf0 zp27 rfl h (fun σ6 h => ?_)
        exact kR.vret dX0_settle_80 h
def fX0_settle_16 : Nat → Int32 → Int32 → zS → Option zS
  | 0, _, _, _ => none
  | f + 1, x1, x2, σ => if (iG σ (rp σ.2.2.2.1 + 0) 2) ≤ x2 then bnd (iS σ 27 12 13) fun σ2 => fX0_settle_61 zF x1 1 σ2 else bnr (fX7_breathOf σ x2) fun v7 => wI σ 31 6 x2 v7 fun σ9 => fX0_settle_16 f x1 (x2 + 1) σ9
theorem kX0_settle_16 {sc : Nat × (Nat → Int32)} : ∀ (fuel : Nat) (x1 : Int32) (x2 : Int32) (σ : zS) (w : zS) (h : fX0_settle_16 fuel x1 x2 σ = some w), zR (zY0 sc) 7 0 0 mX0_settle 16 [(0, .ref 27), (1, .int x1), (2, .int x2)] [] (zE σ) (none, zE w) := by
  intro fuel
  induction fuel with
  | zero => intro x1 x2 σ w h; exact nomatch h
  | succ f ih =>
    intro x1 x2 σ w h
    rw [fX0_settle_16] at h
    refine kR.iload_n dX0_settle_16 2 rfl ?_
    refine kR.aload_n dX0_settle_17 0 rfl ?_
    refine kR.getR (v := 8) dX0_settle_18 flX0_51 zcf0 zp27 (Or.inl ⟨_, rfl⟩) rfl ?_
    refine kR.getR (v := (rp σ.2.2.2.1 + 0)) dX0_settle_21 flX0_55 zcf4 zp8 (Or.inl ⟨_, rfl⟩) rfl ?_
    refine kR.getI dX0_settle_24 flX0_121 zcf6 (zq0 σ.2.2.2.1) (Or.inl rfl) ?_
    refine kR.icmp_ge (tgt := 53) dX0_settle_27 (by decide) h (fun h => ?_) (fun h => ?_)
    · refine kR.aload_n dX0_settle_53 0 rfl ?_
      refine zR.bipush (v := 13) dX0_settle_54 (by decide) ?_
      refine kR.putI dX0_settle_56 fpX0_48 zcf0 zp27 rfl h (fun σ2 h => ?_)
      refine zR.iconst (v := 1) dX0_settle_59 (by decide) ?_
      refine zR.istore_n (i := 2) (ls' := [(2, .int 1), (0, .ref 27), (1, .int x1)]) dX0_settle_60 rfl (by decide) rfl ?_
      refine zR.sub [1, 2, 0] rfl ?_
      exact kX0_settle_61 zF _ _ _ _ h
    · refine kR.aload_n dX0_settle_30 0 rfl ?_
      refine kR.getR (v := 31) dX0_settle_31 flX0_44 zcf0 zp27 (Or.inr ⟨_, rfl⟩) rfl ?_
      refine kR.iload_n dX0_settle_34 2 rfl ?_
      refine kR.aload_n dX0_settle_35 0 rfl ?_
      refine kR.getR (v := 8) dX0_settle_36 flX0_51 zcf0 zp27 (Or.inl ⟨_, rfl⟩) rfl ?_
      refine kR.getR (v := 4) dX0_settle_39 flX0_124 zcf4 zp8 (Or.inl ⟨_, rfl⟩) rfl ?_
      refine kR.iload_n dX0_settle_42 2 rfl ?_
      obtain ⟨v7, e8, h⟩ := bnr_some h
      refine kR.cVi [.int x2] dX0_settle_43 rfl (by decide) mwX0_128 zp4 (by decide) rfl rfl (Nat.le_of_ble_eq_true rfl) (lX7_breathOf σ x2 _ e8) ?_
      refine kR.iast dX0_settle_46 zp31 rfl h (fun σ9 h => ?_)
      refine zR.iinc 2 (v := x2 + 1) (ls' := [(2, .int (x2 + 1)), (0, .ref 27), (1, .int x1)]) dX0_settle_47 rfl rfl (by decide) rfl ?_
      refine zR.goto (tgt := 16) dX0_settle_50 (by decide) ?_
      refine zR.sub [1, 2, 0] rfl ?_
      exact ih _ _ _ _ h
def fX0_settle (p1 : Int32) (σ : zS) : Option zS := if (iG σ 27 10) = p1 then some σ else bnd (iS σ 27 10 p1) fun σ1 => fX0_settle_16 zF p1 0 σ1
theorem eX0_settle {sc : Nat × (Nat → Int32)} (p1 : Int32) (σ : zS) (w : zS) (h : fX0_settle p1 σ = some w) : zR (zY0 sc) 7 0 0 mX0_settle 0 [(0, .ref 27), (1, .int p1)] [] (zE σ) (none, zE w) := by
  unfold fX0_settle at h
  refine kR.aload_n dX0_settle_0 0 rfl ?_
  refine kR.getI dX0_settle_1 flX0_41 zcf0 zp27 (Or.inl rfl) ?_
  refine kR.iload_n dX0_settle_4 1 rfl ?_
  refine kR.icmp_ne (tgt := 9) dX0_settle_5 (by decide) h (fun h => ?_) (fun h => ?_)
  · refine kR.aload_n dX0_settle_9 0 rfl ?_
    refine kR.iload_n dX0_settle_10 1 rfl ?_
    refine kR.putI dX0_settle_11 fpX0_41 zcf0 zp27 rfl h (fun σ1 h => ?_)
    refine zR.iconst (v := 0) dX0_settle_14 (by decide) ?_
    refine zR.istore_n (i := 2) (ls' := [(2, .int 0), (0, .ref 27), (1, .int p1)]) dX0_settle_15 rfl (by decide) rfl ?_
    refine zR.sub [1, 2, 0] rfl ?_
    exact kX0_settle_16 zF _ _ _ _ h
  · exact kR.vret dX0_settle_8 h
theorem lX0_settle {sc : Nat × (Nat → Int32)} (p1 : Int32) (σ : zS) (w : zS) (h : fX0_settle p1 σ = some w) : zC (zY0 sc) 7 0 0 mX0_settle [.ref 27, .int p1] (zE σ) (none, zE w) := zC.of (by decide +kernel) (Nat.le_of_ble_eq_true rfl) rfl (eX0_settle p1 σ w h)
theorem dX10_rest_0 : decode cX10_rest 0 = .ok (.aload_n 0, 1) := by decide +kernel
theorem dX10_rest_1 : decode cX10_rest 1 = .ok (.getfield 38, 3) := by decide +kernel
theorem dX10_rest_4 : decode cX10_rest 4 = .ok (.getfield 111, 3) := by decide +kernel
theorem dX10_rest_7 : decode cX10_rest 7 = .ok (.iload_n 1, 1) := by decide +kernel
theorem dX10_rest_8 : decode cX10_rest 8 = .ok (.invokevirtual 147, 3) := by decide +kernel
theorem dX10_rest_11 : decode cX10_rest 11 = .ok (.ifCond .ne 5, 3) := by decide +kernel
theorem dX10_rest_14 : decode cX10_rest 14 = .ok (.iconst (-1), 1) := by decide +kernel
theorem dX10_rest_15 : decode cX10_rest 15 = .ok (.ireturn, 1) := by decide +kernel
theorem dX10_rest_16 : decode cX10_rest 16 = .ok (.iload_n 2, 1) := by decide +kernel
theorem dX10_rest_17 : decode cX10_rest 17 = .ok (.iconst (-1), 1) := by decide +kernel
theorem dX10_rest_18 : decode cX10_rest 18 = .ok (.if_icmp .ne 19, 3) := by decide +kernel
theorem dX10_rest_21 : decode cX10_rest 21 = .ok (.aload_n 0, 1) := by decide +kernel
theorem dX10_rest_22 : decode cX10_rest 22 = .ok (.getfield 47, 3) := by decide +kernel
theorem dX10_rest_25 : decode cX10_rest 25 = .ok (.iload_n 1, 1) := by decide +kernel
theorem dX10_rest_26 : decode cX10_rest 26 = .ok (.invokevirtual 238, 3) := by decide +kernel
theorem dX10_rest_29 : decode cX10_rest 29 = .ok (.aload_n 0, 1) := by decide +kernel
theorem dX10_rest_30 : decode cX10_rest 30 = .ok (.getfield 47, 3) := by decide +kernel
theorem dX10_rest_33 : decode cX10_rest 33 = .ok (.getfield 241, 3) := by decide +kernel
theorem dX10_rest_36 : decode cX10_rest 36 = .ok (.ireturn, 1) := by decide +kernel
theorem dX10_rest_37 : decode cX10_rest 37 = .ok (.aload_n 0, 1) := by decide +kernel
theorem dX10_rest_38 : decode cX10_rest 38 = .ok (.getfield 38, 3) := by decide +kernel
theorem dX10_rest_41 : decode cX10_rest 41 = .ok (.getfield 111, 3) := by decide +kernel
theorem dX10_rest_44 : decode cX10_rest 44 = .ok (.iload_n 2, 1) := by decide +kernel
theorem dX10_rest_45 : decode cX10_rest 45 = .ok (.invokevirtual 158, 3) := by decide +kernel
theorem dX10_rest_48 : decode cX10_rest 48 = .ok (.ifCond .ne 5, 3) := by decide +kernel
theorem dX10_rest_51 : decode cX10_rest 51 = .ok (.iconst (-1), 1) := by decide +kernel
theorem dX10_rest_52 : decode cX10_rest 52 = .ok (.ireturn, 1) := by decide +kernel
theorem dX10_rest_53 : decode cX10_rest 53 = .ok (.aload_n 0, 1) := by decide +kernel
theorem dX10_rest_54 : decode cX10_rest 54 = .ok (.getfield 47, 3) := by decide +kernel
theorem dX10_rest_57 : decode cX10_rest 57 = .ok (.iload_n 1, 1) := by decide +kernel
theorem dX10_rest_58 : decode cX10_rest 58 = .ok (.invokevirtual 238, 3) := by decide +kernel
theorem dX10_rest_61 : decode cX10_rest 61 = .ok (.aload_n 0, 1) := by decide +kernel
theorem dX10_rest_62 : decode cX10_rest 62 = .ok (.getfield 47, 3) := by decide +kernel
theorem dX10_rest_65 : decode cX10_rest 65 = .ok (.getfield 244, 3) := by decide +kernel
theorem dX10_rest_68 : decode cX10_rest 68 = .ok (.iload_n 2, 1) := by decide +kernel
theorem dX10_rest_69 : decode cX10_rest 69 = .ok (.iaload, 1) := by decide +kernel
theorem dX10_rest_70 : decode cX10_rest 70 = .ok (.ireturn, 1) := by decide +kernel
def fX10_rest (p1 : Int32) (p2 : Int32) (σ : zS) : Option (Int32 × zS) := if (fX6_hasTunnel σ.2.2.2.1 σ p1) = 0 then some ((-1), σ) else if p2 = ((-1)) then bnr (fX0_settle p1 σ) fun σ4 => some (iG σ4 27 12, σ4) else if (fX6_hasHolder σ.2.2.2.1 σ p2) = 0 then some ((-1), σ) else bnr (fX0_settle p1 σ) fun σ1 => aI σ1 31 6 p2 fun v3 => some (v3, σ1)
theorem eX10_rest {sc : Nat × (Nat → Int32)} (p1 : Int32) (p2 : Int32) (σ : zS) (w : Int32 × zS) (h : fX10_rest p1 p2 σ = some w) : zR (zY0 sc) 8 0 0 mX10_rest 0 [(0, .ref 1), (1, .int p1), (2, .int p2)] [] (zE σ) (some (.int w.1), zE w.2) := by
  unfold fX10_rest at h
  refine kR.aload_n dX10_rest_0 0 rfl ?_
  refine kR.getR (v := 8) dX10_rest_1 flX10_38 zcf10 zp1 (Or.inl ⟨_, rfl⟩) rfl ?_
  refine kR.getR (v := (rp σ.2.2.2.1 + 0)) dX10_rest_4 flX10_111 zcf4 zp8 (Or.inl ⟨_, rfl⟩) rfl ?_
  refine kR.iload_n dX10_rest_7 1 rfl ?_
  refine kR.cVi [.int p1] dX10_rest_8 rfl (by decide) mwX10_147 (zq0 σ.2.2.2.1) (by decide) rfl rfl (Nat.le_of_ble_eq_true rfl) (lX6_hasTunnel σ.2.2.2.1 σ p1) ?_
  refine kR.if_ne (tgt := 16) dX10_rest_11 (by decide) h (fun h => ?_) (fun h => ?_)
  · refine kR.iload_n dX10_rest_16 2 rfl ?_
    refine zR.iconst (v := (-1)) dX10_rest_17 (by decide) ?_
    refine kR.icmp_ne (tgt := 37) dX10_rest_18 (by decide) h (fun h => ?_) (fun h => ?_)
    · refine kR.aload_n dX10_rest_37 0 rfl ?_
      refine kR.getR (v := 8) dX10_rest_38 flX10_38 zcf10 zp1 (Or.inl ⟨_, rfl⟩) rfl ?_
      refine kR.getR (v := (rp σ.2.2.2.1 + 0)) dX10_rest_41 flX10_111 zcf4 zp8 (Or.inl ⟨_, rfl⟩) rfl ?_
      refine kR.iload_n dX10_rest_44 2 rfl ?_
      refine kR.cVi [.int p2] dX10_rest_45 rfl (by decide) mwX10_158 (zq0 σ.2.2.2.1) (by decide) rfl rfl (Nat.le_of_ble_eq_true rfl) (lX6_hasHolder σ.2.2.2.1 σ p2) ?_
      refine kR.if_ne (tgt := 53) dX10_rest_48 (by decide) h (fun h => ?_) (fun h => ?_)
      · refine kR.aload_n dX10_rest_53 0 rfl ?_
        refine kR.getR (v := 27) dX10_rest_54 flX10_47 zcf10 zp1 (Or.inl ⟨_, rfl⟩) rfl ?_
        refine kR.iload_n dX10_rest_57 1 rfl ?_
        obtain ⟨σ1, e2, h⟩ := bnr_some h
        refine kR.cVv [.int p1] dX10_rest_58 rfl (by decide) mwX10_238 zp27 (by decide) rfl rfl (Nat.le_of_ble_eq_true rfl) (lX0_settle p1 σ _ e2) ?_
        refine kR.aload_n dX10_rest_61 0 rfl ?_
        refine kR.getR (v := 27) dX10_rest_62 flX10_47 zcf10 zp1 (Or.inl ⟨_, rfl⟩) rfl ?_
        refine kR.getR (v := 31) dX10_rest_65 flX10_244 zcf0 zp27 (Or.inr ⟨_, rfl⟩) rfl ?_
        refine kR.iload_n dX10_rest_68 2 rfl ?_
        refine kR.iald dX10_rest_69 zp31 rfl h (fun v3 h => ?_)
        exact kR.iretW dX10_rest_70 (nzI rfl _) h
      · refine zR.iconst (v := (-1)) dX10_rest_51 (by decide) ?_
        exact kR.iretW dX10_rest_52 (nzI rfl _) h
    · refine kR.aload_n dX10_rest_21 0 rfl ?_
      refine kR.getR (v := 27) dX10_rest_22 flX10_47 zcf10 zp1 (Or.inl ⟨_, rfl⟩) rfl ?_
      refine kR.iload_n dX10_rest_25 1 rfl ?_
      obtain ⟨σ4, e5, h⟩ := bnr_some h
      refine kR.cVv [.int p1] dX10_rest_26 rfl (by decide) mwX10_238 zp27 (by decide) rfl rfl (Nat.le_of_ble_eq_true rfl) (lX0_settle p1 σ _ e5) ?_
      refine kR.aload_n dX10_rest_29 0 rfl ?_
      refine kR.getR (v := 27) dX10_rest_30 flX10_47 zcf10 zp1 (Or.inl ⟨_, rfl⟩) rfl ?_
      refine kR.getI dX10_rest_33 flX10_241 zcf0 zp27 (Or.inl rfl) ?_
      exact kR.iretW dX10_rest_36 (nzI rfl _) h
  · refine zR.iconst (v := (-1)) dX10_rest_14 (by decide) ?_
    exact kR.iretW dX10_rest_15 (nzI rfl _) h
theorem lX10_rest {sc : Nat × (Nat → Int32)} (p1 : Int32) (p2 : Int32) (σ : zS) (w : Int32 × zS) (h : fX10_rest p1 p2 σ = some w) : zC (zY0 sc) 8 0 0 mX10_rest [.ref 1, .int p1, .int p2] (zE σ) (some (.int w.1), zE w.2) := zC.of (by decide +kernel) (Nat.le_of_ble_eq_true rfl) ⟨_, rfl⟩ (eX10_rest p1 p2 σ w h)
theorem dX0_hiddenTotal_0 : decode cX0_hiddenTotal 0 = .ok (.aload_n 0, 1) := by decide +kernel
theorem dX0_hiddenTotal_1 : decode cX0_hiddenTotal 1 = .ok (.getfield 51, 3) := by decide +kernel
theorem dX0_hiddenTotal_4 : decode cX0_hiddenTotal 4 = .ok (.getfield 55, 3) := by decide +kernel
theorem dX0_hiddenTotal_7 : decode cX0_hiddenTotal 7 = .ok (.astore_n 3, 1) := by decide +kernel
theorem dX0_hiddenTotal_8 : decode cX0_hiddenTotal 8 = .ok (.aload_n 0, 1) := by decide +kernel
theorem dX0_hiddenTotal_9 : decode cX0_hiddenTotal 9 = .ok (.getfield 51, 3) := by decide +kernel
theorem dX0_hiddenTotal_12 : decode cX0_hiddenTotal 12 = .ok (.getfield 124, 3) := by decide +kernel
theorem dX0_hiddenTotal_15 : decode cX0_hiddenTotal 15 = .ok (.iload_n 1, 1) := by decide +kernel
theorem dX0_hiddenTotal_16 : decode cX0_hiddenTotal 16 = .ok (.invokevirtual 128, 3) := by decide +kernel
theorem dX0_hiddenTotal_19 : decode cX0_hiddenTotal 19 = .ok (.istore 4, 2) := by decide +kernel
theorem dX0_hiddenTotal_21 : decode cX0_hiddenTotal 21 = .ok (.lconst 0, 1) := by decide +kernel
theorem dX0_hiddenTotal_22 : decode cX0_hiddenTotal 22 = .ok (.lstore 5, 2) := by decide +kernel
theorem dX0_hiddenTotal_24 : decode cX0_hiddenTotal 24 = .ok (.iconst 0, 1) := by decide +kernel
theorem dX0_hiddenTotal_25 : decode cX0_hiddenTotal 25 = .ok (.istore 7, 2) := by decide +kernel
theorem dX0_hiddenTotal_27 : decode cX0_hiddenTotal 27 = .ok (.iload 7, 2) := by decide +kernel
theorem dX0_hiddenTotal_29 : decode cX0_hiddenTotal 29 = .ok (.aload_n 3, 1) := by decide +kernel
theorem dX0_hiddenTotal_30 : decode cX0_hiddenTotal 30 = .ok (.getfield 92, 3) := by decide +kernel
theorem dX0_hiddenTotal_33 : decode cX0_hiddenTotal 33 = .ok (.iload_n 2, 1) := by decide +kernel
theorem dX0_hiddenTotal_34 : decode cX0_hiddenTotal 34 = .ok (.iaload, 1) := by decide +kernel
theorem dX0_hiddenTotal_35 : decode cX0_hiddenTotal 35 = .ok (.if_icmp .ge 73, 3) := by decide +kernel
theorem dX0_hiddenTotal_38 : decode cX0_hiddenTotal 38 = .ok (.aload_n 3, 1) := by decide +kernel
theorem dX0_hiddenTotal_39 : decode cX0_hiddenTotal 39 = .ok (.iload_n 2, 1) := by decide +kernel
theorem dX0_hiddenTotal_40 : decode cX0_hiddenTotal 40 = .ok (.iload 7, 2) := by decide +kernel
theorem dX0_hiddenTotal_42 : decode cX0_hiddenTotal 42 = .ok (.invokevirtual 99, 3) := by decide +kernel
theorem dX0_hiddenTotal_45 : decode cX0_hiddenTotal 45 = .ok (.istore 8, 2) := by decide +kernel
theorem dX0_hiddenTotal_47 : decode cX0_hiddenTotal 47 = .ok (.ldc2_w 147, 3) := by decide +kernel
theorem dX0_hiddenTotal_50 : decode cX0_hiddenTotal 50 = .ok (.aload_n 3, 1) := by decide +kernel
theorem dX0_hiddenTotal_51 : decode cX0_hiddenTotal 51 = .ok (.getfield 149, 3) := by decide +kernel
theorem dX0_hiddenTotal_54 : decode cX0_hiddenTotal 54 = .ok (.i2l, 1) := by decide +kernel
theorem dX0_hiddenTotal_55 : decode cX0_hiddenTotal 55 = .ok (.lsub, 1) := by decide +kernel
theorem dX0_hiddenTotal_56 : decode cX0_hiddenTotal 56 = .ok (.aload_n 0, 1) := by decide +kernel
theorem dX0_hiddenTotal_57 : decode cX0_hiddenTotal 57 = .ok (.getfield 51, 3) := by decide +kernel
theorem dX0_hiddenTotal_60 : decode cX0_hiddenTotal 60 = .ok (.iload_n 2, 1) := by decide +kernel
theorem dX0_hiddenTotal_61 : decode cX0_hiddenTotal 61 = .ok (.iload 8, 2) := by decide +kernel
theorem dX0_hiddenTotal_63 : decode cX0_hiddenTotal 63 = .ok (.iload 8, 2) := by decide +kernel
theorem dX0_hiddenTotal_65 : decode cX0_hiddenTotal 65 = .ok (.iload 4, 2) := by decide +kernel
theorem dX0_hiddenTotal_67 : decode cX0_hiddenTotal 67 = .ok (.invokevirtual 110, 3) := by decide +kernel
theorem dX0_hiddenTotal_70 : decode cX0_hiddenTotal 70 = .ok (.i2l, 1) := by decide +kernel
theorem dX0_hiddenTotal_71 : decode cX0_hiddenTotal 71 = .ok (.lmul, 1) := by decide +kernel
theorem dX0_hiddenTotal_72 : decode cX0_hiddenTotal 72 = .ok (.lstore 9, 2) := by decide +kernel
theorem dX0_hiddenTotal_74 : decode cX0_hiddenTotal 74 = .ok (.lload 5, 2) := by decide +kernel
theorem dX0_hiddenTotal_76 : decode cX0_hiddenTotal 76 = .ok (.aload_n 3, 1) := by decide +kernel
theorem dX0_hiddenTotal_77 : decode cX0_hiddenTotal 77 = .ok (.iload_n 2, 1) := by decide +kernel
theorem dX0_hiddenTotal_78 : decode cX0_hiddenTotal 78 = .ok (.iload 7, 2) := by decide +kernel
theorem dX0_hiddenTotal_80 : decode cX0_hiddenTotal 80 = .ok (.invokevirtual 102, 3) := by decide +kernel
theorem dX0_hiddenTotal_83 : decode cX0_hiddenTotal 83 = .ok (.i2l, 1) := by decide +kernel
theorem dX0_hiddenTotal_84 : decode cX0_hiddenTotal 84 = .ok (.lload 9, 2) := by decide +kernel
theorem dX0_hiddenTotal_86 : decode cX0_hiddenTotal 86 = .ok (.aload_n 3, 1) := by decide +kernel
theorem dX0_hiddenTotal_87 : decode cX0_hiddenTotal 87 = .ok (.getfield 149, 3) := by decide +kernel
theorem dX0_hiddenTotal_90 : decode cX0_hiddenTotal 90 = .ok (.i2l, 1) := by decide +kernel
theorem dX0_hiddenTotal_91 : decode cX0_hiddenTotal 91 = .ok (.aload_n 3, 1) := by decide +kernel
theorem dX0_hiddenTotal_92 : decode cX0_hiddenTotal 92 = .ok (.getfield 152, 3) := by decide +kernel
theorem dX0_hiddenTotal_95 : decode cX0_hiddenTotal 95 = .ok (.i2l, 1) := by decide +kernel
theorem dX0_hiddenTotal_96 : decode cX0_hiddenTotal 96 = .ok (.lmul, 1) := by decide +kernel
theorem dX0_hiddenTotal_97 : decode cX0_hiddenTotal 97 = .ok (.lsub, 1) := by decide +kernel
theorem dX0_hiddenTotal_98 : decode cX0_hiddenTotal 98 = .ok (.lmul, 1) := by decide +kernel
theorem dX0_hiddenTotal_99 : decode cX0_hiddenTotal 99 = .ok (.ladd, 1) := by decide +kernel
theorem dX0_hiddenTotal_100 : decode cX0_hiddenTotal 100 = .ok (.lstore 5, 2) := by decide +kernel
theorem dX0_hiddenTotal_102 : decode cX0_hiddenTotal 102 = .ok (.iinc 7 1, 3) := by decide +kernel
theorem dX0_hiddenTotal_105 : decode cX0_hiddenTotal 105 = .ok (.goto (-78), 3) := by decide +kernel
theorem dX0_hiddenTotal_108 : decode cX0_hiddenTotal 108 = .ok (.lload 5, 2) := by decide +kernel
theorem dX0_hiddenTotal_110 : decode cX0_hiddenTotal 110 = .ok (.lreturn, 1) := by decide +kernel
def fX0_hiddenTotal_27 : Nat → Int32 → Bool → Int32 → Int64 → Int32 → zS → Option (Int64 × zS)
  | 0, _, _, _, _, _, _ => none
  | f + 1, x2, c3, x4, x5, x7, σ => aI σ (rp c3 + 3) 6 x2 fun v3 => if v3 ≤ x7 then some (x5, σ) else bnr (fX6_lengthAt c3 σ x2 x7) fun v4 => bnc (fX4_worthAlone x2 v4 v4 x4 σ) fun v8 σ6 => bnd ((100 - (((iG σ (rp c3 + 0) 3) : Int32).toInt64)) * v8.toInt64) fun v9 => bnr (fX6_weightAt c3 σ6 x2 x7) fun v10 => bnd (v9 - ((((iG σ6 (rp c3 + 0) 3) : Int32).toInt64) * (((iG σ6 (rp c3 + 0) 4) : Int32).toInt64))) fun v12 => fX0_hiddenTotal_27 f x2 c3 x4 (x5 + (v10.toInt64 * v12)) (x7 + 1) σ6
theorem kX0_hiddenTotal_27 {sc : Nat × (Nat → Int32)} : ∀ (fuel : Nat) (x2 : Int32) (c3 : Bool) (x4 : Int32) (x5 : Int64) (x7 : Int32) (σ : zS) (w : Int64 × zS) (h : fX0_hiddenTotal_27 fuel x2 c3 x4 x5 x7 σ = some w), zR (zY0 sc) 5 0 0 mX0_hiddenTotal 27 [(0, .ref 27), (2, .int x2), (3, .ref (rp c3 + 0)), (4, .int x4), (5, .long x5), (7, .int x7)] [] (zE σ) (some (.long w.1), zE w.2) := by
  intro fuel
  induction fuel with
  | zero => intro x2 c3 x4 x5 x7 σ w h; exact nomatch h
  | succ f ih =>
    intro x2 c3 x4 x5 x7 σ w h
    rw [fX0_hiddenTotal_27] at h
    refine kR.iload dX0_hiddenTotal_27 5 rfl ?_
    refine kR.aload_n dX0_hiddenTotal_29 2 rfl ?_
    refine kR.getR (v := (rp c3 + 3)) dX0_hiddenTotal_30 flX0_92 zcf6 (zq0 c3) (Or.inr ⟨_, rfl⟩) (zr0_7 _ c3) ?_
    refine kR.iload_n dX0_hiddenTotal_33 1 rfl ?_
    refine kR.iald dX0_hiddenTotal_34 (zq3 c3) (zl3 c3) h (fun v3 h => ?_)
    refine kR.icmp_ge (tgt := 108) dX0_hiddenTotal_35 (by decide) h (fun h => ?_) (fun h => ?_)
    · refine kR.lload dX0_hiddenTotal_108 4 rfl ?_
      exact kR.lretW dX0_hiddenTotal_110 h
    · refine kR.aload_n dX0_hiddenTotal_38 2 rfl ?_
      refine kR.iload_n dX0_hiddenTotal_39 1 rfl ?_
      refine kR.iload dX0_hiddenTotal_40 5 rfl ?_
      obtain ⟨v4, e5, h⟩ := bnr_some h
      refine kR.cVi [.int x2, .int x7] dX0_hiddenTotal_42 rfl (by decide) mwX0_99 (zq0 c3) (by decide) rfl rfl (Nat.le_of_ble_eq_true rfl) (lX6_lengthAt c3 σ x2 x7 _ e5) ?_
      refine zR.istore (i := 8) (ls' := [(8, .int v4), (0, .ref 27), (2, .int x2), (3, .ref (rp c3 + 0)), (4, .int x4), (5, .long x5), (7, .int x7)]) dX0_hiddenTotal_45 (by decide) rfl ?_
      refine zR.ldc2 (v := 100) dX0_hiddenTotal_47 clX0_147 ?_
      refine kR.aload_n dX0_hiddenTotal_50 3 rfl ?_
      refine kR.getI dX0_hiddenTotal_51 flX0_149 zcf6 (zq0 c3) (Or.inl rfl) ?_
      refine zR.i2l dX0_hiddenTotal_54 ?_
      refine zR.lsub dX0_hiddenTotal_55 ?_
      refine kR.aload_n dX0_hiddenTotal_56 1 rfl ?_
      refine kR.getR (v := 8) dX0_hiddenTotal_57 flX0_51 zcf0 zp27 (Or.inl ⟨_, rfl⟩) rfl ?_
      refine kR.iload_n dX0_hiddenTotal_60 2 rfl ?_
      refine kR.iload dX0_hiddenTotal_61 0 rfl ?_
      refine kR.iload dX0_hiddenTotal_63 0 rfl ?_
      refine kR.iload dX0_hiddenTotal_65 4 rfl ?_
      obtain ⟨v8, σ6, e7, h⟩ := bnc_some h
      refine kR.cVi [.int x2, .int v4, .int v4, .int x4] dX0_hiddenTotal_67 rfl (by decide) mwX0_110 zp8 (by decide) rfl rfl (Nat.le_of_ble_eq_true rfl) (lX4_worthAlone x2 v4 v4 x4 σ _ e7) ?_
      refine zR.i2l dX0_hiddenTotal_70 ?_
      refine zR.lmul dX0_hiddenTotal_71 ?_
      refine kR.nmL h (fun v9 h => ?_)
      refine zR.lstore (i := 9) (ls' := [(9, .long v9), (8, .int v4), (0, .ref 27), (2, .int x2), (3, .ref (rp c3 + 0)), (4, .int x4), (5, .long x5), (7, .int x7)]) dX0_hiddenTotal_72 (by decide) rfl ?_
      refine kR.lload dX0_hiddenTotal_74 6 rfl ?_
      refine kR.aload_n dX0_hiddenTotal_76 4 rfl ?_
      refine kR.iload_n dX0_hiddenTotal_77 3 rfl ?_
      refine kR.iload dX0_hiddenTotal_78 7 rfl ?_
      obtain ⟨v10, e11, h⟩ := bnr_some h
      refine kR.cVi [.int x2, .int x7] dX0_hiddenTotal_80 rfl (by decide) mwX0_102 (zq0 c3) (by decide) rfl rfl (Nat.le_of_ble_eq_true rfl) (lX6_weightAt c3 σ6 x2 x7 _ e11) ?_
      refine zR.i2l dX0_hiddenTotal_83 ?_
      refine kR.lload dX0_hiddenTotal_84 0 rfl ?_
      refine kR.aload_n dX0_hiddenTotal_86 4 rfl ?_
      refine kR.getI dX0_hiddenTotal_87 flX0_149 zcf6 (zq0 c3) (Or.inl rfl) ?_
      refine zR.i2l dX0_hiddenTotal_90 ?_
      refine kR.aload_n dX0_hiddenTotal_91 4 rfl ?_
      refine kR.getI dX0_hiddenTotal_92 flX0_152 zcf6 (zq0 c3) (Or.inl rfl) ?_
      refine zR.i2l dX0_hiddenTotal_95 ?_
      refine zR.lmul dX0_hiddenTotal_96 ?_
      refine zR.lsub dX0_hiddenTotal_97 ?_
      refine kR.nmL h (fun v12 h => ?_)
      refine zR.lmul dX0_hiddenTotal_98 ?_
      refine zR.ladd dX0_hiddenTotal_99 ?_
      refine zR.lstore (i := 5) (ls' := [(5, .long (x5 + (v10.toInt64 * v12))), (9, .long v9), (8, .int v4), (0, .ref 27), (2, .int x2), (3, .ref (rp c3 + 0)), (4, .int x4), (7, .int x7)]) dX0_hiddenTotal_100 (by decide) rfl ?_
      refine zR.iinc 7 (v := x7 + 1) (ls' := [(7, .int (x7 + 1)), (5, .long (x5 + (v10.toInt64 * v12))), (9, .long v9), (8, .int v4), (0, .ref 27), (2, .int x2), (3, .ref (rp c3 + 0)), (4, .int x4)]) dX0_hiddenTotal_102 rfl rfl (by decide) rfl ?_
      refine zR.goto (tgt := 27) dX0_hiddenTotal_105 (by decide) ?_
      refine zR.sub [4, 5, 6, 7, 1, 0] rfl ?_
      exact ih _ _ _ _ _ _ _ h
def fX0_hiddenTotal (p1 : Int32) (p2 : Int32) (σ : zS) : Option (Int64 × zS) := bnr (fX7_breathOf σ p1) fun v1 => fX0_hiddenTotal_27 zF p2 σ.2.2.2.1 v1 0 0 σ
theorem eX0_hiddenTotal {sc : Nat × (Nat → Int32)} (p1 : Int32) (p2 : Int32) (σ : zS) (w : Int64 × zS) (h : fX0_hiddenTotal p1 p2 σ = some w) : zR (zY0 sc) 5 0 0 mX0_hiddenTotal 0 [(0, .ref 27), (1, .int p1), (2, .int p2)] [] (zE σ) (some (.long w.1), zE w.2) := by
  unfold fX0_hiddenTotal at h
  refine kR.aload_n dX0_hiddenTotal_0 0 rfl ?_
  refine kR.getR (v := 8) dX0_hiddenTotal_1 flX0_51 zcf0 zp27 (Or.inl ⟨_, rfl⟩) rfl ?_
  refine kR.getR (v := (rp σ.2.2.2.1 + 0)) dX0_hiddenTotal_4 flX0_55 zcf4 zp8 (Or.inl ⟨_, rfl⟩) rfl ?_
  refine zR.astore_n (i := 3) (ls' := [(3, .ref (rp σ.2.2.2.1 + 0)), (0, .ref 27), (1, .int p1), (2, .int p2)]) dX0_hiddenTotal_7 rfl (by decide) rfl ?_
  refine kR.aload_n dX0_hiddenTotal_8 1 rfl ?_
  refine kR.getR (v := 8) dX0_hiddenTotal_9 flX0_51 zcf0 zp27 (Or.inl ⟨_, rfl⟩) rfl ?_
  refine kR.getR (v := 4) dX0_hiddenTotal_12 flX0_124 zcf4 zp8 (Or.inl ⟨_, rfl⟩) rfl ?_
  refine kR.iload_n dX0_hiddenTotal_15 2 rfl ?_
  obtain ⟨v1, e2, h⟩ := bnr_some h
  refine kR.cVi [.int p1] dX0_hiddenTotal_16 rfl (by decide) mwX0_128 zp4 (by decide) rfl rfl (Nat.le_of_ble_eq_true rfl) (lX7_breathOf σ p1 _ e2) ?_
  refine zR.istore (i := 4) (ls' := [(4, .int v1), (3, .ref (rp σ.2.2.2.1 + 0)), (0, .ref 27), (1, .int p1), (2, .int p2)]) dX0_hiddenTotal_19 (by decide) rfl ?_
  refine zR.lconst (v := 0) dX0_hiddenTotal_21 (by decide) ?_
  refine zR.lstore (i := 5) (ls' := [(5, .long 0), (4, .int v1), (3, .ref (rp σ.2.2.2.1 + 0)), (0, .ref 27), (1, .int p1), (2, .int p2)]) dX0_hiddenTotal_22 (by decide) rfl ?_
  refine zR.iconst (v := 0) dX0_hiddenTotal_24 (by decide) ?_
  refine zR.istore (i := 7) (ls' := [(7, .int 0), (5, .long 0), (4, .int v1), (3, .ref (rp σ.2.2.2.1 + 0)), (0, .ref 27), (1, .int p1), (2, .int p2)]) dX0_hiddenTotal_25 (by decide) rfl ?_
  refine zR.sub [4, 6, 3, 2, 1, 0] rfl ?_
  exact kX0_hiddenTotal_27 zF _ _ _ _ _ _ _ h
theorem lX0_hiddenTotal {sc : Nat × (Nat → Int32)} (p1 : Int32) (p2 : Int32) (σ : zS) (w : Int64 × zS) (h : fX0_hiddenTotal p1 p2 σ = some w) : zC (zY0 sc) 5 0 0 mX0_hiddenTotal [.ref 27, .int p1, .int p2] (zE σ) (some (.long w.1), zE w.2) := zC.of (by decide +kernel) (Nat.le_of_ble_eq_true rfl) rfl (eX0_hiddenTotal p1 p2 σ w h)
theorem dX10_hidden_0 : decode cX10_hidden 0 = .ok (.aload_n 0, 1) := by decide +kernel
theorem dX10_hidden_1 : decode cX10_hidden 1 = .ok (.getfield 38, 3) := by decide +kernel
theorem dX10_hidden_4 : decode cX10_hidden 4 = .ok (.getfield 111, 3) := by decide +kernel
theorem dX10_hidden_7 : decode cX10_hidden 7 = .ok (.iload_n 1, 1) := by decide +kernel
theorem dX10_hidden_8 : decode cX10_hidden 8 = .ok (.iload_n 2, 1) := by decide +kernel
theorem dX10_hidden_9 : decode cX10_hidden 9 = .ok (.invokevirtual 202, 3) := by decide +kernel
theorem dX10_hidden_12 : decode cX10_hidden 12 = .ok (.ifCond .eq 12, 3) := by decide +kernel
theorem dX10_hidden_15 : decode cX10_hidden 15 = .ok (.iload_n 3, 1) := by decide +kernel
theorem dX10_hidden_16 : decode cX10_hidden 16 = .ok (.ifCond .lt 8, 3) := by decide +kernel
theorem dX10_hidden_19 : decode cX10_hidden 19 = .ok (.iload_n 3, 1) := by decide +kernel
theorem dX10_hidden_20 : decode cX10_hidden 20 = .ok (.iconst 1, 1) := by decide +kernel
theorem dX10_hidden_21 : decode cX10_hidden 21 = .ok (.if_icmp .le 6, 3) := by decide +kernel
theorem dX10_hidden_24 : decode cX10_hidden 24 = .ok (.ldc 197, 2) := by decide +kernel
theorem dX10_hidden_26 : decode cX10_hidden 26 = .ok (.ireturn, 1) := by decide +kernel
theorem dX10_hidden_27 : decode cX10_hidden 27 = .ok (.aload_n 0, 1) := by decide +kernel
theorem dX10_hidden_28 : decode cX10_hidden 28 = .ok (.getfield 47, 3) := by decide +kernel
theorem dX10_hidden_31 : decode cX10_hidden 31 = .ok (.iload_n 1, 1) := by decide +kernel
theorem dX10_hidden_32 : decode cX10_hidden 32 = .ok (.iload_n 2, 1) := by decide +kernel
theorem dX10_hidden_33 : decode cX10_hidden 33 = .ok (.invokevirtual 247, 3) := by decide +kernel
theorem dX10_hidden_36 : decode cX10_hidden 36 = .ok (.lstore 4, 2) := by decide +kernel
theorem dX10_hidden_38 : decode cX10_hidden 38 = .ok (.iload_n 3, 1) := by decide +kernel
theorem dX10_hidden_39 : decode cX10_hidden 39 = .ok (.iconst 1, 1) := by decide +kernel
theorem dX10_hidden_40 : decode cX10_hidden 40 = .ok (.if_icmp .ne 25, 3) := by decide +kernel
theorem dX10_hidden_43 : decode cX10_hidden 43 = .ok (.lload 4, 2) := by decide +kernel
theorem dX10_hidden_45 : decode cX10_hidden 45 = .ok (.ldc2_w 251, 3) := by decide +kernel
theorem dX10_hidden_48 : decode cX10_hidden 48 = .ok (.aload_n 0, 1) := by decide +kernel
theorem dX10_hidden_49 : decode cX10_hidden 49 = .ok (.getfield 38, 3) := by decide +kernel
theorem dX10_hidden_52 : decode cX10_hidden 52 = .ok (.getfield 111, 3) := by decide +kernel
theorem dX10_hidden_55 : decode cX10_hidden 55 = .ok (.iload_n 2, 1) := by decide +kernel
theorem dX10_hidden_56 : decode cX10_hidden 56 = .ok (.invokevirtual 176, 3) := by decide +kernel
theorem dX10_hidden_59 : decode cX10_hidden 59 = .ok (.i2l, 1) := by decide +kernel
theorem dX10_hidden_60 : decode cX10_hidden 60 = .ok (.lmul, 1) := by decide +kernel
theorem dX10_hidden_61 : decode cX10_hidden 61 = .ok (.invokestatic 198, 3) := by decide +kernel
theorem dX10_hidden_64 : decode cX10_hidden 64 = .ok (.ireturn, 1) := by decide +kernel
theorem dX10_hidden_65 : decode cX10_hidden 65 = .ok (.aload_n 0, 1) := by decide +kernel
theorem dX10_hidden_66 : decode cX10_hidden 66 = .ok (.getfield 47, 3) := by decide +kernel
theorem dX10_hidden_69 : decode cX10_hidden 69 = .ok (.iload_n 2, 1) := by decide +kernel
theorem dX10_hidden_70 : decode cX10_hidden 70 = .ok (.iconst 1, 1) := by decide +kernel
theorem dX10_hidden_71 : decode cX10_hidden 71 = .ok (.aload_n 0, 1) := by decide +kernel
theorem dX10_hidden_72 : decode cX10_hidden 72 = .ok (.getfield 19, 3) := by decide +kernel
theorem dX10_hidden_75 : decode cX10_hidden 75 = .ok (.iload_n 1, 1) := by decide +kernel
theorem dX10_hidden_76 : decode cX10_hidden 76 = .ok (.invokevirtual 182, 3) := by decide +kernel
theorem dX10_hidden_79 : decode cX10_hidden 79 = .ok (.invokevirtual 224, 3) := by decide +kernel
theorem dX10_hidden_82 : decode cX10_hidden 82 = .ok (.lload 4, 2) := by decide +kernel
theorem dX10_hidden_84 : decode cX10_hidden 84 = .ok (.ldc2_w 251, 3) := by decide +kernel
theorem dX10_hidden_87 : decode cX10_hidden 87 = .ok (.aload_n 0, 1) := by decide +kernel
theorem dX10_hidden_88 : decode cX10_hidden 88 = .ok (.getfield 47, 3) := by decide +kernel
theorem dX10_hidden_91 : decode cX10_hidden 91 = .ok (.getfield 231, 3) := by decide +kernel
theorem dX10_hidden_94 : decode cX10_hidden 94 = .ok (.lmul, 1) := by decide +kernel
theorem dX10_hidden_95 : decode cX10_hidden 95 = .ok (.lcmp, 1) := by decide +kernel
theorem dX10_hidden_96 : decode cX10_hidden 96 = .ok (.ifCond .le 7, 3) := by decide +kernel
theorem dX10_hidden_99 : decode cX10_hidden 99 = .ok (.iconst 1, 1) := by decide +kernel
theorem dX10_hidden_100 : decode cX10_hidden 100 = .ok (.goto 4, 3) := by decide +kernel
theorem dX10_hidden_103 : decode cX10_hidden 103 = .ok (.iconst 0, 1) := by decide +kernel
theorem dX10_hidden_104 : decode cX10_hidden 104 = .ok (.ireturn, 1) := by decide +kernel
def fX10_hidden (p1 : Int32) (p2 : Int32) (p3 : Int32) (σ : zS) : Option (Int32 × zS) := if (fX6_hasBoth σ.2.2.2.1 σ p1 p2) = 0 then some ((-1000000000), σ) else if p3 < 0 then some ((-1000000000), σ) else if p3 ≤ 1 then bnc (fX0_hiddenTotal p1 p2 σ) fun v3 σ1 => if p3 = 1 then bnr (fX6_allWeights σ1.2.2.2.1 σ1 p2) fun v8 => bnr (fX10_thousandths v3 (100 * v8.toInt64)) fun v10 => some (v10, σ1) else bnr (fX7_breathOf σ1 p1) fun v4 => bnr (fX0_plan p2 1 v4 σ1) fun σ6 => if v3 ≤ (100 * (lG σ6 27 8)) then some (0, σ6) else some (1, σ6) else some ((-1000000000), σ)
theorem eX10_hidden {sc : Nat × (Nat → Int32)} (p1 : Int32) (p2 : Int32) (p3 : Int32) (σ : zS) (w : Int32 × zS) (h : fX10_hidden p1 p2 p3 σ = some w) : zR (zY0 sc) 127 0 0 mX10_hidden 0 [(0, .ref 1), (1, .int p1), (2, .int p2), (3, .int p3)] [] (zE σ) (some (.int w.1), zE w.2) := by
  unfold fX10_hidden at h
  refine kR.aload_n dX10_hidden_0 0 rfl ?_
  refine kR.getR (v := 8) dX10_hidden_1 flX10_38 zcf10 zp1 (Or.inl ⟨_, rfl⟩) rfl ?_
  refine kR.getR (v := (rp σ.2.2.2.1 + 0)) dX10_hidden_4 flX10_111 zcf4 zp8 (Or.inl ⟨_, rfl⟩) rfl ?_
  refine kR.iload_n dX10_hidden_7 1 rfl ?_
  refine kR.iload_n dX10_hidden_8 2 rfl ?_
  refine kR.cVi [.int p1, .int p2] dX10_hidden_9 rfl (by decide) mwX10_202 (zq0 σ.2.2.2.1) (by decide) rfl rfl (Nat.le_of_ble_eq_true rfl) (lX6_hasBoth σ.2.2.2.1 σ p1 p2) ?_
  refine kR.if_eq (tgt := 24) dX10_hidden_12 (by decide) h (fun h => ?_) (fun h => ?_)
  · refine zR.ldc (v := (-1000000000)) dX10_hidden_24 ciX10_197 ?_
    exact kR.iretW dX10_hidden_26 (nzI rfl _) h
  · refine kR.iload_n dX10_hidden_15 3 rfl ?_
    refine kR.if_lt (tgt := 24) dX10_hidden_16 (by decide) h (fun h => ?_) (fun h => ?_)
    · refine zR.ldc (v := (-1000000000)) dX10_hidden_24 ciX10_197 ?_
      exact kR.iretW dX10_hidden_26 (nzI rfl _) h
    · refine kR.iload_n dX10_hidden_19 3 rfl ?_
      refine zR.iconst (v := 1) dX10_hidden_20 (by decide) ?_
      refine kR.icmp_le (tgt := 27) dX10_hidden_21 (by decide) h (fun h => ?_) (fun h => ?_)
      · refine kR.aload_n dX10_hidden_27 0 rfl ?_
        refine kR.getR (v := 27) dX10_hidden_28 flX10_47 zcf10 zp1 (Or.inl ⟨_, rfl⟩) rfl ?_
        refine kR.iload_n dX10_hidden_31 1 rfl ?_
        refine kR.iload_n dX10_hidden_32 2 rfl ?_
        obtain ⟨v3, σ1, e2, h⟩ := bnc_some h
        refine kR.cVl [.int p1, .int p2] dX10_hidden_33 rfl (by decide) mwX10_247 zp27 (by decide) rfl rfl (Nat.le_of_ble_eq_true rfl) (lX0_hiddenTotal p1 p2 σ _ e2) ?_
        refine zR.lstore (i := 4) (ls' := [(4, .long v3), (0, .ref 1), (1, .int p1), (2, .int p2), (3, .int p3)]) dX10_hidden_36 (by decide) rfl ?_
        refine kR.iload_n dX10_hidden_38 4 rfl ?_
        refine zR.iconst (v := 1) dX10_hidden_39 (by decide) ?_
        refine kR.icmp_ne (tgt := 65) dX10_hidden_40 (by decide) h (fun h => ?_) (fun h => ?_)
        · refine kR.aload_n dX10_hidden_65 1 rfl ?_
          refine kR.getR (v := 27) dX10_hidden_66 flX10_47 zcf10 zp1 (Or.inl ⟨_, rfl⟩) rfl ?_
          refine kR.iload_n dX10_hidden_69 3 rfl ?_
          refine zR.iconst (v := 1) dX10_hidden_70 (by decide) ?_
          refine kR.aload_n dX10_hidden_71 1 rfl ?_
          refine kR.getR (v := 4) dX10_hidden_72 flX10_19 zcf10 zp1 (Or.inl ⟨_, rfl⟩) rfl ?_
          refine kR.iload_n dX10_hidden_75 2 rfl ?_
          obtain ⟨v4, e5, h⟩ := bnr_some h
          refine kR.cVi [.int p1] dX10_hidden_76 rfl (by decide) mwX10_182 zp4 (by decide) rfl rfl (Nat.le_of_ble_eq_true rfl) (lX7_breathOf σ1 p1 _ e5) ?_
          obtain ⟨σ6, e7, h⟩ := bnr_some h
          refine kR.cVv [.int p2, .int 1, .int v4] dX10_hidden_79 rfl (by decide) mwX10_224 zp27 (by decide) rfl rfl (Nat.le_of_ble_eq_true rfl) (lX0_plan p2 1 v4 σ1 _ e7) ?_
          refine kR.lload dX10_hidden_82 0 rfl ?_
          refine zR.ldc2 (v := 100) dX10_hidden_84 clX10_251 ?_
          refine kR.aload_n dX10_hidden_87 1 rfl ?_
          refine kR.getR (v := 27) dX10_hidden_88 flX10_47 zcf10 zp1 (Or.inl ⟨_, rfl⟩) rfl ?_
          refine kR.getL dX10_hidden_91 flX10_231 zcf0 zp27 rfl ?_
          refine zR.lmul dX10_hidden_94 ?_
          refine kR.lcmp_le (tgt := 103) dX10_hidden_95 dX10_hidden_96 (by decide) h (fun h => ?_) (fun h => ?_)
          · refine zR.iconst (v := 0) dX10_hidden_103 (by decide) ?_
            exact kR.iretW dX10_hidden_104 (nzI rfl _) h
          · refine zR.iconst (v := 1) dX10_hidden_99 (by decide) ?_
            refine zR.goto (tgt := 104) dX10_hidden_100 (by decide) ?_
            exact kR.iretW dX10_hidden_104 (nzI rfl _) h
        · refine kR.lload dX10_hidden_43 0 rfl ?_
          refine zR.ldc2 (v := 100) dX10_hidden_45 clX10_251 ?_
          refine kR.aload_n dX10_hidden_48 1 rfl ?_
          refine kR.getR (v := 8) dX10_hidden_49 flX10_38 zcf10 zp1 (Or.inl ⟨_, rfl⟩) rfl ?_
          refine kR.getR (v := (rp σ1.2.2.2.1 + 0)) dX10_hidden_52 flX10_111 zcf4 zp8 (Or.inl ⟨_, rfl⟩) rfl ?_
          refine kR.iload_n dX10_hidden_55 3 rfl ?_
          obtain ⟨v8, e9, h⟩ := bnr_some h
          refine kR.cVi [.int p2] dX10_hidden_56 rfl (by decide) mwX10_176 (zq0 σ1.2.2.2.1) (by decide) rfl rfl (Nat.le_of_ble_eq_true rfl) (lX6_allWeights σ1.2.2.2.1 σ1 p2 _ e9) ?_
          refine zR.i2l dX10_hidden_59 ?_
          refine zR.lmul dX10_hidden_60 ?_
          obtain ⟨v10, e11, h⟩ := bnr_some h
          refine kR.cSi [.long v3, .long (100 * v8.toInt64)] dX10_hidden_61 rfl (by decide) (Or.inl mwX10_198) rfl (Nat.le_of_ble_eq_true rfl) (lX10_thousandths v3 (100 * v8.toInt64) _ e11) ?_
          exact kR.iretW dX10_hidden_64 (nzI rfl _) h
      · refine zR.ldc (v := (-1000000000)) dX10_hidden_24 ciX10_197 ?_
        exact kR.iretW dX10_hidden_26 (nzI rfl _) h
theorem lX10_hidden {sc : Nat × (Nat → Int32)} (p1 : Int32) (p2 : Int32) (p3 : Int32) (σ : zS) (w : Int32 × zS) (h : fX10_hidden p1 p2 p3 σ = some w) : zC (zY0 sc) 127 0 0 mX10_hidden [.ref 1, .int p1, .int p2, .int p3] (zE σ) (some (.int w.1), zE w.2) := zC.of (by decide +kernel) (Nat.le_of_ble_eq_true rfl) ⟨_, rfl⟩ (eX10_hidden p1 p2 p3 σ w h)
theorem dX4_madeBits_0 : decode cX4_madeBits 0 = .ok (.iconst 0, 1) := by decide +kernel
theorem dX4_madeBits_1 : decode cX4_madeBits 1 = .ok (.istore_n 3, 1) := by decide +kernel
theorem dX4_madeBits_2 : decode cX4_madeBits 2 = .ok (.iconst 0, 1) := by decide +kernel
theorem dX4_madeBits_3 : decode cX4_madeBits 3 = .ok (.istore 4, 2) := by decide +kernel
theorem dX4_madeBits_5 : decode cX4_madeBits 5 = .ok (.iload 4, 2) := by decide +kernel
theorem dX4_madeBits_7 : decode cX4_madeBits 7 = .ok (.aload_n 0, 1) := by decide +kernel
theorem dX4_madeBits_8 : decode cX4_madeBits 8 = .ok (.getfield 22, 3) := by decide +kernel
theorem dX4_madeBits_11 : decode cX4_madeBits 11 = .ok (.getfield 44, 3) := by decide +kernel
theorem dX4_madeBits_14 : decode cX4_madeBits 14 = .ok (.if_icmp .ge 28, 3) := by decide +kernel
theorem dX4_madeBits_17 : decode cX4_madeBits 17 = .ok (.aload_n 0, 1) := by decide +kernel
theorem dX4_madeBits_18 : decode cX4_madeBits 18 = .ok (.iload 4, 2) := by decide +kernel
theorem dX4_madeBits_20 : decode cX4_madeBits 20 = .ok (.iload_n 1, 1) := by decide +kernel
theorem dX4_madeBits_21 : decode cX4_madeBits 21 = .ok (.iload_n 2, 1) := by decide +kernel
theorem dX4_madeBits_22 : decode cX4_madeBits 22 = .ok (.invokevirtual 50, 3) := by decide +kernel
theorem dX4_madeBits_25 : decode cX4_madeBits 25 = .ok (.iload_n 2, 1) := by decide +kernel
theorem dX4_madeBits_26 : decode cX4_madeBits 26 = .ok (.if_icmp .ne 10, 3) := by decide +kernel
theorem dX4_madeBits_29 : decode cX4_madeBits 29 = .ok (.iload_n 3, 1) := by decide +kernel
theorem dX4_madeBits_30 : decode cX4_madeBits 30 = .ok (.iconst 1, 1) := by decide +kernel
theorem dX4_madeBits_31 : decode cX4_madeBits 31 = .ok (.iload 4, 2) := by decide +kernel
theorem dX4_madeBits_33 : decode cX4_madeBits 33 = .ok (.ishl, 1) := by decide +kernel
theorem dX4_madeBits_34 : decode cX4_madeBits 34 = .ok (.ior, 1) := by decide +kernel
theorem dX4_madeBits_35 : decode cX4_madeBits 35 = .ok (.istore_n 3, 1) := by decide +kernel
theorem dX4_madeBits_36 : decode cX4_madeBits 36 = .ok (.iinc 4 1, 3) := by decide +kernel
theorem dX4_madeBits_39 : decode cX4_madeBits 39 = .ok (.goto (-34), 3) := by decide +kernel
theorem dX4_madeBits_42 : decode cX4_madeBits 42 = .ok (.iload_n 3, 1) := by decide +kernel
theorem dX4_madeBits_43 : decode cX4_madeBits 43 = .ok (.ireturn, 1) := by decide +kernel
def fX4_madeBits_36 (σ : zS) (r5 : Int32 → Int32 → Int32 → Int32 → Option Int32) (x1 : Int32) (x2 : Int32) (x3 : Int32) (x4 : Int32) : Option Int32 := r5 x1 x2 x3 (x4 + 1)
theorem kX4_madeBits_36 {sc : Nat × (Nat → Int32)} (σ : zS) (r5 : Int32 → Int32 → Int32 → Int32 → Option Int32) (hr5 : ∀ (x1 : Int32) (x2 : Int32) (x3 : Int32) (x4 : Int32) (w : Int32), r5 x1 x2 x3 x4 = some w → zR (zY0 sc) 3 0 0 mX4_madeBits 5 [(0, .ref 8), (1, .int x1), (2, .int x2), (3, .int x3), (4, .int x4)] [] (zE σ) (some (.int w), zE σ)) (x1 : Int32) (x2 : Int32) (x3 : Int32) (x4 : Int32) (w : Int32) (h : fX4_madeBits_36 σ r5 x1 x2 x3 x4 = some w) : zR (zY0 sc) 3 0 0 mX4_madeBits 36 [(0, .ref 8), (1, .int x1), (2, .int x2), (3, .int x3), (4, .int x4)] [] (zE σ) (some (.int w), zE σ) := by
  unfold fX4_madeBits_36 at h
  refine zR.iinc 4 (v := x4 + 1) (ls' := [(4, .int (x4 + 1)), (0, .ref 8), (1, .int x1), (2, .int x2), (3, .int x3)]) dX4_madeBits_36 rfl rfl (by decide) rfl ?_
  refine zR.goto (tgt := 5) dX4_madeBits_39 (by decide) ?_
  refine zR.sub [1, 2, 3, 4, 0] rfl ?_
  exact hr5 _ _ _ _ _ h
def fX4_madeBits_5 (σ : zS) : Nat → Int32 → Int32 → Int32 → Int32 → Option Int32
  | 0, _, _, _, _ => none
  | f + 1, x1, x2, x3, x4 => if (iG σ (rp σ.2.2.2.1 + 0) 2) ≤ x4 then some x3 else bnr (fX4_secondsHeld σ x4 x1 x2) fun v1 => if v1 = x2 then fX4_madeBits_36 σ (fX4_madeBits_5 σ f) x1 x2 (x3 ||| (1 <<< (x4 &&& 31))) x4 else fX4_madeBits_36 σ (fX4_madeBits_5 σ f) x1 x2 x3 x4
theorem kX4_madeBits_5 {sc : Nat × (Nat → Int32)} (σ : zS) : ∀ (fuel : Nat) (x1 : Int32) (x2 : Int32) (x3 : Int32) (x4 : Int32) (w : Int32) (h : fX4_madeBits_5 σ fuel x1 x2 x3 x4 = some w), zR (zY0 sc) 3 0 0 mX4_madeBits 5 [(0, .ref 8), (1, .int x1), (2, .int x2), (3, .int x3), (4, .int x4)] [] (zE σ) (some (.int w), zE σ) := by
  intro fuel
  induction fuel with
  | zero => intro x1 x2 x3 x4 w h; exact nomatch h
  | succ f ih =>
    intro x1 x2 x3 x4 w h
    rw [fX4_madeBits_5] at h
    refine kR.iload dX4_madeBits_5 4 rfl ?_
    refine kR.aload_n dX4_madeBits_7 0 rfl ?_
    refine kR.getR (v := (rp σ.2.2.2.1 + 0)) dX4_madeBits_8 flX4_22 zcf4 zp8 (Or.inl ⟨_, rfl⟩) rfl ?_
    refine kR.getI dX4_madeBits_11 flX4_44 zcf6 (zq0 σ.2.2.2.1) (Or.inl rfl) ?_
    refine kR.icmp_ge (tgt := 42) dX4_madeBits_14 (by decide) h (fun h => ?_) (fun h => ?_)
    · refine kR.iload_n dX4_madeBits_42 3 rfl ?_
      exact kR.iretO dX4_madeBits_43 (nzI rfl _) h
    · refine kR.aload_n dX4_madeBits_17 0 rfl ?_
      refine kR.iload dX4_madeBits_18 4 rfl ?_
      refine kR.iload_n dX4_madeBits_20 1 rfl ?_
      refine kR.iload_n dX4_madeBits_21 2 rfl ?_
      obtain ⟨v1, e2, h⟩ := bnr_some h
      refine kR.cVi [.int x4, .int x1, .int x2] dX4_madeBits_22 rfl (by decide) mwX4_50 zp8 (by decide) rfl rfl (Nat.le_of_ble_eq_true rfl) (lX4_secondsHeld σ x4 x1 x2 _ e2) ?_
      refine kR.iload_n dX4_madeBits_25 2 rfl ?_
      refine kR.icmp_ne (tgt := 36) dX4_madeBits_26 (by decide) h (fun h => ?_) (fun h => ?_)
      · exact kX4_madeBits_36 σ (fX4_madeBits_5 σ f) ih _ _ _ _ _ h
      · refine kR.iload_n dX4_madeBits_29 3 rfl ?_
        refine zR.iconst (v := 1) dX4_madeBits_30 (by decide) ?_
        refine kR.iload dX4_madeBits_31 4 rfl ?_
        refine zR.ishl dX4_madeBits_33 ?_
        refine zR.ior dX4_madeBits_34 ?_
        refine zR.istore_n (i := 3) (ls' := [(3, .int (x3 ||| (1 <<< (x4 &&& 31)))), (0, .ref 8), (1, .int x1), (2, .int x2), (4, .int x4)]) dX4_madeBits_35 rfl (by decide) rfl ?_
        refine zR.sub [1, 2, 3, 0, 4] rfl ?_
        exact kX4_madeBits_36 σ (fX4_madeBits_5 σ f) ih _ _ _ _ _ h
def fX4_madeBits (σ : zS) (p1 : Int32) (p2 : Int32) : Option Int32 := fX4_madeBits_5 σ zF p1 p2 0 0
theorem eX4_madeBits {sc : Nat × (Nat → Int32)} (σ : zS) (p1 : Int32) (p2 : Int32) (w : Int32) (h : fX4_madeBits σ p1 p2 = some w) : zR (zY0 sc) 3 0 0 mX4_madeBits 0 [(0, .ref 8), (1, .int p1), (2, .int p2)] [] (zE σ) (some (.int w), zE σ) := by
  unfold fX4_madeBits at h
  refine zR.iconst (v := 0) dX4_madeBits_0 (by decide) ?_
  refine zR.istore_n (i := 3) (ls' := [(3, .int 0), (0, .ref 8), (1, .int p1), (2, .int p2)]) dX4_madeBits_1 rfl (by decide) rfl ?_
  refine zR.iconst (v := 0) dX4_madeBits_2 (by decide) ?_
  refine zR.istore (i := 4) (ls' := [(4, .int 0), (3, .int 0), (0, .ref 8), (1, .int p1), (2, .int p2)]) dX4_madeBits_3 (by decide) rfl ?_
  refine zR.sub [2, 3, 4, 1, 0] rfl ?_
  exact kX4_madeBits_5 σ zF _ _ _ _ _ h
theorem lX4_madeBits {sc : Nat × (Nat → Int32)} (σ : zS) (p1 : Int32) (p2 : Int32) (w : Int32) (h : fX4_madeBits σ p1 p2 = some w) : zC (zY0 sc) 3 0 0 mX4_madeBits [.ref 8, .int p1, .int p2] (zE σ) (some (.int w), zE σ) := zC.of (by decide +kernel) (Nat.le_of_ble_eq_true rfl) ⟨_, rfl⟩ (eX4_madeBits σ p1 p2 w h)
theorem dX0_paceWeights_0 : decode cX0_paceWeights 0 = .ok (.iconst 0, 1) := by decide +kernel
theorem dX0_paceWeights_1 : decode cX0_paceWeights 1 = .ok (.istore 4, 2) := by decide +kernel
theorem dX0_paceWeights_3 : decode cX0_paceWeights 3 = .ok (.iconst 0, 1) := by decide +kernel
theorem dX0_paceWeights_4 : decode cX0_paceWeights 4 = .ok (.istore 5, 2) := by decide +kernel
theorem dX0_paceWeights_6 : decode cX0_paceWeights 6 = .ok (.iload_n 3, 1) := by decide +kernel
theorem dX0_paceWeights_7 : decode cX0_paceWeights 7 = .ok (.ifCond .le 79, 3) := by decide +kernel
theorem dX0_paceWeights_10 : decode cX0_paceWeights 10 = .ok (.iload 5, 2) := by decide +kernel
theorem dX0_paceWeights_12 : decode cX0_paceWeights 12 = .ok (.aload_n 0, 1) := by decide +kernel
theorem dX0_paceWeights_13 : decode cX0_paceWeights 13 = .ok (.getfield 51, 3) := by decide +kernel
theorem dX0_paceWeights_16 : decode cX0_paceWeights 16 = .ok (.getfield 55, 3) := by decide +kernel
theorem dX0_paceWeights_19 : decode cX0_paceWeights 19 = .ok (.getfield 92, 3) := by decide +kernel
theorem dX0_paceWeights_22 : decode cX0_paceWeights 22 = .ok (.iload_n 1, 1) := by decide +kernel
theorem dX0_paceWeights_23 : decode cX0_paceWeights 23 = .ok (.iaload, 1) := by decide +kernel
theorem dX0_paceWeights_24 : decode cX0_paceWeights 24 = .ok (.if_icmp .ge 62, 3) := by decide +kernel
theorem dX0_paceWeights_27 : decode cX0_paceWeights 27 = .ok (.iconst 1, 1) := by decide +kernel
theorem dX0_paceWeights_28 : decode cX0_paceWeights 28 = .ok (.aload_n 0, 1) := by decide +kernel
theorem dX0_paceWeights_29 : decode cX0_paceWeights 29 = .ok (.getfield 51, 3) := by decide +kernel
theorem dX0_paceWeights_32 : decode cX0_paceWeights 32 = .ok (.getfield 55, 3) := by decide +kernel
theorem dX0_paceWeights_35 : decode cX0_paceWeights 35 = .ok (.iload_n 1, 1) := by decide +kernel
theorem dX0_paceWeights_36 : decode cX0_paceWeights 36 = .ok (.iload 5, 2) := by decide +kernel
theorem dX0_paceWeights_38 : decode cX0_paceWeights 38 = .ok (.invokevirtual 99, 3) := by decide +kernel
theorem dX0_paceWeights_41 : decode cX0_paceWeights 41 = .ok (.iload_n 3, 1) := by decide +kernel
theorem dX0_paceWeights_42 : decode cX0_paceWeights 42 = .ok (.idiv, 1) := by decide +kernel
theorem dX0_paceWeights_43 : decode cX0_paceWeights 43 = .ok (.invokestatic 158, 3) := by decide +kernel
theorem dX0_paceWeights_46 : decode cX0_paceWeights 46 = .ok (.istore 6, 2) := by decide +kernel
theorem dX0_paceWeights_48 : decode cX0_paceWeights 48 = .ok (.aload_n 0, 1) := by decide +kernel
theorem dX0_paceWeights_49 : decode cX0_paceWeights 49 = .ok (.getfield 51, 3) := by decide +kernel
theorem dX0_paceWeights_52 : decode cX0_paceWeights 52 = .ok (.iload_n 1, 1) := by decide +kernel
theorem dX0_paceWeights_53 : decode cX0_paceWeights 53 = .ok (.iload 6, 2) := by decide +kernel
theorem dX0_paceWeights_55 : decode cX0_paceWeights 55 = .ok (.invokevirtual 161, 3) := by decide +kernel
theorem dX0_paceWeights_58 : decode cX0_paceWeights 58 = .ok (.iload_n 2, 1) := by decide +kernel
theorem dX0_paceWeights_59 : decode cX0_paceWeights 59 = .ok (.if_icmp .ne 21, 3) := by decide +kernel
theorem dX0_paceWeights_62 : decode cX0_paceWeights 62 = .ok (.iload 4, 2) := by decide +kernel
theorem dX0_paceWeights_64 : decode cX0_paceWeights 64 = .ok (.aload_n 0, 1) := by decide +kernel
theorem dX0_paceWeights_65 : decode cX0_paceWeights 65 = .ok (.getfield 51, 3) := by decide +kernel
theorem dX0_paceWeights_68 : decode cX0_paceWeights 68 = .ok (.getfield 55, 3) := by decide +kernel
theorem dX0_paceWeights_71 : decode cX0_paceWeights 71 = .ok (.iload_n 1, 1) := by decide +kernel
theorem dX0_paceWeights_72 : decode cX0_paceWeights 72 = .ok (.iload 5, 2) := by decide +kernel
theorem dX0_paceWeights_74 : decode cX0_paceWeights 74 = .ok (.invokevirtual 102, 3) := by decide +kernel
theorem dX0_paceWeights_77 : decode cX0_paceWeights 77 = .ok (.iadd, 1) := by decide +kernel
theorem dX0_paceWeights_78 : decode cX0_paceWeights 78 = .ok (.istore 4, 2) := by decide +kernel
theorem dX0_paceWeights_80 : decode cX0_paceWeights 80 = .ok (.iinc 5 1, 3) := by decide +kernel
theorem dX0_paceWeights_83 : decode cX0_paceWeights 83 = .ok (.goto (-77), 3) := by decide +kernel
theorem dX0_paceWeights_86 : decode cX0_paceWeights 86 = .ok (.iload 4, 2) := by decide +kernel
theorem dX0_paceWeights_88 : decode cX0_paceWeights 88 = .ok (.ireturn, 1) := by decide +kernel
def fX0_paceWeights_80 (σ : zS) (r6 : Int32 → Int32 → Int32 → Int32 → Int32 → Option Int32) (x1 : Int32) (x2 : Int32) (x3 : Int32) (x4 : Int32) (x5 : Int32) : Option Int32 := r6 x1 x2 x3 x4 (x5 + 1)
theorem kX0_paceWeights_80 {sc : Nat × (Nat → Int32)} (σ : zS) (r6 : Int32 → Int32 → Int32 → Int32 → Int32 → Option Int32) (hr6 : ∀ (x1 : Int32) (x2 : Int32) (x3 : Int32) (x4 : Int32) (x5 : Int32) (w : Int32), r6 x1 x2 x3 x4 x5 = some w → zR (zY0 sc) 4 0 0 mX0_paceWeights 6 [(0, .ref 27), (1, .int x1), (2, .int x2), (3, .int x3), (4, .int x4), (5, .int x5)] [] (zE σ) (some (.int w), zE σ)) (x1 : Int32) (x2 : Int32) (x3 : Int32) (x4 : Int32) (x5 : Int32) (w : Int32) (h : fX0_paceWeights_80 σ r6 x1 x2 x3 x4 x5 = some w) : zR (zY0 sc) 4 0 0 mX0_paceWeights 80 [(0, .ref 27), (1, .int x1), (2, .int x2), (3, .int x3), (4, .int x4), (5, .int x5)] [] (zE σ) (some (.int w), zE σ) := by
  unfold fX0_paceWeights_80 at h
  refine zR.iinc 5 (v := x5 + 1) (ls' := [(5, .int (x5 + 1)), (0, .ref 27), (1, .int x1), (2, .int x2), (3, .int x3), (4, .int x4)]) dX0_paceWeights_80 rfl rfl (by decide) rfl ?_
  refine zR.goto (tgt := 6) dX0_paceWeights_83 (by decide) ?_
  refine zR.sub [1, 2, 3, 4, 5, 0] rfl ?_
  exact hr6 _ _ _ _ _ _ h
def fX0_paceWeights_6 (σ : zS) : Nat → Int32 → Int32 → Int32 → Int32 → Int32 → Option Int32
  | 0, _, _, _, _, _ => none
  | f + 1, x1, x2, x3, x4, x5 => if x3 ≤ 0 then some x4 else aI σ (rp σ.2.2.2.1 + 3) 6 x1 fun v1 => if v1 ≤ x5 then some x4 else bnr (fX6_lengthAt σ.2.2.2.1 σ x1 x5) fun v2 => gd (¬ x3 = 0) (bnr (fX4_madeBits σ x1 (fJ9_max_7cf53 1 (v2 / x3))) fun v4 => if v4 = x2 then bnr (fX6_weightAt σ.2.2.2.1 σ x1 x5) fun v6 => fX0_paceWeights_80 σ (fX0_paceWeights_6 σ f) x1 x2 x3 (x4 + v6) x5 else fX0_paceWeights_80 σ (fX0_paceWeights_6 σ f) x1 x2 x3 x4 x5)
theorem kX0_paceWeights_6 {sc : Nat × (Nat → Int32)} (σ : zS) : ∀ (fuel : Nat) (x1 : Int32) (x2 : Int32) (x3 : Int32) (x4 : Int32) (x5 : Int32) (w : Int32) (h : fX0_paceWeights_6 σ fuel x1 x2 x3 x4 x5 = some w), zR (zY0 sc) 4 0 0 mX0_paceWeights 6 [(0, .ref 27), (1, .int x1), (2, .int x2), (3, .int x3), (4, .int x4), (5, .int x5)] [] (zE σ) (some (.int w), zE σ) := by
  intro fuel
  induction fuel with
  | zero => intro x1 x2 x3 x4 x5 w h; exact nomatch h
  | succ f ih =>
    intro x1 x2 x3 x4 x5 w h
    rw [fX0_paceWeights_6] at h
    refine kR.iload_n dX0_paceWeights_6 3 rfl ?_
    refine kR.if_le (tgt := 86) dX0_paceWeights_7 (by decide) h (fun h => ?_) (fun h => ?_)
    · refine kR.iload dX0_paceWeights_86 4 rfl ?_
      exact kR.iretO dX0_paceWeights_88 (nzI rfl _) h
    · refine kR.iload dX0_paceWeights_10 5 rfl ?_
      refine kR.aload_n dX0_paceWeights_12 0 rfl ?_
      refine kR.getR (v := 8) dX0_paceWeights_13 flX0_51 zcf0 zp27 (Or.inl ⟨_, rfl⟩) rfl ?_
      refine kR.getR (v := (rp σ.2.2.2.1 + 0)) dX0_paceWeights_16 flX0_55 zcf4 zp8 (Or.inl ⟨_, rfl⟩) rfl ?_
      refine kR.getR (v := (rp σ.2.2.2.1 + 3)) dX0_paceWeights_19 flX0_92 zcf6 (zq0 σ.2.2.2.1) (Or.inr ⟨_, rfl⟩) (zr0_7 _ σ.2.2.2.1) ?_
      refine kR.iload_n dX0_paceWeights_22 1 rfl ?_
      refine kR.iald dX0_paceWeights_23 (zq3 σ.2.2.2.1) (zl3 σ.2.2.2.1) h (fun v1 h => ?_)
      refine kR.icmp_ge (tgt := 86) dX0_paceWeights_24 (by decide) h (fun h => ?_) (fun h => ?_)
      · refine kR.iload dX0_paceWeights_86 4 rfl ?_
        exact kR.iretO dX0_paceWeights_88 (nzI rfl _) h
      · refine zR.iconst (v := 1) dX0_paceWeights_27 (by decide) ?_
        refine kR.aload_n dX0_paceWeights_28 0 rfl ?_
        refine kR.getR (v := 8) dX0_paceWeights_29 flX0_51 zcf0 zp27 (Or.inl ⟨_, rfl⟩) rfl ?_
        refine kR.getR (v := (rp σ.2.2.2.1 + 0)) dX0_paceWeights_32 flX0_55 zcf4 zp8 (Or.inl ⟨_, rfl⟩) rfl ?_
        refine kR.iload_n dX0_paceWeights_35 1 rfl ?_
        refine kR.iload dX0_paceWeights_36 5 rfl ?_
        obtain ⟨v2, e3, h⟩ := bnr_some h
        refine kR.cVi [.int x1, .int x5] dX0_paceWeights_38 rfl (by decide) mwX0_99 (zq0 σ.2.2.2.1) (by decide) rfl rfl (Nat.le_of_ble_eq_true rfl) (lX6_lengthAt σ.2.2.2.1 σ x1 x5 _ e3) ?_
        refine kR.iload_n dX0_paceWeights_41 3 rfl ?_
        refine kR.idiv dX0_paceWeights_42 h (fun h => ?_)
        refine kR.cSi [.int 1, .int (v2 / x3)] dX0_paceWeights_43 rfl (by decide) (Or.inl mwX0_158) rfl (Nat.le_of_ble_eq_true rfl) (lJ9_max_7cf53 1 (v2 / x3)) ?_
        refine zR.istore (i := 6) (ls' := [(6, .int (fJ9_max_7cf53 1 (v2 / x3))), (0, .ref 27), (1, .int x1), (2, .int x2), (3, .int x3), (4, .int x4), (5, .int x5)]) dX0_paceWeights_46 (by decide) rfl ?_
        refine kR.aload_n dX0_paceWeights_48 1 rfl ?_
        refine kR.getR (v := 8) dX0_paceWeights_49 flX0_51 zcf0 zp27 (Or.inl ⟨_, rfl⟩) rfl ?_
        refine kR.iload_n dX0_paceWeights_52 2 rfl ?_
        refine kR.iload dX0_paceWeights_53 0 rfl ?_
        obtain ⟨v4, e5, h⟩ := bnr_some h
        refine kR.cVi [.int x1, .int (fJ9_max_7cf53 1 (v2 / x3))] dX0_paceWeights_55 rfl (by decide) mwX0_161 zp8 (by decide) rfl rfl (Nat.le_of_ble_eq_true rfl) (lX4_madeBits σ x1 (fJ9_max_7cf53 1 (v2 / x3)) _ e5) ?_
        refine kR.iload_n dX0_paceWeights_58 3 rfl ?_
        refine kR.icmp_ne (tgt := 80) dX0_paceWeights_59 (by decide) h (fun h => ?_) (fun h => ?_)
        · refine zR.sub [1, 2, 3, 4, 5, 6] rfl ?_
          exact kX0_paceWeights_80 σ (fX0_paceWeights_6 σ f) ih _ _ _ _ _ _ h
        · refine kR.iload dX0_paceWeights_62 5 rfl ?_
          refine kR.aload_n dX0_paceWeights_64 1 rfl ?_
          refine kR.getR (v := 8) dX0_paceWeights_65 flX0_51 zcf0 zp27 (Or.inl ⟨_, rfl⟩) rfl ?_
          refine kR.getR (v := (rp σ.2.2.2.1 + 0)) dX0_paceWeights_68 flX0_55 zcf4 zp8 (Or.inl ⟨_, rfl⟩) rfl ?_
          refine kR.iload_n dX0_paceWeights_71 2 rfl ?_
          refine kR.iload dX0_paceWeights_72 6 rfl ?_
          obtain ⟨v6, e7, h⟩ := bnr_some h
          refine kR.cVi [.int x1, .int x5] dX0_paceWeights_74 rfl (by decide) mwX0_102 (zq0 σ.2.2.2.1) (by decide) rfl rfl (Nat.le_of_ble_eq_true rfl) (lX6_weightAt σ.2.2.2.1 σ x1 x5 _ e7) ?_
          refine zR.iadd dX0_paceWeights_77 ?_
          refine zR.istore (i := 4) (ls' := [(4, .int (x4 + v6)), (6, .int (fJ9_max_7cf53 1 (v2 / x3))), (0, .ref 27), (1, .int x1), (2, .int x2), (3, .int x3), (5, .int x5)]) dX0_paceWeights_78 (by decide) rfl ?_
          refine zR.sub [2, 3, 4, 5, 0, 6] rfl ?_
          exact kX0_paceWeights_80 σ (fX0_paceWeights_6 σ f) ih _ _ _ _ _ _ h
def fX0_paceWeights (σ : zS) (p1 : Int32) (p2 : Int32) (p3 : Int32) : Option Int32 := fX0_paceWeights_6 σ zF p1 p2 p3 0 0
theorem eX0_paceWeights {sc : Nat × (Nat → Int32)} (σ : zS) (p1 : Int32) (p2 : Int32) (p3 : Int32) (w : Int32) (h : fX0_paceWeights σ p1 p2 p3 = some w) : zR (zY0 sc) 4 0 0 mX0_paceWeights 0 [(0, .ref 27), (1, .int p1), (2, .int p2), (3, .int p3)] [] (zE σ) (some (.int w), zE σ) := by
  unfold fX0_paceWeights at h
  refine zR.iconst (v := 0) dX0_paceWeights_0 (by decide) ?_
  refine zR.istore (i := 4) (ls' := [(4, .int 0), (0, .ref 27), (1, .int p1), (2, .int p2), (3, .int p3)]) dX0_paceWeights_1 (by decide) rfl ?_
  refine zR.iconst (v := 0) dX0_paceWeights_3 (by decide) ?_
  refine zR.istore (i := 5) (ls' := [(5, .int 0), (4, .int 0), (0, .ref 27), (1, .int p1), (2, .int p2), (3, .int p3)]) dX0_paceWeights_4 (by decide) rfl ?_
  refine zR.sub [2, 3, 4, 5, 1, 0] rfl ?_
  exact kX0_paceWeights_6 σ zF _ _ _ _ _ _ h
theorem lX0_paceWeights {sc : Nat × (Nat → Int32)} (σ : zS) (p1 : Int32) (p2 : Int32) (p3 : Int32) (w : Int32) (h : fX0_paceWeights σ p1 p2 p3 = some w) : zC (zY0 sc) 4 0 0 mX0_paceWeights [.ref 27, .int p1, .int p2, .int p3] (zE σ) (some (.int w), zE σ) := zC.of (by decide +kernel) (Nat.le_of_ble_eq_true rfl) ⟨_, rfl⟩ (eX0_paceWeights σ p1 p2 p3 w h)
theorem dX0_bestPace_0 : decode cX0_bestPace 0 = .ok (.iconst 1, 1) := by decide +kernel
theorem dX0_bestPace_1 : decode cX0_bestPace 1 = .ok (.istore_n 3, 1) := by decide +kernel
theorem dX0_bestPace_2 : decode cX0_bestPace 2 = .ok (.aload_n 0, 1) := by decide +kernel
theorem dX0_bestPace_3 : decode cX0_bestPace 3 = .ok (.iload_n 1, 1) := by decide +kernel
theorem dX0_bestPace_4 : decode cX0_bestPace 4 = .ok (.iload_n 2, 1) := by decide +kernel
theorem dX0_bestPace_5 : decode cX0_bestPace 5 = .ok (.iconst 1, 1) := by decide +kernel
theorem dX0_bestPace_6 : decode cX0_bestPace 6 = .ok (.invokevirtual 155, 3) := by decide +kernel
theorem dX0_bestPace_9 : decode cX0_bestPace 9 = .ok (.istore 4, 2) := by decide +kernel
theorem dX0_bestPace_11 : decode cX0_bestPace 11 = .ok (.iconst 2, 1) := by decide +kernel
theorem dX0_bestPace_12 : decode cX0_bestPace 12 = .ok (.istore 5, 2) := by decide +kernel
theorem dX0_bestPace_14 : decode cX0_bestPace 14 = .ok (.iload 5, 2) := by decide +kernel
theorem dX0_bestPace_16 : decode cX0_bestPace 16 = .ok (.iconst 4, 1) := by decide +kernel
theorem dX0_bestPace_17 : decode cX0_bestPace 17 = .ok (.if_icmp .gt 33, 3) := by decide +kernel
theorem dX0_bestPace_20 : decode cX0_bestPace 20 = .ok (.aload_n 0, 1) := by decide +kernel
theorem dX0_bestPace_21 : decode cX0_bestPace 21 = .ok (.iload_n 1, 1) := by decide +kernel
theorem dX0_bestPace_22 : decode cX0_bestPace 22 = .ok (.iload_n 2, 1) := by decide +kernel
theorem dX0_bestPace_23 : decode cX0_bestPace 23 = .ok (.iload 5, 2) := by decide +kernel
theorem dX0_bestPace_25 : decode cX0_bestPace 25 = .ok (.invokevirtual 155, 3) := by decide +kernel
theorem dX0_bestPace_28 : decode cX0_bestPace 28 = .ok (.istore 6, 2) := by decide +kernel
theorem dX0_bestPace_30 : decode cX0_bestPace 30 = .ok (.iload 6, 2) := by decide +kernel
theorem dX0_bestPace_32 : decode cX0_bestPace 32 = .ok (.iload 4, 2) := by decide +kernel
theorem dX0_bestPace_34 : decode cX0_bestPace 34 = .ok (.if_icmp .le 10, 3) := by decide +kernel
theorem dX0_bestPace_37 : decode cX0_bestPace 37 = .ok (.iload 6, 2) := by decide +kernel
theorem dX0_bestPace_39 : decode cX0_bestPace 39 = .ok (.istore 4, 2) := by decide +kernel
theorem dX0_bestPace_41 : decode cX0_bestPace 41 = .ok (.iload 5, 2) := by decide +kernel
theorem dX0_bestPace_43 : decode cX0_bestPace 43 = .ok (.istore_n 3, 1) := by decide +kernel
theorem dX0_bestPace_44 : decode cX0_bestPace 44 = .ok (.iinc 5 1, 3) := by decide +kernel
theorem dX0_bestPace_47 : decode cX0_bestPace 47 = .ok (.goto (-33), 3) := by decide +kernel
theorem dX0_bestPace_50 : decode cX0_bestPace 50 = .ok (.iload_n 3, 1) := by decide +kernel
theorem dX0_bestPace_51 : decode cX0_bestPace 51 = .ok (.ireturn, 1) := by decide +kernel
def fX0_bestPace_44 (σ : zS) (r14 : Int32 → Int32 → Int32 → Int32 → Int32 → Option Int32) (x1 : Int32) (x2 : Int32) (x3 : Int32) (x4 : Int32) (x5 : Int32) : Option Int32 := r14 x1 x2 x3 x4 (x5 + 1)
theorem kX0_bestPace_44 {sc : Nat × (Nat → Int32)} (σ : zS) (r14 : Int32 → Int32 → Int32 → Int32 → Int32 → Option Int32) (hr14 : ∀ (x1 : Int32) (x2 : Int32) (x3 : Int32) (x4 : Int32) (x5 : Int32) (w : Int32), r14 x1 x2 x3 x4 x5 = some w → zR (zY0 sc) 5 0 0 mX0_bestPace 14 [(0, .ref 27), (1, .int x1), (2, .int x2), (3, .int x3), (4, .int x4), (5, .int x5)] [] (zE σ) (some (.int w), zE σ)) (x1 : Int32) (x2 : Int32) (x3 : Int32) (x4 : Int32) (x5 : Int32) (w : Int32) (h : fX0_bestPace_44 σ r14 x1 x2 x3 x4 x5 = some w) : zR (zY0 sc) 5 0 0 mX0_bestPace 44 [(0, .ref 27), (1, .int x1), (2, .int x2), (3, .int x3), (4, .int x4), (5, .int x5)] [] (zE σ) (some (.int w), zE σ) := by
  unfold fX0_bestPace_44 at h
  refine zR.iinc 5 (v := x5 + 1) (ls' := [(5, .int (x5 + 1)), (0, .ref 27), (1, .int x1), (2, .int x2), (3, .int x3), (4, .int x4)]) dX0_bestPace_44 rfl rfl (by decide) rfl ?_
  refine zR.goto (tgt := 14) dX0_bestPace_47 (by decide) ?_
  refine zR.sub [1, 2, 3, 4, 5, 0] rfl ?_
  exact hr14 _ _ _ _ _ _ h
def fX0_bestPace_14 (σ : zS) : Nat → Int32 → Int32 → Int32 → Int32 → Int32 → Option Int32
  | 0, _, _, _, _, _ => none
  | f + 1, x1, x2, x3, x4, x5 => if 4 < x5 then some x3 else bnr (fX0_paceWeights σ x1 x2 x5) fun v3 => if v3 ≤ x4 then fX0_bestPace_44 σ (fX0_bestPace_14 σ f) x1 x2 x3 x4 x5 else fX0_bestPace_44 σ (fX0_bestPace_14 σ f) x1 x2 x5 v3 x5
theorem kX0_bestPace_14 {sc : Nat × (Nat → Int32)} (σ : zS) : ∀ (fuel : Nat) (x1 : Int32) (x2 : Int32) (x3 : Int32) (x4 : Int32) (x5 : Int32) (w : Int32) (h : fX0_bestPace_14 σ fuel x1 x2 x3 x4 x5 = some w), zR (zY0 sc) 5 0 0 mX0_bestPace 14 [(0, .ref 27), (1, .int x1), (2, .int x2), (3, .int x3), (4, .int x4), (5, .int x5)] [] (zE σ) (some (.int w), zE σ) := by
  intro fuel
  induction fuel with
  | zero => intro x1 x2 x3 x4 x5 w h; exact nomatch h
  | succ f ih =>
    intro x1 x2 x3 x4 x5 w h
    rw [fX0_bestPace_14] at h
    refine kR.iload dX0_bestPace_14 5 rfl ?_
    refine zR.iconst (v := 4) dX0_bestPace_16 (by decide) ?_
    refine kR.icmp_gt (tgt := 50) dX0_bestPace_17 (by decide) h (fun h => ?_) (fun h => ?_)
    · refine kR.iload_n dX0_bestPace_50 3 rfl ?_
      exact kR.iretO dX0_bestPace_51 (nzI rfl _) h
    · refine kR.aload_n dX0_bestPace_20 0 rfl ?_
      refine kR.iload_n dX0_bestPace_21 1 rfl ?_
      refine kR.iload_n dX0_bestPace_22 2 rfl ?_
      refine kR.iload dX0_bestPace_23 5 rfl ?_
      obtain ⟨v3, e4, h⟩ := bnr_some h
      refine kR.cVi [.int x1, .int x2, .int x5] dX0_bestPace_25 rfl (by decide) mwX0_155 zp27 (by decide) rfl rfl (Nat.le_of_ble_eq_true rfl) (lX0_paceWeights σ x1 x2 x5 _ e4) ?_
      refine zR.istore (i := 6) (ls' := [(6, .int v3), (0, .ref 27), (1, .int x1), (2, .int x2), (3, .int x3), (4, .int x4), (5, .int x5)]) dX0_bestPace_28 (by decide) rfl ?_
      refine kR.iload dX0_bestPace_30 0 rfl ?_
      refine kR.iload dX0_bestPace_32 5 rfl ?_
      refine kR.icmp_le (tgt := 44) dX0_bestPace_34 (by decide) h (fun h => ?_) (fun h => ?_)
      · refine zR.sub [1, 2, 3, 4, 5, 6] rfl ?_
        exact kX0_bestPace_44 σ (fX0_bestPace_14 σ f) ih _ _ _ _ _ _ h
      · refine kR.iload dX0_bestPace_37 0 rfl ?_
        refine zR.istore (i := 4) (ls' := [(4, .int v3), (6, .int v3), (0, .ref 27), (1, .int x1), (2, .int x2), (3, .int x3), (5, .int x5)]) dX0_bestPace_39 (by decide) rfl ?_
        refine kR.iload dX0_bestPace_41 6 rfl ?_
        refine zR.istore_n (i := 3) (ls' := [(3, .int x5), (4, .int v3), (6, .int v3), (0, .ref 27), (1, .int x1), (2, .int x2), (5, .int x5)]) dX0_bestPace_43 rfl (by decide) rfl ?_
        refine zR.sub [3, 4, 5, 0, 1, 6] rfl ?_
        exact kX0_bestPace_44 σ (fX0_bestPace_14 σ f) ih _ _ _ _ _ _ h
def fX0_bestPace (σ : zS) (p1 : Int32) (p2 : Int32) : Option Int32 := bnr (fX0_paceWeights σ p1 p2 1) fun v1 => fX0_bestPace_14 σ zF p1 p2 1 v1 2
theorem eX0_bestPace {sc : Nat × (Nat → Int32)} (σ : zS) (p1 : Int32) (p2 : Int32) (w : Int32) (h : fX0_bestPace σ p1 p2 = some w) : zR (zY0 sc) 5 0 0 mX0_bestPace 0 [(0, .ref 27), (1, .int p1), (2, .int p2)] [] (zE σ) (some (.int w), zE σ) := by
  unfold fX0_bestPace at h
  refine zR.iconst (v := 1) dX0_bestPace_0 (by decide) ?_
  refine zR.istore_n (i := 3) (ls' := [(3, .int 1), (0, .ref 27), (1, .int p1), (2, .int p2)]) dX0_bestPace_1 rfl (by decide) rfl ?_
  refine kR.aload_n dX0_bestPace_2 1 rfl ?_
  refine kR.iload_n dX0_bestPace_3 2 rfl ?_
  refine kR.iload_n dX0_bestPace_4 3 rfl ?_
  refine zR.iconst (v := 1) dX0_bestPace_5 (by decide) ?_
  obtain ⟨v1, e2, h⟩ := bnr_some h
  refine kR.cVi [.int p1, .int p2, .int 1] dX0_bestPace_6 rfl (by decide) mwX0_155 zp27 (by decide) rfl rfl (Nat.le_of_ble_eq_true rfl) (lX0_paceWeights σ p1 p2 1 _ e2) ?_
  refine zR.istore (i := 4) (ls' := [(4, .int v1), (3, .int 1), (0, .ref 27), (1, .int p1), (2, .int p2)]) dX0_bestPace_9 (by decide) rfl ?_
  refine zR.iconst (v := 2) dX0_bestPace_11 (by decide) ?_
  refine zR.istore (i := 5) (ls' := [(5, .int 2), (4, .int v1), (3, .int 1), (0, .ref 27), (1, .int p1), (2, .int p2)]) dX0_bestPace_12 (by decide) rfl ?_
  refine zR.sub [3, 4, 5, 2, 1, 0] rfl ?_
  exact kX0_bestPace_14 σ zF _ _ _ _ _ _ h
theorem lX0_bestPace {sc : Nat × (Nat → Int32)} (σ : zS) (p1 : Int32) (p2 : Int32) (w : Int32) (h : fX0_bestPace σ p1 p2 = some w) : zC (zY0 sc) 5 0 0 mX0_bestPace [.ref 27, .int p1, .int p2] (zE σ) (some (.int w), zE σ) := zC.of (by decide +kernel) (Nat.le_of_ble_eq_true rfl) ⟨_, rfl⟩ (eX0_bestPace σ p1 p2 w h)

/-! MY OWN (by program): X10_pace, X0_totalAmong, X0_bestToLaugh, X10_whom, X10_isSecond, X1_take, X10_faces, J6_bitCount_0f7a4, X1_fitLength, X10_fit, X2_add, X10_beginAct, X10_draw, X10_drawLength, X7_setNextTunnel, X7_addScore, X4_tiredAmong, X7_setBreath, X7_keep -/
theorem dX10_pace_0 : decode cX10_pace 0 = .ok (.aload_n 0, 1) := by decide +kernel
theorem dX10_pace_1 : decode cX10_pace 1 = .ok (.getfield 38, 3) := by decide +kernel
theorem dX10_pace_4 : decode cX10_pace 4 = .ok (.getfield 111, 3) := by decide +kernel
theorem dX10_pace_7 : decode cX10_pace 7 = .ok (.astore 4, 2) := by decide +kernel
theorem dX10_pace_9 : decode cX10_pace 9 = .ok (.aload 4, 2) := by decide +kernel
theorem dX10_pace_11 : decode cX10_pace 11 = .ok (.iload_n 1, 1) := by decide +kernel
theorem dX10_pace_12 : decode cX10_pace 12 = .ok (.invokevirtual 147, 3) := by decide +kernel
theorem dX10_pace_15 : decode cX10_pace 15 = .ok (.ifCond .eq 27, 3) := by decide +kernel
theorem dX10_pace_18 : decode cX10_pace 18 = .ok (.iload_n 2, 1) := by decide +kernel
theorem dX10_pace_19 : decode cX10_pace 19 = .ok (.ifCond .lt 23, 3) := by decide +kernel
theorem dX10_pace_22 : decode cX10_pace 22 = .ok (.iload_n 2, 1) := by decide +kernel
theorem dX10_pace_23 : decode cX10_pace 23 = .ok (.iconst 1, 1) := by decide +kernel
theorem dX10_pace_24 : decode cX10_pace 24 = .ok (.aload 4, 2) := by decide +kernel
theorem dX10_pace_26 : decode cX10_pace 26 = .ok (.getfield 131, 3) := by decide +kernel
theorem dX10_pace_29 : decode cX10_pace 29 = .ok (.ishl, 1) := by decide +kernel
theorem dX10_pace_30 : decode cX10_pace 30 = .ok (.if_icmp .ge 12, 3) := by decide +kernel
theorem dX10_pace_33 : decode cX10_pace 33 = .ok (.iload_n 3, 1) := by decide +kernel
theorem dX10_pace_34 : decode cX10_pace 34 = .ok (.ifCond .lt 8, 3) := by decide +kernel
theorem dX10_pace_37 : decode cX10_pace 37 = .ok (.iload_n 3, 1) := by decide +kernel
theorem dX10_pace_38 : decode cX10_pace 38 = .ok (.iconst 1, 1) := by decide +kernel
theorem dX10_pace_39 : decode cX10_pace 39 = .ok (.if_icmp .le 5, 3) := by decide +kernel
theorem dX10_pace_42 : decode cX10_pace 42 = .ok (.iconst (-1), 1) := by decide +kernel
theorem dX10_pace_43 : decode cX10_pace 43 = .ok (.ireturn, 1) := by decide +kernel
theorem dX10_pace_44 : decode cX10_pace 44 = .ok (.aload_n 0, 1) := by decide +kernel
theorem dX10_pace_45 : decode cX10_pace 45 = .ok (.getfield 47, 3) := by decide +kernel
theorem dX10_pace_48 : decode cX10_pace 48 = .ok (.iload_n 1, 1) := by decide +kernel
theorem dX10_pace_49 : decode cX10_pace 49 = .ok (.iload_n 2, 1) := by decide +kernel
theorem dX10_pace_50 : decode cX10_pace 50 = .ok (.invokevirtual 253, 3) := by decide +kernel
theorem dX10_pace_53 : decode cX10_pace 53 = .ok (.istore 5, 2) := by decide +kernel
theorem dX10_pace_55 : decode cX10_pace 55 = .ok (.iload_n 3, 1) := by decide +kernel
theorem dX10_pace_56 : decode cX10_pace 56 = .ok (.ifCond .ne 6, 3) := by decide +kernel
theorem dX10_pace_59 : decode cX10_pace 59 = .ok (.iload 5, 2) := by decide +kernel
theorem dX10_pace_61 : decode cX10_pace 61 = .ok (.ireturn, 1) := by decide +kernel
theorem dX10_pace_62 : decode cX10_pace 62 = .ok (.aload_n 0, 1) := by decide +kernel
theorem dX10_pace_63 : decode cX10_pace 63 = .ok (.getfield 47, 3) := by decide +kernel
theorem dX10_pace_66 : decode cX10_pace 66 = .ok (.iload_n 1, 1) := by decide +kernel
theorem dX10_pace_67 : decode cX10_pace 67 = .ok (.iload_n 2, 1) := by decide +kernel
theorem dX10_pace_68 : decode cX10_pace 68 = .ok (.iload 5, 2) := by decide +kernel
theorem dX10_pace_70 : decode cX10_pace 70 = .ok (.invokevirtual 256, 3) := by decide +kernel
theorem dX10_pace_73 : decode cX10_pace 73 = .ok (.i2l, 1) := by decide +kernel
theorem dX10_pace_74 : decode cX10_pace 74 = .ok (.aload 4, 2) := by decide +kernel
theorem dX10_pace_76 : decode cX10_pace 76 = .ok (.iload_n 1, 1) := by decide +kernel
theorem dX10_pace_77 : decode cX10_pace 77 = .ok (.invokevirtual 176, 3) := by decide +kernel
theorem dX10_pace_80 : decode cX10_pace 80 = .ok (.i2l, 1) := by decide +kernel
theorem dX10_pace_81 : decode cX10_pace 81 = .ok (.invokestatic 198, 3) := by decide +kernel
theorem dX10_pace_84 : decode cX10_pace 84 = .ok (.ireturn, 1) := by decide +kernel
def fX10_pace (σ : zS) (p1 : Int32) (p2 : Int32) (p3 : Int32) : Option Int32 := if (fX6_hasTunnel σ.2.2.2.1 σ p1) = 0 then some ((-1)) else if p2 < 0 then some ((-1)) else if (1 <<< ((iG σ (rp σ.2.2.2.1 + 0) 2) &&& 31)) ≤ p2 then some ((-1)) else if p3 < 0 then some ((-1)) else if p3 ≤ 1 then bnr (fX0_bestPace σ p1 p2) fun v1 => if p3 = 0 then some v1 else bnr (fX0_paceWeights σ p1 p2 v1) fun v3 => bnr (fX6_allWeights σ.2.2.2.1 σ p1) fun v5 => bnr (fX10_thousandths v3.toInt64 v5.toInt64) fun v7 => some v7 else some ((-1))
theorem eX10_pace {sc : Nat × (Nat → Int32)} (σ : zS) (p1 : Int32) (p2 : Int32) (p3 : Int32) (w : Int32) (h : fX10_pace σ p1 p2 p3 = some w) : zR (zY0 sc) 6 0 0 mX10_pace 0 [(0, .ref 1), (1, .int p1), (2, .int p2), (3, .int p3)] [] (zE σ) (some (.int w), zE σ) := by
  unfold fX10_pace at h
  refine kR.aload_n dX10_pace_0 0 rfl ?_
  refine kR.getR (v := 8) dX10_pace_1 flX10_38 zcf10 zp1 (Or.inl ⟨_, rfl⟩) rfl ?_
  refine kR.getR (v := (rp σ.2.2.2.1 + 0)) dX10_pace_4 flX10_111 zcf4 zp8 (Or.inl ⟨_, rfl⟩) rfl ?_
  refine zR.astore (i := 4) (ls' := [(4, .ref (rp σ.2.2.2.1 + 0)), (0, .ref 1), (1, .int p1), (2, .int p2), (3, .int p3)]) dX10_pace_7 (by decide) rfl ?_
  refine kR.aload dX10_pace_9 0 rfl ?_
  refine kR.iload_n dX10_pace_11 2 rfl ?_
  refine kR.cVi [.int p1] dX10_pace_12 rfl (by decide) mwX10_147 (zq0 σ.2.2.2.1) (by decide) rfl rfl (Nat.le_of_ble_eq_true rfl) (lX6_hasTunnel σ.2.2.2.1 σ p1) ?_
  refine kR.if_eq (tgt := 42) dX10_pace_15 (by decide) h (fun h => ?_) (fun h => ?_)
  · refine zR.iconst (v := (-1)) dX10_pace_42 (by decide) ?_
    exact kR.iretO dX10_pace_43 (nzI rfl _) h
  · refine kR.iload_n dX10_pace_18 3 rfl ?_
    refine kR.if_lt (tgt := 42) dX10_pace_19 (by decide) h (fun h => ?_) (fun h => ?_)
    · refine zR.iconst (v := (-1)) dX10_pace_42 (by decide) ?_
      exact kR.iretO dX10_pace_43 (nzI rfl _) h
    · refine kR.iload_n dX10_pace_22 3 rfl ?_
      refine zR.iconst (v := 1) dX10_pace_23 (by decide) ?_
      refine kR.aload dX10_pace_24 0 rfl ?_
      refine kR.getI dX10_pace_26 flX10_131 zcf6 (zq0 σ.2.2.2.1) (Or.inl rfl) ?_
      refine zR.ishl dX10_pace_29 ?_
      refine kR.icmp_ge (tgt := 42) dX10_pace_30 (by decide) h (fun h => ?_) (fun h => ?_)
      · refine zR.iconst (v := (-1)) dX10_pace_42 (by decide) ?_
        exact kR.iretO dX10_pace_43 (nzI rfl _) h
      · refine kR.iload_n dX10_pace_33 4 rfl ?_
        refine kR.if_lt (tgt := 42) dX10_pace_34 (by decide) h (fun h => ?_) (fun h => ?_)
        · refine zR.iconst (v := (-1)) dX10_pace_42 (by decide) ?_
          exact kR.iretO dX10_pace_43 (nzI rfl _) h
        · refine kR.iload_n dX10_pace_37 4 rfl ?_
          refine zR.iconst (v := 1) dX10_pace_38 (by decide) ?_
          refine kR.icmp_le (tgt := 44) dX10_pace_39 (by decide) h (fun h => ?_) (fun h => ?_)
          · refine kR.aload_n dX10_pace_44 1 rfl ?_
            refine kR.getR (v := 27) dX10_pace_45 flX10_47 zcf10 zp1 (Or.inl ⟨_, rfl⟩) rfl ?_
            refine kR.iload_n dX10_pace_48 2 rfl ?_
            refine kR.iload_n dX10_pace_49 3 rfl ?_
            obtain ⟨v1, e2, h⟩ := bnr_some h
            refine kR.cVi [.int p1, .int p2] dX10_pace_50 rfl (by decide) mwX10_253 zp27 (by decide) rfl rfl (Nat.le_of_ble_eq_true rfl) (lX0_bestPace σ p1 p2 _ e2) ?_
            refine zR.istore (i := 5) (ls' := [(5, .int v1), (4, .ref (rp σ.2.2.2.1 + 0)), (0, .ref 1), (1, .int p1), (2, .int p2), (3, .int p3)]) dX10_pace_53 (by decide) rfl ?_
            refine kR.iload_n dX10_pace_55 5 rfl ?_
            refine kR.if_ne (tgt := 62) dX10_pace_56 (by decide) h (fun h => ?_) (fun h => ?_)
            · refine kR.aload_n dX10_pace_62 2 rfl ?_
              refine kR.getR (v := 27) dX10_pace_63 flX10_47 zcf10 zp1 (Or.inl ⟨_, rfl⟩) rfl ?_
              refine kR.iload_n dX10_pace_66 3 rfl ?_
              refine kR.iload_n dX10_pace_67 4 rfl ?_
              refine kR.iload dX10_pace_68 0 rfl ?_
              obtain ⟨v3, e4, h⟩ := bnr_some h
              refine kR.cVi [.int p1, .int p2, .int v1] dX10_pace_70 rfl (by decide) mwX10_256 zp27 (by decide) rfl rfl (Nat.le_of_ble_eq_true rfl) (lX0_paceWeights σ p1 p2 v1 _ e4) ?_
              refine zR.i2l dX10_pace_73 ?_
              refine kR.aload dX10_pace_74 1 rfl ?_
              refine kR.iload_n dX10_pace_76 3 rfl ?_
              obtain ⟨v5, e6, h⟩ := bnr_some h
              refine kR.cVi [.int p1] dX10_pace_77 rfl (by decide) mwX10_176 (zq0 σ.2.2.2.1) (by decide) rfl rfl (Nat.le_of_ble_eq_true rfl) (lX6_allWeights σ.2.2.2.1 σ p1 _ e6) ?_
              refine zR.i2l dX10_pace_80 ?_
              obtain ⟨v7, e8, h⟩ := bnr_some h
              refine kR.cSi [.long (v3.toInt64), .long (v5.toInt64)] dX10_pace_81 rfl (by decide) (Or.inl mwX10_198) rfl (Nat.le_of_ble_eq_true rfl) (lX10_thousandths v3.toInt64 v5.toInt64 _ e8) ?_
              exact kR.iretO dX10_pace_84 (nzI rfl _) h
            · refine kR.iload dX10_pace_59 0 rfl ?_
              exact kR.iretO dX10_pace_61 (nzI rfl _) h
          · refine zR.iconst (v := (-1)) dX10_pace_42 (by decide) ?_
            exact kR.iretO dX10_pace_43 (nzI rfl _) h
theorem lX10_pace {sc : Nat × (Nat → Int32)} (σ : zS) (p1 : Int32) (p2 : Int32) (p3 : Int32) (w : Int32) (h : fX10_pace σ p1 p2 p3 = some w) : zC (zY0 sc) 6 0 0 mX10_pace [.ref 1, .int p1, .int p2, .int p3] (zE σ) (some (.int w), zE σ) := zC.of (by decide +kernel) (Nat.le_of_ble_eq_true rfl) ⟨_, rfl⟩ (eX10_pace σ p1 p2 p3 w h)
theorem dX0_totalAmong_0 : decode cX0_totalAmong 0 = .ok (.lconst 0, 1) := by decide +kernel
theorem dX0_totalAmong_1 : decode cX0_totalAmong 1 = .ok (.lstore 4, 2) := by decide +kernel
theorem dX0_totalAmong_3 : decode cX0_totalAmong 3 = .ok (.iconst 0, 1) := by decide +kernel
theorem dX0_totalAmong_4 : decode cX0_totalAmong 4 = .ok (.istore 6, 2) := by decide +kernel
theorem dX0_totalAmong_6 : decode cX0_totalAmong 6 = .ok (.iload 6, 2) := by decide +kernel
theorem dX0_totalAmong_8 : decode cX0_totalAmong 8 = .ok (.aload_n 0, 1) := by decide +kernel
theorem dX0_totalAmong_9 : decode cX0_totalAmong 9 = .ok (.getfield 51, 3) := by decide +kernel
theorem dX0_totalAmong_12 : decode cX0_totalAmong 12 = .ok (.getfield 55, 3) := by decide +kernel
theorem dX0_totalAmong_15 : decode cX0_totalAmong 15 = .ok (.getfield 92, 3) := by decide +kernel
theorem dX0_totalAmong_18 : decode cX0_totalAmong 18 = .ok (.iload_n 2, 1) := by decide +kernel
theorem dX0_totalAmong_19 : decode cX0_totalAmong 19 = .ok (.iaload, 1) := by decide +kernel
theorem dX0_totalAmong_20 : decode cX0_totalAmong 20 = .ok (.if_icmp .ge 90, 3) := by decide +kernel
theorem dX0_totalAmong_23 : decode cX0_totalAmong 23 = .ok (.aload_n 0, 1) := by decide +kernel
theorem dX0_totalAmong_24 : decode cX0_totalAmong 24 = .ok (.getfield 51, 3) := by decide +kernel
theorem dX0_totalAmong_27 : decode cX0_totalAmong 27 = .ok (.getfield 55, 3) := by decide +kernel
theorem dX0_totalAmong_30 : decode cX0_totalAmong 30 = .ok (.iload_n 2, 1) := by decide +kernel
theorem dX0_totalAmong_31 : decode cX0_totalAmong 31 = .ok (.iload 6, 2) := by decide +kernel
theorem dX0_totalAmong_33 : decode cX0_totalAmong 33 = .ok (.invokevirtual 99, 3) := by decide +kernel
theorem dX0_totalAmong_36 : decode cX0_totalAmong 36 = .ok (.istore 7, 2) := by decide +kernel
theorem dX0_totalAmong_38 : decode cX0_totalAmong 38 = .ok (.aload_n 0, 1) := by decide +kernel
theorem dX0_totalAmong_39 : decode cX0_totalAmong 39 = .ok (.getfield 51, 3) := by decide +kernel
theorem dX0_totalAmong_42 : decode cX0_totalAmong 42 = .ok (.iload_n 2, 1) := by decide +kernel
theorem dX0_totalAmong_43 : decode cX0_totalAmong 43 = .ok (.iload 7, 2) := by decide +kernel
theorem dX0_totalAmong_45 : decode cX0_totalAmong 45 = .ok (.invokevirtual 168, 3) := by decide +kernel
theorem dX0_totalAmong_48 : decode cX0_totalAmong 48 = .ok (.aload_n 0, 1) := by decide +kernel
theorem dX0_totalAmong_49 : decode cX0_totalAmong 49 = .ok (.getfield 51, 3) := by decide +kernel
theorem dX0_totalAmong_52 : decode cX0_totalAmong 52 = .ok (.getfield 55, 3) := by decide +kernel
theorem dX0_totalAmong_55 : decode cX0_totalAmong 55 = .ok (.iload_n 3, 1) := by decide +kernel
theorem dX0_totalAmong_56 : decode cX0_totalAmong 56 = .ok (.invokevirtual 172, 3) := by decide +kernel
theorem dX0_totalAmong_59 : decode cX0_totalAmong 59 = .ok (.ifCond .eq 13, 3) := by decide +kernel
theorem dX0_totalAmong_62 : decode cX0_totalAmong 62 = .ok (.aload_n 0, 1) := by decide +kernel
theorem dX0_totalAmong_63 : decode cX0_totalAmong 63 = .ok (.getfield 51, 3) := by decide +kernel
theorem dX0_totalAmong_66 : decode cX0_totalAmong 66 = .ok (.getfield 140, 3) := by decide +kernel
theorem dX0_totalAmong_69 : decode cX0_totalAmong 69 = .ok (.iload_n 3, 1) := by decide +kernel
theorem dX0_totalAmong_70 : decode cX0_totalAmong 70 = .ok (.iconst 0, 1) := by decide +kernel
theorem dX0_totalAmong_71 : decode cX0_totalAmong 71 = .ok (.iastore, 1) := by decide +kernel
theorem dX0_totalAmong_72 : decode cX0_totalAmong 72 = .ok (.lload 4, 2) := by decide +kernel
theorem dX0_totalAmong_74 : decode cX0_totalAmong 74 = .ok (.aload_n 0, 1) := by decide +kernel
theorem dX0_totalAmong_75 : decode cX0_totalAmong 75 = .ok (.getfield 51, 3) := by decide +kernel
theorem dX0_totalAmong_78 : decode cX0_totalAmong 78 = .ok (.getfield 55, 3) := by decide +kernel
theorem dX0_totalAmong_81 : decode cX0_totalAmong 81 = .ok (.iload_n 2, 1) := by decide +kernel
theorem dX0_totalAmong_82 : decode cX0_totalAmong 82 = .ok (.iload 6, 2) := by decide +kernel
theorem dX0_totalAmong_84 : decode cX0_totalAmong 84 = .ok (.invokevirtual 102, 3) := by decide +kernel
theorem dX0_totalAmong_87 : decode cX0_totalAmong 87 = .ok (.i2l, 1) := by decide +kernel
theorem dX0_totalAmong_88 : decode cX0_totalAmong 88 = .ok (.aload_n 0, 1) := by decide +kernel
theorem dX0_totalAmong_89 : decode cX0_totalAmong 89 = .ok (.getfield 51, 3) := by decide +kernel
theorem dX0_totalAmong_92 : decode cX0_totalAmong 92 = .ok (.iload_n 1, 1) := by decide +kernel
theorem dX0_totalAmong_93 : decode cX0_totalAmong 93 = .ok (.iload_n 2, 1) := by decide +kernel
theorem dX0_totalAmong_94 : decode cX0_totalAmong 94 = .ok (.iload 7, 2) := by decide +kernel
theorem dX0_totalAmong_96 : decode cX0_totalAmong 96 = .ok (.invokevirtual 143, 3) := by decide +kernel
theorem dX0_totalAmong_99 : decode cX0_totalAmong 99 = .ok (.i2l, 1) := by decide +kernel
theorem dX0_totalAmong_100 : decode cX0_totalAmong 100 = .ok (.lmul, 1) := by decide +kernel
theorem dX0_totalAmong_101 : decode cX0_totalAmong 101 = .ok (.ladd, 1) := by decide +kernel
theorem dX0_totalAmong_102 : decode cX0_totalAmong 102 = .ok (.lstore 4, 2) := by decide +kernel
theorem dX0_totalAmong_104 : decode cX0_totalAmong 104 = .ok (.iinc 6 1, 3) := by decide +kernel
theorem dX0_totalAmong_107 : decode cX0_totalAmong 107 = .ok (.goto (-101), 3) := by decide +kernel
theorem dX0_totalAmong_110 : decode cX0_totalAmong 110 = .ok (.lload 4, 2) := by decide +kernel
theorem dX0_totalAmong_112 : decode cX0_totalAmong 112 = .ok (.lreturn, 1) := by decide +kernel
def fX0_totalAmong_72 (r6 : Int32 → Int32 → Int32 → Int64 → Int32 → zS → Option (Int64 × zS)) (x1 : Int32) (x2 : Int32) (x3 : Int32) (x4 : Int64) (x6 : Int32) (x7 : Int32) (σ : zS) : Option (Int64 × zS) := bnr (fX6_weightAt σ.2.2.2.1 σ x2 x6) fun v6 => bnc (fX4_worthAmong x1 x2 x7 σ) fun v10 σ8 => r6 x1 x2 x3 (x4 + (v6.toInt64 * v10.toInt64)) (x6 + 1) σ8
theorem kX0_totalAmong_72 {sc : Nat × (Nat → Int32)} (r6 : Int32 → Int32 → Int32 → Int64 → Int32 → zS → Option (Int64 × zS)) (hr6 : ∀ (x1 : Int32) (x2 : Int32) (x3 : Int32) (x4 : Int64) (x6 : Int32) (σ : zS) (w : Int64 × zS), r6 x1 x2 x3 x4 x6 σ = some w → zR (zY0 sc) 5 0 0 mX0_totalAmong 6 [(0, .ref 27), (1, .int x1), (2, .int x2), (3, .int x3), (4, .long x4), (6, .int x6)] [] (zE σ) (some (.long w.1), zE w.2)) (x1 : Int32) (x2 : Int32) (x3 : Int32) (x4 : Int64) (x6 : Int32) (x7 : Int32) (σ : zS) (w : Int64 × zS) (h : fX0_totalAmong_72 r6 x1 x2 x3 x4 x6 x7 σ = some w) : zR (zY0 sc) 5 0 0 mX0_totalAmong 72 [(0, .ref 27), (1, .int x1), (2, .int x2), (3, .int x3), (4, .long x4), (6, .int x6), (7, .int x7)] [] (zE σ) (some (.long w.1), zE w.2) := by
  unfold fX0_totalAmong_72 at h
  refine kR.lload dX0_totalAmong_72 4 rfl ?_
  refine kR.aload_n dX0_totalAmong_74 0 rfl ?_
  refine kR.getR (v := 8) dX0_totalAmong_75 flX0_51 zcf0 zp27 (Or.inl ⟨_, rfl⟩) rfl ?_
  refine kR.getR (v := (rp σ.2.2.2.1 + 0)) dX0_totalAmong_78 flX0_55 zcf4 zp8 (Or.inl ⟨_, rfl⟩) rfl ?_
  refine kR.iload_n dX0_totalAmong_81 2 rfl ?_
  refine kR.iload dX0_totalAmong_82 5 rfl ?_
  obtain ⟨v6, e7, h⟩ := bnr_some h
  refine kR.cVi [.int x2, .int x6] dX0_totalAmong_84 rfl (by decide) mwX0_102 (zq0 σ.2.2.2.1) (by decide) rfl rfl (Nat.le_of_ble_eq_true rfl) (lX6_weightAt σ.2.2.2.1 σ x2 x6 _ e7) ?_
  refine zR.i2l dX0_totalAmong_87 ?_
  refine kR.aload_n dX0_totalAmong_88 0 rfl ?_
  refine kR.getR (v := 8) dX0_totalAmong_89 flX0_51 zcf0 zp27 (Or.inl ⟨_, rfl⟩) rfl ?_
  refine kR.iload_n dX0_totalAmong_92 1 rfl ?_
  refine kR.iload_n dX0_totalAmong_93 2 rfl ?_
  refine kR.iload dX0_totalAmong_94 6 rfl ?_
  obtain ⟨v10, σ8, e9, h⟩ := bnc_some h
  refine kR.cVi [.int x1, .int x2, .int x7] dX0_totalAmong_96 rfl (by decide) mwX0_143 zp8 (by decide) rfl rfl (Nat.le_of_ble_eq_true rfl) (lX4_worthAmong x1 x2 x7 σ _ e9) ?_
  refine zR.i2l dX0_totalAmong_99 ?_
  refine zR.lmul dX0_totalAmong_100 ?_
  refine zR.ladd dX0_totalAmong_101 ?_
  refine zR.lstore (i := 4) (ls' := [(4, .long (x4 + (v6.toInt64 * v10.toInt64))), (0, .ref 27), (1, .int x1), (2, .int x2), (3, .int x3), (6, .int x6), (7, .int x7)]) dX0_totalAmong_102 (by decide) rfl ?_
  refine zR.iinc 5 (v := x6 + 1) (ls' := [(6, .int (x6 + 1)), (4, .long (x4 + (v6.toInt64 * v10.toInt64))), (0, .ref 27), (1, .int x1), (2, .int x2), (3, .int x3), (7, .int x7)]) dX0_totalAmong_104 rfl rfl (by decide) rfl ?_
  refine zR.goto (tgt := 6) dX0_totalAmong_107 (by decide) ?_
  refine zR.sub [2, 3, 4, 5, 1, 0] rfl ?_
  exact hr6 _ _ _ _ _ _ _ h
def fX0_totalAmong_6 : Nat → Int32 → Int32 → Int32 → Int64 → Int32 → zS → Option (Int64 × zS)
  | 0, _, _, _, _, _, _ => none
  | f + 1, x1, x2, x3, x4, x6, σ => aI σ (rp σ.2.2.2.1 + 3) 6 x2 fun v1 => if v1 ≤ x6 then some (x4, σ) else bnr (fX6_lengthAt σ.2.2.2.1 σ x2 x6) fun v2 => bnr (fX4_allHold x2 v2 σ) fun σ4 => if (fX6_hasHolder σ4.2.2.2.1 σ4 x3) = 0 then fX0_totalAmong_72 (fX0_totalAmong_6 f) x1 x2 x3 x4 x6 v2 σ4 else wI σ4 25 6 x3 0 fun σ11 => fX0_totalAmong_72 (fX0_totalAmong_6 f) x1 x2 x3 x4 x6 v2 σ11
theorem kX0_totalAmong_6 {sc : Nat × (Nat → Int32)} : ∀ (fuel : Nat) (x1 : Int32) (x2 : Int32) (x3 : Int32) (x4 : Int64) (x6 : Int32) (σ : zS) (w : Int64 × zS) (h : fX0_totalAmong_6 fuel x1 x2 x3 x4 x6 σ = some w), zR (zY0 sc) 5 0 0 mX0_totalAmong 6 [(0, .ref 27), (1, .int x1), (2, .int x2), (3, .int x3), (4, .long x4), (6, .int x6)] [] (zE σ) (some (.long w.1), zE w.2) := by
  intro fuel
  induction fuel with
  | zero => intro x1 x2 x3 x4 x6 σ w h; exact nomatch h
  | succ f ih =>
    intro x1 x2 x3 x4 x6 σ w h
    rw [fX0_totalAmong_6] at h
    refine kR.iload dX0_totalAmong_6 5 rfl ?_
    refine kR.aload_n dX0_totalAmong_8 0 rfl ?_
    refine kR.getR (v := 8) dX0_totalAmong_9 flX0_51 zcf0 zp27 (Or.inl ⟨_, rfl⟩) rfl ?_
    refine kR.getR (v := (rp σ.2.2.2.1 + 0)) dX0_totalAmong_12 flX0_55 zcf4 zp8 (Or.inl ⟨_, rfl⟩) rfl ?_
    refine kR.getR (v := (rp σ.2.2.2.1 + 3)) dX0_totalAmong_15 flX0_92 zcf6 (zq0 σ.2.2.2.1) (Or.inr ⟨_, rfl⟩) (zr0_7 _ σ.2.2.2.1) ?_
    refine kR.iload_n dX0_totalAmong_18 2 rfl ?_
    refine kR.iald dX0_totalAmong_19 (zq3 σ.2.2.2.1) (zl3 σ.2.2.2.1) h (fun v1 h => ?_)
    refine kR.icmp_ge (tgt := 110) dX0_totalAmong_20 (by decide) h (fun h => ?_) (fun h => ?_)
    · refine kR.lload dX0_totalAmong_110 4 rfl ?_
      exact kR.lretW dX0_totalAmong_112 h
    · refine kR.aload_n dX0_totalAmong_23 0 rfl ?_
      refine kR.getR (v := 8) dX0_totalAmong_24 flX0_51 zcf0 zp27 (Or.inl ⟨_, rfl⟩) rfl ?_
      refine kR.getR (v := (rp σ.2.2.2.1 + 0)) dX0_totalAmong_27 flX0_55 zcf4 zp8 (Or.inl ⟨_, rfl⟩) rfl ?_
      refine kR.iload_n dX0_totalAmong_30 2 rfl ?_
      refine kR.iload dX0_totalAmong_31 5 rfl ?_
      obtain ⟨v2, e3, h⟩ := bnr_some h
      refine kR.cVi [.int x2, .int x6] dX0_totalAmong_33 rfl (by decide) mwX0_99 (zq0 σ.2.2.2.1) (by decide) rfl rfl (Nat.le_of_ble_eq_true rfl) (lX6_lengthAt σ.2.2.2.1 σ x2 x6 _ e3) ?_
      refine zR.istore (i := 7) (ls' := [(7, .int v2), (0, .ref 27), (1, .int x1), (2, .int x2), (3, .int x3), (4, .long x4), (6, .int x6)]) dX0_totalAmong_36 (by decide) rfl ?_
      refine kR.aload_n dX0_totalAmong_38 1 rfl ?_
      refine kR.getR (v := 8) dX0_totalAmong_39 flX0_51 zcf0 zp27 (Or.inl ⟨_, rfl⟩) rfl ?_
      refine kR.iload_n dX0_totalAmong_42 3 rfl ?_
      refine kR.iload dX0_totalAmong_43 0 rfl ?_
      obtain ⟨σ4, e5, h⟩ := bnr_some h
      refine kR.cVv [.int x2, .int v2] dX0_totalAmong_45 rfl (by decide) mwX0_168 zp8 (by decide) rfl rfl (Nat.le_of_ble_eq_true rfl) (lX4_allHold x2 v2 σ _ e5) ?_
      refine kR.aload_n dX0_totalAmong_48 1 rfl ?_
      refine kR.getR (v := 8) dX0_totalAmong_49 flX0_51 zcf0 zp27 (Or.inl ⟨_, rfl⟩) rfl ?_
      refine kR.getR (v := (rp σ4.2.2.2.1 + 0)) dX0_totalAmong_52 flX0_55 zcf4 zp8 (Or.inl ⟨_, rfl⟩) rfl ?_
      refine kR.iload_n dX0_totalAmong_55 4 rfl ?_
      refine kR.cVi [.int x3] dX0_totalAmong_56 rfl (by decide) mwX0_172 (zq0 σ4.2.2.2.1) (by decide) rfl rfl (Nat.le_of_ble_eq_true rfl) (lX6_hasHolder σ4.2.2.2.1 σ4 x3) ?_
      refine kR.if_eq (tgt := 72) dX0_totalAmong_59 (by decide) h (fun h => ?_) (fun h => ?_)
      · refine zR.sub [1, 2, 3, 4, 5, 6, 0] rfl ?_
        exact kX0_totalAmong_72 (fX0_totalAmong_6 f) ih _ _ _ _ _ _ _ _ h
      · refine kR.aload_n dX0_totalAmong_62 1 rfl ?_
        refine kR.getR (v := 8) dX0_totalAmong_63 flX0_51 zcf0 zp27 (Or.inl ⟨_, rfl⟩) rfl ?_
        refine kR.getR (v := 25) dX0_totalAmong_66 flX0_140 zcf4 zp8 (Or.inr ⟨_, rfl⟩) rfl ?_
        refine kR.iload_n dX0_totalAmong_69 4 rfl ?_
        refine zR.iconst (v := 0) dX0_totalAmong_70 (by decide) ?_
        refine kR.iast dX0_totalAmong_71 zp25 rfl h (fun σ11 h => ?_)
        refine zR.sub [1, 2, 3, 4, 5, 6, 0] rfl ?_
        exact kX0_totalAmong_72 (fX0_totalAmong_6 f) ih _ _ _ _ _ _ _ _ h
def fX0_totalAmong (p1 : Int32) (p2 : Int32) (p3 : Int32) (σ : zS) : Option (Int64 × zS) := fX0_totalAmong_6 zF p1 p2 p3 0 0 σ
theorem eX0_totalAmong {sc : Nat × (Nat → Int32)} (p1 : Int32) (p2 : Int32) (p3 : Int32) (σ : zS) (w : Int64 × zS) (h : fX0_totalAmong p1 p2 p3 σ = some w) : zR (zY0 sc) 5 0 0 mX0_totalAmong 0 [(0, .ref 27), (1, .int p1), (2, .int p2), (3, .int p3)] [] (zE σ) (some (.long w.1), zE w.2) := by
  unfold fX0_totalAmong at h
  refine zR.lconst (v := 0) dX0_totalAmong_0 (by decide) ?_
  refine zR.lstore (i := 4) (ls' := [(4, .long 0), (0, .ref 27), (1, .int p1), (2, .int p2), (3, .int p3)]) dX0_totalAmong_1 (by decide) rfl ?_
  refine zR.iconst (v := 0) dX0_totalAmong_3 (by decide) ?_
  refine zR.istore (i := 6) (ls' := [(6, .int 0), (4, .long 0), (0, .ref 27), (1, .int p1), (2, .int p2), (3, .int p3)]) dX0_totalAmong_4 (by decide) rfl ?_
  refine zR.sub [2, 3, 4, 5, 1, 0] rfl ?_
  exact kX0_totalAmong_6 zF _ _ _ _ _ _ _ h
theorem lX0_totalAmong {sc : Nat × (Nat → Int32)} (p1 : Int32) (p2 : Int32) (p3 : Int32) (σ : zS) (w : Int64 × zS) (h : fX0_totalAmong p1 p2 p3 σ = some w) : zC (zY0 sc) 5 0 0 mX0_totalAmong [.ref 27, .int p1, .int p2, .int p3] (zE σ) (some (.long w.1), zE w.2) := zC.of (by decide +kernel) (Nat.le_of_ble_eq_true rfl) rfl (eX0_totalAmong p1 p2 p3 σ w h)
theorem dX0_bestToLaugh_0 : decode cX0_bestToLaugh 0 = .ok (.iconst (-1), 1) := by decide +kernel
theorem dX0_bestToLaugh_1 : decode cX0_bestToLaugh 1 = .ok (.istore_n 3, 1) := by decide +kernel
theorem dX0_bestToLaugh_2 : decode cX0_bestToLaugh 2 = .ok (.aload_n 0, 1) := by decide +kernel
theorem dX0_bestToLaugh_3 : decode cX0_bestToLaugh 3 = .ok (.iload_n 1, 1) := by decide +kernel
theorem dX0_bestToLaugh_4 : decode cX0_bestToLaugh 4 = .ok (.iload_n 2, 1) := by decide +kernel
theorem dX0_bestToLaugh_5 : decode cX0_bestToLaugh 5 = .ok (.iconst (-1), 1) := by decide +kernel
theorem dX0_bestToLaugh_6 : decode cX0_bestToLaugh 6 = .ok (.invokevirtual 164, 3) := by decide +kernel
theorem dX0_bestToLaugh_9 : decode cX0_bestToLaugh 9 = .ok (.lstore 4, 2) := by decide +kernel
theorem dX0_bestToLaugh_11 : decode cX0_bestToLaugh 11 = .ok (.iconst 0, 1) := by decide +kernel
theorem dX0_bestToLaugh_12 : decode cX0_bestToLaugh 12 = .ok (.istore 6, 2) := by decide +kernel
theorem dX0_bestToLaugh_14 : decode cX0_bestToLaugh 14 = .ok (.iload 6, 2) := by decide +kernel
theorem dX0_bestToLaugh_16 : decode cX0_bestToLaugh 16 = .ok (.aload_n 0, 1) := by decide +kernel
theorem dX0_bestToLaugh_17 : decode cX0_bestToLaugh 17 = .ok (.getfield 51, 3) := by decide +kernel
theorem dX0_bestToLaugh_20 : decode cX0_bestToLaugh 20 = .ok (.getfield 55, 3) := by decide +kernel
theorem dX0_bestToLaugh_23 : decode cX0_bestToLaugh 23 = .ok (.getfield 121, 3) := by decide +kernel
theorem dX0_bestToLaugh_26 : decode cX0_bestToLaugh 26 = .ok (.if_icmp .ge 40, 3) := by decide +kernel
theorem dX0_bestToLaugh_29 : decode cX0_bestToLaugh 29 = .ok (.iload 6, 2) := by decide +kernel
theorem dX0_bestToLaugh_31 : decode cX0_bestToLaugh 31 = .ok (.iload_n 1, 1) := by decide +kernel
theorem dX0_bestToLaugh_32 : decode cX0_bestToLaugh 32 = .ok (.if_icmp .eq 28, 3) := by decide +kernel
theorem dX0_bestToLaugh_35 : decode cX0_bestToLaugh 35 = .ok (.aload_n 0, 1) := by decide +kernel
theorem dX0_bestToLaugh_36 : decode cX0_bestToLaugh 36 = .ok (.iload_n 1, 1) := by decide +kernel
theorem dX0_bestToLaugh_37 : decode cX0_bestToLaugh 37 = .ok (.iload_n 2, 1) := by decide +kernel
theorem dX0_bestToLaugh_38 : decode cX0_bestToLaugh 38 = .ok (.iload 6, 2) := by decide +kernel
theorem dX0_bestToLaugh_40 : decode cX0_bestToLaugh 40 = .ok (.invokevirtual 164, 3) := by decide +kernel
theorem dX0_bestToLaugh_43 : decode cX0_bestToLaugh 43 = .ok (.lstore 7, 2) := by decide +kernel
theorem dX0_bestToLaugh_45 : decode cX0_bestToLaugh 45 = .ok (.lload 7, 2) := by decide +kernel
theorem dX0_bestToLaugh_47 : decode cX0_bestToLaugh 47 = .ok (.lload 4, 2) := by decide +kernel
theorem dX0_bestToLaugh_49 : decode cX0_bestToLaugh 49 = .ok (.lcmp, 1) := by decide +kernel
theorem dX0_bestToLaugh_50 : decode cX0_bestToLaugh 50 = .ok (.ifCond .le 10, 3) := by decide +kernel
theorem dX0_bestToLaugh_53 : decode cX0_bestToLaugh 53 = .ok (.lload 7, 2) := by decide +kernel
theorem dX0_bestToLaugh_55 : decode cX0_bestToLaugh 55 = .ok (.lstore 4, 2) := by decide +kernel
theorem dX0_bestToLaugh_57 : decode cX0_bestToLaugh 57 = .ok (.iload 6, 2) := by decide +kernel
theorem dX0_bestToLaugh_59 : decode cX0_bestToLaugh 59 = .ok (.istore_n 3, 1) := by decide +kernel
theorem dX0_bestToLaugh_60 : decode cX0_bestToLaugh 60 = .ok (.iinc 6 1, 3) := by decide +kernel
theorem dX0_bestToLaugh_63 : decode cX0_bestToLaugh 63 = .ok (.goto (-49), 3) := by decide +kernel
theorem dX0_bestToLaugh_66 : decode cX0_bestToLaugh 66 = .ok (.iload_n 3, 1) := by decide +kernel
theorem dX0_bestToLaugh_67 : decode cX0_bestToLaugh 67 = .ok (.ireturn, 1) := by decide +kernel
def fX0_bestToLaugh_60 (r14 : Int32 → Int32 → Int32 → Int64 → Int32 → zS → Option (Int32 × zS)) (x1 : Int32) (x2 : Int32) (x3 : Int32) (x4 : Int64) (x6 : Int32) (σ : zS) : Option (Int32 × zS) := r14 x1 x2 x3 x4 (x6 + 1) σ
theorem kX0_bestToLaugh_60 {sc : Nat × (Nat → Int32)} (r14 : Int32 → Int32 → Int32 → Int64 → Int32 → zS → Option (Int32 × zS)) (hr14 : ∀ (x1 : Int32) (x2 : Int32) (x3 : Int32) (x4 : Int64) (x6 : Int32) (σ : zS) (w : Int32 × zS), r14 x1 x2 x3 x4 x6 σ = some w → zR (zY0 sc) 6 0 0 mX0_bestToLaugh 14 [(0, .ref 27), (1, .int x1), (2, .int x2), (3, .int x3), (4, .long x4), (6, .int x6)] [] (zE σ) (some (.int w.1), zE w.2)) (x1 : Int32) (x2 : Int32) (x3 : Int32) (x4 : Int64) (x6 : Int32) (σ : zS) (w : Int32 × zS) (h : fX0_bestToLaugh_60 r14 x1 x2 x3 x4 x6 σ = some w) : zR (zY0 sc) 6 0 0 mX0_bestToLaugh 60 [(0, .ref 27), (1, .int x1), (2, .int x2), (3, .int x3), (4, .long x4), (6, .int x6)] [] (zE σ) (some (.int w.1), zE w.2) := by
  unfold fX0_bestToLaugh_60 at h
  refine zR.iinc 5 (v := x6 + 1) (ls' := [(6, .int (x6 + 1)), (0, .ref 27), (1, .int x1), (2, .int x2), (3, .int x3), (4, .long x4)]) dX0_bestToLaugh_60 rfl rfl (by decide) rfl ?_
  refine zR.goto (tgt := 14) dX0_bestToLaugh_63 (by decide) ?_
  refine zR.sub [1, 2, 3, 4, 5, 0] rfl ?_
  exact hr14 _ _ _ _ _ _ _ h
def fX0_bestToLaugh_14 : Nat → Int32 → Int32 → Int32 → Int64 → Int32 → zS → Option (Int32 × zS)
  | 0, _, _, _, _, _, _ => none
  | f + 1, x1, x2, x3, x4, x6, σ => if (iG σ (rp σ.2.2.2.1 + 0) 2) ≤ x6 then some (x3, σ) else if x6 = x1 then fX0_bestToLaugh_60 (fX0_bestToLaugh_14 f) x1 x2 x3 x4 x6 σ else bnc (fX0_totalAmong x1 x2 x6 σ) fun v6 σ4 => if v6 ≤ x4 then fX0_bestToLaugh_60 (fX0_bestToLaugh_14 f) x1 x2 x3 x4 x6 σ4 else fX0_bestToLaugh_60 (fX0_bestToLaugh_14 f) x1 x2 x6 v6 x6 σ4
theorem kX0_bestToLaugh_14 {sc : Nat × (Nat → Int32)} : ∀ (fuel : Nat) (x1 : Int32) (x2 : Int32) (x3 : Int32) (x4 : Int64) (x6 : Int32) (σ : zS) (w : Int32 × zS) (h : fX0_bestToLaugh_14 fuel x1 x2 x3 x4 x6 σ = some w), zR (zY0 sc) 6 0 0 mX0_bestToLaugh 14 [(0, .ref 27), (1, .int x1), (2, .int x2), (3, .int x3), (4, .long x4), (6, .int x6)] [] (zE σ) (some (.int w.1), zE w.2) := by
  intro fuel
  induction fuel with
  | zero => intro x1 x2 x3 x4 x6 σ w h; exact nomatch h
  | succ f ih =>
    intro x1 x2 x3 x4 x6 σ w h
    rw [fX0_bestToLaugh_14] at h
    refine kR.iload dX0_bestToLaugh_14 5 rfl ?_
    refine kR.aload_n dX0_bestToLaugh_16 0 rfl ?_
    refine kR.getR (v := 8) dX0_bestToLaugh_17 flX0_51 zcf0 zp27 (Or.inl ⟨_, rfl⟩) rfl ?_
    refine kR.getR (v := (rp σ.2.2.2.1 + 0)) dX0_bestToLaugh_20 flX0_55 zcf4 zp8 (Or.inl ⟨_, rfl⟩) rfl ?_
    refine kR.getI dX0_bestToLaugh_23 flX0_121 zcf6 (zq0 σ.2.2.2.1) (Or.inl rfl) ?_
    refine kR.icmp_ge (tgt := 66) dX0_bestToLaugh_26 (by decide) h (fun h => ?_) (fun h => ?_)
    · refine kR.iload_n dX0_bestToLaugh_66 3 rfl ?_
      exact kR.iretW dX0_bestToLaugh_67 (nzI rfl _) h
    · refine kR.iload dX0_bestToLaugh_29 5 rfl ?_
      refine kR.iload_n dX0_bestToLaugh_31 1 rfl ?_
      refine kR.icmp_eq (tgt := 60) dX0_bestToLaugh_32 (by decide) h (fun h => ?_) (fun h => ?_)
      · exact kX0_bestToLaugh_60 (fX0_bestToLaugh_14 f) ih _ _ _ _ _ _ _ h
      · refine kR.aload_n dX0_bestToLaugh_35 0 rfl ?_
        refine kR.iload_n dX0_bestToLaugh_36 1 rfl ?_
        refine kR.iload_n dX0_bestToLaugh_37 2 rfl ?_
        refine kR.iload dX0_bestToLaugh_38 5 rfl ?_
        obtain ⟨v6, σ4, e5, h⟩ := bnc_some h
        refine kR.cVl [.int x1, .int x2, .int x6] dX0_bestToLaugh_40 rfl (by decide) mwX0_164 zp27 (by decide) rfl rfl (Nat.le_of_ble_eq_true rfl) (lX0_totalAmong x1 x2 x6 σ _ e5) ?_
        refine zR.lstore (i := 7) (ls' := [(7, .long v6), (0, .ref 27), (1, .int x1), (2, .int x2), (3, .int x3), (4, .long x4), (6, .int x6)]) dX0_bestToLaugh_43 (by decide) rfl ?_
        refine kR.lload dX0_bestToLaugh_45 0 rfl ?_
        refine kR.lload dX0_bestToLaugh_47 5 rfl ?_
        refine kR.lcmp_le (tgt := 60) dX0_bestToLaugh_49 dX0_bestToLaugh_50 (by decide) h (fun h => ?_) (fun h => ?_)
        · refine zR.sub [1, 2, 3, 4, 5, 6] rfl ?_
          exact kX0_bestToLaugh_60 (fX0_bestToLaugh_14 f) ih _ _ _ _ _ _ _ h
        · refine kR.lload dX0_bestToLaugh_53 0 rfl ?_
          refine zR.lstore (i := 4) (ls' := [(4, .long v6), (7, .long v6), (0, .ref 27), (1, .int x1), (2, .int x2), (3, .int x3), (6, .int x6)]) dX0_bestToLaugh_55 (by decide) rfl ?_
          refine kR.iload dX0_bestToLaugh_57 6 rfl ?_
          refine zR.istore_n (i := 3) (ls' := [(3, .int x6), (4, .long v6), (7, .long v6), (0, .ref 27), (1, .int x1), (2, .int x2), (6, .int x6)]) dX0_bestToLaugh_59 rfl (by decide) rfl ?_
          refine zR.sub [3, 4, 5, 0, 1, 6] rfl ?_
          exact kX0_bestToLaugh_60 (fX0_bestToLaugh_14 f) ih _ _ _ _ _ _ _ h
def fX0_bestToLaugh (p1 : Int32) (p2 : Int32) (σ : zS) : Option (Int32 × zS) := bnc (fX0_totalAmong p1 p2 ((-1)) σ) fun v3 σ1 => fX0_bestToLaugh_14 zF p1 p2 ((-1)) v3 0 σ1
theorem eX0_bestToLaugh {sc : Nat × (Nat → Int32)} (p1 : Int32) (p2 : Int32) (σ : zS) (w : Int32 × zS) (h : fX0_bestToLaugh p1 p2 σ = some w) : zR (zY0 sc) 6 0 0 mX0_bestToLaugh 0 [(0, .ref 27), (1, .int p1), (2, .int p2)] [] (zE σ) (some (.int w.1), zE w.2) := by
  unfold fX0_bestToLaugh at h
  refine zR.iconst (v := (-1)) dX0_bestToLaugh_0 (by decide) ?_
  refine zR.istore_n (i := 3) (ls' := [(3, .int ((-1))), (0, .ref 27), (1, .int p1), (2, .int p2)]) dX0_bestToLaugh_1 rfl (by decide) rfl ?_
  refine kR.aload_n dX0_bestToLaugh_2 1 rfl ?_
  refine kR.iload_n dX0_bestToLaugh_3 2 rfl ?_
  refine kR.iload_n dX0_bestToLaugh_4 3 rfl ?_
  refine zR.iconst (v := (-1)) dX0_bestToLaugh_5 (by decide) ?_
  obtain ⟨v3, σ1, e2, h⟩ := bnc_some h
  refine kR.cVl [.int p1, .int p2, .int ((-1))] dX0_bestToLaugh_6 rfl (by decide) mwX0_164 zp27 (by decide) rfl rfl (Nat.le_of_ble_eq_true rfl) (lX0_totalAmong p1 p2 ((-1)) σ _ e2) ?_
  refine zR.lstore (i := 4) (ls' := [(4, .long v3), (3, .int ((-1))), (0, .ref 27), (1, .int p1), (2, .int p2)]) dX0_bestToLaugh_9 (by decide) rfl ?_
  refine zR.iconst (v := 0) dX0_bestToLaugh_11 (by decide) ?_
  refine zR.istore (i := 6) (ls' := [(6, .int 0), (4, .long v3), (3, .int ((-1))), (0, .ref 27), (1, .int p1), (2, .int p2)]) dX0_bestToLaugh_12 (by decide) rfl ?_
  refine zR.sub [3, 4, 5, 2, 1, 0] rfl ?_
  exact kX0_bestToLaugh_14 zF _ _ _ _ _ _ _ h
theorem lX0_bestToLaugh {sc : Nat × (Nat → Int32)} (p1 : Int32) (p2 : Int32) (σ : zS) (w : Int32 × zS) (h : fX0_bestToLaugh p1 p2 σ = some w) : zC (zY0 sc) 6 0 0 mX0_bestToLaugh [.ref 27, .int p1, .int p2] (zE σ) (some (.int w.1), zE w.2) := zC.of (by decide +kernel) (Nat.le_of_ble_eq_true rfl) ⟨_, rfl⟩ (eX0_bestToLaugh p1 p2 σ w h)
theorem dX10_whom_0 : decode cX10_whom 0 = .ok (.aload_n 0, 1) := by decide +kernel
theorem dX10_whom_1 : decode cX10_whom 1 = .ok (.getfield 38, 3) := by decide +kernel
theorem dX10_whom_4 : decode cX10_whom 4 = .ok (.getfield 111, 3) := by decide +kernel
theorem dX10_whom_7 : decode cX10_whom 7 = .ok (.iload_n 1, 1) := by decide +kernel
theorem dX10_whom_8 : decode cX10_whom 8 = .ok (.iload_n 2, 1) := by decide +kernel
theorem dX10_whom_9 : decode cX10_whom 9 = .ok (.invokevirtual 202, 3) := by decide +kernel
theorem dX10_whom_12 : decode cX10_whom 12 = .ok (.ifCond .eq 12, 3) := by decide +kernel
theorem dX10_whom_15 : decode cX10_whom 15 = .ok (.iload_n 3, 1) := by decide +kernel
theorem dX10_whom_16 : decode cX10_whom 16 = .ok (.ifCond .lt 8, 3) := by decide +kernel
theorem dX10_whom_19 : decode cX10_whom 19 = .ok (.iload_n 3, 1) := by decide +kernel
theorem dX10_whom_20 : decode cX10_whom 20 = .ok (.iconst 1, 1) := by decide +kernel
theorem dX10_whom_21 : decode cX10_whom 21 = .ok (.if_icmp .le 6, 3) := by decide +kernel
theorem dX10_whom_24 : decode cX10_whom 24 = .ok (.ldc 197, 2) := by decide +kernel
theorem dX10_whom_26 : decode cX10_whom 26 = .ok (.ireturn, 1) := by decide +kernel
theorem dX10_whom_27 : decode cX10_whom 27 = .ok (.aload_n 0, 1) := by decide +kernel
theorem dX10_whom_28 : decode cX10_whom 28 = .ok (.getfield 47, 3) := by decide +kernel
theorem dX10_whom_31 : decode cX10_whom 31 = .ok (.iload_n 1, 1) := by decide +kernel
theorem dX10_whom_32 : decode cX10_whom 32 = .ok (.iload_n 2, 1) := by decide +kernel
theorem dX10_whom_33 : decode cX10_whom 33 = .ok (.invokevirtual 259, 3) := by decide +kernel
theorem dX10_whom_36 : decode cX10_whom 36 = .ok (.istore 4, 2) := by decide +kernel
theorem dX10_whom_38 : decode cX10_whom 38 = .ok (.iload_n 3, 1) := by decide +kernel
theorem dX10_whom_39 : decode cX10_whom 39 = .ok (.ifCond .ne 6, 3) := by decide +kernel
theorem dX10_whom_42 : decode cX10_whom 42 = .ok (.iload 4, 2) := by decide +kernel
theorem dX10_whom_44 : decode cX10_whom 44 = .ok (.ireturn, 1) := by decide +kernel
theorem dX10_whom_45 : decode cX10_whom 45 = .ok (.aload_n 0, 1) := by decide +kernel
theorem dX10_whom_46 : decode cX10_whom 46 = .ok (.getfield 47, 3) := by decide +kernel
theorem dX10_whom_49 : decode cX10_whom 49 = .ok (.iload_n 1, 1) := by decide +kernel
theorem dX10_whom_50 : decode cX10_whom 50 = .ok (.iload_n 2, 1) := by decide +kernel
theorem dX10_whom_51 : decode cX10_whom 51 = .ok (.iload 4, 2) := by decide +kernel
theorem dX10_whom_53 : decode cX10_whom 53 = .ok (.invokevirtual 262, 3) := by decide +kernel
theorem dX10_whom_56 : decode cX10_whom 56 = .ok (.aload_n 0, 1) := by decide +kernel
theorem dX10_whom_57 : decode cX10_whom 57 = .ok (.getfield 38, 3) := by decide +kernel
theorem dX10_whom_60 : decode cX10_whom 60 = .ok (.getfield 111, 3) := by decide +kernel
theorem dX10_whom_63 : decode cX10_whom 63 = .ok (.iload_n 2, 1) := by decide +kernel
theorem dX10_whom_64 : decode cX10_whom 64 = .ok (.invokevirtual 176, 3) := by decide +kernel
theorem dX10_whom_67 : decode cX10_whom 67 = .ok (.i2l, 1) := by decide +kernel
theorem dX10_whom_68 : decode cX10_whom 68 = .ok (.invokestatic 198, 3) := by decide +kernel
theorem dX10_whom_71 : decode cX10_whom 71 = .ok (.ireturn, 1) := by decide +kernel
def fX10_whom (p1 : Int32) (p2 : Int32) (p3 : Int32) (σ : zS) : Option (Int32 × zS) := if (fX6_hasBoth σ.2.2.2.1 σ p1 p2) = 0 then some ((-1000000000), σ) else if p3 < 0 then some ((-1000000000), σ) else if p3 ≤ 1 then bnc (fX0_bestToLaugh p1 p2 σ) fun v3 σ1 => if p3 = 0 then some (v3, σ1) else bnc (fX0_totalAmong p1 p2 v3 σ1) fun v6 σ4 => bnr (fX6_allWeights σ4.2.2.2.1 σ4 p2) fun v7 => bnr (fX10_thousandths v6 v7.toInt64) fun v9 => some (v9, σ4) else some ((-1000000000), σ)
theorem eX10_whom {sc : Nat × (Nat → Int32)} (p1 : Int32) (p2 : Int32) (p3 : Int32) (σ : zS) (w : Int32 × zS) (h : fX10_whom p1 p2 p3 σ = some w) : zR (zY0 sc) 7 0 0 mX10_whom 0 [(0, .ref 1), (1, .int p1), (2, .int p2), (3, .int p3)] [] (zE σ) (some (.int w.1), zE w.2) := by
  unfold fX10_whom at h
  refine kR.aload_n dX10_whom_0 0 rfl ?_
  refine kR.getR (v := 8) dX10_whom_1 flX10_38 zcf10 zp1 (Or.inl ⟨_, rfl⟩) rfl ?_
  refine kR.getR (v := (rp σ.2.2.2.1 + 0)) dX10_whom_4 flX10_111 zcf4 zp8 (Or.inl ⟨_, rfl⟩) rfl ?_
  refine kR.iload_n dX10_whom_7 1 rfl ?_
  refine kR.iload_n dX10_whom_8 2 rfl ?_
  refine kR.cVi [.int p1, .int p2] dX10_whom_9 rfl (by decide) mwX10_202 (zq0 σ.2.2.2.1) (by decide) rfl rfl (Nat.le_of_ble_eq_true rfl) (lX6_hasBoth σ.2.2.2.1 σ p1 p2) ?_
  refine kR.if_eq (tgt := 24) dX10_whom_12 (by decide) h (fun h => ?_) (fun h => ?_)
  · refine zR.ldc (v := (-1000000000)) dX10_whom_24 ciX10_197 ?_
    exact kR.iretW dX10_whom_26 (nzI rfl _) h
  · refine kR.iload_n dX10_whom_15 3 rfl ?_
    refine kR.if_lt (tgt := 24) dX10_whom_16 (by decide) h (fun h => ?_) (fun h => ?_)
    · refine zR.ldc (v := (-1000000000)) dX10_whom_24 ciX10_197 ?_
      exact kR.iretW dX10_whom_26 (nzI rfl _) h
    · refine kR.iload_n dX10_whom_19 3 rfl ?_
      refine zR.iconst (v := 1) dX10_whom_20 (by decide) ?_
      refine kR.icmp_le (tgt := 27) dX10_whom_21 (by decide) h (fun h => ?_) (fun h => ?_)
      · refine kR.aload_n dX10_whom_27 0 rfl ?_
        refine kR.getR (v := 27) dX10_whom_28 flX10_47 zcf10 zp1 (Or.inl ⟨_, rfl⟩) rfl ?_
        refine kR.iload_n dX10_whom_31 1 rfl ?_
        refine kR.iload_n dX10_whom_32 2 rfl ?_
        obtain ⟨v3, σ1, e2, h⟩ := bnc_some h
        refine kR.cVi [.int p1, .int p2] dX10_whom_33 rfl (by decide) mwX10_259 zp27 (by decide) rfl rfl (Nat.le_of_ble_eq_true rfl) (lX0_bestToLaugh p1 p2 σ _ e2) ?_
        refine zR.istore (i := 4) (ls' := [(4, .int v3), (0, .ref 1), (1, .int p1), (2, .int p2), (3, .int p3)]) dX10_whom_36 (by decide) rfl ?_
        refine kR.iload_n dX10_whom_38 4 rfl ?_
        refine kR.if_ne (tgt := 45) dX10_whom_39 (by decide) h (fun h => ?_) (fun h => ?_)
        · refine kR.aload_n dX10_whom_45 1 rfl ?_
          refine kR.getR (v := 27) dX10_whom_46 flX10_47 zcf10 zp1 (Or.inl ⟨_, rfl⟩) rfl ?_
          refine kR.iload_n dX10_whom_49 2 rfl ?_
          refine kR.iload_n dX10_whom_50 3 rfl ?_
          refine kR.iload dX10_whom_51 0 rfl ?_
          obtain ⟨v6, σ4, e5, h⟩ := bnc_some h
          refine kR.cVl [.int p1, .int p2, .int v3] dX10_whom_53 rfl (by decide) mwX10_262 zp27 (by decide) rfl rfl (Nat.le_of_ble_eq_true rfl) (lX0_totalAmong p1 p2 v3 σ1 _ e5) ?_
          refine kR.aload_n dX10_whom_56 1 rfl ?_
          refine kR.getR (v := 8) dX10_whom_57 flX10_38 zcf10 zp1 (Or.inl ⟨_, rfl⟩) rfl ?_
          refine kR.getR (v := (rp σ4.2.2.2.1 + 0)) dX10_whom_60 flX10_111 zcf4 zp8 (Or.inl ⟨_, rfl⟩) rfl ?_
          refine kR.iload_n dX10_whom_63 3 rfl ?_
          obtain ⟨v7, e8, h⟩ := bnr_some h
          refine kR.cVi [.int p2] dX10_whom_64 rfl (by decide) mwX10_176 (zq0 σ4.2.2.2.1) (by decide) rfl rfl (Nat.le_of_ble_eq_true rfl) (lX6_allWeights σ4.2.2.2.1 σ4 p2 _ e8) ?_
          refine zR.i2l dX10_whom_67 ?_
          obtain ⟨v9, e10, h⟩ := bnr_some h
          refine kR.cSi [.long v6, .long (v7.toInt64)] dX10_whom_68 rfl (by decide) (Or.inl mwX10_198) rfl (Nat.le_of_ble_eq_true rfl) (lX10_thousandths v6 v7.toInt64 _ e10) ?_
          exact kR.iretW dX10_whom_71 (nzI rfl _) h
        · refine kR.iload dX10_whom_42 0 rfl ?_
          exact kR.iretW dX10_whom_44 (nzI rfl _) h
      · refine zR.ldc (v := (-1000000000)) dX10_whom_24 ciX10_197 ?_
        exact kR.iretW dX10_whom_26 (nzI rfl _) h
theorem lX10_whom {sc : Nat × (Nat → Int32)} (p1 : Int32) (p2 : Int32) (p3 : Int32) (σ : zS) (w : Int32 × zS) (h : fX10_whom p1 p2 p3 σ = some w) : zC (zY0 sc) 7 0 0 mX10_whom [.ref 1, .int p1, .int p2, .int p3] (zE σ) (some (.int w.1), zE w.2) := zC.of (by decide +kernel) (Nat.le_of_ble_eq_true rfl) ⟨_, rfl⟩ (eX10_whom p1 p2 p3 σ w h)
theorem dX10_isSecond_0 : decode cX10_isSecond 0 = .ok (.iload_n 0, 1) := by decide +kernel
theorem dX10_isSecond_1 : decode cX10_isSecond 1 = .ok (.ifCond .lt 13, 3) := by decide +kernel
theorem dX10_isSecond_4 : decode cX10_isSecond 4 = .ok (.iload_n 0, 1) := by decide +kernel
theorem dX10_isSecond_5 : decode cX10_isSecond 5 = .ok (.bipush 60, 2) := by decide +kernel
theorem dX10_isSecond_7 : decode cX10_isSecond 7 = .ok (.if_icmp .gt 7, 3) := by decide +kernel
theorem dX10_isSecond_10 : decode cX10_isSecond 10 = .ok (.iconst 1, 1) := by decide +kernel
theorem dX10_isSecond_11 : decode cX10_isSecond 11 = .ok (.goto 4, 3) := by decide +kernel
theorem dX10_isSecond_14 : decode cX10_isSecond 14 = .ok (.iconst 0, 1) := by decide +kernel
theorem dX10_isSecond_15 : decode cX10_isSecond 15 = .ok (.ireturn, 1) := by decide +kernel
def fX10_isSecond (p0 : Int32) : Int32 := if p0 < 0 then 0 else if 60 < p0 then 0 else 1
theorem eX10_isSecond {sc : Nat × (Nat → Int32)} {μ : zM} (p0 : Int32) (w : Int32) (h : fX10_isSecond p0 = w) : zR (zY0 sc) 1 0 0 mX10_isSecond 0 [(0, .int p0)] [] μ (some (.int w), μ) := by
  unfold fX10_isSecond at h
  refine kR.iload_n dX10_isSecond_0 0 rfl ?_
  refine kR.if_lt (tgt := 14) dX10_isSecond_1 (by decide) h (fun h => ?_) (fun h => ?_)
  · refine zR.iconst (v := 0) dX10_isSecond_14 (by decide) ?_
    exact kR.iret dX10_isSecond_15 (nzZ rfl (Or.inl rfl)) h
  · refine kR.iload_n dX10_isSecond_4 0 rfl ?_
    refine zR.bipush (v := 60) dX10_isSecond_5 (by decide) ?_
    refine kR.icmp_gt (tgt := 14) dX10_isSecond_7 (by decide) h (fun h => ?_) (fun h => ?_)
    · refine zR.iconst (v := 0) dX10_isSecond_14 (by decide) ?_
      exact kR.iret dX10_isSecond_15 (nzZ rfl (Or.inl rfl)) h
    · refine zR.iconst (v := 1) dX10_isSecond_10 (by decide) ?_
      refine zR.goto (tgt := 15) dX10_isSecond_11 (by decide) ?_
      exact kR.iret dX10_isSecond_15 (nzZ rfl (Or.inr rfl)) h
theorem lX10_isSecond {sc : Nat × (Nat → Int32)} {μ : zM} (p0 : Int32) : zC (zY0 sc) 1 0 0 mX10_isSecond [.int p0] μ (some (.int (fX10_isSecond p0)), μ) := zC.of (by decide +kernel) (Nat.le_of_ble_eq_true rfl) ⟨_, rfl⟩ (eX10_isSecond p0 _ rfl)
theorem dX1_take_0 : decode cX1_take 0 = .ok (.aload_n 1, 1) := by decide +kernel
theorem dX1_take_1 : decode cX1_take 1 = .ok (.getfield 25, 3) := by decide +kernel
theorem dX1_take_4 : decode cX1_take 4 = .ok (.iconst 2, 1) := by decide +kernel
theorem dX1_take_5 : decode cX1_take 5 = .ok (.idiv, 1) := by decide +kernel
theorem dX1_take_6 : decode cX1_take 6 = .ok (.istore 4, 2) := by decide +kernel
theorem dX1_take_8 : decode cX1_take 8 = .ok (.aload_n 2, 1) := by decide +kernel
theorem dX1_take_9 : decode cX1_take 9 = .ok (.iload_n 3, 1) := by decide +kernel
theorem dX1_take_10 : decode cX1_take 10 = .ok (.invokevirtual 30, 3) := by decide +kernel
theorem dX1_take_13 : decode cX1_take 13 = .ok (.ifCond .eq 25, 3) := by decide +kernel
theorem dX1_take_16 : decode cX1_take 16 = .ok (.aload_n 1, 1) := by decide +kernel
theorem dX1_take_17 : decode cX1_take 17 = .ok (.getfield 25, 3) := by decide +kernel
theorem dX1_take_20 : decode cX1_take 20 = .ok (.iconst 2, 1) := by decide +kernel
theorem dX1_take_21 : decode cX1_take 21 = .ok (.irem, 1) := by decide +kernel
theorem dX1_take_22 : decode cX1_take 22 = .ok (.ifCond .ne 16, 3) := by decide +kernel
theorem dX1_take_25 : decode cX1_take 25 = .ok (.iload 4, 2) := by decide +kernel
theorem dX1_take_27 : decode cX1_take 27 = .ok (.iconst 1, 1) := by decide +kernel
theorem dX1_take_28 : decode cX1_take 28 = .ok (.if_icmp .lt 10, 3) := by decide +kernel
theorem dX1_take_31 : decode cX1_take 31 = .ok (.iload 4, 2) := by decide +kernel
theorem dX1_take_33 : decode cX1_take 33 = .ok (.bipush 12, 2) := by decide +kernel
theorem dX1_take_35 : decode cX1_take 35 = .ok (.if_icmp .le 5, 3) := by decide +kernel
theorem dX1_take_38 : decode cX1_take 38 = .ok (.iconst 0, 1) := by decide +kernel
theorem dX1_take_39 : decode cX1_take 39 = .ok (.ireturn, 1) := by decide +kernel
theorem dX1_take_40 : decode cX1_take 40 = .ok (.iconst 0, 1) := by decide +kernel
theorem dX1_take_41 : decode cX1_take 41 = .ok (.istore 5, 2) := by decide +kernel
theorem dX1_take_43 : decode cX1_take 43 = .ok (.iload 5, 2) := by decide +kernel
theorem dX1_take_45 : decode cX1_take 45 = .ok (.iload 4, 2) := by decide +kernel
theorem dX1_take_47 : decode cX1_take 47 = .ok (.if_icmp .ge 42, 3) := by decide +kernel
theorem dX1_take_50 : decode cX1_take 50 = .ok (.aload_n 2, 1) := by decide +kernel
theorem dX1_take_51 : decode cX1_take 51 = .ok (.aload_n 1, 1) := by decide +kernel
theorem dX1_take_52 : decode cX1_take 52 = .ok (.iconst 2, 1) := by decide +kernel
theorem dX1_take_53 : decode cX1_take 53 = .ok (.iload 5, 2) := by decide +kernel
theorem dX1_take_55 : decode cX1_take 55 = .ok (.imul, 1) := by decide +kernel
theorem dX1_take_56 : decode cX1_take 56 = .ok (.invokevirtual 36, 3) := by decide +kernel
theorem dX1_take_59 : decode cX1_take 59 = .ok (.invokevirtual 40, 3) := by decide +kernel
theorem dX1_take_62 : decode cX1_take 62 = .ok (.ifCond .eq 19, 3) := by decide +kernel
theorem dX1_take_65 : decode cX1_take 65 = .ok (.aload_n 1, 1) := by decide +kernel
theorem dX1_take_66 : decode cX1_take 66 = .ok (.iconst 2, 1) := by decide +kernel
theorem dX1_take_67 : decode cX1_take 67 = .ok (.iload 5, 2) := by decide +kernel
theorem dX1_take_69 : decode cX1_take 69 = .ok (.imul, 1) := by decide +kernel
theorem dX1_take_70 : decode cX1_take 70 = .ok (.iconst 1, 1) := by decide +kernel
theorem dX1_take_71 : decode cX1_take 71 = .ok (.iadd, 1) := by decide +kernel
theorem dX1_take_72 : decode cX1_take 72 = .ok (.invokevirtual 36, 3) := by decide +kernel
theorem dX1_take_75 : decode cX1_take 75 = .ok (.invokestatic 43, 3) := by decide +kernel
theorem dX1_take_78 : decode cX1_take 78 = .ok (.ifCond .ne 5, 3) := by decide +kernel
theorem dX1_take_81 : decode cX1_take 81 = .ok (.iconst 0, 1) := by decide +kernel
theorem dX1_take_82 : decode cX1_take 82 = .ok (.ireturn, 1) := by decide +kernel
theorem dX1_take_83 : decode cX1_take 83 = .ok (.iinc 5 1, 3) := by decide +kernel
theorem dX1_take_86 : decode cX1_take 86 = .ok (.goto (-43), 3) := by decide +kernel
theorem dX1_take_89 : decode cX1_take 89 = .ok (.iconst 0, 1) := by decide +kernel
theorem dX1_take_90 : decode cX1_take 90 = .ok (.istore 5, 2) := by decide +kernel
theorem dX1_take_92 : decode cX1_take 92 = .ok (.iload 5, 2) := by decide +kernel
theorem dX1_take_94 : decode cX1_take 94 = .ok (.iload 4, 2) := by decide +kernel
theorem dX1_take_96 : decode cX1_take 96 = .ok (.if_icmp .ge 41, 3) := by decide +kernel
theorem dX1_take_99 : decode cX1_take 99 = .ok (.aload_n 0, 1) := by decide +kernel
theorem dX1_take_100 : decode cX1_take 100 = .ok (.getfield 9, 3) := by decide +kernel
theorem dX1_take_103 : decode cX1_take 103 = .ok (.iload 5, 2) := by decide +kernel
theorem dX1_take_105 : decode cX1_take 105 = .ok (.aload_n 1, 1) := by decide +kernel
theorem dX1_take_106 : decode cX1_take 106 = .ok (.iconst 2, 1) := by decide +kernel
theorem dX1_take_107 : decode cX1_take 107 = .ok (.iload 5, 2) := by decide +kernel
theorem dX1_take_109 : decode cX1_take 109 = .ok (.imul, 1) := by decide +kernel
theorem dX1_take_110 : decode cX1_take 110 = .ok (.invokevirtual 36, 3) := by decide +kernel
theorem dX1_take_113 : decode cX1_take 113 = .ok (.iastore, 1) := by decide +kernel
theorem dX1_take_114 : decode cX1_take 114 = .ok (.aload_n 0, 1) := by decide +kernel
theorem dX1_take_115 : decode cX1_take 115 = .ok (.getfield 15, 3) := by decide +kernel
theorem dX1_take_118 : decode cX1_take 118 = .ok (.iload 5, 2) := by decide +kernel
theorem dX1_take_120 : decode cX1_take 120 = .ok (.aload_n 1, 1) := by decide +kernel
theorem dX1_take_121 : decode cX1_take 121 = .ok (.iconst 2, 1) := by decide +kernel
theorem dX1_take_122 : decode cX1_take 122 = .ok (.iload 5, 2) := by decide +kernel
theorem dX1_take_124 : decode cX1_take 124 = .ok (.imul, 1) := by decide +kernel
theorem dX1_take_125 : decode cX1_take 125 = .ok (.iconst 1, 1) := by decide +kernel
theorem dX1_take_126 : decode cX1_take 126 = .ok (.iadd, 1) := by decide +kernel
theorem dX1_take_127 : decode cX1_take 127 = .ok (.invokevirtual 36, 3) := by decide +kernel
theorem dX1_take_130 : decode cX1_take 130 = .ok (.iastore, 1) := by decide +kernel
theorem dX1_take_131 : decode cX1_take 131 = .ok (.iinc 5 1, 3) := by decide +kernel
theorem dX1_take_134 : decode cX1_take 134 = .ok (.goto (-42), 3) := by decide +kernel
theorem dX1_take_137 : decode cX1_take 137 = .ok (.aload_n 0, 1) := by decide +kernel
theorem dX1_take_138 : decode cX1_take 138 = .ok (.iload_n 3, 1) := by decide +kernel
theorem dX1_take_139 : decode cX1_take 139 = .ok (.putfield 18, 3) := by decide +kernel
theorem dX1_take_142 : decode cX1_take 142 = .ok (.aload_n 0, 1) := by decide +kernel
theorem dX1_take_143 : decode cX1_take 143 = .ok (.iload 4, 2) := by decide +kernel
theorem dX1_take_145 : decode cX1_take 145 = .ok (.putfield 22, 3) := by decide +kernel
theorem dX1_take_148 : decode cX1_take 148 = .ok (.iconst 1, 1) := by decide +kernel
theorem dX1_take_149 : decode cX1_take 149 = .ok (.ireturn, 1) := by decide +kernel
def fX1_take_92 (b2 : Bool) : Nat → Int32 → Int32 → Int32 → zS → Option (Int32 × zS)
  | 0, _, _, _, _ => none
  | f + 1, x3, x4, x5, σ => if x4 ≤ x5 then bnd (iS σ 32 2 x3) fun σ1 => bnd (iS σ1 32 3 x4) fun σ2 => some (1, σ2) else bnr (fX9_byteAt σ (2 * x5)) fun v3 => wI σ 33 12 x5 v3 fun σ5 => bnr (fX9_byteAt σ5 ((2 * x5) + 1)) fun v6 => wI σ5 34 12 x5 v6 fun σ8 => fX1_take_92 b2 f x3 x4 (x5 + 1) σ8
theorem kX1_take_92 {sc : Nat × (Nat → Int32)} (b2 : Bool) : ∀ (fuel : Nat) (x3 : Int32) (x4 : Int32) (x5 : Int32) (σ : zS) (w : Int32 × zS) (h : fX1_take_92 b2 fuel x3 x4 x5 σ = some w), zR (zY0 sc) 2 0 0 mX1_take 92 [(0, .ref 32), (1, .ref 2), (3, .int x3), (4, .int x4), (5, .int x5)] [] (zE σ) (some (.int w.1), zE w.2) := by
  intro fuel
  induction fuel with
  | zero => intro x3 x4 x5 σ w h; exact nomatch h
  | succ f ih =>
    intro x3 x4 x5 σ w h
    rw [fX1_take_92] at h
    refine kR.iload dX1_take_92 4 rfl ?_
    refine kR.iload dX1_take_94 3 rfl ?_
    refine kR.icmp_ge (tgt := 137) dX1_take_96 (by decide) h (fun h => ?_) (fun h => ?_)
    · refine kR.aload_n dX1_take_137 0 rfl ?_
      refine kR.iload_n dX1_take_138 2 rfl ?_
      refine kR.putI dX1_take_139 fpX1_18 zcf1 zp32 rfl h (fun σ1 h => ?_)
      refine kR.aload_n dX1_take_142 0 rfl ?_
      refine kR.iload dX1_take_143 3 rfl ?_
      refine kR.putI dX1_take_145 fpX1_22 zcf1 zp32 rfl h (fun σ2 h => ?_)
      refine zR.iconst (v := 1) dX1_take_148 (by decide) ?_
      exact kR.iretW dX1_take_149 (nzZ rfl (Or.inr rfl)) h
    · refine kR.aload_n dX1_take_99 0 rfl ?_
      refine kR.getR (v := 33) dX1_take_100 flX1_9 zcf1 zp32 (Or.inr ⟨_, rfl⟩) rfl ?_
      refine kR.iload dX1_take_103 4 rfl ?_
      refine kR.aload_n dX1_take_105 1 rfl ?_
      refine zR.iconst (v := 2) dX1_take_106 (by decide) ?_
      refine kR.iload dX1_take_107 4 rfl ?_
      refine zR.imul dX1_take_109 ?_
      obtain ⟨v3, e4, h⟩ := bnr_some h
      refine kR.cVi [.int (2 * x5)] dX1_take_110 rfl (by decide) mwX1_36 zp2 (by decide) rfl rfl (Nat.le_of_ble_eq_true rfl) (lX9_byteAt σ (2 * x5) _ e4) ?_
      refine kR.iast dX1_take_113 zp33 rfl h (fun σ5 h => ?_)
      refine kR.aload_n dX1_take_114 0 rfl ?_
      refine kR.getR (v := 34) dX1_take_115 flX1_15 zcf1 zp32 (Or.inr ⟨_, rfl⟩) rfl ?_
      refine kR.iload dX1_take_118 4 rfl ?_
      refine kR.aload_n dX1_take_120 1 rfl ?_
      refine zR.iconst (v := 2) dX1_take_121 (by decide) ?_
      refine kR.iload dX1_take_122 4 rfl ?_
      refine zR.imul dX1_take_124 ?_
      refine zR.iconst (v := 1) dX1_take_125 (by decide) ?_
      refine zR.iadd dX1_take_126 ?_
      obtain ⟨v6, e7, h⟩ := bnr_some h
      refine kR.cVi [.int ((2 * x5) + 1)] dX1_take_127 rfl (by decide) mwX1_36 zp2 (by decide) rfl rfl (Nat.le_of_ble_eq_true rfl) (lX9_byteAt σ5 ((2 * x5) + 1) _ e7) ?_
      refine kR.iast dX1_take_130 zp34 rfl h (fun σ8 h => ?_)
      refine zR.iinc 4 (v := x5 + 1) (ls' := [(5, .int (x5 + 1)), (0, .ref 32), (1, .ref 2), (3, .int x3), (4, .int x4)]) dX1_take_131 rfl rfl (by decide) rfl ?_
      refine zR.goto (tgt := 92) dX1_take_134 (by decide) ?_
      refine zR.sub [1, 2, 3, 4, 0] rfl ?_
      exact ih _ _ _ _ _ h
def fX1_take_43 (b2 : Bool) : Nat → Int32 → Int32 → Int32 → zS → Option (Int32 × zS)
  | 0, _, _, _, _ => none
  | f + 1, x3, x4, x5, σ => if x4 ≤ x5 then fX1_take_92 b2 zF x3 x4 0 σ else bnr (fX9_byteAt σ (2 * x5)) fun v9 => if (fX6_hasHolder b2 σ v9) = 0 then some (0, σ) else bnr (fX9_byteAt σ ((2 * x5) + 1)) fun v11 => if (fX10_isSecond v11) = 0 then some (0, σ) else fX1_take_43 b2 f x3 x4 (x5 + 1) σ
theorem kX1_take_43 {sc : Nat × (Nat → Int32)} (b2 : Bool) : ∀ (fuel : Nat) (x3 : Int32) (x4 : Int32) (x5 : Int32) (σ : zS) (w : Int32 × zS) (h : fX1_take_43 b2 fuel x3 x4 x5 σ = some w), zR (zY0 sc) 2 0 0 mX1_take 43 [(0, .ref 32), (1, .ref 2), (2, .ref (rp b2 + 0)), (3, .int x3), (4, .int x4), (5, .int x5)] [] (zE σ) (some (.int w.1), zE w.2) := by
  intro fuel
  induction fuel with
  | zero => intro x3 x4 x5 σ w h; exact nomatch h
  | succ f ih =>
    intro x3 x4 x5 σ w h
    rw [fX1_take_43] at h
    refine kR.iload dX1_take_43 5 rfl ?_
    refine kR.iload dX1_take_45 4 rfl ?_
    refine kR.icmp_ge (tgt := 89) dX1_take_47 (by decide) h (fun h => ?_) (fun h => ?_)
    · refine zR.iconst (v := 0) dX1_take_89 (by decide) ?_
      refine zR.istore (i := 5) (ls' := [(5, .int 0), (0, .ref 32), (1, .ref 2), (2, .ref (rp b2 + 0)), (3, .int x3), (4, .int x4)]) dX1_take_90 (by decide) rfl ?_
      refine zR.sub [1, 2, 4, 5, 0] rfl ?_
      exact kX1_take_92 b2 zF _ _ _ _ _ h
    · refine kR.aload_n dX1_take_50 2 rfl ?_
      refine kR.aload_n dX1_take_51 1 rfl ?_
      refine zR.iconst (v := 2) dX1_take_52 (by decide) ?_
      refine kR.iload dX1_take_53 5 rfl ?_
      refine zR.imul dX1_take_55 ?_
      obtain ⟨v9, e10, h⟩ := bnr_some h
      refine kR.cVi [.int (2 * x5)] dX1_take_56 rfl (by decide) mwX1_36 zp2 (by decide) rfl rfl (Nat.le_of_ble_eq_true rfl) (lX9_byteAt σ (2 * x5) _ e10) ?_
      refine kR.cVi [.int v9] dX1_take_59 rfl (by decide) mwX1_40 (zq0 b2) (by decide) rfl rfl (Nat.le_of_ble_eq_true rfl) (lX6_hasHolder b2 σ v9) ?_
      refine kR.if_eq (tgt := 81) dX1_take_62 (by decide) h (fun h => ?_) (fun h => ?_)
      · refine zR.iconst (v := 0) dX1_take_81 (by decide) ?_
        exact kR.iretW dX1_take_82 (nzZ rfl (Or.inl rfl)) h
      · refine kR.aload_n dX1_take_65 1 rfl ?_
        refine zR.iconst (v := 2) dX1_take_66 (by decide) ?_
        refine kR.iload dX1_take_67 5 rfl ?_
        refine zR.imul dX1_take_69 ?_
        refine zR.iconst (v := 1) dX1_take_70 (by decide) ?_
        refine zR.iadd dX1_take_71 ?_
        obtain ⟨v11, e12, h⟩ := bnr_some h
        refine kR.cVi [.int ((2 * x5) + 1)] dX1_take_72 rfl (by decide) mwX1_36 zp2 (by decide) rfl rfl (Nat.le_of_ble_eq_true rfl) (lX9_byteAt σ ((2 * x5) + 1) _ e12) ?_
        refine kR.cSi [.int v11] dX1_take_75 rfl (by decide) (Or.inr mwX1_43) rfl (Nat.le_of_ble_eq_true rfl) (lX10_isSecond v11) ?_
        refine kR.if_ne (tgt := 83) dX1_take_78 (by decide) h (fun h => ?_) (fun h => ?_)
        · refine zR.iinc 5 (v := x5 + 1) (ls' := [(5, .int (x5 + 1)), (0, .ref 32), (1, .ref 2), (2, .ref (rp b2 + 0)), (3, .int x3), (4, .int x4)]) dX1_take_83 rfl rfl (by decide) rfl ?_
          refine zR.goto (tgt := 43) dX1_take_86 (by decide) ?_
          refine zR.sub [1, 2, 3, 4, 5, 0] rfl ?_
          exact ih _ _ _ _ _ h
        · refine zR.iconst (v := 0) dX1_take_81 (by decide) ?_
          exact kR.iretW dX1_take_82 (nzZ rfl (Or.inl rfl)) h
def fX1_take (b2 : Bool) (p3 : Int32) (σ : zS) : Option (Int32 × zS) := if (fX6_hasTunnel b2 σ p3) = 0 then some (0, σ) else if ((iG σ 2 1) - (iG σ 2 1) / 2 * 2) = 0 then if ((iG σ 2 1) / 2) < 1 then some (0, σ) else if ((iG σ 2 1) / 2) ≤ 12 then fX1_take_43 b2 zF p3 ((iG σ 2 1) / 2) 0 σ else some (0, σ) else some (0, σ)
theorem eX1_take {sc : Nat × (Nat → Int32)} (b2 : Bool) (p3 : Int32) (σ : zS) (w : Int32 × zS) (h : fX1_take b2 p3 σ = some w) : zR (zY0 sc) 2 0 0 mX1_take 0 [(0, .ref 32), (1, .ref 2), (2, .ref (rp b2 + 0)), (3, .int p3)] [] (zE σ) (some (.int w.1), zE w.2) := by
  unfold fX1_take at h
  refine kR.aload_n dX1_take_0 1 rfl ?_
  refine kR.getI dX1_take_1 flX1_25 zcf9 zp2 (Or.inl rfl) ?_
  refine zR.iconst (v := 2) dX1_take_4 (by decide) ?_
  refine zR.idiv dX1_take_5 (by decide) ?_
  refine zR.istore (i := 4) (ls' := [(4, .int ((iG σ 2 1) / 2)), (0, .ref 32), (1, .ref 2), (2, .ref (rp b2 + 0)), (3, .int p3)]) dX1_take_6 (by decide) rfl ?_
  refine kR.aload_n dX1_take_8 3 rfl ?_
  refine kR.iload_n dX1_take_9 4 rfl ?_
  refine kR.cVi [.int p3] dX1_take_10 rfl (by decide) mwX1_30 (zq0 b2) (by decide) rfl rfl (Nat.le_of_ble_eq_true rfl) (lX6_hasTunnel b2 σ p3) ?_
  refine kR.if_eq (tgt := 38) dX1_take_13 (by decide) h (fun h => ?_) (fun h => ?_)
  · refine zR.iconst (v := 0) dX1_take_38 (by decide) ?_
    exact kR.iretW dX1_take_39 (nzZ rfl (Or.inl rfl)) h
  · refine kR.aload_n dX1_take_16 2 rfl ?_
    refine kR.getI dX1_take_17 flX1_25 zcf9 zp2 (Or.inl rfl) ?_
    refine zR.iconst (v := 2) dX1_take_20 (by decide) ?_
    refine zR.irem dX1_take_21 (by decide) ?_
    refine kR.if_ne (tgt := 38) dX1_take_22 (by decide) h (fun h => ?_) (fun h => ?_)
    · refine zR.iconst (v := 0) dX1_take_38 (by decide) ?_
      exact kR.iretW dX1_take_39 (nzZ rfl (Or.inl rfl)) h
    · refine kR.iload dX1_take_25 0 rfl ?_
      refine zR.iconst (v := 1) dX1_take_27 (by decide) ?_
      refine kR.icmp_lt (tgt := 38) dX1_take_28 (by decide) h (fun h => ?_) (fun h => ?_)
      · refine zR.iconst (v := 0) dX1_take_38 (by decide) ?_
        exact kR.iretW dX1_take_39 (nzZ rfl (Or.inl rfl)) h
      · refine kR.iload dX1_take_31 0 rfl ?_
        refine zR.bipush (v := 12) dX1_take_33 (by decide) ?_
        refine kR.icmp_le (tgt := 40) dX1_take_35 (by decide) h (fun h => ?_) (fun h => ?_)
        · refine zR.iconst (v := 0) dX1_take_40 (by decide) ?_
          refine zR.istore (i := 5) (ls' := [(5, .int 0), (4, .int ((iG σ 2 1) / 2)), (0, .ref 32), (1, .ref 2), (2, .ref (rp b2 + 0)), (3, .int p3)]) dX1_take_41 (by decide) rfl ?_
          refine zR.sub [2, 3, 4, 5, 1, 0] rfl ?_
          exact kX1_take_43 b2 zF _ _ _ _ _ h
        · refine zR.iconst (v := 0) dX1_take_38 (by decide) ?_
          exact kR.iretW dX1_take_39 (nzZ rfl (Or.inl rfl)) h
theorem lX1_take {sc : Nat × (Nat → Int32)} (b2 : Bool) (p3 : Int32) (σ : zS) (w : Int32 × zS) (h : fX1_take b2 p3 σ = some w) : zC (zY0 sc) 2 0 0 mX1_take [.ref 32, .ref 2, .ref (rp b2 + 0), .int p3] (zE σ) (some (.int w.1), zE w.2) := zC.of (by decide +kernel) (Nat.le_of_ble_eq_true rfl) ⟨_, rfl⟩ (eX1_take b2 p3 σ w h)
theorem dX10_faces_0 : decode cX10_faces 0 = .ok (.aload_n 0, 1) := by decide +kernel
theorem dX10_faces_1 : decode cX10_faces 1 = .ok (.getfield 54, 3) := by decide +kernel
theorem dX10_faces_4 : decode cX10_faces 4 = .ok (.aload_n 0, 1) := by decide +kernel
theorem dX10_faces_5 : decode cX10_faces 5 = .ok (.getfield 12, 3) := by decide +kernel
theorem dX10_faces_8 : decode cX10_faces 8 = .ok (.aload_n 0, 1) := by decide +kernel
theorem dX10_faces_9 : decode cX10_faces 9 = .ok (.getfield 38, 3) := by decide +kernel
theorem dX10_faces_12 : decode cX10_faces 12 = .ok (.getfield 111, 3) := by decide +kernel
theorem dX10_faces_15 : decode cX10_faces 15 = .ok (.iload_n 1, 1) := by decide +kernel
theorem dX10_faces_16 : decode cX10_faces 16 = .ok (.invokevirtual 266, 3) := by decide +kernel
theorem dX10_faces_19 : decode cX10_faces 19 = .ok (.istore_n 2, 1) := by decide +kernel
theorem dX10_faces_20 : decode cX10_faces 20 = .ok (.aload_n 0, 1) := by decide +kernel
theorem dX10_faces_21 : decode cX10_faces 21 = .ok (.getfield 12, 3) := by decide +kernel
theorem dX10_faces_24 : decode cX10_faces 24 = .ok (.iconst 0, 1) := by decide +kernel
theorem dX10_faces_25 : decode cX10_faces 25 = .ok (.putfield 86, 3) := by decide +kernel
theorem dX10_faces_28 : decode cX10_faces 28 = .ok (.iload_n 2, 1) := by decide +kernel
theorem dX10_faces_29 : decode cX10_faces 29 = .ok (.ifCond .eq 13, 3) := by decide +kernel
theorem dX10_faces_32 : decode cX10_faces 32 = .ok (.aload_n 0, 1) := by decide +kernel
theorem dX10_faces_33 : decode cX10_faces 33 = .ok (.getfield 54, 3) := by decide +kernel
theorem dX10_faces_36 : decode cX10_faces 36 = .ok (.getfield 118, 3) := by decide +kernel
theorem dX10_faces_39 : decode cX10_faces 39 = .ok (.goto 8, 3) := by decide +kernel
theorem dX10_faces_42 : decode cX10_faces 42 = .ok (.aload_n 0, 1) := by decide +kernel
theorem dX10_faces_43 : decode cX10_faces 43 = .ok (.iconst 4, 1) := by decide +kernel
theorem dX10_faces_44 : decode cX10_faces 44 = .ok (.invokevirtual 89, 3) := by decide +kernel
theorem dX10_faces_47 : decode cX10_faces 47 = .ok (.ireturn, 1) := by decide +kernel
def fX10_faces (p1 : Int32) (σ : zS) : Option (Int32 × zS) := bnc (fX1_take σ.2.2.2.1 p1 σ) fun v3 σ1 => bnd (iS σ1 2 1 0) fun σ4 => if v3 = 0 then bnc (fX10_refuse 4 σ4) fun v7 σ5 => some (v7, σ5) else some (iG σ4 32 3, σ4)
theorem eX10_faces {sc : Nat × (Nat → Int32)} (p1 : Int32) (σ : zS) (w : Int32 × zS) (h : fX10_faces p1 σ = some w) : zR (zY0 sc) 3 0 0 mX10_faces 0 [(0, .ref 1), (1, .int p1)] [] (zE σ) (some (.int w.1), zE w.2) := by
  unfold fX10_faces at h
  refine kR.aload_n dX10_faces_0 0 rfl ?_
  refine kR.getR (v := 32) dX10_faces_1 flX10_54 zcf10 zp1 (Or.inl ⟨_, rfl⟩) rfl ?_
  refine kR.aload_n dX10_faces_4 0 rfl ?_
  refine kR.getR (v := 2) dX10_faces_5 flX10_12 zcf10 zp1 (Or.inl ⟨_, rfl⟩) rfl ?_
  refine kR.aload_n dX10_faces_8 0 rfl ?_
  refine kR.getR (v := 8) dX10_faces_9 flX10_38 zcf10 zp1 (Or.inl ⟨_, rfl⟩) rfl ?_
  refine kR.getR (v := (rp σ.2.2.2.1 + 0)) dX10_faces_12 flX10_111 zcf4 zp8 (Or.inl ⟨_, rfl⟩) rfl ?_
  refine kR.iload_n dX10_faces_15 1 rfl ?_
  obtain ⟨v3, σ1, e2, h⟩ := bnc_some h
  refine kR.cVi [.ref 2, .ref (rp σ.2.2.2.1 + 0), .int p1] dX10_faces_16 rfl (by decide) mwX10_266 zp32 (by decide) rfl rfl (Nat.le_of_ble_eq_true rfl) (lX1_take σ.2.2.2.1 p1 σ _ e2) ?_
  refine zR.istore_n (i := 2) (ls' := [(2, .int v3), (0, .ref 1), (1, .int p1)]) dX10_faces_19 rfl (by decide) rfl ?_
  refine kR.aload_n dX10_faces_20 1 rfl ?_
  refine kR.getR (v := 2) dX10_faces_21 flX10_12 zcf10 zp1 (Or.inl ⟨_, rfl⟩) rfl ?_
  refine zR.iconst (v := 0) dX10_faces_24 (by decide) ?_
  refine kR.putI dX10_faces_25 fpX10_86 zcf9 zp2 rfl h (fun σ4 h => ?_)
  refine kR.iload_n dX10_faces_28 0 rfl ?_
  refine kR.if_eq (tgt := 42) dX10_faces_29 (by decide) h (fun h => ?_) (fun h => ?_)
  · refine kR.aload_n dX10_faces_42 1 rfl ?_
    refine zR.iconst (v := 4) dX10_faces_43 (by decide) ?_
    obtain ⟨v7, σ5, e6, h⟩ := bnc_some h
    refine kR.cVi [.int 4] dX10_faces_44 rfl (by decide) mwX10_89 zp1 (by decide) rfl rfl (Nat.le_of_ble_eq_true rfl) (lX10_refuse 4 σ4 _ e6) ?_
    exact kR.iretW dX10_faces_47 (nzI rfl _) h
  · refine kR.aload_n dX10_faces_32 1 rfl ?_
    refine kR.getR (v := 32) dX10_faces_33 flX10_54 zcf10 zp1 (Or.inl ⟨_, rfl⟩) rfl ?_
    refine kR.getI dX10_faces_36 flX10_118 zcf1 zp32 (Or.inl rfl) ?_
    refine zR.goto (tgt := 47) dX10_faces_39 (by decide) ?_
    exact kR.iretW dX10_faces_47 (nzI rfl _) h
theorem lX10_faces {sc : Nat × (Nat → Int32)} (p1 : Int32) (σ : zS) (w : Int32 × zS) (h : fX10_faces p1 σ = some w) : zC (zY0 sc) 3 0 0 mX10_faces [.ref 1, .int p1] (zE σ) (some (.int w.1), zE w.2) := zC.of (by decide +kernel) (Nat.le_of_ble_eq_true rfl) ⟨_, rfl⟩ (eX10_faces p1 σ w h)
theorem dJ6_bitCount_0f7a4_0 : decode cJ6_bitCount_0f7a4 0 = .ok (.iload_n 0, 1) := by decide +kernel
theorem dJ6_bitCount_0f7a4_1 : decode cJ6_bitCount_0f7a4 1 = .ok (.iload_n 0, 1) := by decide +kernel
theorem dJ6_bitCount_0f7a4_2 : decode cJ6_bitCount_0f7a4 2 = .ok (.iconst 1, 1) := by decide +kernel
theorem dJ6_bitCount_0f7a4_3 : decode cJ6_bitCount_0f7a4 3 = .ok (.iushr, 1) := by decide +kernel
theorem dJ6_bitCount_0f7a4_4 : decode cJ6_bitCount_0f7a4 4 = .ok (.ldc_w 265, 3) := by decide +kernel
theorem dJ6_bitCount_0f7a4_7 : decode cJ6_bitCount_0f7a4 7 = .ok (.iand, 1) := by decide +kernel
theorem dJ6_bitCount_0f7a4_8 : decode cJ6_bitCount_0f7a4 8 = .ok (.isub, 1) := by decide +kernel
theorem dJ6_bitCount_0f7a4_9 : decode cJ6_bitCount_0f7a4 9 = .ok (.istore_n 0, 1) := by decide +kernel
theorem dJ6_bitCount_0f7a4_10 : decode cJ6_bitCount_0f7a4 10 = .ok (.iload_n 0, 1) := by decide +kernel
theorem dJ6_bitCount_0f7a4_11 : decode cJ6_bitCount_0f7a4 11 = .ok (.ldc_w 266, 3) := by decide +kernel
theorem dJ6_bitCount_0f7a4_14 : decode cJ6_bitCount_0f7a4 14 = .ok (.iand, 1) := by decide +kernel
theorem dJ6_bitCount_0f7a4_15 : decode cJ6_bitCount_0f7a4 15 = .ok (.iload_n 0, 1) := by decide +kernel
theorem dJ6_bitCount_0f7a4_16 : decode cJ6_bitCount_0f7a4 16 = .ok (.iconst 2, 1) := by decide +kernel
theorem dJ6_bitCount_0f7a4_17 : decode cJ6_bitCount_0f7a4 17 = .ok (.iushr, 1) := by decide +kernel
theorem dJ6_bitCount_0f7a4_18 : decode cJ6_bitCount_0f7a4 18 = .ok (.ldc_w 266, 3) := by decide +kernel
theorem dJ6_bitCount_0f7a4_21 : decode cJ6_bitCount_0f7a4 21 = .ok (.iand, 1) := by decide +kernel
theorem dJ6_bitCount_0f7a4_22 : decode cJ6_bitCount_0f7a4 22 = .ok (.iadd, 1) := by decide +kernel
theorem dJ6_bitCount_0f7a4_23 : decode cJ6_bitCount_0f7a4 23 = .ok (.istore_n 0, 1) := by decide +kernel
theorem dJ6_bitCount_0f7a4_24 : decode cJ6_bitCount_0f7a4 24 = .ok (.iload_n 0, 1) := by decide +kernel
theorem dJ6_bitCount_0f7a4_25 : decode cJ6_bitCount_0f7a4 25 = .ok (.iload_n 0, 1) := by decide +kernel
theorem dJ6_bitCount_0f7a4_26 : decode cJ6_bitCount_0f7a4 26 = .ok (.iconst 4, 1) := by decide +kernel
theorem dJ6_bitCount_0f7a4_27 : decode cJ6_bitCount_0f7a4 27 = .ok (.iushr, 1) := by decide +kernel
theorem dJ6_bitCount_0f7a4_28 : decode cJ6_bitCount_0f7a4 28 = .ok (.iadd, 1) := by decide +kernel
theorem dJ6_bitCount_0f7a4_29 : decode cJ6_bitCount_0f7a4 29 = .ok (.ldc_w 267, 3) := by decide +kernel
theorem dJ6_bitCount_0f7a4_32 : decode cJ6_bitCount_0f7a4 32 = .ok (.iand, 1) := by decide +kernel
theorem dJ6_bitCount_0f7a4_33 : decode cJ6_bitCount_0f7a4 33 = .ok (.istore_n 0, 1) := by decide +kernel
theorem dJ6_bitCount_0f7a4_34 : decode cJ6_bitCount_0f7a4 34 = .ok (.iload_n 0, 1) := by decide +kernel
theorem dJ6_bitCount_0f7a4_35 : decode cJ6_bitCount_0f7a4 35 = .ok (.iload_n 0, 1) := by decide +kernel
theorem dJ6_bitCount_0f7a4_36 : decode cJ6_bitCount_0f7a4 36 = .ok (.bipush 8, 2) := by decide +kernel
theorem dJ6_bitCount_0f7a4_38 : decode cJ6_bitCount_0f7a4 38 = .ok (.iushr, 1) := by decide +kernel
theorem dJ6_bitCount_0f7a4_39 : decode cJ6_bitCount_0f7a4 39 = .ok (.iadd, 1) := by decide +kernel
theorem dJ6_bitCount_0f7a4_40 : decode cJ6_bitCount_0f7a4 40 = .ok (.istore_n 0, 1) := by decide +kernel
theorem dJ6_bitCount_0f7a4_41 : decode cJ6_bitCount_0f7a4 41 = .ok (.iload_n 0, 1) := by decide +kernel
theorem dJ6_bitCount_0f7a4_42 : decode cJ6_bitCount_0f7a4 42 = .ok (.iload_n 0, 1) := by decide +kernel
theorem dJ6_bitCount_0f7a4_43 : decode cJ6_bitCount_0f7a4 43 = .ok (.bipush 16, 2) := by decide +kernel
theorem dJ6_bitCount_0f7a4_45 : decode cJ6_bitCount_0f7a4 45 = .ok (.iushr, 1) := by decide +kernel
theorem dJ6_bitCount_0f7a4_46 : decode cJ6_bitCount_0f7a4 46 = .ok (.iadd, 1) := by decide +kernel
theorem dJ6_bitCount_0f7a4_47 : decode cJ6_bitCount_0f7a4 47 = .ok (.istore_n 0, 1) := by decide +kernel
theorem dJ6_bitCount_0f7a4_48 : decode cJ6_bitCount_0f7a4 48 = .ok (.iload_n 0, 1) := by decide +kernel
theorem dJ6_bitCount_0f7a4_49 : decode cJ6_bitCount_0f7a4 49 = .ok (.bipush 63, 2) := by decide +kernel
theorem dJ6_bitCount_0f7a4_51 : decode cJ6_bitCount_0f7a4 51 = .ok (.iand, 1) := by decide +kernel
theorem dJ6_bitCount_0f7a4_52 : decode cJ6_bitCount_0f7a4 52 = .ok (.ireturn, 1) := by decide +kernel
def fJ6_bitCount_0f7a4 (p0 : Int32) : Int32 := bnd (((((p0) : Int32).toUInt32 >>> (((1) : Int32).toUInt32 &&& Int32.toUInt32 31)).toInt32) &&& 1431655765) fun v1 => bnd (((((p0 - v1) : Int32).toUInt32 >>> (((2) : Int32).toUInt32 &&& Int32.toUInt32 31)).toInt32) &&& 858993459) fun v2 => bnd ((((p0 - v1) &&& 858993459) + v2) + ((((((p0 - v1) &&& 858993459) + v2) : Int32).toUInt32 >>> (((4) : Int32).toUInt32 &&& Int32.toUInt32 31)).toInt32)) fun v3 => bnd ((v3 &&& 252645135) + ((((v3 &&& 252645135) : Int32).toUInt32 >>> (((8) : Int32).toUInt32 &&& Int32.toUInt32 31)).toInt32)) fun v4 => bnd (v4 + ((((v4) : Int32).toUInt32 >>> (((16) : Int32).toUInt32 &&& Int32.toUInt32 31)).toInt32)) fun v5 => v5 &&& 63
theorem eJ6_bitCount_0f7a4 {sc : Nat × (Nat → Int32)} {μ : zM} (p0 : Int32) (w : Int32) (h : fJ6_bitCount_0f7a4 p0 = w) : zR (zY0 sc) 1 0 0 mJ6_bitCount_0f7a4 0 [(0, .int p0)] [] μ (some (.int w), μ) := by
  unfold fJ6_bitCount_0f7a4 at h
  refine kR.iload_n dJ6_bitCount_0f7a4_0 0 rfl ?_
  refine kR.iload_n dJ6_bitCount_0f7a4_1 0 rfl ?_
  refine zR.iconst (v := 1) dJ6_bitCount_0f7a4_2 (by decide) ?_
  refine zR.iushr dJ6_bitCount_0f7a4_3 ?_
  refine zR.ldcw (v := 1431655765) dJ6_bitCount_0f7a4_4 ciJ6_265 ?_
  refine zR.iand dJ6_bitCount_0f7a4_7 ?_
  refine kR.nmI h (fun v1 h => ?_)
  refine zR.isub dJ6_bitCount_0f7a4_8 ?_
  refine zR.istore_n (i := 0) (ls' := [(0, .int (p0 - v1))]) dJ6_bitCount_0f7a4_9 rfl (by decide) rfl ?_
  refine kR.iload_n dJ6_bitCount_0f7a4_10 0 rfl ?_
  refine zR.ldcw (v := 858993459) dJ6_bitCount_0f7a4_11 ciJ6_266 ?_
  refine zR.iand dJ6_bitCount_0f7a4_14 ?_
  refine kR.iload_n dJ6_bitCount_0f7a4_15 0 rfl ?_
  refine zR.iconst (v := 2) dJ6_bitCount_0f7a4_16 (by decide) ?_
  refine zR.iushr dJ6_bitCount_0f7a4_17 ?_
  refine zR.ldcw (v := 858993459) dJ6_bitCount_0f7a4_18 ciJ6_266 ?_
  refine zR.iand dJ6_bitCount_0f7a4_21 ?_
  refine kR.nmI h (fun v2 h => ?_)
  refine zR.iadd dJ6_bitCount_0f7a4_22 ?_
  refine zR.istore_n (i := 0) (ls' := [(0, .int (((p0 - v1) &&& 858993459) + v2))]) dJ6_bitCount_0f7a4_23 rfl (by decide) rfl ?_
  refine kR.iload_n dJ6_bitCount_0f7a4_24 0 rfl ?_
  refine kR.iload_n dJ6_bitCount_0f7a4_25 0 rfl ?_
  refine zR.iconst (v := 4) dJ6_bitCount_0f7a4_26 (by decide) ?_
  refine zR.iushr dJ6_bitCount_0f7a4_27 ?_
  refine zR.iadd dJ6_bitCount_0f7a4_28 ?_
  refine kR.nmI h (fun v3 h => ?_)
  refine zR.ldcw (v := 252645135) dJ6_bitCount_0f7a4_29 ciJ6_267 ?_
  refine zR.iand dJ6_bitCount_0f7a4_32 ?_
  refine zR.istore_n (i := 0) (ls' := [(0, .int (v3 &&& 252645135))]) dJ6_bitCount_0f7a4_33 rfl (by decide) rfl ?_
  refine kR.iload_n dJ6_bitCount_0f7a4_34 0 rfl ?_
  refine kR.iload_n dJ6_bitCount_0f7a4_35 0 rfl ?_
  refine zR.bipush (v := 8) dJ6_bitCount_0f7a4_36 (by decide) ?_
  refine zR.iushr dJ6_bitCount_0f7a4_38 ?_
  refine zR.iadd dJ6_bitCount_0f7a4_39 ?_
  refine kR.nmI h (fun v4 h => ?_)
  refine zR.istore_n (i := 0) (ls' := [(0, .int v4)]) dJ6_bitCount_0f7a4_40 rfl (by decide) rfl ?_
  refine kR.iload_n dJ6_bitCount_0f7a4_41 0 rfl ?_
  refine kR.iload_n dJ6_bitCount_0f7a4_42 0 rfl ?_
  refine zR.bipush (v := 16) dJ6_bitCount_0f7a4_43 (by decide) ?_
  refine zR.iushr dJ6_bitCount_0f7a4_45 ?_
  refine zR.iadd dJ6_bitCount_0f7a4_46 ?_
  refine kR.nmI h (fun v5 h => ?_)
  refine zR.istore_n (i := 0) (ls' := [(0, .int v5)]) dJ6_bitCount_0f7a4_47 rfl (by decide) rfl ?_
  refine kR.iload_n dJ6_bitCount_0f7a4_48 0 rfl ?_
  refine zR.bipush (v := 63) dJ6_bitCount_0f7a4_49 (by decide) ?_
  refine zR.iand dJ6_bitCount_0f7a4_51 ?_
  exact kR.iret dJ6_bitCount_0f7a4_52 (nzI rfl _) h
theorem lJ6_bitCount_0f7a4 {sc : Nat × (Nat → Int32)} {μ : zM} (p0 : Int32) : zC (zY0 sc) 1 0 0 mJ6_bitCount_0f7a4 [.int p0] μ (some (.int (fJ6_bitCount_0f7a4 p0)), μ) := zC.of (by decide +kernel) (Nat.le_of_ble_eq_true rfl) ⟨_, rfl⟩ (eJ6_bitCount_0f7a4 p0 _ rfl)
theorem dX1_fitLength_0 : decode cX1_fitLength 0 = .ok (.iconst 0, 1) := by decide +kernel
theorem dX1_fitLength_1 : decode cX1_fitLength 1 = .ok (.istore_n 3, 1) := by decide +kernel
theorem dX1_fitLength_2 : decode cX1_fitLength 2 = .ok (.iload_n 3, 1) := by decide +kernel
theorem dX1_fitLength_3 : decode cX1_fitLength 3 = .ok (.aload_n 0, 1) := by decide +kernel
theorem dX1_fitLength_4 : decode cX1_fitLength 4 = .ok (.getfield 22, 3) := by decide +kernel
theorem dX1_fitLength_7 : decode cX1_fitLength 7 = .ok (.if_icmp .ge 35, 3) := by decide +kernel
theorem dX1_fitLength_10 : decode cX1_fitLength 10 = .ok (.aload_n 1, 1) := by decide +kernel
theorem dX1_fitLength_11 : decode cX1_fitLength 11 = .ok (.aload_n 0, 1) := by decide +kernel
theorem dX1_fitLength_12 : decode cX1_fitLength 12 = .ok (.getfield 9, 3) := by decide +kernel
theorem dX1_fitLength_15 : decode cX1_fitLength 15 = .ok (.iload_n 3, 1) := by decide +kernel
theorem dX1_fitLength_16 : decode cX1_fitLength 16 = .ok (.iaload, 1) := by decide +kernel
theorem dX1_fitLength_17 : decode cX1_fitLength 17 = .ok (.aload_n 0, 1) := by decide +kernel
theorem dX1_fitLength_18 : decode cX1_fitLength 18 = .ok (.getfield 18, 3) := by decide +kernel
theorem dX1_fitLength_21 : decode cX1_fitLength 21 = .ok (.iload_n 2, 1) := by decide +kernel
theorem dX1_fitLength_22 : decode cX1_fitLength 22 = .ok (.invokevirtual 46, 3) := by decide +kernel
theorem dX1_fitLength_25 : decode cX1_fitLength 25 = .ok (.aload_n 0, 1) := by decide +kernel
theorem dX1_fitLength_26 : decode cX1_fitLength 26 = .ok (.getfield 15, 3) := by decide +kernel
theorem dX1_fitLength_29 : decode cX1_fitLength 29 = .ok (.iload_n 3, 1) := by decide +kernel
theorem dX1_fitLength_30 : decode cX1_fitLength 30 = .ok (.iaload, 1) := by decide +kernel
theorem dX1_fitLength_31 : decode cX1_fitLength 31 = .ok (.if_icmp .eq 5, 3) := by decide +kernel
theorem dX1_fitLength_34 : decode cX1_fitLength 34 = .ok (.iconst 0, 1) := by decide +kernel
theorem dX1_fitLength_35 : decode cX1_fitLength 35 = .ok (.ireturn, 1) := by decide +kernel
theorem dX1_fitLength_36 : decode cX1_fitLength 36 = .ok (.iinc 3 1, 3) := by decide +kernel
theorem dX1_fitLength_39 : decode cX1_fitLength 39 = .ok (.goto (-37), 3) := by decide +kernel
theorem dX1_fitLength_42 : decode cX1_fitLength 42 = .ok (.iconst 1, 1) := by decide +kernel
theorem dX1_fitLength_43 : decode cX1_fitLength 43 = .ok (.ireturn, 1) := by decide +kernel
def fX1_fitLength_2 (σ : zS) : Nat → Int32 → Int32 → Option Int32
  | 0, _, _ => none
  | f + 1, x2, x3 => if (iG σ 32 3) ≤ x3 then some 1 else aI σ 33 12 x3 fun v1 => bnr (fX4_secondsHeld σ v1 (iG σ 32 2) x2) fun v2 => aI σ 34 12 x3 fun v4 => if v2 = v4 then fX1_fitLength_2 σ f x2 (x3 + 1) else some 0
theorem kX1_fitLength_2 {sc : Nat × (Nat → Int32)} (σ : zS) : ∀ (fuel : Nat) (x2 : Int32) (x3 : Int32) (w : Int32) (h : fX1_fitLength_2 σ fuel x2 x3 = some w), zR (zY0 sc) 3 0 0 mX1_fitLength 2 [(0, .ref 32), (1, .ref 8), (2, .int x2), (3, .int x3)] [] (zE σ) (some (.int w), zE σ) := by
  intro fuel
  induction fuel with
  | zero => intro x2 x3 w h; exact nomatch h
  | succ f ih =>
    intro x2 x3 w h
    rw [fX1_fitLength_2] at h
    refine kR.iload_n dX1_fitLength_2 3 rfl ?_
    refine kR.aload_n dX1_fitLength_3 0 rfl ?_
    refine kR.getI dX1_fitLength_4 flX1_22 zcf1 zp32 (Or.inl rfl) ?_
    refine kR.icmp_ge (tgt := 42) dX1_fitLength_7 (by decide) h (fun h => ?_) (fun h => ?_)
    · refine zR.iconst (v := 1) dX1_fitLength_42 (by decide) ?_
      exact kR.iretO dX1_fitLength_43 (nzZ rfl (Or.inr rfl)) h
    · refine kR.aload_n dX1_fitLength_10 1 rfl ?_
      refine kR.aload_n dX1_fitLength_11 0 rfl ?_
      refine kR.getR (v := 33) dX1_fitLength_12 flX1_9 zcf1 zp32 (Or.inr ⟨_, rfl⟩) rfl ?_
      refine kR.iload_n dX1_fitLength_15 3 rfl ?_
      refine kR.iald dX1_fitLength_16 zp33 rfl h (fun v1 h => ?_)
      refine kR.aload_n dX1_fitLength_17 0 rfl ?_
      refine kR.getI dX1_fitLength_18 flX1_18 zcf1 zp32 (Or.inl rfl) ?_
      refine kR.iload_n dX1_fitLength_21 2 rfl ?_
      obtain ⟨v2, e3, h⟩ := bnr_some h
      refine kR.cVi [.int v1, .int (iG σ 32 2), .int x2] dX1_fitLength_22 rfl (by decide) mwX1_46 zp8 (by decide) rfl rfl (Nat.le_of_ble_eq_true rfl) (lX4_secondsHeld σ v1 (iG σ 32 2) x2 _ e3) ?_
      refine kR.aload_n dX1_fitLength_25 0 rfl ?_
      refine kR.getR (v := 34) dX1_fitLength_26 flX1_15 zcf1 zp32 (Or.inr ⟨_, rfl⟩) rfl ?_
      refine kR.iload_n dX1_fitLength_29 3 rfl ?_
      refine kR.iald dX1_fitLength_30 zp34 rfl h (fun v4 h => ?_)
      refine kR.icmp_eq (tgt := 36) dX1_fitLength_31 (by decide) h (fun h => ?_) (fun h => ?_)
      · refine zR.iinc 3 (v := x3 + 1) (ls' := [(3, .int (x3 + 1)), (0, .ref 32), (1, .ref 8), (2, .int x2)]) dX1_fitLength_36 rfl rfl (by decide) rfl ?_
        refine zR.goto (tgt := 2) dX1_fitLength_39 (by decide) ?_
        refine zR.sub [1, 2, 3, 0] rfl ?_
        exact ih _ _ _ h
      · refine zR.iconst (v := 0) dX1_fitLength_34 (by decide) ?_
        exact kR.iretO dX1_fitLength_35 (nzZ rfl (Or.inl rfl)) h
def fX1_fitLength (σ : zS) (p2 : Int32) : Option Int32 := fX1_fitLength_2 σ zF p2 0
theorem eX1_fitLength {sc : Nat × (Nat → Int32)} (σ : zS) (p2 : Int32) (w : Int32) (h : fX1_fitLength σ p2 = some w) : zR (zY0 sc) 3 0 0 mX1_fitLength 0 [(0, .ref 32), (1, .ref 8), (2, .int p2)] [] (zE σ) (some (.int w), zE σ) := by
  unfold fX1_fitLength at h
  refine zR.iconst (v := 0) dX1_fitLength_0 (by decide) ?_
  refine zR.istore_n (i := 3) (ls' := [(3, .int 0), (0, .ref 32), (1, .ref 8), (2, .int p2)]) dX1_fitLength_1 rfl (by decide) rfl ?_
  refine zR.sub [1, 2, 3, 0] rfl ?_
  exact kX1_fitLength_2 σ zF _ _ _ h
theorem lX1_fitLength {sc : Nat × (Nat → Int32)} (σ : zS) (p2 : Int32) (w : Int32) (h : fX1_fitLength σ p2 = some w) : zC (zY0 sc) 3 0 0 mX1_fitLength [.ref 32, .ref 8, .int p2] (zE σ) (some (.int w), zE σ) := zC.of (by decide +kernel) (Nat.le_of_ble_eq_true rfl) ⟨_, rfl⟩ (eX1_fitLength σ p2 w h)
theorem dX10_fit_0 : decode cX10_fit 0 = .ok (.aload_n 0, 1) := by decide +kernel
theorem dX10_fit_1 : decode cX10_fit 1 = .ok (.getfield 54, 3) := by decide +kernel
theorem dX10_fit_4 : decode cX10_fit 4 = .ok (.getfield 118, 3) := by decide +kernel
theorem dX10_fit_7 : decode cX10_fit 7 = .ok (.ifCond .eq 12, 3) := by decide +kernel
theorem dX10_fit_10 : decode cX10_fit 10 = .ok (.iload_n 1, 1) := by decide +kernel
theorem dX10_fit_11 : decode cX10_fit 11 = .ok (.ifCond .lt 8, 3) := by decide +kernel
theorem dX10_fit_14 : decode cX10_fit 14 = .ok (.iload_n 1, 1) := by decide +kernel
theorem dX10_fit_15 : decode cX10_fit 15 = .ok (.iconst 2, 1) := by decide +kernel
theorem dX10_fit_16 : decode cX10_fit 16 = .ok (.if_icmp .le 5, 3) := by decide +kernel
theorem dX10_fit_19 : decode cX10_fit 19 = .ok (.iconst (-1), 1) := by decide +kernel
theorem dX10_fit_20 : decode cX10_fit 20 = .ok (.ireturn, 1) := by decide +kernel
theorem dX10_fit_21 : decode cX10_fit 21 = .ok (.aload_n 0, 1) := by decide +kernel
theorem dX10_fit_22 : decode cX10_fit 22 = .ok (.getfield 38, 3) := by decide +kernel
theorem dX10_fit_25 : decode cX10_fit 25 = .ok (.getfield 111, 3) := by decide +kernel
theorem dX10_fit_28 : decode cX10_fit 28 = .ok (.astore_n 2, 1) := by decide +kernel
theorem dX10_fit_29 : decode cX10_fit 29 = .ok (.iconst 0, 1) := by decide +kernel
theorem dX10_fit_30 : decode cX10_fit 30 = .ok (.istore_n 3, 1) := by decide +kernel
theorem dX10_fit_31 : decode cX10_fit 31 = .ok (.iconst 0, 1) := by decide +kernel
theorem dX10_fit_32 : decode cX10_fit 32 = .ok (.istore 4, 2) := by decide +kernel
theorem dX10_fit_34 : decode cX10_fit 34 = .ok (.iconst 0, 1) := by decide +kernel
theorem dX10_fit_35 : decode cX10_fit 35 = .ok (.istore 5, 2) := by decide +kernel
theorem dX10_fit_37 : decode cX10_fit 37 = .ok (.iload 5, 2) := by decide +kernel
theorem dX10_fit_39 : decode cX10_fit 39 = .ok (.aload_n 2, 1) := by decide +kernel
theorem dX10_fit_40 : decode cX10_fit 40 = .ok (.getfield 164, 3) := by decide +kernel
theorem dX10_fit_43 : decode cX10_fit 43 = .ok (.aload_n 0, 1) := by decide +kernel
theorem dX10_fit_44 : decode cX10_fit 44 = .ok (.getfield 54, 3) := by decide +kernel
theorem dX10_fit_47 : decode cX10_fit 47 = .ok (.getfield 270, 3) := by decide +kernel
theorem dX10_fit_50 : decode cX10_fit 50 = .ok (.iaload, 1) := by decide +kernel
theorem dX10_fit_51 : decode cX10_fit 51 = .ok (.if_icmp .ge 61, 3) := by decide +kernel
theorem dX10_fit_54 : decode cX10_fit 54 = .ok (.aload_n 0, 1) := by decide +kernel
theorem dX10_fit_55 : decode cX10_fit 55 = .ok (.getfield 54, 3) := by decide +kernel
theorem dX10_fit_58 : decode cX10_fit 58 = .ok (.aload_n 0, 1) := by decide +kernel
theorem dX10_fit_59 : decode cX10_fit 59 = .ok (.getfield 38, 3) := by decide +kernel
theorem dX10_fit_62 : decode cX10_fit 62 = .ok (.aload_n 2, 1) := by decide +kernel
theorem dX10_fit_63 : decode cX10_fit 63 = .ok (.aload_n 0, 1) := by decide +kernel
theorem dX10_fit_64 : decode cX10_fit 64 = .ok (.getfield 54, 3) := by decide +kernel
theorem dX10_fit_67 : decode cX10_fit 67 = .ok (.getfield 270, 3) := by decide +kernel
theorem dX10_fit_70 : decode cX10_fit 70 = .ok (.iload 5, 2) := by decide +kernel
theorem dX10_fit_72 : decode cX10_fit 72 = .ok (.invokevirtual 167, 3) := by decide +kernel
theorem dX10_fit_75 : decode cX10_fit 75 = .ok (.invokevirtual 273, 3) := by decide +kernel
theorem dX10_fit_78 : decode cX10_fit 78 = .ok (.ifCond .eq 28, 3) := by decide +kernel
theorem dX10_fit_81 : decode cX10_fit 81 = .ok (.iload_n 3, 1) := by decide +kernel
theorem dX10_fit_82 : decode cX10_fit 82 = .ok (.iconst 1, 1) := by decide +kernel
theorem dX10_fit_83 : decode cX10_fit 83 = .ok (.iload 5, 2) := by decide +kernel
theorem dX10_fit_85 : decode cX10_fit 85 = .ok (.ishl, 1) := by decide +kernel
theorem dX10_fit_86 : decode cX10_fit 86 = .ok (.ior, 1) := by decide +kernel
theorem dX10_fit_87 : decode cX10_fit 87 = .ok (.istore_n 3, 1) := by decide +kernel
theorem dX10_fit_88 : decode cX10_fit 88 = .ok (.iload 4, 2) := by decide +kernel
theorem dX10_fit_90 : decode cX10_fit 90 = .ok (.aload_n 2, 1) := by decide +kernel
theorem dX10_fit_91 : decode cX10_fit 91 = .ok (.aload_n 0, 1) := by decide +kernel
theorem dX10_fit_92 : decode cX10_fit 92 = .ok (.getfield 54, 3) := by decide +kernel
theorem dX10_fit_95 : decode cX10_fit 95 = .ok (.getfield 270, 3) := by decide +kernel
theorem dX10_fit_98 : decode cX10_fit 98 = .ok (.iload 5, 2) := by decide +kernel
theorem dX10_fit_100 : decode cX10_fit 100 = .ok (.invokevirtual 170, 3) := by decide +kernel
theorem dX10_fit_103 : decode cX10_fit 103 = .ok (.iadd, 1) := by decide +kernel
theorem dX10_fit_104 : decode cX10_fit 104 = .ok (.istore 4, 2) := by decide +kernel
theorem dX10_fit_106 : decode cX10_fit 106 = .ok (.iinc 5 1, 3) := by decide +kernel
theorem dX10_fit_109 : decode cX10_fit 109 = .ok (.goto (-72), 3) := by decide +kernel
theorem dX10_fit_112 : decode cX10_fit 112 = .ok (.iload_n 1, 1) := by decide +kernel
theorem dX10_fit_113 : decode cX10_fit 113 = .ok (.lookupswitch 34 #[(0, 27), (1, 32)], 27) := by decide +kernel
theorem dX10_fit_140 : decode cX10_fit 140 = .ok (.iload_n 3, 1) := by decide +kernel
theorem dX10_fit_141 : decode cX10_fit 141 = .ok (.invokestatic 277, 3) := by decide +kernel
theorem dX10_fit_144 : decode cX10_fit 144 = .ok (.ireturn, 1) := by decide +kernel
theorem dX10_fit_145 : decode cX10_fit 145 = .ok (.iload_n 3, 1) := by decide +kernel
theorem dX10_fit_146 : decode cX10_fit 146 = .ok (.ireturn, 1) := by decide +kernel
theorem dX10_fit_147 : decode cX10_fit 147 = .ok (.iload 4, 2) := by decide +kernel
theorem dX10_fit_149 : decode cX10_fit 149 = .ok (.i2l, 1) := by decide +kernel
theorem dX10_fit_150 : decode cX10_fit 150 = .ok (.aload_n 2, 1) := by decide +kernel
theorem dX10_fit_151 : decode cX10_fit 151 = .ok (.aload_n 0, 1) := by decide +kernel
theorem dX10_fit_152 : decode cX10_fit 152 = .ok (.getfield 54, 3) := by decide +kernel
theorem dX10_fit_155 : decode cX10_fit 155 = .ok (.getfield 270, 3) := by decide +kernel
theorem dX10_fit_158 : decode cX10_fit 158 = .ok (.invokevirtual 176, 3) := by decide +kernel
theorem dX10_fit_161 : decode cX10_fit 161 = .ok (.i2l, 1) := by decide +kernel
theorem dX10_fit_162 : decode cX10_fit 162 = .ok (.invokestatic 198, 3) := by decide +kernel
theorem dX10_fit_165 : decode cX10_fit 165 = .ok (.ireturn, 1) := by decide +kernel
def fX10_fit_106 (σ : zS) (r37 : Int32 → Bool → Int32 → Int32 → Int32 → Option Int32) (x1 : Int32) (c2 : Bool) (x3 : Int32) (x4 : Int32) (x5 : Int32) : Option Int32 := r37 x1 c2 x3 x4 (x5 + 1)
theorem kX10_fit_106 {sc : Nat × (Nat → Int32)} (σ : zS) (r37 : Int32 → Bool → Int32 → Int32 → Int32 → Option Int32) (hr37 : ∀ (x1 : Int32) (c2 : Bool) (x3 : Int32) (x4 : Int32) (x5 : Int32) (w : Int32), r37 x1 c2 x3 x4 x5 = some w → zR (zY0 sc) 4 0 0 mX10_fit 37 [(0, .ref 1), (1, .int x1), (2, .ref (rp c2 + 0)), (3, .int x3), (4, .int x4), (5, .int x5)] [] (zE σ) (some (.int w), zE σ)) (x1 : Int32) (c2 : Bool) (x3 : Int32) (x4 : Int32) (x5 : Int32) (w : Int32) (h : fX10_fit_106 σ r37 x1 c2 x3 x4 x5 = some w) : zR (zY0 sc) 4 0 0 mX10_fit 106 [(0, .ref 1), (1, .int x1), (2, .ref (rp c2 + 0)), (3, .int x3), (4, .int x4), (5, .int x5)] [] (zE σ) (some (.int w), zE σ) := by
  unfold fX10_fit_106 at h
  refine zR.iinc 5 (v := x5 + 1) (ls' := [(5, .int (x5 + 1)), (0, .ref 1), (1, .int x1), (2, .ref (rp c2 + 0)), (3, .int x3), (4, .int x4)]) dX10_fit_106 rfl rfl (by decide) rfl ?_
  refine zR.goto (tgt := 37) dX10_fit_109 (by decide) ?_
  refine zR.sub [1, 2, 3, 4, 5, 0] rfl ?_
  exact hr37 _ _ _ _ _ _ h
def fX10_fit_37 (σ : zS) : Nat → Int32 → Bool → Int32 → Int32 → Int32 → Option Int32
  | 0, _, _, _, _, _ => none
  | f + 1, x1, c2, x3, x4, x5 => aI σ (rp c2 + 3) 6 (iG σ 32 2) fun v1 => if v1 ≤ x5 then if x1 = 0 then some (fJ6_bitCount_0f7a4 x3) else if x1 = 1 then some x3 else bnr (fX6_allWeights c2 σ (iG σ 32 2)) fun v2 => bnr (fX10_thousandths x4.toInt64 v2.toInt64) fun v4 => some v4 else bnr (fX6_lengthAt c2 σ (iG σ 32 2) x5) fun v6 => bnr (fX1_fitLength σ v6) fun v8 => if v8 = 0 then fX10_fit_106 σ (fX10_fit_37 σ f) x1 c2 x3 x4 x5 else bnr (fX6_weightAt c2 σ (iG σ 32 2) x5) fun v10 => fX10_fit_106 σ (fX10_fit_37 σ f) x1 c2 (x3 ||| (1 <<< (x5 &&& 31))) (x4 + v10) x5
theorem kX10_fit_37 {sc : Nat × (Nat → Int32)} (σ : zS) : ∀ (fuel : Nat) (x1 : Int32) (c2 : Bool) (x3 : Int32) (x4 : Int32) (x5 : Int32) (w : Int32) (h : fX10_fit_37 σ fuel x1 c2 x3 x4 x5 = some w), zR (zY0 sc) 4 0 0 mX10_fit 37 [(0, .ref 1), (1, .int x1), (2, .ref (rp c2 + 0)), (3, .int x3), (4, .int x4), (5, .int x5)] [] (zE σ) (some (.int w), zE σ) := by
  intro fuel
  induction fuel with
  | zero => intro x1 c2 x3 x4 x5 w h; exact nomatch h
  | succ f ih =>
    intro x1 c2 x3 x4 x5 w h
    rw [fX10_fit_37] at h
    refine kR.iload dX10_fit_37 5 rfl ?_
    refine kR.aload_n dX10_fit_39 2 rfl ?_
    refine kR.getR (v := (rp c2 + 3)) dX10_fit_40 flX10_164 zcf6 (zq0 c2) (Or.inr ⟨_, rfl⟩) (zr0_7 _ c2) ?_
    refine kR.aload_n dX10_fit_43 0 rfl ?_
    refine kR.getR (v := 32) dX10_fit_44 flX10_54 zcf10 zp1 (Or.inl ⟨_, rfl⟩) rfl ?_
    refine kR.getI dX10_fit_47 flX10_270 zcf1 zp32 (Or.inl rfl) ?_
    refine kR.iald dX10_fit_50 (zq3 c2) (zl3 c2) h (fun v1 h => ?_)
    refine kR.icmp_ge (tgt := 112) dX10_fit_51 (by decide) h (fun h => ?_) (fun h => ?_)
    · refine kR.iload_n dX10_fit_112 1 rfl ?_
      by_cases e0 : x1 = 0
      · rw [if_pos e0] at h
        refine zR.lookup (off := 27) (tgt := 140) dX10_fit_113 (by decide) (by rw [e0]; decide) (by decide) ?_
        refine kR.iload_n dX10_fit_140 3 rfl ?_
        refine kR.cSi [.int x3] dX10_fit_141 rfl (by decide) (Or.inl mwX10_277) rfl (Nat.le_of_ble_eq_true rfl) (lJ6_bitCount_0f7a4 x3) ?_
        exact kR.iretO dX10_fit_144 (nzI rfl _) h
      rw [if_neg e0] at h
      by_cases e1 : x1 = 1
      · rw [if_pos e1] at h
        refine zR.lookup (off := 32) (tgt := 145) dX10_fit_113 (by decide) (by rw [e1]; decide) (by decide) ?_
        refine kR.iload_n dX10_fit_145 3 rfl ?_
        exact kR.iretO dX10_fit_146 (nzI rfl _) h
      rw [if_neg e1] at h
      refine zR.lookup (off := 34) (tgt := 147) dX10_fit_113 (by decide) (by show Op.lookupswitch.offset [(0, 27), (1, 32)] _ _ = _; rw [Op.lookupswitch.offset_cons, if_neg (tne (k := 0) e0 (by decide)), Op.lookupswitch.offset_cons, if_neg (tne (k := 1) e1 (by decide)), Op.lookupswitch.offset_nil]) (by decide) ?_
      refine kR.iload dX10_fit_147 4 rfl ?_
      refine zR.i2l dX10_fit_149 ?_
      refine kR.aload_n dX10_fit_150 2 rfl ?_
      refine kR.aload_n dX10_fit_151 0 rfl ?_
      refine kR.getR (v := 32) dX10_fit_152 flX10_54 zcf10 zp1 (Or.inl ⟨_, rfl⟩) rfl ?_
      refine kR.getI dX10_fit_155 flX10_270 zcf1 zp32 (Or.inl rfl) ?_
      obtain ⟨v2, e3, h⟩ := bnr_some h
      refine kR.cVi [.int (iG σ 32 2)] dX10_fit_158 rfl (by decide) mwX10_176 (zq0 c2) (by decide) rfl rfl (Nat.le_of_ble_eq_true rfl) (lX6_allWeights c2 σ (iG σ 32 2) _ e3) ?_
      refine zR.i2l dX10_fit_161 ?_
      obtain ⟨v4, e5, h⟩ := bnr_some h
      refine kR.cSi [.long (x4.toInt64), .long (v2.toInt64)] dX10_fit_162 rfl (by decide) (Or.inl mwX10_198) rfl (Nat.le_of_ble_eq_true rfl) (lX10_thousandths x4.toInt64 v2.toInt64 _ e5) ?_
      exact kR.iretO dX10_fit_165 (nzI rfl _) h
    · refine kR.aload_n dX10_fit_54 0 rfl ?_
      refine kR.getR (v := 32) dX10_fit_55 flX10_54 zcf10 zp1 (Or.inl ⟨_, rfl⟩) rfl ?_
      refine kR.aload_n dX10_fit_58 0 rfl ?_
      refine kR.getR (v := 8) dX10_fit_59 flX10_38 zcf10 zp1 (Or.inl ⟨_, rfl⟩) rfl ?_
      refine kR.aload_n dX10_fit_62 2 rfl ?_
      refine kR.aload_n dX10_fit_63 0 rfl ?_
      refine kR.getR (v := 32) dX10_fit_64 flX10_54 zcf10 zp1 (Or.inl ⟨_, rfl⟩) rfl ?_
      refine kR.getI dX10_fit_67 flX10_270 zcf1 zp32 (Or.inl rfl) ?_
      refine kR.iload dX10_fit_70 5 rfl ?_
      obtain ⟨v6, e7, h⟩ := bnr_some h
      refine kR.cVi [.int (iG σ 32 2), .int x5] dX10_fit_72 rfl (by decide) mwX10_167 (zq0 c2) (by decide) rfl rfl (Nat.le_of_ble_eq_true rfl) (lX6_lengthAt c2 σ (iG σ 32 2) x5 _ e7) ?_
      obtain ⟨v8, e9, h⟩ := bnr_some h
      refine kR.cVi [.ref 8, .int v6] dX10_fit_75 rfl (by decide) mwX10_273 zp32 (by decide) rfl rfl (Nat.le_of_ble_eq_true rfl) (lX1_fitLength σ v6 _ e9) ?_
      refine kR.if_eq (tgt := 106) dX10_fit_78 (by decide) h (fun h => ?_) (fun h => ?_)
      · exact kX10_fit_106 σ (fX10_fit_37 σ f) ih _ _ _ _ _ _ h
      · refine kR.iload_n dX10_fit_81 3 rfl ?_
        refine zR.iconst (v := 1) dX10_fit_82 (by decide) ?_
        refine kR.iload dX10_fit_83 5 rfl ?_
        refine zR.ishl dX10_fit_85 ?_
        refine zR.ior dX10_fit_86 ?_
        refine zR.istore_n (i := 3) (ls' := [(3, .int (x3 ||| (1 <<< (x5 &&& 31)))), (0, .ref 1), (1, .int x1), (2, .ref (rp c2 + 0)), (4, .int x4), (5, .int x5)]) dX10_fit_87 rfl (by decide) rfl ?_
        refine kR.iload dX10_fit_88 4 rfl ?_
        refine kR.aload_n dX10_fit_90 3 rfl ?_
        refine kR.aload_n dX10_fit_91 1 rfl ?_
        refine kR.getR (v := 32) dX10_fit_92 flX10_54 zcf10 zp1 (Or.inl ⟨_, rfl⟩) rfl ?_
        refine kR.getI dX10_fit_95 flX10_270 zcf1 zp32 (Or.inl rfl) ?_
        refine kR.iload dX10_fit_98 5 rfl ?_
        obtain ⟨v10, e11, h⟩ := bnr_some h
        refine kR.cVi [.int (iG σ 32 2), .int x5] dX10_fit_100 rfl (by decide) mwX10_170 (zq0 c2) (by decide) rfl rfl (Nat.le_of_ble_eq_true rfl) (lX6_weightAt c2 σ (iG σ 32 2) x5 _ e11) ?_
        refine zR.iadd dX10_fit_103 ?_
        refine zR.istore (i := 4) (ls' := [(4, .int (x4 + v10)), (3, .int (x3 ||| (1 <<< (x5 &&& 31)))), (0, .ref 1), (1, .int x1), (2, .ref (rp c2 + 0)), (5, .int x5)]) dX10_fit_104 (by decide) rfl ?_
        refine zR.sub [2, 3, 4, 1, 0, 5] rfl ?_
        exact kX10_fit_106 σ (fX10_fit_37 σ f) ih _ _ _ _ _ _ h
def fX10_fit (σ : zS) (p1 : Int32) : Option Int32 := if (iG σ 32 3) = 0 then some ((-1)) else if p1 < 0 then some ((-1)) else if p1 ≤ 2 then fX10_fit_37 σ zF p1 σ.2.2.2.1 0 0 0 else some ((-1))
theorem eX10_fit {sc : Nat × (Nat → Int32)} (σ : zS) (p1 : Int32) (w : Int32) (h : fX10_fit σ p1 = some w) : zR (zY0 sc) 4 0 0 mX10_fit 0 [(0, .ref 1), (1, .int p1)] [] (zE σ) (some (.int w), zE σ) := by
  unfold fX10_fit at h
  refine kR.aload_n dX10_fit_0 0 rfl ?_
  refine kR.getR (v := 32) dX10_fit_1 flX10_54 zcf10 zp1 (Or.inl ⟨_, rfl⟩) rfl ?_
  refine kR.getI dX10_fit_4 flX10_118 zcf1 zp32 (Or.inl rfl) ?_
  refine kR.if_eq (tgt := 19) dX10_fit_7 (by decide) h (fun h => ?_) (fun h => ?_)
  · refine zR.iconst (v := (-1)) dX10_fit_19 (by decide) ?_
    exact kR.iretO dX10_fit_20 (nzI rfl _) h
  · refine kR.iload_n dX10_fit_10 1 rfl ?_
    refine kR.if_lt (tgt := 19) dX10_fit_11 (by decide) h (fun h => ?_) (fun h => ?_)
    · refine zR.iconst (v := (-1)) dX10_fit_19 (by decide) ?_
      exact kR.iretO dX10_fit_20 (nzI rfl _) h
    · refine kR.iload_n dX10_fit_14 1 rfl ?_
      refine zR.iconst (v := 2) dX10_fit_15 (by decide) ?_
      refine kR.icmp_le (tgt := 21) dX10_fit_16 (by decide) h (fun h => ?_) (fun h => ?_)
      · refine kR.aload_n dX10_fit_21 0 rfl ?_
        refine kR.getR (v := 8) dX10_fit_22 flX10_38 zcf10 zp1 (Or.inl ⟨_, rfl⟩) rfl ?_
        refine kR.getR (v := (rp σ.2.2.2.1 + 0)) dX10_fit_25 flX10_111 zcf4 zp8 (Or.inl ⟨_, rfl⟩) rfl ?_
        refine zR.astore_n (i := 2) (ls' := [(2, .ref (rp σ.2.2.2.1 + 0)), (0, .ref 1), (1, .int p1)]) dX10_fit_28 rfl (by decide) rfl ?_
        refine zR.iconst (v := 0) dX10_fit_29 (by decide) ?_
        refine zR.istore_n (i := 3) (ls' := [(3, .int 0), (2, .ref (rp σ.2.2.2.1 + 0)), (0, .ref 1), (1, .int p1)]) dX10_fit_30 rfl (by decide) rfl ?_
        refine zR.iconst (v := 0) dX10_fit_31 (by decide) ?_
        refine zR.istore (i := 4) (ls' := [(4, .int 0), (3, .int 0), (2, .ref (rp σ.2.2.2.1 + 0)), (0, .ref 1), (1, .int p1)]) dX10_fit_32 (by decide) rfl ?_
        refine zR.iconst (v := 0) dX10_fit_34 (by decide) ?_
        refine zR.istore (i := 5) (ls' := [(5, .int 0), (4, .int 0), (3, .int 0), (2, .ref (rp σ.2.2.2.1 + 0)), (0, .ref 1), (1, .int p1)]) dX10_fit_35 (by decide) rfl ?_
        refine zR.sub [4, 5, 3, 2, 1, 0] rfl ?_
        exact kX10_fit_37 σ zF _ _ _ _ _ _ h
      · refine zR.iconst (v := (-1)) dX10_fit_19 (by decide) ?_
        exact kR.iretO dX10_fit_20 (nzI rfl _) h
theorem lX10_fit {sc : Nat × (Nat → Int32)} (σ : zS) (p1 : Int32) (w : Int32) (h : fX10_fit σ p1 = some w) : zC (zY0 sc) 4 0 0 mX10_fit [.ref 1, .int p1] (zE σ) (some (.int w), zE σ) := zC.of (by decide +kernel) (Nat.le_of_ble_eq_true rfl) ⟨_, rfl⟩ (eX10_fit σ p1 w h)
theorem dX2_add_0 : decode cX2_add 0 = .ok (.aload_n 1, 1) := by decide +kernel
theorem dX2_add_1 : decode cX2_add 1 = .ok (.getfield 24, 3) := by decide +kernel
theorem dX2_add_4 : decode cX2_add 4 = .ok (.iconst 0, 1) := by decide +kernel
theorem dX2_add_5 : decode cX2_add 5 = .ok (.aload_n 0, 1) := by decide +kernel
theorem dX2_add_6 : decode cX2_add 6 = .ok (.getfield 11, 3) := by decide +kernel
theorem dX2_add_9 : decode cX2_add 9 = .ok (.aload_n 0, 1) := by decide +kernel
theorem dX2_add_10 : decode cX2_add 10 = .ok (.getfield 17, 3) := by decide +kernel
theorem dX2_add_13 : decode cX2_add 13 = .ok (.bipush 104, 2) := by decide +kernel
theorem dX2_add_15 : decode cX2_add 15 = .ok (.imul, 1) := by decide +kernel
theorem dX2_add_16 : decode cX2_add 16 = .ok (.bipush 104, 2) := by decide +kernel
theorem dX2_add_18 : decode cX2_add 18 = .ok (.invokestatic 27, 3) := by decide +kernel
theorem dX2_add_21 : decode cX2_add 21 = .ok (.aload_n 0, 1) := by decide +kernel
theorem dX2_add_22 : decode cX2_add 22 = .ok (.aload_n 0, 1) := by decide +kernel
theorem dX2_add_23 : decode cX2_add 23 = .ok (.getfield 17, 3) := by decide +kernel
theorem dX2_add_26 : decode cX2_add 26 = .ok (.iconst 1, 1) := by decide +kernel
theorem dX2_add_27 : decode cX2_add 27 = .ok (.iadd, 1) := by decide +kernel
theorem dX2_add_28 : decode cX2_add 28 = .ok (.bipush 20, 2) := by decide +kernel
theorem dX2_add_30 : decode cX2_add 30 = .ok (.irem, 1) := by decide +kernel
theorem dX2_add_31 : decode cX2_add 31 = .ok (.putfield 17, 3) := by decide +kernel
theorem dX2_add_34 : decode cX2_add 34 = .ok (.aload_n 0, 1) := by decide +kernel
theorem dX2_add_35 : decode cX2_add 35 = .ok (.bipush 20, 2) := by decide +kernel
theorem dX2_add_37 : decode cX2_add 37 = .ok (.aload_n 0, 1) := by decide +kernel
theorem dX2_add_38 : decode cX2_add 38 = .ok (.getfield 21, 3) := by decide +kernel
theorem dX2_add_41 : decode cX2_add 41 = .ok (.iconst 1, 1) := by decide +kernel
theorem dX2_add_42 : decode cX2_add 42 = .ok (.iadd, 1) := by decide +kernel
theorem dX2_add_43 : decode cX2_add 43 = .ok (.invokestatic 33, 3) := by decide +kernel
theorem dX2_add_46 : decode cX2_add 46 = .ok (.putfield 21, 3) := by decide +kernel
theorem dX2_add_49 : decode cX2_add 49 = .ok (.return_, 1) := by decide +kernel
def fX2_add (σ : zS) : Option zS := wC σ 5 7 104 2080 0 ((iG σ 6 1) * 104) 104 fun σ1 => bnd (iS σ1 6 1 (((iG σ1 6 1) + 1) - ((iG σ1 6 1) + 1) / 20 * 20)) fun σ2 => bnd (iS σ2 6 2 (fJ9_min_7cf53 20 ((iG σ2 6 2) + 1))) fun σ3 => some σ3
theorem eX2_add {sc : Nat × (Nat → Int32)} (σ : zS) (w : zS) (h : fX2_add σ = some w) : zR (zY0 sc) 2 0 0 mX2_add 0 [(0, .ref 6), (1, .ref 4)] [] (zE σ) (none, zE w) := by
  unfold fX2_add at h
  refine kR.aload_n dX2_add_0 1 rfl ?_
  refine kR.getR (v := 5) dX2_add_1 flX2_24 zcf7 zp4 (Or.inr ⟨_, rfl⟩) rfl ?_
  refine zR.iconst (v := 0) dX2_add_4 (by decide) ?_
  refine kR.aload_n dX2_add_5 0 rfl ?_
  refine kR.getR (v := 7) dX2_add_6 flX2_11 zcf2 zp6 (Or.inr ⟨_, rfl⟩) rfl ?_
  refine kR.aload_n dX2_add_9 0 rfl ?_
  refine kR.getI dX2_add_10 flX2_17 zcf2 zp6 (Or.inl rfl) ?_
  refine zR.bipush (v := 104) dX2_add_13 (by decide) ?_
  refine zR.imul dX2_add_15 ?_
  refine zR.bipush (v := 104) dX2_add_16 (by decide) ?_
  refine kR.copy dX2_add_18 (by decide) mcX2_27 zp5 zp7 rfl rfl (Nat.le_of_ble_eq_true rfl) h (fun σ1 h => ?_)
  refine kR.aload_n dX2_add_21 0 rfl ?_
  refine kR.aload_n dX2_add_22 0 rfl ?_
  refine kR.getI dX2_add_23 flX2_17 zcf2 zp6 (Or.inl rfl) ?_
  refine zR.iconst (v := 1) dX2_add_26 (by decide) ?_
  refine zR.iadd dX2_add_27 ?_
  refine zR.bipush (v := 20) dX2_add_28 (by decide) ?_
  refine zR.irem dX2_add_30 (by decide) ?_
  refine kR.putI dX2_add_31 fpX2_17 zcf2 zp6 rfl h (fun σ2 h => ?_)
  refine kR.aload_n dX2_add_34 0 rfl ?_
  refine zR.bipush (v := 20) dX2_add_35 (by decide) ?_
  refine kR.aload_n dX2_add_37 0 rfl ?_
  refine kR.getI dX2_add_38 flX2_21 zcf2 zp6 (Or.inl rfl) ?_
  refine zR.iconst (v := 1) dX2_add_41 (by decide) ?_
  refine zR.iadd dX2_add_42 ?_
  refine kR.cSi [.int 20, .int ((iG σ2 6 2) + 1)] dX2_add_43 rfl (by decide) (Or.inl mwX2_33) rfl (Nat.le_of_ble_eq_true rfl) (lJ9_min_7cf53 20 ((iG σ2 6 2) + 1)) ?_
  refine kR.putI dX2_add_46 fpX2_21 zcf2 zp6 rfl h (fun σ3 h => ?_)
  exact kR.vret dX2_add_49 h
theorem lX2_add {sc : Nat × (Nat → Int32)} (σ : zS) (w : zS) (h : fX2_add σ = some w) : zC (zY0 sc) 2 0 0 mX2_add [.ref 6, .ref 4] (zE σ) (none, zE w) := zC.of (by decide +kernel) (Nat.le_of_ble_eq_true rfl) rfl (eX2_add σ w h)
theorem dX10_beginAct_0 : decode cX10_beginAct 0 = .ok (.aload_n 0, 1) := by decide +kernel
theorem dX10_beginAct_1 : decode cX10_beginAct 1 = .ok (.getfield 26, 3) := by decide +kernel
theorem dX10_beginAct_4 : decode cX10_beginAct 4 = .ok (.aload_n 0, 1) := by decide +kernel
theorem dX10_beginAct_5 : decode cX10_beginAct 5 = .ok (.getfield 19, 3) := by decide +kernel
theorem dX10_beginAct_8 : decode cX10_beginAct 8 = .ok (.invokevirtual 322, 3) := by decide +kernel
theorem dX10_beginAct_11 : decode cX10_beginAct 11 = .ok (.aload_n 0, 1) := by decide +kernel
theorem dX10_beginAct_12 : decode cX10_beginAct 12 = .ok (.getfield 47, 3) := by decide +kernel
theorem dX10_beginAct_15 : decode cX10_beginAct 15 = .ok (.invokevirtual 119, 3) := by decide +kernel
theorem dX10_beginAct_18 : decode cX10_beginAct 18 = .ok (.return_, 1) := by decide +kernel
def fX10_beginAct (σ : zS) : Option zS := bnr (fX2_add σ) fun σ1 => bnr (fX0_forget σ1) fun σ3 => some σ3
theorem eX10_beginAct {sc : Nat × (Nat → Int32)} (σ : zS) (w : zS) (h : fX10_beginAct σ = some w) : zR (zY0 sc) 3 0 0 mX10_beginAct 0 [(0, .ref 1)] [] (zE σ) (none, zE w) := by
  unfold fX10_beginAct at h
  refine kR.aload_n dX10_beginAct_0 0 rfl ?_
  refine kR.getR (v := 6) dX10_beginAct_1 flX10_26 zcf10 zp1 (Or.inl ⟨_, rfl⟩) rfl ?_
  refine kR.aload_n dX10_beginAct_4 0 rfl ?_
  refine kR.getR (v := 4) dX10_beginAct_5 flX10_19 zcf10 zp1 (Or.inl ⟨_, rfl⟩) rfl ?_
  obtain ⟨σ1, e2, h⟩ := bnr_some h
  refine kR.cVv [.ref 4] dX10_beginAct_8 rfl (by decide) mwX10_322 zp6 (by decide) rfl rfl (Nat.le_of_ble_eq_true rfl) (lX2_add σ _ e2) ?_
  refine kR.aload_n dX10_beginAct_11 0 rfl ?_
  refine kR.getR (v := 27) dX10_beginAct_12 flX10_47 zcf10 zp1 (Or.inl ⟨_, rfl⟩) rfl ?_
  obtain ⟨σ3, e4, h⟩ := bnr_some h
  refine kR.cVv [] dX10_beginAct_15 rfl (by decide) mwX10_119 zp27 (by decide) rfl rfl (Nat.le_of_ble_eq_true rfl) (lX0_forget σ1 _ e4) ?_
  exact kR.vret dX10_beginAct_18 h
theorem lX10_beginAct {sc : Nat × (Nat → Int32)} (σ : zS) (w : zS) (h : fX10_beginAct σ = some w) : zC (zY0 sc) 3 0 0 mX10_beginAct [.ref 1] (zE σ) (none, zE w) := zC.of (by decide +kernel) (Nat.le_of_ble_eq_true rfl) rfl (eX10_beginAct σ w h)
theorem dX10_draw_0 : decode cX10_draw 0 = .ok (.aload_n 0, 1) := by decide +kernel
theorem dX10_draw_1 : decode cX10_draw 1 = .ok (.ldc2_w 350, 3) := by decide +kernel
theorem dX10_draw_4 : decode cX10_draw 4 = .ok (.aload_n 0, 1) := by decide +kernel
theorem dX10_draw_5 : decode cX10_draw 5 = .ok (.getfield 82, 3) := by decide +kernel
theorem dX10_draw_8 : decode cX10_draw 8 = .ok (.i2l, 1) := by decide +kernel
theorem dX10_draw_9 : decode cX10_draw 9 = .ok (.lmul, 1) := by decide +kernel
theorem dX10_draw_10 : decode cX10_draw 10 = .ok (.ldc2_w 352, 3) := by decide +kernel
theorem dX10_draw_13 : decode cX10_draw 13 = .ok (.ladd, 1) := by decide +kernel
theorem dX10_draw_14 : decode cX10_draw 14 = .ok (.ldc2_w 354, 3) := by decide +kernel
theorem dX10_draw_17 : decode cX10_draw 17 = .ok (.land, 1) := by decide +kernel
theorem dX10_draw_18 : decode cX10_draw 18 = .ok (.l2i, 1) := by decide +kernel
theorem dX10_draw_19 : decode cX10_draw 19 = .ok (.putfield 82, 3) := by decide +kernel
theorem dX10_draw_22 : decode cX10_draw 22 = .ok (.iload_n 1, 1) := by decide +kernel
theorem dX10_draw_23 : decode cX10_draw 23 = .ok (.ifCond .le 15, 3) := by decide +kernel
theorem dX10_draw_26 : decode cX10_draw 26 = .ok (.aload_n 0, 1) := by decide +kernel
theorem dX10_draw_27 : decode cX10_draw 27 = .ok (.getfield 82, 3) := by decide +kernel
theorem dX10_draw_30 : decode cX10_draw 30 = .ok (.bipush 64, 2) := by decide +kernel
theorem dX10_draw_32 : decode cX10_draw 32 = .ok (.idiv, 1) := by decide +kernel
theorem dX10_draw_33 : decode cX10_draw 33 = .ok (.iload_n 1, 1) := by decide +kernel
theorem dX10_draw_34 : decode cX10_draw 34 = .ok (.irem, 1) := by decide +kernel
theorem dX10_draw_35 : decode cX10_draw 35 = .ok (.goto 4, 3) := by decide +kernel
theorem dX10_draw_38 : decode cX10_draw 38 = .ok (.iconst 0, 1) := by decide +kernel
theorem dX10_draw_39 : decode cX10_draw 39 = .ok (.ireturn, 1) := by decide +kernel
def fX10_draw (p1 : Int32) (σ : zS) : Option (Int32 × zS) := bnd (iS σ 1 10 (((((1103515245 * (((iG σ 1 10) : Int32).toInt64)) + 12345) &&& 2147483647) : Int64).toInt32)) fun σ1 => if p1 ≤ 0 then some (0, σ1) else gd (¬ p1 = 0) (some (((iG σ1 1 10) / 64) - ((iG σ1 1 10) / 64) / p1 * p1, σ1))
theorem eX10_draw {sc : Nat × (Nat → Int32)} (p1 : Int32) (σ : zS) (w : Int32 × zS) (h : fX10_draw p1 σ = some w) : zR (zY0 sc) 1 0 0 mX10_draw 0 [(0, .ref 1), (1, .int p1)] [] (zE σ) (some (.int w.1), zE w.2) := by
  unfold fX10_draw at h
  refine kR.aload_n dX10_draw_0 0 rfl ?_
  refine zR.ldc2 (v := 1103515245) dX10_draw_1 clX10_350 ?_
  refine kR.aload_n dX10_draw_4 0 rfl ?_
  refine kR.getI dX10_draw_5 flX10_82 zcf10 zp1 (Or.inl rfl) ?_
  refine zR.i2l dX10_draw_8 ?_
  refine zR.lmul dX10_draw_9 ?_
  refine zR.ldc2 (v := 12345) dX10_draw_10 clX10_352 ?_
  refine zR.ladd dX10_draw_13 ?_
  refine zR.ldc2 (v := 2147483647) dX10_draw_14 clX10_354 ?_
  refine zR.land dX10_draw_17 ?_
  refine zR.l2i dX10_draw_18 ?_
  refine kR.putI dX10_draw_19 fpX10_82 zcf10 zp1 rfl h (fun σ1 h => ?_)
  refine kR.iload_n dX10_draw_22 1 rfl ?_
  refine kR.if_le (tgt := 38) dX10_draw_23 (by decide) h (fun h => ?_) (fun h => ?_)
  · refine zR.iconst (v := 0) dX10_draw_38 (by decide) ?_
    exact kR.iretW dX10_draw_39 (nzI rfl _) h
  · refine kR.aload_n dX10_draw_26 0 rfl ?_
    refine kR.getI dX10_draw_27 flX10_82 zcf10 zp1 (Or.inl rfl) ?_
    refine zR.bipush (v := 64) dX10_draw_30 (by decide) ?_
    refine zR.idiv dX10_draw_32 (by decide) ?_
    refine kR.iload_n dX10_draw_33 1 rfl ?_
    refine kR.irem dX10_draw_34 h (fun h => ?_)
    refine zR.goto (tgt := 39) dX10_draw_35 (by decide) ?_
    exact kR.iretW dX10_draw_39 (nzI rfl _) h
theorem lX10_draw {sc : Nat × (Nat → Int32)} (p1 : Int32) (σ : zS) (w : Int32 × zS) (h : fX10_draw p1 σ = some w) : zC (zY0 sc) 1 0 0 mX10_draw [.ref 1, .int p1] (zE σ) (some (.int w.1), zE w.2) := zC.of (by decide +kernel) (Nat.le_of_ble_eq_true rfl) ⟨_, rfl⟩ (eX10_draw p1 σ w h)
theorem dX10_drawLength_0 : decode cX10_drawLength 0 = .ok (.aload_n 0, 1) := by decide +kernel
theorem dX10_drawLength_1 : decode cX10_drawLength 1 = .ok (.getfield 38, 3) := by decide +kernel
theorem dX10_drawLength_4 : decode cX10_drawLength 4 = .ok (.getfield 111, 3) := by decide +kernel
theorem dX10_drawLength_7 : decode cX10_drawLength 7 = .ok (.astore_n 2, 1) := by decide +kernel
theorem dX10_drawLength_8 : decode cX10_drawLength 8 = .ok (.aload_n 0, 1) := by decide +kernel
theorem dX10_drawLength_9 : decode cX10_drawLength 9 = .ok (.aload_n 2, 1) := by decide +kernel
theorem dX10_drawLength_10 : decode cX10_drawLength 10 = .ok (.iload_n 1, 1) := by decide +kernel
theorem dX10_drawLength_11 : decode cX10_drawLength 11 = .ok (.invokevirtual 176, 3) := by decide +kernel
theorem dX10_drawLength_14 : decode cX10_drawLength 14 = .ok (.invokevirtual 347, 3) := by decide +kernel
theorem dX10_drawLength_17 : decode cX10_drawLength 17 = .ok (.istore_n 3, 1) := by decide +kernel
theorem dX10_drawLength_18 : decode cX10_drawLength 18 = .ok (.aload_n 2, 1) := by decide +kernel
theorem dX10_drawLength_19 : decode cX10_drawLength 19 = .ok (.getfield 164, 3) := by decide +kernel
theorem dX10_drawLength_22 : decode cX10_drawLength 22 = .ok (.iload_n 1, 1) := by decide +kernel
theorem dX10_drawLength_23 : decode cX10_drawLength 23 = .ok (.iaload, 1) := by decide +kernel
theorem dX10_drawLength_24 : decode cX10_drawLength 24 = .ok (.iconst 1, 1) := by decide +kernel
theorem dX10_drawLength_25 : decode cX10_drawLength 25 = .ok (.isub, 1) := by decide +kernel
theorem dX10_drawLength_26 : decode cX10_drawLength 26 = .ok (.istore 4, 2) := by decide +kernel
theorem dX10_drawLength_28 : decode cX10_drawLength 28 = .ok (.iconst 0, 1) := by decide +kernel
theorem dX10_drawLength_29 : decode cX10_drawLength 29 = .ok (.istore 5, 2) := by decide +kernel
theorem dX10_drawLength_31 : decode cX10_drawLength 31 = .ok (.iload 5, 2) := by decide +kernel
theorem dX10_drawLength_33 : decode cX10_drawLength 33 = .ok (.iload 4, 2) := by decide +kernel
theorem dX10_drawLength_35 : decode cX10_drawLength 35 = .ok (.if_icmp .ge 31, 3) := by decide +kernel
theorem dX10_drawLength_38 : decode cX10_drawLength 38 = .ok (.iload_n 3, 1) := by decide +kernel
theorem dX10_drawLength_39 : decode cX10_drawLength 39 = .ok (.aload_n 2, 1) := by decide +kernel
theorem dX10_drawLength_40 : decode cX10_drawLength 40 = .ok (.iload_n 1, 1) := by decide +kernel
theorem dX10_drawLength_41 : decode cX10_drawLength 41 = .ok (.iload 5, 2) := by decide +kernel
theorem dX10_drawLength_43 : decode cX10_drawLength 43 = .ok (.invokevirtual 170, 3) := by decide +kernel
theorem dX10_drawLength_46 : decode cX10_drawLength 46 = .ok (.isub, 1) := by decide +kernel
theorem dX10_drawLength_47 : decode cX10_drawLength 47 = .ok (.istore_n 3, 1) := by decide +kernel
theorem dX10_drawLength_48 : decode cX10_drawLength 48 = .ok (.iload_n 3, 1) := by decide +kernel
theorem dX10_drawLength_49 : decode cX10_drawLength 49 = .ok (.ifCond .ge 11, 3) := by decide +kernel
theorem dX10_drawLength_52 : decode cX10_drawLength 52 = .ok (.aload_n 2, 1) := by decide +kernel
theorem dX10_drawLength_53 : decode cX10_drawLength 53 = .ok (.iload_n 1, 1) := by decide +kernel
theorem dX10_drawLength_54 : decode cX10_drawLength 54 = .ok (.iload 5, 2) := by decide +kernel
theorem dX10_drawLength_56 : decode cX10_drawLength 56 = .ok (.invokevirtual 167, 3) := by decide +kernel
theorem dX10_drawLength_59 : decode cX10_drawLength 59 = .ok (.ireturn, 1) := by decide +kernel
theorem dX10_drawLength_60 : decode cX10_drawLength 60 = .ok (.iinc 5 1, 3) := by decide +kernel
theorem dX10_drawLength_63 : decode cX10_drawLength 63 = .ok (.goto (-32), 3) := by decide +kernel
theorem dX10_drawLength_66 : decode cX10_drawLength 66 = .ok (.aload_n 2, 1) := by decide +kernel
theorem dX10_drawLength_67 : decode cX10_drawLength 67 = .ok (.iload_n 1, 1) := by decide +kernel
theorem dX10_drawLength_68 : decode cX10_drawLength 68 = .ok (.iload 4, 2) := by decide +kernel
theorem dX10_drawLength_70 : decode cX10_drawLength 70 = .ok (.invokevirtual 167, 3) := by decide +kernel
theorem dX10_drawLength_73 : decode cX10_drawLength 73 = .ok (.ireturn, 1) := by decide +kernel
def fX10_drawLength_31 : Nat → Int32 → Bool → Int32 → Int32 → Int32 → zS → Option (Int32 × zS)
  | 0, _, _, _, _, _, _ => none
  | f + 1, x1, c2, x3, x4, x5, σ => if x4 ≤ x5 then bnr (fX6_lengthAt c2 σ x1 x4) fun v7 => some (v7, σ) else bnr (fX6_weightAt c2 σ x1 x5) fun v9 => if 0 ≤ (x3 - v9) then fX10_drawLength_31 f x1 c2 (x3 - v9) x4 (x5 + 1) σ else bnr (fX6_lengthAt c2 σ x1 x5) fun v11 => some (v11, σ)
theorem kX10_drawLength_31 {sc : Nat × (Nat → Int32)} : ∀ (fuel : Nat) (x1 : Int32) (c2 : Bool) (x3 : Int32) (x4 : Int32) (x5 : Int32) (σ : zS) (w : Int32 × zS) (h : fX10_drawLength_31 fuel x1 c2 x3 x4 x5 σ = some w), zR (zY0 sc) 3 0 0 mX10_drawLength 31 [(1, .int x1), (2, .ref (rp c2 + 0)), (3, .int x3), (4, .int x4), (5, .int x5)] [] (zE σ) (some (.int w.1), zE w.2) := by
  intro fuel
  induction fuel with
  | zero => intro x1 c2 x3 x4 x5 σ w h; exact nomatch h
  | succ f ih =>
    intro x1 c2 x3 x4 x5 σ w h
    rw [fX10_drawLength_31] at h
    refine kR.iload dX10_drawLength_31 4 rfl ?_
    refine kR.iload dX10_drawLength_33 3 rfl ?_
    refine kR.icmp_ge (tgt := 66) dX10_drawLength_35 (by decide) h (fun h => ?_) (fun h => ?_)
    · refine kR.aload_n dX10_drawLength_66 1 rfl ?_
      refine kR.iload_n dX10_drawLength_67 0 rfl ?_
      refine kR.iload dX10_drawLength_68 3 rfl ?_
      obtain ⟨v7, e8, h⟩ := bnr_some h
      refine kR.cVi [.int x1, .int x4] dX10_drawLength_70 rfl (by decide) mwX10_167 (zq0 c2) (by decide) rfl rfl (Nat.le_of_ble_eq_true rfl) (lX6_lengthAt c2 σ x1 x4 _ e8) ?_
      exact kR.iretW dX10_drawLength_73 (nzI rfl _) h
    · refine kR.iload_n dX10_drawLength_38 2 rfl ?_
      refine kR.aload_n dX10_drawLength_39 1 rfl ?_
      refine kR.iload_n dX10_drawLength_40 0 rfl ?_
      refine kR.iload dX10_drawLength_41 4 rfl ?_
      obtain ⟨v9, e10, h⟩ := bnr_some h
      refine kR.cVi [.int x1, .int x5] dX10_drawLength_43 rfl (by decide) mwX10_170 (zq0 c2) (by decide) rfl rfl (Nat.le_of_ble_eq_true rfl) (lX6_weightAt c2 σ x1 x5 _ e10) ?_
      refine zR.isub dX10_drawLength_46 ?_
      refine zR.istore_n (i := 3) (ls' := [(3, .int (x3 - v9)), (1, .int x1), (2, .ref (rp c2 + 0)), (4, .int x4), (5, .int x5)]) dX10_drawLength_47 rfl (by decide) rfl ?_
      refine kR.iload_n dX10_drawLength_48 0 rfl ?_
      refine kR.if_ge (tgt := 60) dX10_drawLength_49 (by decide) h (fun h => ?_) (fun h => ?_)
      · refine zR.iinc 4 (v := x5 + 1) (ls' := [(5, .int (x5 + 1)), (3, .int (x3 - v9)), (1, .int x1), (2, .ref (rp c2 + 0)), (4, .int x4)]) dX10_drawLength_60 rfl rfl (by decide) rfl ?_
        refine zR.goto (tgt := 31) dX10_drawLength_63 (by decide) ?_
        refine zR.sub [2, 3, 1, 4, 0] rfl ?_
        exact ih _ _ _ _ _ _ _ h
      · refine kR.aload_n dX10_drawLength_52 2 rfl ?_
        refine kR.iload_n dX10_drawLength_53 1 rfl ?_
        refine kR.iload dX10_drawLength_54 4 rfl ?_
        obtain ⟨v11, e12, h⟩ := bnr_some h
        refine kR.cVi [.int x1, .int x5] dX10_drawLength_56 rfl (by decide) mwX10_167 (zq0 c2) (by decide) rfl rfl (Nat.le_of_ble_eq_true rfl) (lX6_lengthAt c2 σ x1 x5 _ e12) ?_
        exact kR.iretW dX10_drawLength_59 (nzI rfl _) h
def fX10_drawLength (p1 : Int32) (σ : zS) : Option (Int32 × zS) := bnr (fX6_allWeights σ.2.2.2.1 σ p1) fun v1 => bnc (fX10_draw v1 σ) fun v5 σ3 => aI σ3 (rp σ.2.2.2.1 + 3) 6 p1 fun v6 => fX10_drawLength_31 zF p1 σ.2.2.2.1 v5 (v6 - 1) 0 σ3
theorem eX10_drawLength {sc : Nat × (Nat → Int32)} (p1 : Int32) (σ : zS) (w : Int32 × zS) (h : fX10_drawLength p1 σ = some w) : zR (zY0 sc) 3 0 0 mX10_drawLength 0 [(0, .ref 1), (1, .int p1)] [] (zE σ) (some (.int w.1), zE w.2) := by
  unfold fX10_drawLength at h
  refine kR.aload_n dX10_drawLength_0 0 rfl ?_
  refine kR.getR (v := 8) dX10_drawLength_1 flX10_38 zcf10 zp1 (Or.inl ⟨_, rfl⟩) rfl ?_
  refine kR.getR (v := (rp σ.2.2.2.1 + 0)) dX10_drawLength_4 flX10_111 zcf4 zp8 (Or.inl ⟨_, rfl⟩) rfl ?_
  refine zR.astore_n (i := 2) (ls' := [(2, .ref (rp σ.2.2.2.1 + 0)), (0, .ref 1), (1, .int p1)]) dX10_drawLength_7 rfl (by decide) rfl ?_
  refine kR.aload_n dX10_drawLength_8 1 rfl ?_
  refine kR.aload_n dX10_drawLength_9 0 rfl ?_
  refine kR.iload_n dX10_drawLength_10 2 rfl ?_
  obtain ⟨v1, e2, h⟩ := bnr_some h
  refine kR.cVi [.int p1] dX10_drawLength_11 rfl (by decide) mwX10_176 (zq0 σ.2.2.2.1) (by decide) rfl rfl (Nat.le_of_ble_eq_true rfl) (lX6_allWeights σ.2.2.2.1 σ p1 _ e2) ?_
  obtain ⟨v5, σ3, e4, h⟩ := bnc_some h
  refine kR.cVi [.int v1] dX10_drawLength_14 rfl (by decide) mwX10_347 zp1 (by decide) rfl rfl (Nat.le_of_ble_eq_true rfl) (lX10_draw v1 σ _ e4) ?_
  refine zR.istore_n (i := 3) (ls' := [(3, .int v5), (2, .ref (rp σ.2.2.2.1 + 0)), (0, .ref 1), (1, .int p1)]) dX10_drawLength_17 rfl (by decide) rfl ?_
  refine kR.aload_n dX10_drawLength_18 1 rfl ?_
  refine kR.getR (v := (rp σ.2.2.2.1 + 3)) dX10_drawLength_19 flX10_164 zcf6 (zq0 σ.2.2.2.1) (Or.inr ⟨_, rfl⟩) (zr0_7 _ σ.2.2.2.1) ?_
  refine kR.iload_n dX10_drawLength_22 3 rfl ?_
  refine kR.iald dX10_drawLength_23 (zq3 σ.2.2.2.1) (zl3 σ.2.2.2.1) h (fun v6 h => ?_)
  refine zR.iconst (v := 1) dX10_drawLength_24 (by decide) ?_
  refine zR.isub dX10_drawLength_25 ?_
  refine zR.istore (i := 4) (ls' := [(4, .int (v6 - 1)), (3, .int v5), (2, .ref (rp σ.2.2.2.1 + 0)), (0, .ref 1), (1, .int p1)]) dX10_drawLength_26 (by decide) rfl ?_
  refine zR.iconst (v := 0) dX10_drawLength_28 (by decide) ?_
  refine zR.istore (i := 5) (ls' := [(5, .int 0), (4, .int (v6 - 1)), (3, .int v5), (2, .ref (rp σ.2.2.2.1 + 0)), (0, .ref 1), (1, .int p1)]) dX10_drawLength_29 (by decide) rfl ?_
  refine zR.sub [5, 3, 2, 1, 0] rfl ?_
  exact kX10_drawLength_31 zF _ _ _ _ _ _ _ h
theorem lX10_drawLength {sc : Nat × (Nat → Int32)} (p1 : Int32) (σ : zS) (w : Int32 × zS) (h : fX10_drawLength p1 σ = some w) : zC (zY0 sc) 3 0 0 mX10_drawLength [.ref 1, .int p1] (zE σ) (some (.int w.1), zE w.2) := zC.of (by decide +kernel) (Nat.le_of_ble_eq_true rfl) ⟨_, rfl⟩ (eX10_drawLength p1 σ w h)
theorem dX7_setNextTunnel_0 : decode cX7_setNextTunnel 0 = .ok (.aload_n 0, 1) := by decide +kernel
theorem dX7_setNextTunnel_1 : decode cX7_setNextTunnel 1 = .ok (.getfield 11, 3) := by decide +kernel
theorem dX7_setNextTunnel_4 : decode cX7_setNextTunnel 4 = .ok (.iconst 0, 1) := by decide +kernel
theorem dX7_setNextTunnel_5 : decode cX7_setNextTunnel 5 = .ok (.iload_n 1, 1) := by decide +kernel
theorem dX7_setNextTunnel_6 : decode cX7_setNextTunnel 6 = .ok (.iastore, 1) := by decide +kernel
theorem dX7_setNextTunnel_7 : decode cX7_setNextTunnel 7 = .ok (.return_, 1) := by decide +kernel
def fX7_setNextTunnel (p1 : Int32) (σ : zS) : Option zS := wI σ 5 104 0 p1 fun σ1 => some σ1
theorem eX7_setNextTunnel {sc : Nat × (Nat → Int32)} (p1 : Int32) (σ : zS) (w : zS) (h : fX7_setNextTunnel p1 σ = some w) : zR (zY0 sc) 1 0 0 mX7_setNextTunnel 0 [(0, .ref 4), (1, .int p1)] [] (zE σ) (none, zE w) := by
  unfold fX7_setNextTunnel at h
  refine kR.aload_n dX7_setNextTunnel_0 0 rfl ?_
  refine kR.getR (v := 5) dX7_setNextTunnel_1 flX7_11 zcf7 zp4 (Or.inr ⟨_, rfl⟩) rfl ?_
  refine zR.iconst (v := 0) dX7_setNextTunnel_4 (by decide) ?_
  refine kR.iload_n dX7_setNextTunnel_5 1 rfl ?_
  refine kR.iast dX7_setNextTunnel_6 zp5 rfl h (fun σ1 h => ?_)
  exact kR.vret dX7_setNextTunnel_7 h
theorem lX7_setNextTunnel {sc : Nat × (Nat → Int32)} (p1 : Int32) (σ : zS) (w : zS) (h : fX7_setNextTunnel p1 σ = some w) : zC (zY0 sc) 1 0 0 mX7_setNextTunnel [.ref 4, .int p1] (zE σ) (none, zE w) := zC.of (by decide +kernel) (Nat.le_of_ble_eq_true rfl) rfl (eX7_setNextTunnel p1 σ w h)
theorem dX7_addScore_0 : decode cX7_addScore 0 = .ok (.aload_n 0, 1) := by decide +kernel
theorem dX7_addScore_1 : decode cX7_addScore 1 = .ok (.getfield 11, 3) := by decide +kernel
theorem dX7_addScore_4 : decode cX7_addScore 4 = .ok (.bipush 62, 2) := by decide +kernel
theorem dX7_addScore_6 : decode cX7_addScore 6 = .ok (.iload_n 1, 1) := by decide +kernel
theorem dX7_addScore_7 : decode cX7_addScore 7 = .ok (.iadd, 1) := by decide +kernel
theorem dX7_addScore_8 : decode cX7_addScore 8 = .ok (.aload_n 0, 1) := by decide +kernel
theorem dX7_addScore_9 : decode cX7_addScore 9 = .ok (.getfield 11, 3) := by decide +kernel
theorem dX7_addScore_12 : decode cX7_addScore 12 = .ok (.bipush 62, 2) := by decide +kernel
theorem dX7_addScore_14 : decode cX7_addScore 14 = .ok (.iload_n 1, 1) := by decide +kernel
theorem dX7_addScore_15 : decode cX7_addScore 15 = .ok (.iadd, 1) := by decide +kernel
theorem dX7_addScore_16 : decode cX7_addScore 16 = .ok (.iaload, 1) := by decide +kernel
theorem dX7_addScore_17 : decode cX7_addScore 17 = .ok (.iload_n 2, 1) := by decide +kernel
theorem dX7_addScore_18 : decode cX7_addScore 18 = .ok (.iadd, 1) := by decide +kernel
theorem dX7_addScore_19 : decode cX7_addScore 19 = .ok (.ldc 32, 2) := by decide +kernel
theorem dX7_addScore_21 : decode cX7_addScore 21 = .ok (.ldc 33, 2) := by decide +kernel
theorem dX7_addScore_23 : decode cX7_addScore 23 = .ok (.invokestatic 34, 3) := by decide +kernel
theorem dX7_addScore_26 : decode cX7_addScore 26 = .ok (.iastore, 1) := by decide +kernel
theorem dX7_addScore_27 : decode cX7_addScore 27 = .ok (.return_, 1) := by decide +kernel
def fX7_addScore (p1 : Int32) (p2 : Int32) (σ : zS) : Option zS := aI σ 5 104 (62 + p1) fun v1 => wI σ 5 104 (62 + p1) (fX10_within (v1 + p2) ((-99999)) 99999) fun σ2 => some σ2
theorem eX7_addScore {sc : Nat × (Nat → Int32)} (p1 : Int32) (p2 : Int32) (σ : zS) (w : zS) (h : fX7_addScore p1 p2 σ = some w) : zR (zY0 sc) 3 0 0 mX7_addScore 0 [(0, .ref 4), (1, .int p1), (2, .int p2)] [] (zE σ) (none, zE w) := by
  unfold fX7_addScore at h
  refine kR.aload_n dX7_addScore_0 0 rfl ?_
  refine kR.getR (v := 5) dX7_addScore_1 flX7_11 zcf7 zp4 (Or.inr ⟨_, rfl⟩) rfl ?_
  refine zR.bipush (v := 62) dX7_addScore_4 (by decide) ?_
  refine kR.iload_n dX7_addScore_6 1 rfl ?_
  refine zR.iadd dX7_addScore_7 ?_
  refine kR.aload_n dX7_addScore_8 0 rfl ?_
  refine kR.getR (v := 5) dX7_addScore_9 flX7_11 zcf7 zp4 (Or.inr ⟨_, rfl⟩) rfl ?_
  refine zR.bipush (v := 62) dX7_addScore_12 (by decide) ?_
  refine kR.iload_n dX7_addScore_14 1 rfl ?_
  refine zR.iadd dX7_addScore_15 ?_
  refine kR.iald dX7_addScore_16 zp5 rfl h (fun v1 h => ?_)
  refine kR.iload_n dX7_addScore_17 2 rfl ?_
  refine zR.iadd dX7_addScore_18 ?_
  refine zR.ldc (v := (-99999)) dX7_addScore_19 ciX7_32 ?_
  refine zR.ldc (v := 99999) dX7_addScore_21 ciX7_33 ?_
  refine kR.cSi [.int (v1 + p2), .int ((-99999)), .int 99999] dX7_addScore_23 rfl (by decide) (Or.inr mwX7_34) rfl (Nat.le_of_ble_eq_true rfl) (lX10_within (v1 + p2) ((-99999)) 99999) ?_
  refine kR.iast dX7_addScore_26 zp5 rfl h (fun σ2 h => ?_)
  exact kR.vret dX7_addScore_27 h
theorem lX7_addScore {sc : Nat × (Nat → Int32)} (p1 : Int32) (p2 : Int32) (σ : zS) (w : zS) (h : fX7_addScore p1 p2 σ = some w) : zC (zY0 sc) 3 0 0 mX7_addScore [.ref 4, .int p1, .int p2] (zE σ) (none, zE w) := zC.of (by decide +kernel) (Nat.le_of_ble_eq_true rfl) rfl (eX7_addScore p1 p2 σ w h)
theorem dX4_tiredAmong_0 : decode cX4_tiredAmong 0 = .ok (.aload_n 0, 1) := by decide +kernel
theorem dX4_tiredAmong_1 : decode cX4_tiredAmong 1 = .ok (.getfield 22, 3) := by decide +kernel
theorem dX4_tiredAmong_4 : decode cX4_tiredAmong 4 = .ok (.getfield 58, 3) := by decide +kernel
theorem dX4_tiredAmong_7 : decode cX4_tiredAmong 7 = .ok (.iconst 1, 1) := by decide +kernel
theorem dX4_tiredAmong_8 : decode cX4_tiredAmong 8 = .ok (.invokevirtual 75, 3) := by decide +kernel
theorem dX4_tiredAmong_11 : decode cX4_tiredAmong 11 = .ok (.ifCond .ne 12, 3) := by decide +kernel
theorem dX4_tiredAmong_14 : decode cX4_tiredAmong 14 = .ok (.aload_n 0, 1) := by decide +kernel
theorem dX4_tiredAmong_15 : decode cX4_tiredAmong 15 = .ok (.getfield 18, 3) := by decide +kernel
theorem dX4_tiredAmong_18 : decode cX4_tiredAmong 18 = .ok (.iload_n 1, 1) := by decide +kernel
theorem dX4_tiredAmong_19 : decode cX4_tiredAmong 19 = .ok (.invokevirtual 26, 3) := by decide +kernel
theorem dX4_tiredAmong_22 : decode cX4_tiredAmong 22 = .ok (.ireturn, 1) := by decide +kernel
theorem dX4_tiredAmong_23 : decode cX4_tiredAmong 23 = .ok (.aload_n 0, 1) := by decide +kernel
theorem dX4_tiredAmong_24 : decode cX4_tiredAmong 24 = .ok (.iload_n 1, 1) := by decide +kernel
theorem dX4_tiredAmong_25 : decode cX4_tiredAmong 25 = .ok (.iload_n 2, 1) := by decide +kernel
theorem dX4_tiredAmong_26 : decode cX4_tiredAmong 26 = .ok (.iload_n 3, 1) := by decide +kernel
theorem dX4_tiredAmong_27 : decode cX4_tiredAmong 27 = .ok (.invokevirtual 71, 3) := by decide +kernel
theorem dX4_tiredAmong_30 : decode cX4_tiredAmong 30 = .ok (.aload_n 0, 1) := by decide +kernel
theorem dX4_tiredAmong_31 : decode cX4_tiredAmong 31 = .ok (.getfield 22, 3) := by decide +kernel
theorem dX4_tiredAmong_34 : decode cX4_tiredAmong 34 = .ok (.getfield 58, 3) := by decide +kernel
theorem dX4_tiredAmong_37 : decode cX4_tiredAmong 37 = .ok (.iconst 1, 1) := by decide +kernel
theorem dX4_tiredAmong_38 : decode cX4_tiredAmong 38 = .ok (.aload_n 0, 1) := by decide +kernel
theorem dX4_tiredAmong_39 : decode cX4_tiredAmong 39 = .ok (.getfield 15, 3) := by decide +kernel
theorem dX4_tiredAmong_42 : decode cX4_tiredAmong 42 = .ok (.invokevirtual 64, 3) := by decide +kernel
theorem dX4_tiredAmong_45 : decode cX4_tiredAmong 45 = .ok (.iconst 0, 1) := by decide +kernel
theorem dX4_tiredAmong_46 : decode cX4_tiredAmong 46 = .ok (.bipush 60, 2) := by decide +kernel
theorem dX4_tiredAmong_48 : decode cX4_tiredAmong 48 = .ok (.invokestatic 68, 3) := by decide +kernel
theorem dX4_tiredAmong_51 : decode cX4_tiredAmong 51 = .ok (.ireturn, 1) := by decide +kernel
def fX4_tiredAmong (p1 : Int32) (p2 : Int32) (p3 : Int32) (σ : zS) : Option (Int32 × zS) := bnr (fX8_isTold σ.2.2.2.1 σ 1) fun v1 => if v1 = 0 then bnr (fX7_breathOf σ p1) fun v8 => some (v8, σ) else bnr (fX4_tellAmong p1 p2 p3 σ) fun σ3 => bnc (fX8_valueOf σ3.2.2.2.1 26 7 1 σ3) fun v7 σ5 => some (fX10_within v7 0 60, σ5)
theorem eX4_tiredAmong {sc : Nat × (Nat → Int32)} (p1 : Int32) (p2 : Int32) (p3 : Int32) (σ : zS) (w : Int32 × zS) (h : fX4_tiredAmong p1 p2 p3 σ = some w) : zR (zY0 sc) 4 0 0 mX4_tiredAmong 0 [(0, .ref 8), (1, .int p1), (2, .int p2), (3, .int p3)] [] (zE σ) (some (.int w.1), zE w.2) := by
  unfold fX4_tiredAmong at h
  refine kR.aload_n dX4_tiredAmong_0 0 rfl ?_
  refine kR.getR (v := (rp σ.2.2.2.1 + 0)) dX4_tiredAmong_1 flX4_22 zcf4 zp8 (Or.inl ⟨_, rfl⟩) rfl ?_
  refine kR.getR (v := (rp σ.2.2.2.1 + 11)) dX4_tiredAmong_4 flX4_58 zcf6 (zq0 σ.2.2.2.1) (Or.inl ⟨_, rfl⟩) (zr0_15 _ σ.2.2.2.1) ?_
  refine zR.iconst (v := 1) dX4_tiredAmong_7 (by decide) ?_
  obtain ⟨v1, e2, h⟩ := bnr_some h
  refine kR.cVi [.int 1] dX4_tiredAmong_8 rfl (by decide) mwX4_75 (zq11 σ.2.2.2.1) (by decide) rfl rfl (Nat.le_of_ble_eq_true rfl) (lX8_isTold σ.2.2.2.1 σ 1 _ e2) ?_
  refine kR.if_ne (tgt := 23) dX4_tiredAmong_11 (by decide) h (fun h => ?_) (fun h => ?_)
  · refine kR.aload_n dX4_tiredAmong_23 0 rfl ?_
    refine kR.iload_n dX4_tiredAmong_24 1 rfl ?_
    refine kR.iload_n dX4_tiredAmong_25 2 rfl ?_
    refine kR.iload_n dX4_tiredAmong_26 3 rfl ?_
    obtain ⟨σ3, e4, h⟩ := bnr_some h
    refine kR.cVv [.int p1, .int p2, .int p3] dX4_tiredAmong_27 rfl (by decide) mwX4_71 zp8 (by decide) rfl rfl (Nat.le_of_ble_eq_true rfl) (lX4_tellAmong p1 p2 p3 σ _ e4) ?_
    refine kR.aload_n dX4_tiredAmong_30 0 rfl ?_
    refine kR.getR (v := (rp σ3.2.2.2.1 + 0)) dX4_tiredAmong_31 flX4_22 zcf4 zp8 (Or.inl ⟨_, rfl⟩) rfl ?_
    refine kR.getR (v := (rp σ3.2.2.2.1 + 11)) dX4_tiredAmong_34 flX4_58 zcf6 (zq0 σ3.2.2.2.1) (Or.inl ⟨_, rfl⟩) (zr0_15 _ σ3.2.2.2.1) ?_
    refine zR.iconst (v := 1) dX4_tiredAmong_37 (by decide) ?_
    refine kR.aload_n dX4_tiredAmong_38 0 rfl ?_
    refine kR.getR (v := 26) dX4_tiredAmong_39 flX4_15 zcf4 zp8 (Or.inr ⟨_, rfl⟩) rfl ?_
    obtain ⟨v7, σ5, e6, h⟩ := bnc_some h
    refine kR.cVi [.int 1, .ref 26] dX4_tiredAmong_42 rfl (by decide) mwX4_64 (zq11 σ3.2.2.2.1) (by decide) rfl rfl (Nat.le_of_ble_eq_true rfl) (lX8_valueOf σ3.2.2.2.1 26 7 (fun _ => zp26) rfl 1 σ3 _ e6) ?_
    refine zR.iconst (v := 0) dX4_tiredAmong_45 (by decide) ?_
    refine zR.bipush (v := 60) dX4_tiredAmong_46 (by decide) ?_
    refine kR.cSi [.int v7, .int 0, .int 60] dX4_tiredAmong_48 rfl (by decide) (Or.inr mwX4_68) rfl (Nat.le_of_ble_eq_true rfl) (lX10_within v7 0 60) ?_
    exact kR.iretW dX4_tiredAmong_51 (nzI rfl _) h
  · refine kR.aload_n dX4_tiredAmong_14 0 rfl ?_
    refine kR.getR (v := 4) dX4_tiredAmong_15 flX4_18 zcf4 zp8 (Or.inl ⟨_, rfl⟩) rfl ?_
    refine kR.iload_n dX4_tiredAmong_18 1 rfl ?_
    obtain ⟨v8, e9, h⟩ := bnr_some h
    refine kR.cVi [.int p1] dX4_tiredAmong_19 rfl (by decide) mwX4_26 zp4 (by decide) rfl rfl (Nat.le_of_ble_eq_true rfl) (lX7_breathOf σ p1 _ e9) ?_
    exact kR.iretW dX4_tiredAmong_22 (nzI rfl _) h
theorem lX4_tiredAmong {sc : Nat × (Nat → Int32)} (p1 : Int32) (p2 : Int32) (p3 : Int32) (σ : zS) (w : Int32 × zS) (h : fX4_tiredAmong p1 p2 p3 σ = some w) : zC (zY0 sc) 4 0 0 mX4_tiredAmong [.ref 8, .int p1, .int p2, .int p3] (zE σ) (some (.int w.1), zE w.2) := zC.of (by decide +kernel) (Nat.le_of_ble_eq_true rfl) ⟨_, rfl⟩ (eX4_tiredAmong p1 p2 p3 σ w h)
theorem dX7_setBreath_0 : decode cX7_setBreath 0 = .ok (.aload_n 0, 1) := by decide +kernel
theorem dX7_setBreath_1 : decode cX7_setBreath 1 = .ok (.getfield 11, 3) := by decide +kernel
theorem dX7_setBreath_4 : decode cX7_setBreath 4 = .ok (.bipush 50, 2) := by decide +kernel
theorem dX7_setBreath_6 : decode cX7_setBreath 6 = .ok (.iload_n 1, 1) := by decide +kernel
theorem dX7_setBreath_7 : decode cX7_setBreath 7 = .ok (.iadd, 1) := by decide +kernel
theorem dX7_setBreath_8 : decode cX7_setBreath 8 = .ok (.iload_n 2, 1) := by decide +kernel
theorem dX7_setBreath_9 : decode cX7_setBreath 9 = .ok (.iastore, 1) := by decide +kernel
theorem dX7_setBreath_10 : decode cX7_setBreath 10 = .ok (.return_, 1) := by decide +kernel
def fX7_setBreath (p1 : Int32) (p2 : Int32) (σ : zS) : Option zS := wI σ 5 104 (50 + p1) p2 fun σ1 => some σ1
theorem eX7_setBreath {sc : Nat × (Nat → Int32)} (p1 : Int32) (p2 : Int32) (σ : zS) (w : zS) (h : fX7_setBreath p1 p2 σ = some w) : zR (zY0 sc) 1 0 0 mX7_setBreath 0 [(0, .ref 4), (1, .int p1), (2, .int p2)] [] (zE σ) (none, zE w) := by
  unfold fX7_setBreath at h
  refine kR.aload_n dX7_setBreath_0 0 rfl ?_
  refine kR.getR (v := 5) dX7_setBreath_1 flX7_11 zcf7 zp4 (Or.inr ⟨_, rfl⟩) rfl ?_
  refine zR.bipush (v := 50) dX7_setBreath_4 (by decide) ?_
  refine kR.iload_n dX7_setBreath_6 1 rfl ?_
  refine zR.iadd dX7_setBreath_7 ?_
  refine kR.iload_n dX7_setBreath_8 2 rfl ?_
  refine kR.iast dX7_setBreath_9 zp5 rfl h (fun σ1 h => ?_)
  exact kR.vret dX7_setBreath_10 h
theorem lX7_setBreath {sc : Nat × (Nat → Int32)} (p1 : Int32) (p2 : Int32) (σ : zS) (w : zS) (h : fX7_setBreath p1 p2 σ = some w) : zC (zY0 sc) 1 0 0 mX7_setBreath [.ref 4, .int p1, .int p2] (zE σ) (none, zE w) := zC.of (by decide +kernel) (Nat.le_of_ble_eq_true rfl) rfl (eX7_setBreath p1 p2 σ w h)
theorem dX7_keep_0 : decode cX7_keep 0 = .ok (.aload_n 0, 1) := by decide +kernel
theorem dX7_keep_1 : decode cX7_keep 1 = .ok (.getfield 11, 3) := by decide +kernel
theorem dX7_keep_4 : decode cX7_keep 4 = .ok (.iconst 2, 1) := by decide +kernel
theorem dX7_keep_5 : decode cX7_keep 5 = .ok (.aload_n 0, 1) := by decide +kernel
theorem dX7_keep_6 : decode cX7_keep 6 = .ok (.getfield 11, 3) := by decide +kernel
theorem dX7_keep_9 : decode cX7_keep 9 = .ok (.iconst 1, 1) := by decide +kernel
theorem dX7_keep_10 : decode cX7_keep 10 = .ok (.iaload, 1) := by decide +kernel
theorem dX7_keep_11 : decode cX7_keep 11 = .ok (.bipush 48, 2) := by decide +kernel
theorem dX7_keep_13 : decode cX7_keep 13 = .ok (.irem, 1) := by decide +kernel
theorem dX7_keep_14 : decode cX7_keep 14 = .ok (.iadd, 1) := by decide +kernel
theorem dX7_keep_15 : decode cX7_keep 15 = .ok (.iload_n 1, 1) := by decide +kernel
theorem dX7_keep_16 : decode cX7_keep 16 = .ok (.bipush 24, 2) := by decide +kernel
theorem dX7_keep_18 : decode cX7_keep 18 = .ok (.ishl, 1) := by decide +kernel
theorem dX7_keep_19 : decode cX7_keep 19 = .ok (.iload_n 2, 1) := by decide +kernel
theorem dX7_keep_20 : decode cX7_keep 20 = .ok (.bipush 16, 2) := by decide +kernel
theorem dX7_keep_22 : decode cX7_keep 22 = .ok (.ishl, 1) := by decide +kernel
theorem dX7_keep_23 : decode cX7_keep 23 = .ok (.ior, 1) := by decide +kernel
theorem dX7_keep_24 : decode cX7_keep 24 = .ok (.iload_n 3, 1) := by decide +kernel
theorem dX7_keep_25 : decode cX7_keep 25 = .ok (.bipush 8, 2) := by decide +kernel
theorem dX7_keep_27 : decode cX7_keep 27 = .ok (.ishl, 1) := by decide +kernel
theorem dX7_keep_28 : decode cX7_keep 28 = .ok (.ior, 1) := by decide +kernel
theorem dX7_keep_29 : decode cX7_keep 29 = .ok (.iload 4, 2) := by decide +kernel
theorem dX7_keep_31 : decode cX7_keep 31 = .ok (.ior, 1) := by decide +kernel
theorem dX7_keep_32 : decode cX7_keep 32 = .ok (.iastore, 1) := by decide +kernel
theorem dX7_keep_33 : decode cX7_keep 33 = .ok (.aload_n 0, 1) := by decide +kernel
theorem dX7_keep_34 : decode cX7_keep 34 = .ok (.getfield 11, 3) := by decide +kernel
theorem dX7_keep_37 : decode cX7_keep 37 = .ok (.iconst 1, 1) := by decide +kernel
theorem dX7_keep_38 : decode cX7_keep 38 = .ok (.dup2, 1) := by decide +kernel
theorem dX7_keep_39 : decode cX7_keep 39 = .ok (.iaload, 1) := by decide +kernel
theorem dX7_keep_40 : decode cX7_keep 40 = .ok (.iconst 1, 1) := by decide +kernel
theorem dX7_keep_41 : decode cX7_keep 41 = .ok (.iadd, 1) := by decide +kernel
theorem dX7_keep_42 : decode cX7_keep 42 = .ok (.iastore, 1) := by decide +kernel
theorem dX7_keep_43 : decode cX7_keep 43 = .ok (.aload_n 0, 1) := by decide +kernel
theorem dX7_keep_44 : decode cX7_keep 44 = .ok (.getfield 11, 3) := by decide +kernel
theorem dX7_keep_47 : decode cX7_keep 47 = .ok (.iconst 1, 1) := by decide +kernel
theorem dX7_keep_48 : decode cX7_keep 48 = .ok (.iaload, 1) := by decide +kernel
theorem dX7_keep_49 : decode cX7_keep 49 = .ok (.bipush 96, 2) := by decide +kernel
theorem dX7_keep_51 : decode cX7_keep 51 = .ok (.if_icmp .ne 11, 3) := by decide +kernel
theorem dX7_keep_54 : decode cX7_keep 54 = .ok (.aload_n 0, 1) := by decide +kernel
theorem dX7_keep_55 : decode cX7_keep 55 = .ok (.getfield 11, 3) := by decide +kernel
theorem dX7_keep_58 : decode cX7_keep 58 = .ok (.iconst 1, 1) := by decide +kernel
theorem dX7_keep_59 : decode cX7_keep 59 = .ok (.bipush 48, 2) := by decide +kernel
theorem dX7_keep_61 : decode cX7_keep 61 = .ok (.iastore, 1) := by decide +kernel
theorem dX7_keep_62 : decode cX7_keep 62 = .ok (.return_, 1) := by decide +kernel
def fX7_keep (p1 : Int32) (p2 : Int32) (p3 : Int32) (p4 : Int32) (σ : zS) : Option zS := aI σ 5 104 1 fun v1 => wI σ 5 104 (2 + (v1 - v1 / 48 * 48)) ((((p1 <<< (24 &&& 31)) ||| (p2 <<< (16 &&& 31))) ||| (p3 <<< (8 &&& 31))) ||| p4) fun σ2 => aI σ2 5 104 1 fun v3 => wI σ2 5 104 1 (v3 + 1) fun σ4 => aI σ4 5 104 1 fun v5 => if v5 = 96 then wI σ4 5 104 1 48 fun σ6 => some σ6 else some σ4
theorem eX7_keep {sc : Nat × (Nat → Int32)} (p1 : Int32) (p2 : Int32) (p3 : Int32) (p4 : Int32) (σ : zS) (w : zS) (h : fX7_keep p1 p2 p3 p4 σ = some w) : zR (zY0 sc) 1 0 0 mX7_keep 0 [(0, .ref 4), (1, .int p1), (2, .int p2), (3, .int p3), (4, .int p4)] [] (zE σ) (none, zE w) := by
  unfold fX7_keep at h
  refine kR.aload_n dX7_keep_0 0 rfl ?_
  refine kR.getR (v := 5) dX7_keep_1 flX7_11 zcf7 zp4 (Or.inr ⟨_, rfl⟩) rfl ?_
  refine zR.iconst (v := 2) dX7_keep_4 (by decide) ?_
  refine kR.aload_n dX7_keep_5 0 rfl ?_
  refine kR.getR (v := 5) dX7_keep_6 flX7_11 zcf7 zp4 (Or.inr ⟨_, rfl⟩) rfl ?_
  refine zR.iconst (v := 1) dX7_keep_9 (by decide) ?_
  refine kR.iald dX7_keep_10 zp5 rfl h (fun v1 h => ?_)
  refine zR.bipush (v := 48) dX7_keep_11 (by decide) ?_
  refine zR.irem dX7_keep_13 (by decide) ?_
  refine zR.iadd dX7_keep_14 ?_
  refine kR.iload_n dX7_keep_15 1 rfl ?_
  refine zR.bipush (v := 24) dX7_keep_16 (by decide) ?_
  refine zR.ishl dX7_keep_18 ?_
  refine kR.iload_n dX7_keep_19 2 rfl ?_
  refine zR.bipush (v := 16) dX7_keep_20 (by decide) ?_
  refine zR.ishl dX7_keep_22 ?_
  refine zR.ior dX7_keep_23 ?_
  refine kR.iload_n dX7_keep_24 3 rfl ?_
  refine zR.bipush (v := 8) dX7_keep_25 (by decide) ?_
  refine zR.ishl dX7_keep_27 ?_
  refine zR.ior dX7_keep_28 ?_
  refine kR.iload dX7_keep_29 4 rfl ?_
  refine zR.ior dX7_keep_31 ?_
  refine kR.iast dX7_keep_32 zp5 rfl h (fun σ2 h => ?_)
  refine kR.aload_n dX7_keep_33 0 rfl ?_
  refine kR.getR (v := 5) dX7_keep_34 flX7_11 zcf7 zp4 (Or.inr ⟨_, rfl⟩) rfl ?_
  refine zR.iconst (v := 1) dX7_keep_37 (by decide) ?_
  refine zR.dup2 dX7_keep_38 rfl rfl ?_
  refine kR.iald dX7_keep_39 zp5 rfl h (fun v3 h => ?_)
  refine zR.iconst (v := 1) dX7_keep_40 (by decide) ?_
  refine zR.iadd dX7_keep_41 ?_
  refine kR.iast dX7_keep_42 zp5 rfl h (fun σ4 h => ?_)
  refine kR.aload_n dX7_keep_43 0 rfl ?_
  refine kR.getR (v := 5) dX7_keep_44 flX7_11 zcf7 zp4 (Or.inr ⟨_, rfl⟩) rfl ?_
  refine zR.iconst (v := 1) dX7_keep_47 (by decide) ?_
  refine kR.iald dX7_keep_48 zp5 rfl h (fun v5 h => ?_)
  refine zR.bipush (v := 96) dX7_keep_49 (by decide) ?_
  refine kR.icmp_ne (tgt := 62) dX7_keep_51 (by decide) h (fun h => ?_) (fun h => ?_)
  · exact kR.vret dX7_keep_62 h
  · refine kR.aload_n dX7_keep_54 0 rfl ?_
    refine kR.getR (v := 5) dX7_keep_55 flX7_11 zcf7 zp4 (Or.inr ⟨_, rfl⟩) rfl ?_
    refine zR.iconst (v := 1) dX7_keep_58 (by decide) ?_
    refine zR.bipush (v := 48) dX7_keep_59 (by decide) ?_
    refine kR.iast dX7_keep_61 zp5 rfl h (fun σ6 h => ?_)
    exact kR.vret dX7_keep_62 h
theorem lX7_keep {sc : Nat × (Nat → Int32)} (p1 : Int32) (p2 : Int32) (p3 : Int32) (p4 : Int32) (σ : zS) (w : zS) (h : fX7_keep p1 p2 p3 p4 σ = some w) : zC (zY0 sc) 1 0 0 mX7_keep [.ref 4, .int p1, .int p2, .int p3, .int p4] (zE σ) (none, zE w) := zC.of (by decide +kernel) (Nat.le_of_ble_eq_true rfl) rfl (eX7_keep p1 p2 p3 p4 σ w h)

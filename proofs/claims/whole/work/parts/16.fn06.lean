/-! MY OWN (by program): X10_rest, X0_hiddenTotal, X10_hidden, X4_madeBits, X0_paceWeights, X0_bestPace, X10_pace, X0_totalAmong, X0_bestToLaugh, X10_whom, X10_isSecond, X1_take, X10_faces, J6_bitCount_0f7a4 -/
theorem dX10_rest_0 : decode cX10_rest 0 = .ok (.aload_n 0, 1) := by decide +kernel
theorem dX10_rest_1 : decode cX10_rest 1 = .ok (.getfield 38, 3) := by decide +kernel
theorem dX10_rest_4 : decode cX10_rest 4 = .ok (.getfield 111, 3) := by decide +kernel
theorem dX10_rest_7 : decode cX10_rest 7 = .ok (.iload_n 1, 1) := by decide +kernel
theorem dX10_rest_8 : decode cX10_rest 8 = .ok (.invokevirtual 147, 3) := by decide +kernel
theorem dX10_rest_11 : decode cX10_rest 11 = .ok (.ifCond .ne 5, 3) := by decide +kernel
theorem dX10_rest_14 : decode cX10_rest 14 = .ok (.iconst (-1), 1) := by decide +kernel
theorem dX10_rest_15 : decode cX10_rest 15 = .ok (.ireturn, 1) := by decide +kernel
theorem dX10_rest_16 : decode cX10_rest 16 = .ok (.iload_n 2, 1) := by decide +kernel
theorem dX10_rest_17 : decode cX10_rest 17 = .ok (.iconst (-1), 1) := by decide +kernel
theorem dX10_rest_18 : decode cX10_rest 18 = .ok (.if_icmp .ne 19, 3) := by decide +kernel
theorem dX10_rest_21 : decode cX10_rest 21 = .ok (.aload_n 0, 1) := by decide +kernel
theorem dX10_rest_22 : decode cX10_rest 22 = .ok (.getfield 47, 3) := by decide +kernel
theorem dX10_rest_25 : decode cX10_rest 25 = .ok (.iload_n 1, 1) := by decide +kernel
theorem dX10_rest_26 : decode cX10_rest 26 = .ok (.invokevirtual 242, 3) := by decide +kernel
theorem dX10_rest_29 : decode cX10_rest 29 = .ok (.aload_n 0, 1) := by decide +kernel
theorem dX10_rest_30 : decode cX10_rest 30 = .ok (.getfield 47, 3) := by decide +kernel
theorem dX10_rest_33 : decode cX10_rest 33 = .ok (.getfield 245, 3) := by decide +kernel
theorem dX10_rest_36 : decode cX10_rest 36 = .ok (.ireturn, 1) := by decide +kernel
theorem dX10_rest_37 : decode cX10_rest 37 = .ok (.aload_n 0, 1) := by decide +kernel
theorem dX10_rest_38 : decode cX10_rest 38 = .ok (.getfield 38, 3) := by decide +kernel
theorem dX10_rest_41 : decode cX10_rest 41 = .ok (.getfield 111, 3) := by decide +kernel
theorem dX10_rest_44 : decode cX10_rest 44 = .ok (.iload_n 2, 1) := by decide +kernel
theorem dX10_rest_45 : decode cX10_rest 45 = .ok (.invokevirtual 162, 3) := by decide +kernel
theorem dX10_rest_48 : decode cX10_rest 48 = .ok (.ifCond .ne 5, 3) := by decide +kernel
theorem dX10_rest_51 : decode cX10_rest 51 = .ok (.iconst (-1), 1) := by decide +kernel
theorem dX10_rest_52 : decode cX10_rest 52 = .ok (.ireturn, 1) := by decide +kernel
theorem dX10_rest_53 : decode cX10_rest 53 = .ok (.aload_n 0, 1) := by decide +kernel
theorem dX10_rest_54 : decode cX10_rest 54 = .ok (.getfield 47, 3) := by decide +kernel
theorem dX10_rest_57 : decode cX10_rest 57 = .ok (.iload_n 1, 1) := by decide +kernel
theorem dX10_rest_58 : decode cX10_rest 58 = .ok (.invokevirtual 242, 3) := by decide +kernel
theorem dX10_rest_61 : decode cX10_rest 61 = .ok (.aload_n 0, 1) := by decide +kernel
theorem dX10_rest_62 : decode cX10_rest 62 = .ok (.getfield 47, 3) := by decide +kernel
theorem dX10_rest_65 : decode cX10_rest 65 = .ok (.getfield 248, 3) := by decide +kernel
theorem dX10_rest_68 : decode cX10_rest 68 = .ok (.iload_n 2, 1) := by decide +kernel
theorem dX10_rest_69 : decode cX10_rest 69 = .ok (.invokestatic 154, 3) := by decide +kernel
theorem dX10_rest_72 : decode cX10_rest 72 = .ok (.ireturn, 1) := by decide +kernel
def fX10_rest (p1 : Int32) (p2 : Int32) (σ : zS) : Option (Int32 × zS) := if (fX6_hasTunnel σ.2.2.2.1 σ p1) = 0 then some ((-1), σ) else if p2 = ((-1)) then bnr (fX0_settle p1 σ) fun σ4 => some (iG σ4 27 12, σ4) else if (fX6_hasHolder σ.2.2.2.1 σ p2) = 0 then some ((-1), σ) else bnr (fX0_settle p1 σ) fun σ1 => aI σ1 31 6 p2 fun v3 => some (v3, σ1)
theorem eX10_rest {sc : Nat × (Nat → Int32)} (p1 : Int32) (p2 : Int32) (σ : zS) (w : Int32 × zS) (h : fX10_rest p1 p2 σ = some w) : zR (zY0 sc) 8 0 0 mX10_rest 0 [(0, .ref 1), (1, .int p1), (2, .int p2)] [] (zE σ) (some (.int w.1), zE w.2) := by
  unfold fX10_rest at h
  refine kR.aload_n dX10_rest_0 0 rfl ?_
  refine kR.getR (v := 8) dX10_rest_1 flX10_38 zcf10 zp1 (Or.inl ⟨_, rfl⟩) rfl ?_
  refine kR.getR (v := (rp σ.2.2.2.1 + 0)) dX10_rest_4 flX10_111 zcf4 zp8 (Or.inl ⟨_, rfl⟩) rfl ?_
  refine kR.iload_n dX10_rest_7 1 rfl ?_
  refine kR.cVi [.int p1] dX10_rest_8 rfl (by decide) mwX10_147 (zq0 σ.2.2.2.1) (by decide) rfl rfl (Nat.le_of_ble_eq_true rfl) (lX6_hasTunnel σ.2.2.2.1 σ p1) ?_
  refine kR.if_ne (tgt := 16) dX10_rest_11 (by decide) h (fun h => ?_) (fun h => ?_)
  · refine kR.iload_n dX10_rest_16 2 rfl ?_
    refine zR.iconst (v := (-1)) dX10_rest_17 (by decide) ?_
    refine kR.icmp_ne (tgt := 37) dX10_rest_18 (by decide) h (fun h => ?_) (fun h => ?_)
    · refine kR.aload_n dX10_rest_37 0 rfl ?_
      refine kR.getR (v := 8) dX10_rest_38 flX10_38 zcf10 zp1 (Or.inl ⟨_, rfl⟩) rfl ?_
      refine kR.getR (v := (rp σ.2.2.2.1 + 0)) dX10_rest_41 flX10_111 zcf4 zp8 (Or.inl ⟨_, rfl⟩) rfl ?_
      refine kR.iload_n dX10_rest_44 2 rfl ?_
      refine kR.cVi [.int p2] dX10_rest_45 rfl (by decide) mwX10_162 (zq0 σ.2.2.2.1) (by decide) rfl rfl (Nat.le_of_ble_eq_true rfl) (lX6_hasHolder σ.2.2.2.1 σ p2) ?_
      refine kR.if_ne (tgt := 53) dX10_rest_48 (by decide) h (fun h => ?_) (fun h => ?_)
      · refine kR.aload_n dX10_rest_53 0 rfl ?_
        refine kR.getR (v := 27) dX10_rest_54 flX10_47 zcf10 zp1 (Or.inl ⟨_, rfl⟩) rfl ?_
        refine kR.iload_n dX10_rest_57 1 rfl ?_
        obtain ⟨σ1, e2, h⟩ := bnr_some h
        refine kR.cVv [.int p1] dX10_rest_58 rfl (by decide) mwX10_242 zp27 (by decide) rfl rfl (Nat.le_of_ble_eq_true rfl) (lX0_settle p1 σ _ e2) ?_
        refine kR.aload_n dX10_rest_61 0 rfl ?_
        refine kR.getR (v := 27) dX10_rest_62 flX10_47 zcf10 zp1 (Or.inl ⟨_, rfl⟩) rfl ?_
        refine kR.getR (v := 31) dX10_rest_65 flX10_248 zcf0 zp27 (Or.inr ⟨_, rfl⟩) rfl ?_
        refine kR.iload_n dX10_rest_68 2 rfl ?_
        obtain ⟨v3, e0, h⟩ := aIv (Nat.le_of_ble_eq_true rfl) h
        refine kR.cSi [.ref 31, .int p2] dX10_rest_69 rfl (by decide) (Or.inl mwX10_154) rfl (Nat.le_of_ble_eq_true rfl) (lX10_valueAt 31 6 σ1 (fun _ => zp31) rfl (Nat.le_of_ble_eq_true rfl) p2 _ e0) ?_
        exact kR.iretW dX10_rest_72 (nzI rfl _) h
      · refine zR.iconst (v := (-1)) dX10_rest_51 (by decide) ?_
        exact kR.iretW dX10_rest_52 (nzI rfl _) h
    · refine kR.aload_n dX10_rest_21 0 rfl ?_
      refine kR.getR (v := 27) dX10_rest_22 flX10_47 zcf10 zp1 (Or.inl ⟨_, rfl⟩) rfl ?_
      refine kR.iload_n dX10_rest_25 1 rfl ?_
      obtain ⟨σ4, e5, h⟩ := bnr_some h
      refine kR.cVv [.int p1] dX10_rest_26 rfl (by decide) mwX10_242 zp27 (by decide) rfl rfl (Nat.le_of_ble_eq_true rfl) (lX0_settle p1 σ _ e5) ?_
      refine kR.aload_n dX10_rest_29 0 rfl ?_
      refine kR.getR (v := 27) dX10_rest_30 flX10_47 zcf10 zp1 (Or.inl ⟨_, rfl⟩) rfl ?_
      refine kR.getI dX10_rest_33 flX10_245 zcf0 zp27 (Or.inl rfl) ?_
      exact kR.iretW dX10_rest_36 (nzI rfl _) h
  · refine zR.iconst (v := (-1)) dX10_rest_14 (by decide) ?_
    exact kR.iretW dX10_rest_15 (nzI rfl _) h
theorem lX10_rest {sc : Nat × (Nat → Int32)} (p1 : Int32) (p2 : Int32) (σ : zS) (w : Int32 × zS) (h : fX10_rest p1 p2 σ = some w) : zC (zY0 sc) 8 0 0 mX10_rest [.ref 1, .int p1, .int p2] (zE σ) (some (.int w.1), zE w.2) := zC.of (by decide +kernel) (Nat.le_of_ble_eq_true rfl) ⟨_, rfl⟩ (eX10_rest p1 p2 σ w h)
theorem dX0_hiddenTotal_0 : decode cX0_hiddenTotal 0 = .ok (.aload_n 0, 1) := by decide +kernel
theorem dX0_hiddenTotal_1 : decode cX0_hiddenTotal 1 = .ok (.getfield 51, 3) := by decide +kernel
theorem dX0_hiddenTotal_4 : decode cX0_hiddenTotal 4 = .ok (.getfield 63, 3) := by decide +kernel
theorem dX0_hiddenTotal_7 : decode cX0_hiddenTotal 7 = .ok (.astore_n 3, 1) := by decide +kernel
theorem dX0_hiddenTotal_8 : decode cX0_hiddenTotal 8 = .ok (.aload_n 0, 1) := by decide +kernel
theorem dX0_hiddenTotal_9 : decode cX0_hiddenTotal 9 = .ok (.getfield 51, 3) := by decide +kernel
theorem dX0_hiddenTotal_12 : decode cX0_hiddenTotal 12 = .ok (.getfield 133, 3) := by decide +kernel
theorem dX0_hiddenTotal_15 : decode cX0_hiddenTotal 15 = .ok (.iload_n 1, 1) := by decide +kernel
theorem dX0_hiddenTotal_16 : decode cX0_hiddenTotal 16 = .ok (.invokevirtual 137, 3) := by decide +kernel
theorem dX0_hiddenTotal_19 : decode cX0_hiddenTotal 19 = .ok (.istore 4, 2) := by decide +kernel
theorem dX0_hiddenTotal_21 : decode cX0_hiddenTotal 21 = .ok (.lconst 0, 1) := by decide +kernel
theorem dX0_hiddenTotal_22 : decode cX0_hiddenTotal 22 = .ok (.lstore 5, 2) := by decide +kernel
theorem dX0_hiddenTotal_24 : decode cX0_hiddenTotal 24 = .ok (.iconst 0, 1) := by decide +kernel
theorem dX0_hiddenTotal_25 : decode cX0_hiddenTotal 25 = .ok (.istore 7, 2) := by decide +kernel
theorem dX0_hiddenTotal_27 : decode cX0_hiddenTotal 27 = .ok (.iload 7, 2) := by decide +kernel
theorem dX0_hiddenTotal_29 : decode cX0_hiddenTotal 29 = .ok (.aload_n 3, 1) := by decide +kernel
theorem dX0_hiddenTotal_30 : decode cX0_hiddenTotal 30 = .ok (.iload_n 2, 1) := by decide +kernel
theorem dX0_hiddenTotal_31 : decode cX0_hiddenTotal 31 = .ok (.invokevirtual 101, 3) := by decide +kernel
theorem dX0_hiddenTotal_34 : decode cX0_hiddenTotal 34 = .ok (.if_icmp .ge 73, 3) := by decide +kernel
theorem dX0_hiddenTotal_37 : decode cX0_hiddenTotal 37 = .ok (.aload_n 3, 1) := by decide +kernel
theorem dX0_hiddenTotal_38 : decode cX0_hiddenTotal 38 = .ok (.iload_n 2, 1) := by decide +kernel
theorem dX0_hiddenTotal_39 : decode cX0_hiddenTotal 39 = .ok (.iload 7, 2) := by decide +kernel
theorem dX0_hiddenTotal_41 : decode cX0_hiddenTotal 41 = .ok (.invokevirtual 108, 3) := by decide +kernel
theorem dX0_hiddenTotal_44 : decode cX0_hiddenTotal 44 = .ok (.istore 8, 2) := by decide +kernel
theorem dX0_hiddenTotal_46 : decode cX0_hiddenTotal 46 = .ok (.ldc2_w 162, 3) := by decide +kernel
theorem dX0_hiddenTotal_49 : decode cX0_hiddenTotal 49 = .ok (.aload_n 3, 1) := by decide +kernel
theorem dX0_hiddenTotal_50 : decode cX0_hiddenTotal 50 = .ok (.getfield 164, 3) := by decide +kernel
theorem dX0_hiddenTotal_53 : decode cX0_hiddenTotal 53 = .ok (.i2l, 1) := by decide +kernel
theorem dX0_hiddenTotal_54 : decode cX0_hiddenTotal 54 = .ok (.lsub, 1) := by decide +kernel
theorem dX0_hiddenTotal_55 : decode cX0_hiddenTotal 55 = .ok (.aload_n 0, 1) := by decide +kernel
theorem dX0_hiddenTotal_56 : decode cX0_hiddenTotal 56 = .ok (.getfield 51, 3) := by decide +kernel
theorem dX0_hiddenTotal_59 : decode cX0_hiddenTotal 59 = .ok (.iload_n 2, 1) := by decide +kernel
theorem dX0_hiddenTotal_60 : decode cX0_hiddenTotal 60 = .ok (.iload 8, 2) := by decide +kernel
theorem dX0_hiddenTotal_62 : decode cX0_hiddenTotal 62 = .ok (.iload 8, 2) := by decide +kernel
theorem dX0_hiddenTotal_64 : decode cX0_hiddenTotal 64 = .ok (.iload 4, 2) := by decide +kernel
theorem dX0_hiddenTotal_66 : decode cX0_hiddenTotal 66 = .ok (.invokevirtual 119, 3) := by decide +kernel
theorem dX0_hiddenTotal_69 : decode cX0_hiddenTotal 69 = .ok (.i2l, 1) := by decide +kernel
theorem dX0_hiddenTotal_70 : decode cX0_hiddenTotal 70 = .ok (.lmul, 1) := by decide +kernel
theorem dX0_hiddenTotal_71 : decode cX0_hiddenTotal 71 = .ok (.lstore 9, 2) := by decide +kernel
theorem dX0_hiddenTotal_73 : decode cX0_hiddenTotal 73 = .ok (.lload 5, 2) := by decide +kernel
theorem dX0_hiddenTotal_75 : decode cX0_hiddenTotal 75 = .ok (.aload_n 3, 1) := by decide +kernel
theorem dX0_hiddenTotal_76 : decode cX0_hiddenTotal 76 = .ok (.iload_n 2, 1) := by decide +kernel
theorem dX0_hiddenTotal_77 : decode cX0_hiddenTotal 77 = .ok (.iload 7, 2) := by decide +kernel
theorem dX0_hiddenTotal_79 : decode cX0_hiddenTotal 79 = .ok (.invokevirtual 111, 3) := by decide +kernel
theorem dX0_hiddenTotal_82 : decode cX0_hiddenTotal 82 = .ok (.i2l, 1) := by decide +kernel
theorem dX0_hiddenTotal_83 : decode cX0_hiddenTotal 83 = .ok (.lload 9, 2) := by decide +kernel
theorem dX0_hiddenTotal_85 : decode cX0_hiddenTotal 85 = .ok (.aload_n 3, 1) := by decide +kernel
theorem dX0_hiddenTotal_86 : decode cX0_hiddenTotal 86 = .ok (.getfield 164, 3) := by decide +kernel
theorem dX0_hiddenTotal_89 : decode cX0_hiddenTotal 89 = .ok (.i2l, 1) := by decide +kernel
theorem dX0_hiddenTotal_90 : decode cX0_hiddenTotal 90 = .ok (.aload_n 3, 1) := by decide +kernel
theorem dX0_hiddenTotal_91 : decode cX0_hiddenTotal 91 = .ok (.getfield 167, 3) := by decide +kernel
theorem dX0_hiddenTotal_94 : decode cX0_hiddenTotal 94 = .ok (.i2l, 1) := by decide +kernel
theorem dX0_hiddenTotal_95 : decode cX0_hiddenTotal 95 = .ok (.lmul, 1) := by decide +kernel
theorem dX0_hiddenTotal_96 : decode cX0_hiddenTotal 96 = .ok (.lsub, 1) := by decide +kernel
theorem dX0_hiddenTotal_97 : decode cX0_hiddenTotal 97 = .ok (.lmul, 1) := by decide +kernel
theorem dX0_hiddenTotal_98 : decode cX0_hiddenTotal 98 = .ok (.ladd, 1) := by decide +kernel
theorem dX0_hiddenTotal_99 : decode cX0_hiddenTotal 99 = .ok (.lstore 5, 2) := by decide +kernel
theorem dX0_hiddenTotal_101 : decode cX0_hiddenTotal 101 = .ok (.iinc 7 1, 3) := by decide +kernel
theorem dX0_hiddenTotal_104 : decode cX0_hiddenTotal 104 = .ok (.goto (-77), 3) := by decide +kernel
theorem dX0_hiddenTotal_107 : decode cX0_hiddenTotal 107 = .ok (.lload 5, 2) := by decide +kernel
theorem dX0_hiddenTotal_109 : decode cX0_hiddenTotal 109 = .ok (.lreturn, 1) := by decide +kernel
def fX0_hiddenTotal_27 : Nat → Int32 → Bool → Int32 → Int64 → Int32 → zS → Option (Int64 × zS)
  | 0, _, _, _, _, _, _ => none
  | f + 1, x2, c3, x4, x5, x7, σ => aI σ (rp c3 + 3) 6 x2 fun v3 => if v3 ≤ x7 then some (x5, σ) else bnr (fX6_lengthAt c3 σ x2 x7) fun v4 => bnc (fX4_worthAlone x2 v4 v4 x4 σ) fun v8 σ6 => bnd ((100 - (((iG σ (rp c3 + 0) 3) : Int32).toInt64)) * v8.toInt64) fun v9 => bnr (fX6_weightAt c3 σ6 x2 x7) fun v10 => bnd (v9 - ((((iG σ6 (rp c3 + 0) 3) : Int32).toInt64) * (((iG σ6 (rp c3 + 0) 4) : Int32).toInt64))) fun v12 => fX0_hiddenTotal_27 f x2 c3 x4 (x5 + (v10.toInt64 * v12)) (x7 + 1) σ6
theorem kX0_hiddenTotal_27 {sc : Nat × (Nat → Int32)} : ∀ (fuel : Nat) (x2 : Int32) (c3 : Bool) (x4 : Int32) (x5 : Int64) (x7 : Int32) (σ : zS) (w : Int64 × zS) (h : fX0_hiddenTotal_27 fuel x2 c3 x4 x5 x7 σ = some w), zR (zY0 sc) 5 0 0 mX0_hiddenTotal 27 [(0, .ref 27), (2, .int x2), (3, .ref (rp c3 + 0)), (4, .int x4), (5, .long x5), (7, .int x7)] [] (zE σ) (some (.long w.1), zE w.2) := by
  intro fuel
  induction fuel with
  | zero => intro x2 c3 x4 x5 x7 σ w h; exact nomatch h
  | succ f ih =>
    intro x2 c3 x4 x5 x7 σ w h
    rw [fX0_hiddenTotal_27] at h
    refine kR.iload dX0_hiddenTotal_27 5 rfl ?_
    refine kR.aload_n dX0_hiddenTotal_29 2 rfl ?_
    refine kR.iload_n dX0_hiddenTotal_30 1 rfl ?_
    obtain ⟨v3, e0, h⟩ := aIlc h
    refine kR.cVi [.int x2] dX0_hiddenTotal_31 rfl (by decide) mwX0_101 (zq0 c3) (by decide) rfl rfl (Nat.le_of_ble_eq_true rfl) (lX6_lengthCount c3 σ x2 _ e0) ?_
    refine kR.icmp_ge (tgt := 107) dX0_hiddenTotal_34 (by decide) h (fun h => ?_) (fun h => ?_)
    · refine kR.lload dX0_hiddenTotal_107 4 rfl ?_
      exact kR.lretW dX0_hiddenTotal_109 h
    · refine kR.aload_n dX0_hiddenTotal_37 2 rfl ?_
      refine kR.iload_n dX0_hiddenTotal_38 1 rfl ?_
      refine kR.iload dX0_hiddenTotal_39 5 rfl ?_
      obtain ⟨v4, e5, h⟩ := bnr_some h
      refine kR.cVi [.int x2, .int x7] dX0_hiddenTotal_41 rfl (by decide) mwX0_108 (zq0 c3) (by decide) rfl rfl (Nat.le_of_ble_eq_true rfl) (lX6_lengthAt c3 σ x2 x7 _ e5) ?_
      refine zR.istore (i := 8) (ls' := [(8, .int v4), (0, .ref 27), (2, .int x2), (3, .ref (rp c3 + 0)), (4, .int x4), (5, .long x5), (7, .int x7)]) dX0_hiddenTotal_44 (by decide) rfl ?_
      refine zR.ldc2 (v := 100) dX0_hiddenTotal_46 clX0_162 ?_
      refine kR.aload_n dX0_hiddenTotal_49 3 rfl ?_
      refine kR.getI dX0_hiddenTotal_50 flX0_164 zcf6 (zq0 c3) (Or.inl rfl) ?_
      refine zR.i2l dX0_hiddenTotal_53 ?_
      refine zR.lsub dX0_hiddenTotal_54 ?_
      refine kR.aload_n dX0_hiddenTotal_55 1 rfl ?_
      refine kR.getR (v := 8) dX0_hiddenTotal_56 flX0_51 zcf0 zp27 (Or.inl ⟨_, rfl⟩) rfl ?_
      refine kR.iload_n dX0_hiddenTotal_59 2 rfl ?_
      refine kR.iload dX0_hiddenTotal_60 0 rfl ?_
      refine kR.iload dX0_hiddenTotal_62 0 rfl ?_
      refine kR.iload dX0_hiddenTotal_64 4 rfl ?_
      obtain ⟨v8, σ6, e7, h⟩ := bnc_some h
      refine kR.cVi [.int x2, .int v4, .int v4, .int x4] dX0_hiddenTotal_66 rfl (by decide) mwX0_119 zp8 (by decide) rfl rfl (Nat.le_of_ble_eq_true rfl) (lX4_worthAlone x2 v4 v4 x4 σ _ e7) ?_
      refine zR.i2l dX0_hiddenTotal_69 ?_
      refine zR.lmul dX0_hiddenTotal_70 ?_
      refine kR.nmL h (fun v9 h => ?_)
      refine zR.lstore (i := 9) (ls' := [(9, .long v9), (8, .int v4), (0, .ref 27), (2, .int x2), (3, .ref (rp c3 + 0)), (4, .int x4), (5, .long x5), (7, .int x7)]) dX0_hiddenTotal_71 (by decide) rfl ?_
      refine kR.lload dX0_hiddenTotal_73 6 rfl ?_
      refine kR.aload_n dX0_hiddenTotal_75 4 rfl ?_
      refine kR.iload_n dX0_hiddenTotal_76 3 rfl ?_
      refine kR.iload dX0_hiddenTotal_77 7 rfl ?_
      obtain ⟨v10, e11, h⟩ := bnr_some h
      refine kR.cVi [.int x2, .int x7] dX0_hiddenTotal_79 rfl (by decide) mwX0_111 (zq0 c3) (by decide) rfl rfl (Nat.le_of_ble_eq_true rfl) (lX6_weightAt c3 σ6 x2 x7 _ e11) ?_
      refine zR.i2l dX0_hiddenTotal_82 ?_
      refine kR.lload dX0_hiddenTotal_83 0 rfl ?_
      refine kR.aload_n dX0_hiddenTotal_85 4 rfl ?_
      refine kR.getI dX0_hiddenTotal_86 flX0_164 zcf6 (zq0 c3) (Or.inl rfl) ?_
      refine zR.i2l dX0_hiddenTotal_89 ?_
      refine kR.aload_n dX0_hiddenTotal_90 4 rfl ?_
      refine kR.getI dX0_hiddenTotal_91 flX0_167 zcf6 (zq0 c3) (Or.inl rfl) ?_
      refine zR.i2l dX0_hiddenTotal_94 ?_
      refine zR.lmul dX0_hiddenTotal_95 ?_
      refine zR.lsub dX0_hiddenTotal_96 ?_
      refine kR.nmL h (fun v12 h => ?_)
      refine zR.lmul dX0_hiddenTotal_97 ?_
      refine zR.ladd dX0_hiddenTotal_98 ?_
      refine zR.lstore (i := 5) (ls' := [(5, .long (x5 + (v10.toInt64 * v12))), (9, .long v9), (8, .int v4), (0, .ref 27), (2, .int x2), (3, .ref (rp c3 + 0)), (4, .int x4), (7, .int x7)]) dX0_hiddenTotal_99 (by decide) rfl ?_
      refine zR.iinc 7 (v := x7 + 1) (ls' := [(7, .int (x7 + 1)), (5, .long (x5 + (v10.toInt64 * v12))), (9, .long v9), (8, .int v4), (0, .ref 27), (2, .int x2), (3, .ref (rp c3 + 0)), (4, .int x4)]) dX0_hiddenTotal_101 rfl rfl (by decide) rfl ?_
      refine zR.goto (tgt := 27) dX0_hiddenTotal_104 (by decide) ?_
      refine zR.sub [4, 5, 6, 7, 1, 0] rfl ?_
      exact ih _ _ _ _ _ _ _ h
def fX0_hiddenTotal (p1 : Int32) (p2 : Int32) (σ : zS) : Option (Int64 × zS) := bnr (fX7_breathOf σ p1) fun v1 => fX0_hiddenTotal_27 zF p2 σ.2.2.2.1 v1 0 0 σ
theorem eX0_hiddenTotal {sc : Nat × (Nat → Int32)} (p1 : Int32) (p2 : Int32) (σ : zS) (w : Int64 × zS) (h : fX0_hiddenTotal p1 p2 σ = some w) : zR (zY0 sc) 5 0 0 mX0_hiddenTotal 0 [(0, .ref 27), (1, .int p1), (2, .int p2)] [] (zE σ) (some (.long w.1), zE w.2) := by
  unfold fX0_hiddenTotal at h
  refine kR.aload_n dX0_hiddenTotal_0 0 rfl ?_
  refine kR.getR (v := 8) dX0_hiddenTotal_1 flX0_51 zcf0 zp27 (Or.inl ⟨_, rfl⟩) rfl ?_
  refine kR.getR (v := (rp σ.2.2.2.1 + 0)) dX0_hiddenTotal_4 flX0_63 zcf4 zp8 (Or.inl ⟨_, rfl⟩) rfl ?_
  refine zR.astore_n (i := 3) (ls' := [(3, .ref (rp σ.2.2.2.1 + 0)), (0, .ref 27), (1, .int p1), (2, .int p2)]) dX0_hiddenTotal_7 rfl (by decide) rfl ?_
  refine kR.aload_n dX0_hiddenTotal_8 1 rfl ?_
  refine kR.getR (v := 8) dX0_hiddenTotal_9 flX0_51 zcf0 zp27 (Or.inl ⟨_, rfl⟩) rfl ?_
  refine kR.getR (v := 4) dX0_hiddenTotal_12 flX0_133 zcf4 zp8 (Or.inl ⟨_, rfl⟩) rfl ?_
  refine kR.iload_n dX0_hiddenTotal_15 2 rfl ?_
  obtain ⟨v1, e2, h⟩ := bnr_some h
  refine kR.cVi [.int p1] dX0_hiddenTotal_16 rfl (by decide) mwX0_137 zp4 (by decide) rfl rfl (Nat.le_of_ble_eq_true rfl) (lX7_breathOf σ p1 _ e2) ?_
  refine zR.istore (i := 4) (ls' := [(4, .int v1), (3, .ref (rp σ.2.2.2.1 + 0)), (0, .ref 27), (1, .int p1), (2, .int p2)]) dX0_hiddenTotal_19 (by decide) rfl ?_
  refine zR.lconst (v := 0) dX0_hiddenTotal_21 (by decide) ?_
  refine zR.lstore (i := 5) (ls' := [(5, .long 0), (4, .int v1), (3, .ref (rp σ.2.2.2.1 + 0)), (0, .ref 27), (1, .int p1), (2, .int p2)]) dX0_hiddenTotal_22 (by decide) rfl ?_
  refine zR.iconst (v := 0) dX0_hiddenTotal_24 (by decide) ?_
  refine zR.istore (i := 7) (ls' := [(7, .int 0), (5, .long 0), (4, .int v1), (3, .ref (rp σ.2.2.2.1 + 0)), (0, .ref 27), (1, .int p1), (2, .int p2)]) dX0_hiddenTotal_25 (by decide) rfl ?_
  refine zR.sub [4, 6, 3, 2, 1, 0] rfl ?_
  exact kX0_hiddenTotal_27 zF _ _ _ _ _ _ _ h
theorem lX0_hiddenTotal {sc : Nat × (Nat → Int32)} (p1 : Int32) (p2 : Int32) (σ : zS) (w : Int64 × zS) (h : fX0_hiddenTotal p1 p2 σ = some w) : zC (zY0 sc) 5 0 0 mX0_hiddenTotal [.ref 27, .int p1, .int p2] (zE σ) (some (.long w.1), zE w.2) := zC.of (by decide +kernel) (Nat.le_of_ble_eq_true rfl) rfl (eX0_hiddenTotal p1 p2 σ w h)
theorem dX10_hidden_0 : decode cX10_hidden 0 = .ok (.aload_n 0, 1) := by decide +kernel
theorem dX10_hidden_1 : decode cX10_hidden 1 = .ok (.getfield 38, 3) := by decide +kernel
theorem dX10_hidden_4 : decode cX10_hidden 4 = .ok (.getfield 111, 3) := by decide +kernel
theorem dX10_hidden_7 : decode cX10_hidden 7 = .ok (.iload_n 1, 1) := by decide +kernel
theorem dX10_hidden_8 : decode cX10_hidden 8 = .ok (.iload_n 2, 1) := by decide +kernel
theorem dX10_hidden_9 : decode cX10_hidden 9 = .ok (.invokevirtual 206, 3) := by decide +kernel
theorem dX10_hidden_12 : decode cX10_hidden 12 = .ok (.ifCond .eq 12, 3) := by decide +kernel
theorem dX10_hidden_15 : decode cX10_hidden 15 = .ok (.iload_n 3, 1) := by decide +kernel
theorem dX10_hidden_16 : decode cX10_hidden 16 = .ok (.ifCond .lt 8, 3) := by decide +kernel
theorem dX10_hidden_19 : decode cX10_hidden 19 = .ok (.iload_n 3, 1) := by decide +kernel
theorem dX10_hidden_20 : decode cX10_hidden 20 = .ok (.iconst 1, 1) := by decide +kernel
theorem dX10_hidden_21 : decode cX10_hidden 21 = .ok (.if_icmp .le 6, 3) := by decide +kernel
theorem dX10_hidden_24 : decode cX10_hidden 24 = .ok (.ldc 201, 2) := by decide +kernel
theorem dX10_hidden_26 : decode cX10_hidden 26 = .ok (.ireturn, 1) := by decide +kernel
theorem dX10_hidden_27 : decode cX10_hidden 27 = .ok (.aload_n 0, 1) := by decide +kernel
theorem dX10_hidden_28 : decode cX10_hidden 28 = .ok (.getfield 47, 3) := by decide +kernel
theorem dX10_hidden_31 : decode cX10_hidden 31 = .ok (.iload_n 1, 1) := by decide +kernel
theorem dX10_hidden_32 : decode cX10_hidden 32 = .ok (.iload_n 2, 1) := by decide +kernel
theorem dX10_hidden_33 : decode cX10_hidden 33 = .ok (.invokevirtual 251, 3) := by decide +kernel
theorem dX10_hidden_36 : decode cX10_hidden 36 = .ok (.lstore 4, 2) := by decide +kernel
theorem dX10_hidden_38 : decode cX10_hidden 38 = .ok (.iload_n 3, 1) := by decide +kernel
theorem dX10_hidden_39 : decode cX10_hidden 39 = .ok (.iconst 1, 1) := by decide +kernel
theorem dX10_hidden_40 : decode cX10_hidden 40 = .ok (.if_icmp .ne 25, 3) := by decide +kernel
theorem dX10_hidden_43 : decode cX10_hidden 43 = .ok (.lload 4, 2) := by decide +kernel
theorem dX10_hidden_45 : decode cX10_hidden 45 = .ok (.ldc2_w 255, 3) := by decide +kernel
theorem dX10_hidden_48 : decode cX10_hidden 48 = .ok (.aload_n 0, 1) := by decide +kernel
theorem dX10_hidden_49 : decode cX10_hidden 49 = .ok (.getfield 38, 3) := by decide +kernel
theorem dX10_hidden_52 : decode cX10_hidden 52 = .ok (.getfield 111, 3) := by decide +kernel
theorem dX10_hidden_55 : decode cX10_hidden 55 = .ok (.iload_n 2, 1) := by decide +kernel
theorem dX10_hidden_56 : decode cX10_hidden 56 = .ok (.invokevirtual 180, 3) := by decide +kernel
theorem dX10_hidden_59 : decode cX10_hidden 59 = .ok (.i2l, 1) := by decide +kernel
theorem dX10_hidden_60 : decode cX10_hidden 60 = .ok (.lmul, 1) := by decide +kernel
theorem dX10_hidden_61 : decode cX10_hidden 61 = .ok (.invokestatic 202, 3) := by decide +kernel
theorem dX10_hidden_64 : decode cX10_hidden 64 = .ok (.ireturn, 1) := by decide +kernel
theorem dX10_hidden_65 : decode cX10_hidden 65 = .ok (.aload_n 0, 1) := by decide +kernel
theorem dX10_hidden_66 : decode cX10_hidden 66 = .ok (.getfield 47, 3) := by decide +kernel
theorem dX10_hidden_69 : decode cX10_hidden 69 = .ok (.iload_n 2, 1) := by decide +kernel
theorem dX10_hidden_70 : decode cX10_hidden 70 = .ok (.iconst 1, 1) := by decide +kernel
theorem dX10_hidden_71 : decode cX10_hidden 71 = .ok (.aload_n 0, 1) := by decide +kernel
theorem dX10_hidden_72 : decode cX10_hidden 72 = .ok (.getfield 19, 3) := by decide +kernel
theorem dX10_hidden_75 : decode cX10_hidden 75 = .ok (.iload_n 1, 1) := by decide +kernel
theorem dX10_hidden_76 : decode cX10_hidden 76 = .ok (.invokevirtual 186, 3) := by decide +kernel
theorem dX10_hidden_79 : decode cX10_hidden 79 = .ok (.invokevirtual 228, 3) := by decide +kernel
theorem dX10_hidden_82 : decode cX10_hidden 82 = .ok (.lload 4, 2) := by decide +kernel
theorem dX10_hidden_84 : decode cX10_hidden 84 = .ok (.ldc2_w 255, 3) := by decide +kernel
theorem dX10_hidden_87 : decode cX10_hidden 87 = .ok (.aload_n 0, 1) := by decide +kernel
theorem dX10_hidden_88 : decode cX10_hidden 88 = .ok (.getfield 47, 3) := by decide +kernel
theorem dX10_hidden_91 : decode cX10_hidden 91 = .ok (.getfield 235, 3) := by decide +kernel
theorem dX10_hidden_94 : decode cX10_hidden 94 = .ok (.lmul, 1) := by decide +kernel
theorem dX10_hidden_95 : decode cX10_hidden 95 = .ok (.lcmp, 1) := by decide +kernel
theorem dX10_hidden_96 : decode cX10_hidden 96 = .ok (.ifCond .le 7, 3) := by decide +kernel
theorem dX10_hidden_99 : decode cX10_hidden 99 = .ok (.iconst 1, 1) := by decide +kernel
theorem dX10_hidden_100 : decode cX10_hidden 100 = .ok (.goto 4, 3) := by decide +kernel
theorem dX10_hidden_103 : decode cX10_hidden 103 = .ok (.iconst 0, 1) := by decide +kernel
theorem dX10_hidden_104 : decode cX10_hidden 104 = .ok (.ireturn, 1) := by decide +kernel
def fX10_hidden (p1 : Int32) (p2 : Int32) (p3 : Int32) (σ : zS) : Option (Int32 × zS) := if (fX6_hasBoth σ.2.2.2.1 σ p1 p2) = 0 then some ((-1000000000), σ) else if p3 < 0 then some ((-1000000000), σ) else if p3 ≤ 1 then bnc (fX0_hiddenTotal p1 p2 σ) fun v3 σ1 => if p3 = 1 then bnr (fX6_allWeights σ1.2.2.2.1 σ1 p2) fun v8 => bnr (fX10_thousandths v3 (100 * v8.toInt64)) fun v10 => some (v10, σ1) else bnr (fX7_breathOf σ1 p1) fun v4 => bnr (fX0_plan p2 1 v4 σ1) fun σ6 => if v3 ≤ (100 * (lG σ6 27 8)) then some (0, σ6) else some (1, σ6) else some ((-1000000000), σ)
theorem eX10_hidden {sc : Nat × (Nat → Int32)} (p1 : Int32) (p2 : Int32) (p3 : Int32) (σ : zS) (w : Int32 × zS) (h : fX10_hidden p1 p2 p3 σ = some w) : zR (zY0 sc) 127 0 0 mX10_hidden 0 [(0, .ref 1), (1, .int p1), (2, .int p2), (3, .int p3)] [] (zE σ) (some (.int w.1), zE w.2) := by
  unfold fX10_hidden at h
  refine kR.aload_n dX10_hidden_0 0 rfl ?_
  refine kR.getR (v := 8) dX10_hidden_1 flX10_38 zcf10 zp1 (Or.inl ⟨_, rfl⟩) rfl ?_
  refine kR.getR (v := (rp σ.2.2.2.1 + 0)) dX10_hidden_4 flX10_111 zcf4 zp8 (Or.inl ⟨_, rfl⟩) rfl ?_
  refine kR.iload_n dX10_hidden_7 1 rfl ?_
  refine kR.iload_n dX10_hidden_8 2 rfl ?_
  refine kR.cVi [.int p1, .int p2] dX10_hidden_9 rfl (by decide) mwX10_206 (zq0 σ.2.2.2.1) (by decide) rfl rfl (Nat.le_of_ble_eq_true rfl) (lX6_hasBoth σ.2.2.2.1 σ p1 p2) ?_
  refine kR.if_eq (tgt := 24) dX10_hidden_12 (by decide) h (fun h => ?_) (fun h => ?_)
  · refine zR.ldc (v := (-1000000000)) dX10_hidden_24 ciX10_201 ?_
    exact kR.iretW dX10_hidden_26 (nzI rfl _) h
  · refine kR.iload_n dX10_hidden_15 3 rfl ?_
    refine kR.if_lt (tgt := 24) dX10_hidden_16 (by decide) h (fun h => ?_) (fun h => ?_)
    · refine zR.ldc (v := (-1000000000)) dX10_hidden_24 ciX10_201 ?_
      exact kR.iretW dX10_hidden_26 (nzI rfl _) h
    · refine kR.iload_n dX10_hidden_19 3 rfl ?_
      refine zR.iconst (v := 1) dX10_hidden_20 (by decide) ?_
      refine kR.icmp_le (tgt := 27) dX10_hidden_21 (by decide) h (fun h => ?_) (fun h => ?_)
      · refine kR.aload_n dX10_hidden_27 0 rfl ?_
        refine kR.getR (v := 27) dX10_hidden_28 flX10_47 zcf10 zp1 (Or.inl ⟨_, rfl⟩) rfl ?_
        refine kR.iload_n dX10_hidden_31 1 rfl ?_
        refine kR.iload_n dX10_hidden_32 2 rfl ?_
        obtain ⟨v3, σ1, e2, h⟩ := bnc_some h
        refine kR.cVl [.int p1, .int p2] dX10_hidden_33 rfl (by decide) mwX10_251 zp27 (by decide) rfl rfl (Nat.le_of_ble_eq_true rfl) (lX0_hiddenTotal p1 p2 σ _ e2) ?_
        refine zR.lstore (i := 4) (ls' := [(4, .long v3), (0, .ref 1), (1, .int p1), (2, .int p2), (3, .int p3)]) dX10_hidden_36 (by decide) rfl ?_
        refine kR.iload_n dX10_hidden_38 4 rfl ?_
        refine zR.iconst (v := 1) dX10_hidden_39 (by decide) ?_
        refine kR.icmp_ne (tgt := 65) dX10_hidden_40 (by decide) h (fun h => ?_) (fun h => ?_)
        · refine kR.aload_n dX10_hidden_65 1 rfl ?_
          refine kR.getR (v := 27) dX10_hidden_66 flX10_47 zcf10 zp1 (Or.inl ⟨_, rfl⟩) rfl ?_
          refine kR.iload_n dX10_hidden_69 3 rfl ?_
          refine zR.iconst (v := 1) dX10_hidden_70 (by decide) ?_
          refine kR.aload_n dX10_hidden_71 1 rfl ?_
          refine kR.getR (v := 4) dX10_hidden_72 flX10_19 zcf10 zp1 (Or.inl ⟨_, rfl⟩) rfl ?_
          refine kR.iload_n dX10_hidden_75 2 rfl ?_
          obtain ⟨v4, e5, h⟩ := bnr_some h
          refine kR.cVi [.int p1] dX10_hidden_76 rfl (by decide) mwX10_186 zp4 (by decide) rfl rfl (Nat.le_of_ble_eq_true rfl) (lX7_breathOf σ1 p1 _ e5) ?_
          obtain ⟨σ6, e7, h⟩ := bnr_some h
          refine kR.cVv [.int p2, .int 1, .int v4] dX10_hidden_79 rfl (by decide) mwX10_228 zp27 (by decide) rfl rfl (Nat.le_of_ble_eq_true rfl) (lX0_plan p2 1 v4 σ1 _ e7) ?_
          refine kR.lload dX10_hidden_82 0 rfl ?_
          refine zR.ldc2 (v := 100) dX10_hidden_84 clX10_255 ?_
          refine kR.aload_n dX10_hidden_87 1 rfl ?_
          refine kR.getR (v := 27) dX10_hidden_88 flX10_47 zcf10 zp1 (Or.inl ⟨_, rfl⟩) rfl ?_
          refine kR.getL dX10_hidden_91 flX10_235 zcf0 zp27 rfl ?_
          refine zR.lmul dX10_hidden_94 ?_
          refine kR.lcmp_le (tgt := 103) dX10_hidden_95 dX10_hidden_96 (by decide) h (fun h => ?_) (fun h => ?_)
          · refine zR.iconst (v := 0) dX10_hidden_103 (by decide) ?_
            exact kR.iretW dX10_hidden_104 (nzI rfl _) h
          · refine zR.iconst (v := 1) dX10_hidden_99 (by decide) ?_
            refine zR.goto (tgt := 104) dX10_hidden_100 (by decide) ?_
            exact kR.iretW dX10_hidden_104 (nzI rfl _) h
        · refine kR.lload dX10_hidden_43 0 rfl ?_
          refine zR.ldc2 (v := 100) dX10_hidden_45 clX10_255 ?_
          refine kR.aload_n dX10_hidden_48 1 rfl ?_
          refine kR.getR (v := 8) dX10_hidden_49 flX10_38 zcf10 zp1 (Or.inl ⟨_, rfl⟩) rfl ?_
          refine kR.getR (v := (rp σ1.2.2.2.1 + 0)) dX10_hidden_52 flX10_111 zcf4 zp8 (Or.inl ⟨_, rfl⟩) rfl ?_
          refine kR.iload_n dX10_hidden_55 3 rfl ?_
          obtain ⟨v8, e9, h⟩ := bnr_some h
          refine kR.cVi [.int p2] dX10_hidden_56 rfl (by decide) mwX10_180 (zq0 σ1.2.2.2.1) (by decide) rfl rfl (Nat.le_of_ble_eq_true rfl) (lX6_allWeights σ1.2.2.2.1 σ1 p2 _ e9) ?_
          refine zR.i2l dX10_hidden_59 ?_
          refine zR.lmul dX10_hidden_60 ?_
          obtain ⟨v10, e11, h⟩ := bnr_some h
          refine kR.cSi [.long v3, .long (100 * v8.toInt64)] dX10_hidden_61 rfl (by decide) (Or.inl mwX10_202) rfl (Nat.le_of_ble_eq_true rfl) (lX10_thousandths v3 (100 * v8.toInt64) _ e11) ?_
          exact kR.iretW dX10_hidden_64 (nzI rfl _) h
      · refine zR.ldc (v := (-1000000000)) dX10_hidden_24 ciX10_201 ?_
        exact kR.iretW dX10_hidden_26 (nzI rfl _) h
theorem lX10_hidden {sc : Nat × (Nat → Int32)} (p1 : Int32) (p2 : Int32) (p3 : Int32) (σ : zS) (w : Int32 × zS) (h : fX10_hidden p1 p2 p3 σ = some w) : zC (zY0 sc) 127 0 0 mX10_hidden [.ref 1, .int p1, .int p2, .int p3] (zE σ) (some (.int w.1), zE w.2) := zC.of (by decide +kernel) (Nat.le_of_ble_eq_true rfl) ⟨_, rfl⟩ (eX10_hidden p1 p2 p3 σ w h)
theorem dX4_madeBits_0 : decode cX4_madeBits 0 = .ok (.iconst 0, 1) := by decide +kernel
theorem dX4_madeBits_1 : decode cX4_madeBits 1 = .ok (.istore_n 3, 1) := by decide +kernel
theorem dX4_madeBits_2 : decode cX4_madeBits 2 = .ok (.iconst 0, 1) := by decide +kernel
theorem dX4_madeBits_3 : decode cX4_madeBits 3 = .ok (.istore 4, 2) := by decide +kernel
theorem dX4_madeBits_5 : decode cX4_madeBits 5 = .ok (.iload 4, 2) := by decide +kernel
theorem dX4_madeBits_7 : decode cX4_madeBits 7 = .ok (.aload_n 0, 1) := by decide +kernel
theorem dX4_madeBits_8 : decode cX4_madeBits 8 = .ok (.getfield 22, 3) := by decide +kernel
theorem dX4_madeBits_11 : decode cX4_madeBits 11 = .ok (.getfield 44, 3) := by decide +kernel
theorem dX4_madeBits_14 : decode cX4_madeBits 14 = .ok (.if_icmp .ge 28, 3) := by decide +kernel
theorem dX4_madeBits_17 : decode cX4_madeBits 17 = .ok (.aload_n 0, 1) := by decide +kernel
theorem dX4_madeBits_18 : decode cX4_madeBits 18 = .ok (.iload 4, 2) := by decide +kernel
theorem dX4_madeBits_20 : decode cX4_madeBits 20 = .ok (.iload_n 1, 1) := by decide +kernel
theorem dX4_madeBits_21 : decode cX4_madeBits 21 = .ok (.iload_n 2, 1) := by decide +kernel
theorem dX4_madeBits_22 : decode cX4_madeBits 22 = .ok (.invokevirtual 50, 3) := by decide +kernel
theorem dX4_madeBits_25 : decode cX4_madeBits 25 = .ok (.iload_n 2, 1) := by decide +kernel
theorem dX4_madeBits_26 : decode cX4_madeBits 26 = .ok (.if_icmp .ne 10, 3) := by decide +kernel
theorem dX4_madeBits_29 : decode cX4_madeBits 29 = .ok (.iload_n 3, 1) := by decide +kernel
theorem dX4_madeBits_30 : decode cX4_madeBits 30 = .ok (.iconst 1, 1) := by decide +kernel
theorem dX4_madeBits_31 : decode cX4_madeBits 31 = .ok (.iload 4, 2) := by decide +kernel
theorem dX4_madeBits_33 : decode cX4_madeBits 33 = .ok (.ishl, 1) := by decide +kernel
theorem dX4_madeBits_34 : decode cX4_madeBits 34 = .ok (.ior, 1) := by decide +kernel
theorem dX4_madeBits_35 : decode cX4_madeBits 35 = .ok (.istore_n 3, 1) := by decide +kernel
theorem dX4_madeBits_36 : decode cX4_madeBits 36 = .ok (.iinc 4 1, 3) := by decide +kernel
theorem dX4_madeBits_39 : decode cX4_madeBits 39 = .ok (.goto (-34), 3) := by decide +kernel
theorem dX4_madeBits_42 : decode cX4_madeBits 42 = .ok (.iload_n 3, 1) := by decide +kernel
theorem dX4_madeBits_43 : decode cX4_madeBits 43 = .ok (.ireturn, 1) := by decide +kernel
def fX4_madeBits_36 (σ : zS) (r5 : Int32 → Int32 → Int32 → Int32 → Option Int32) (x1 : Int32) (x2 : Int32) (x3 : Int32) (x4 : Int32) : Option Int32 := r5 x1 x2 x3 (x4 + 1)
theorem kX4_madeBits_36 {sc : Nat × (Nat → Int32)} (σ : zS) (r5 : Int32 → Int32 → Int32 → Int32 → Option Int32) (hr5 : ∀ (x1 : Int32) (x2 : Int32) (x3 : Int32) (x4 : Int32) (w : Int32), r5 x1 x2 x3 x4 = some w → zR (zY0 sc) 4 0 0 mX4_madeBits 5 [(0, .ref 8), (1, .int x1), (2, .int x2), (3, .int x3), (4, .int x4)] [] (zE σ) (some (.int w), zE σ)) (x1 : Int32) (x2 : Int32) (x3 : Int32) (x4 : Int32) (w : Int32) (h : fX4_madeBits_36 σ r5 x1 x2 x3 x4 = some w) : zR (zY0 sc) 4 0 0 mX4_madeBits 36 [(0, .ref 8), (1, .int x1), (2, .int x2), (3, .int x3), (4, .int x4)] [] (zE σ) (some (.int w), zE σ) := by
  unfold fX4_madeBits_36 at h
  refine zR.iinc 4 (v := x4 + 1) (ls' := [(4, .int (x4 + 1)), (0, .ref 8), (1, .int x1), (2, .int x2), (3, .int x3)]) dX4_madeBits_36 rfl rfl (by decide) rfl ?_
  refine zR.goto (tgt := 5) dX4_madeBits_39 (by decide) ?_
  refine zR.sub [1, 2, 3, 4, 0] rfl ?_
  exact hr5 _ _ _ _ _ h
def fX4_madeBits_5 (σ : zS) : Nat → Int32 → Int32 → Int32 → Int32 → Option Int32
  | 0, _, _, _, _ => none
  | f + 1, x1, x2, x3, x4 => if (iG σ (rp σ.2.2.2.1 + 0) 2) ≤ x4 then some x3 else bnr (fX4_secondsHeld σ x4 x1 x2) fun v1 => if v1 = x2 then fX4_madeBits_36 σ (fX4_madeBits_5 σ f) x1 x2 (x3 ||| (1 <<< (x4 &&& 31))) x4 else fX4_madeBits_36 σ (fX4_madeBits_5 σ f) x1 x2 x3 x4
theorem kX4_madeBits_5 {sc : Nat × (Nat → Int32)} (σ : zS) : ∀ (fuel : Nat) (x1 : Int32) (x2 : Int32) (x3 : Int32) (x4 : Int32) (w : Int32) (h : fX4_madeBits_5 σ fuel x1 x2 x3 x4 = some w), zR (zY0 sc) 4 0 0 mX4_madeBits 5 [(0, .ref 8), (1, .int x1), (2, .int x2), (3, .int x3), (4, .int x4)] [] (zE σ) (some (.int w), zE σ) := by
  intro fuel
  induction fuel with
  | zero => intro x1 x2 x3 x4 w h; exact nomatch h
  | succ f ih =>
    intro x1 x2 x3 x4 w h
    rw [fX4_madeBits_5] at h
    refine kR.iload dX4_madeBits_5 4 rfl ?_
    refine kR.aload_n dX4_madeBits_7 0 rfl ?_
    refine kR.getR (v := (rp σ.2.2.2.1 + 0)) dX4_madeBits_8 flX4_22 zcf4 zp8 (Or.inl ⟨_, rfl⟩) rfl ?_
    refine kR.getI dX4_madeBits_11 flX4_44 zcf6 (zq0 σ.2.2.2.1) (Or.inl rfl) ?_
    refine kR.icmp_ge (tgt := 42) dX4_madeBits_14 (by decide) h (fun h => ?_) (fun h => ?_)
    · refine kR.iload_n dX4_madeBits_42 3 rfl ?_
      exact kR.iretO dX4_madeBits_43 (nzI rfl _) h
    · refine kR.aload_n dX4_madeBits_17 0 rfl ?_
      refine kR.iload dX4_madeBits_18 4 rfl ?_
      refine kR.iload_n dX4_madeBits_20 1 rfl ?_
      refine kR.iload_n dX4_madeBits_21 2 rfl ?_
      obtain ⟨v1, e2, h⟩ := bnr_some h
      refine kR.cVi [.int x4, .int x1, .int x2] dX4_madeBits_22 rfl (by decide) mwX4_50 zp8 (by decide) rfl rfl (Nat.le_of_ble_eq_true rfl) (lX4_secondsHeld σ x4 x1 x2 _ e2) ?_
      refine kR.iload_n dX4_madeBits_25 2 rfl ?_
      refine kR.icmp_ne (tgt := 36) dX4_madeBits_26 (by decide) h (fun h => ?_) (fun h => ?_)
      · exact kX4_madeBits_36 σ (fX4_madeBits_5 σ f) ih _ _ _ _ _ h
      · refine kR.iload_n dX4_madeBits_29 3 rfl ?_
        refine zR.iconst (v := 1) dX4_madeBits_30 (by decide) ?_
        refine kR.iload dX4_madeBits_31 4 rfl ?_
        refine zR.ishl dX4_madeBits_33 ?_
        refine zR.ior dX4_madeBits_34 ?_
        refine zR.istore_n (i := 3) (ls' := [(3, .int (x3 ||| (1 <<< (x4 &&& 31)))), (0, .ref 8), (1, .int x1), (2, .int x2), (4, .int x4)]) dX4_madeBits_35 rfl (by decide) rfl ?_
        refine zR.sub [1, 2, 3, 0, 4] rfl ?_
        exact kX4_madeBits_36 σ (fX4_madeBits_5 σ f) ih _ _ _ _ _ h
def fX4_madeBits (σ : zS) (p1 : Int32) (p2 : Int32) : Option Int32 := fX4_madeBits_5 σ zF p1 p2 0 0
theorem eX4_madeBits {sc : Nat × (Nat → Int32)} (σ : zS) (p1 : Int32) (p2 : Int32) (w : Int32) (h : fX4_madeBits σ p1 p2 = some w) : zR (zY0 sc) 4 0 0 mX4_madeBits 0 [(0, .ref 8), (1, .int p1), (2, .int p2)] [] (zE σ) (some (.int w), zE σ) := by
  unfold fX4_madeBits at h
  refine zR.iconst (v := 0) dX4_madeBits_0 (by decide) ?_
  refine zR.istore_n (i := 3) (ls' := [(3, .int 0), (0, .ref 8), (1, .int p1), (2, .int p2)]) dX4_madeBits_1 rfl (by decide) rfl ?_
  refine zR.iconst (v := 0) dX4_madeBits_2 (by decide) ?_
  refine zR.istore (i := 4) (ls' := [(4, .int 0), (3, .int 0), (0, .ref 8), (1, .int p1), (2, .int p2)]) dX4_madeBits_3 (by decide) rfl ?_
  refine zR.sub [2, 3, 4, 1, 0] rfl ?_
  exact kX4_madeBits_5 σ zF _ _ _ _ _ h
theorem lX4_madeBits {sc : Nat × (Nat → Int32)} (σ : zS) (p1 : Int32) (p2 : Int32) (w : Int32) (h : fX4_madeBits σ p1 p2 = some w) : zC (zY0 sc) 4 0 0 mX4_madeBits [.ref 8, .int p1, .int p2] (zE σ) (some (.int w), zE σ) := zC.of (by decide +kernel) (Nat.le_of_ble_eq_true rfl) ⟨_, rfl⟩ (eX4_madeBits σ p1 p2 w h)
theorem dX0_paceWeights_0 : decode cX0_paceWeights 0 = .ok (.iconst 0, 1) := by decide +kernel
theorem dX0_paceWeights_1 : decode cX0_paceWeights 1 = .ok (.istore 4, 2) := by decide +kernel
theorem dX0_paceWeights_3 : decode cX0_paceWeights 3 = .ok (.iconst 0, 1) := by decide +kernel
theorem dX0_paceWeights_4 : decode cX0_paceWeights 4 = .ok (.istore 5, 2) := by decide +kernel
theorem dX0_paceWeights_6 : decode cX0_paceWeights 6 = .ok (.iload_n 3, 1) := by decide +kernel
theorem dX0_paceWeights_7 : decode cX0_paceWeights 7 = .ok (.ifCond .le 78, 3) := by decide +kernel
theorem dX0_paceWeights_10 : decode cX0_paceWeights 10 = .ok (.iload 5, 2) := by decide +kernel
theorem dX0_paceWeights_12 : decode cX0_paceWeights 12 = .ok (.aload_n 0, 1) := by decide +kernel
theorem dX0_paceWeights_13 : decode cX0_paceWeights 13 = .ok (.getfield 51, 3) := by decide +kernel
theorem dX0_paceWeights_16 : decode cX0_paceWeights 16 = .ok (.getfield 63, 3) := by decide +kernel
theorem dX0_paceWeights_19 : decode cX0_paceWeights 19 = .ok (.iload_n 1, 1) := by decide +kernel
theorem dX0_paceWeights_20 : decode cX0_paceWeights 20 = .ok (.invokevirtual 101, 3) := by decide +kernel
theorem dX0_paceWeights_23 : decode cX0_paceWeights 23 = .ok (.if_icmp .ge 62, 3) := by decide +kernel
theorem dX0_paceWeights_26 : decode cX0_paceWeights 26 = .ok (.iconst 1, 1) := by decide +kernel
theorem dX0_paceWeights_27 : decode cX0_paceWeights 27 = .ok (.aload_n 0, 1) := by decide +kernel
theorem dX0_paceWeights_28 : decode cX0_paceWeights 28 = .ok (.getfield 51, 3) := by decide +kernel
theorem dX0_paceWeights_31 : decode cX0_paceWeights 31 = .ok (.getfield 63, 3) := by decide +kernel
theorem dX0_paceWeights_34 : decode cX0_paceWeights 34 = .ok (.iload_n 1, 1) := by decide +kernel
theorem dX0_paceWeights_35 : decode cX0_paceWeights 35 = .ok (.iload 5, 2) := by decide +kernel
theorem dX0_paceWeights_37 : decode cX0_paceWeights 37 = .ok (.invokevirtual 108, 3) := by decide +kernel
theorem dX0_paceWeights_40 : decode cX0_paceWeights 40 = .ok (.iload_n 3, 1) := by decide +kernel
theorem dX0_paceWeights_41 : decode cX0_paceWeights 41 = .ok (.idiv, 1) := by decide +kernel
theorem dX0_paceWeights_42 : decode cX0_paceWeights 42 = .ok (.invokestatic 173, 3) := by decide +kernel
theorem dX0_paceWeights_45 : decode cX0_paceWeights 45 = .ok (.istore 6, 2) := by decide +kernel
theorem dX0_paceWeights_47 : decode cX0_paceWeights 47 = .ok (.aload_n 0, 1) := by decide +kernel
theorem dX0_paceWeights_48 : decode cX0_paceWeights 48 = .ok (.getfield 51, 3) := by decide +kernel
theorem dX0_paceWeights_51 : decode cX0_paceWeights 51 = .ok (.iload_n 1, 1) := by decide +kernel
theorem dX0_paceWeights_52 : decode cX0_paceWeights 52 = .ok (.iload 6, 2) := by decide +kernel
theorem dX0_paceWeights_54 : decode cX0_paceWeights 54 = .ok (.invokevirtual 176, 3) := by decide +kernel
theorem dX0_paceWeights_57 : decode cX0_paceWeights 57 = .ok (.iload_n 2, 1) := by decide +kernel
theorem dX0_paceWeights_58 : decode cX0_paceWeights 58 = .ok (.if_icmp .ne 21, 3) := by decide +kernel
theorem dX0_paceWeights_61 : decode cX0_paceWeights 61 = .ok (.iload 4, 2) := by decide +kernel
theorem dX0_paceWeights_63 : decode cX0_paceWeights 63 = .ok (.aload_n 0, 1) := by decide +kernel
theorem dX0_paceWeights_64 : decode cX0_paceWeights 64 = .ok (.getfield 51, 3) := by decide +kernel
theorem dX0_paceWeights_67 : decode cX0_paceWeights 67 = .ok (.getfield 63, 3) := by decide +kernel
theorem dX0_paceWeights_70 : decode cX0_paceWeights 70 = .ok (.iload_n 1, 1) := by decide +kernel
theorem dX0_paceWeights_71 : decode cX0_paceWeights 71 = .ok (.iload 5, 2) := by decide +kernel
theorem dX0_paceWeights_73 : decode cX0_paceWeights 73 = .ok (.invokevirtual 111, 3) := by decide +kernel
theorem dX0_paceWeights_76 : decode cX0_paceWeights 76 = .ok (.iadd, 1) := by decide +kernel
theorem dX0_paceWeights_77 : decode cX0_paceWeights 77 = .ok (.istore 4, 2) := by decide +kernel
theorem dX0_paceWeights_79 : decode cX0_paceWeights 79 = .ok (.iinc 5 1, 3) := by decide +kernel
theorem dX0_paceWeights_82 : decode cX0_paceWeights 82 = .ok (.goto (-76), 3) := by decide +kernel
theorem dX0_paceWeights_85 : decode cX0_paceWeights 85 = .ok (.iload 4, 2) := by decide +kernel
theorem dX0_paceWeights_87 : decode cX0_paceWeights 87 = .ok (.ireturn, 1) := by decide +kernel
def fX0_paceWeights_80 (σ : zS) (r6 : Int32 → Int32 → Int32 → Int32 → Int32 → Option Int32) (x1 : Int32) (x2 : Int32) (x3 : Int32) (x4 : Int32) (x5 : Int32) : Option Int32 := r6 x1 x2 x3 x4 (x5 + 1)
theorem kX0_paceWeights_79 {sc : Nat × (Nat → Int32)} (σ : zS) (r6 : Int32 → Int32 → Int32 → Int32 → Int32 → Option Int32) (hr6 : ∀ (x1 : Int32) (x2 : Int32) (x3 : Int32) (x4 : Int32) (x5 : Int32) (w : Int32), r6 x1 x2 x3 x4 x5 = some w → zR (zY0 sc) 5 0 0 mX0_paceWeights 6 [(0, .ref 27), (1, .int x1), (2, .int x2), (3, .int x3), (4, .int x4), (5, .int x5)] [] (zE σ) (some (.int w), zE σ)) (x1 : Int32) (x2 : Int32) (x3 : Int32) (x4 : Int32) (x5 : Int32) (w : Int32) (h : fX0_paceWeights_80 σ r6 x1 x2 x3 x4 x5 = some w) : zR (zY0 sc) 5 0 0 mX0_paceWeights 79 [(0, .ref 27), (1, .int x1), (2, .int x2), (3, .int x3), (4, .int x4), (5, .int x5)] [] (zE σ) (some (.int w), zE σ) := by
  unfold fX0_paceWeights_80 at h
  refine zR.iinc 5 (v := x5 + 1) (ls' := [(5, .int (x5 + 1)), (0, .ref 27), (1, .int x1), (2, .int x2), (3, .int x3), (4, .int x4)]) dX0_paceWeights_79 rfl rfl (by decide) rfl ?_
  refine zR.goto (tgt := 6) dX0_paceWeights_82 (by decide) ?_
  refine zR.sub [1, 2, 3, 4, 5, 0] rfl ?_
  exact hr6 _ _ _ _ _ _ h
def fX0_paceWeights_6 (σ : zS) : Nat → Int32 → Int32 → Int32 → Int32 → Int32 → Option Int32
  | 0, _, _, _, _, _ => none
  | f + 1, x1, x2, x3, x4, x5 => if x3 ≤ 0 then some x4 else aI σ (rp σ.2.2.2.1 + 3) 6 x1 fun v1 => if v1 ≤ x5 then some x4 else bnr (fX6_lengthAt σ.2.2.2.1 σ x1 x5) fun v2 => gd (¬ x3 = 0) (bnr (fX4_madeBits σ x1 (fJ9_max_7cf53 1 (v2 / x3))) fun v4 => if v4 = x2 then bnr (fX6_weightAt σ.2.2.2.1 σ x1 x5) fun v6 => fX0_paceWeights_80 σ (fX0_paceWeights_6 σ f) x1 x2 x3 (x4 + v6) x5 else fX0_paceWeights_80 σ (fX0_paceWeights_6 σ f) x1 x2 x3 x4 x5)
theorem kX0_paceWeights_6 {sc : Nat × (Nat → Int32)} (σ : zS) : ∀ (fuel : Nat) (x1 : Int32) (x2 : Int32) (x3 : Int32) (x4 : Int32) (x5 : Int32) (w : Int32) (h : fX0_paceWeights_6 σ fuel x1 x2 x3 x4 x5 = some w), zR (zY0 sc) 5 0 0 mX0_paceWeights 6 [(0, .ref 27), (1, .int x1), (2, .int x2), (3, .int x3), (4, .int x4), (5, .int x5)] [] (zE σ) (some (.int w), zE σ) := by
  intro fuel
  induction fuel with
  | zero => intro x1 x2 x3 x4 x5 w h; exact nomatch h
  | succ f ih =>
    intro x1 x2 x3 x4 x5 w h
    rw [fX0_paceWeights_6] at h
    refine kR.iload_n dX0_paceWeights_6 3 rfl ?_
    refine kR.if_le (tgt := 85) dX0_paceWeights_7 (by decide) h (fun h => ?_) (fun h => ?_)
    · refine kR.iload dX0_paceWeights_85 4 rfl ?_
      exact kR.iretO dX0_paceWeights_87 (nzI rfl _) h
    · refine kR.iload dX0_paceWeights_10 5 rfl ?_
      refine kR.aload_n dX0_paceWeights_12 0 rfl ?_
      refine kR.getR (v := 8) dX0_paceWeights_13 flX0_51 zcf0 zp27 (Or.inl ⟨_, rfl⟩) rfl ?_
      refine kR.getR (v := (rp σ.2.2.2.1 + 0)) dX0_paceWeights_16 flX0_63 zcf4 zp8 (Or.inl ⟨_, rfl⟩) rfl ?_
      refine kR.iload_n dX0_paceWeights_19 1 rfl ?_
      obtain ⟨v1, e0, h⟩ := aIlc h
      refine kR.cVi [.int x1] dX0_paceWeights_20 rfl (by decide) mwX0_101 (zq0 σ.2.2.2.1) (by decide) rfl rfl (Nat.le_of_ble_eq_true rfl) (lX6_lengthCount σ.2.2.2.1 σ x1 _ e0) ?_
      refine kR.icmp_ge (tgt := 85) dX0_paceWeights_23 (by decide) h (fun h => ?_) (fun h => ?_)
      · refine kR.iload dX0_paceWeights_85 4 rfl ?_
        exact kR.iretO dX0_paceWeights_87 (nzI rfl _) h
      · refine zR.iconst (v := 1) dX0_paceWeights_26 (by decide) ?_
        refine kR.aload_n dX0_paceWeights_27 0 rfl ?_
        refine kR.getR (v := 8) dX0_paceWeights_28 flX0_51 zcf0 zp27 (Or.inl ⟨_, rfl⟩) rfl ?_
        refine kR.getR (v := (rp σ.2.2.2.1 + 0)) dX0_paceWeights_31 flX0_63 zcf4 zp8 (Or.inl ⟨_, rfl⟩) rfl ?_
        refine kR.iload_n dX0_paceWeights_34 1 rfl ?_
        refine kR.iload dX0_paceWeights_35 5 rfl ?_
        obtain ⟨v2, e3, h⟩ := bnr_some h
        refine kR.cVi [.int x1, .int x5] dX0_paceWeights_37 rfl (by decide) mwX0_108 (zq0 σ.2.2.2.1) (by decide) rfl rfl (Nat.le_of_ble_eq_true rfl) (lX6_lengthAt σ.2.2.2.1 σ x1 x5 _ e3) ?_
        refine kR.iload_n dX0_paceWeights_40 3 rfl ?_
        refine kR.idiv dX0_paceWeights_41 h (fun h => ?_)
        refine kR.cSi [.int 1, .int (v2 / x3)] dX0_paceWeights_42 rfl (by decide) (Or.inl mwX0_173) rfl (Nat.le_of_ble_eq_true rfl) (lJ9_max_7cf53 1 (v2 / x3)) ?_
        refine zR.istore (i := 6) (ls' := [(6, .int (fJ9_max_7cf53 1 (v2 / x3))), (0, .ref 27), (1, .int x1), (2, .int x2), (3, .int x3), (4, .int x4), (5, .int x5)]) dX0_paceWeights_45 (by decide) rfl ?_
        refine kR.aload_n dX0_paceWeights_47 1 rfl ?_
        refine kR.getR (v := 8) dX0_paceWeights_48 flX0_51 zcf0 zp27 (Or.inl ⟨_, rfl⟩) rfl ?_
        refine kR.iload_n dX0_paceWeights_51 2 rfl ?_
        refine kR.iload dX0_paceWeights_52 0 rfl ?_
        obtain ⟨v4, e5, h⟩ := bnr_some h
        refine kR.cVi [.int x1, .int (fJ9_max_7cf53 1 (v2 / x3))] dX0_paceWeights_54 rfl (by decide) mwX0_176 zp8 (by decide) rfl rfl (Nat.le_of_ble_eq_true rfl) (lX4_madeBits σ x1 (fJ9_max_7cf53 1 (v2 / x3)) _ e5) ?_
        refine kR.iload_n dX0_paceWeights_57 3 rfl ?_
        refine kR.icmp_ne (tgt := 79) dX0_paceWeights_58 (by decide) h (fun h => ?_) (fun h => ?_)
        · refine zR.sub [1, 2, 3, 4, 5, 6] rfl ?_
          exact kX0_paceWeights_79 σ (fX0_paceWeights_6 σ f) ih _ _ _ _ _ _ h
        · refine kR.iload dX0_paceWeights_61 5 rfl ?_
          refine kR.aload_n dX0_paceWeights_63 1 rfl ?_
          refine kR.getR (v := 8) dX0_paceWeights_64 flX0_51 zcf0 zp27 (Or.inl ⟨_, rfl⟩) rfl ?_
          refine kR.getR (v := (rp σ.2.2.2.1 + 0)) dX0_paceWeights_67 flX0_63 zcf4 zp8 (Or.inl ⟨_, rfl⟩) rfl ?_
          refine kR.iload_n dX0_paceWeights_70 2 rfl ?_
          refine kR.iload dX0_paceWeights_71 6 rfl ?_
          obtain ⟨v6, e7, h⟩ := bnr_some h
          refine kR.cVi [.int x1, .int x5] dX0_paceWeights_73 rfl (by decide) mwX0_111 (zq0 σ.2.2.2.1) (by decide) rfl rfl (Nat.le_of_ble_eq_true rfl) (lX6_weightAt σ.2.2.2.1 σ x1 x5 _ e7) ?_
          refine zR.iadd dX0_paceWeights_76 ?_
          refine zR.istore (i := 4) (ls' := [(4, .int (x4 + v6)), (6, .int (fJ9_max_7cf53 1 (v2 / x3))), (0, .ref 27), (1, .int x1), (2, .int x2), (3, .int x3), (5, .int x5)]) dX0_paceWeights_77 (by decide) rfl ?_
          refine zR.sub [2, 3, 4, 5, 0, 6] rfl ?_
          exact kX0_paceWeights_79 σ (fX0_paceWeights_6 σ f) ih _ _ _ _ _ _ h
def fX0_paceWeights (σ : zS) (p1 : Int32) (p2 : Int32) (p3 : Int32) : Option Int32 := fX0_paceWeights_6 σ zF p1 p2 p3 0 0
theorem eX0_paceWeights {sc : Nat × (Nat → Int32)} (σ : zS) (p1 : Int32) (p2 : Int32) (p3 : Int32) (w : Int32) (h : fX0_paceWeights σ p1 p2 p3 = some w) : zR (zY0 sc) 5 0 0 mX0_paceWeights 0 [(0, .ref 27), (1, .int p1), (2, .int p2), (3, .int p3)] [] (zE σ) (some (.int w), zE σ) := by
  unfold fX0_paceWeights at h
  refine zR.iconst (v := 0) dX0_paceWeights_0 (by decide) ?_
  refine zR.istore (i := 4) (ls' := [(4, .int 0), (0, .ref 27), (1, .int p1), (2, .int p2), (3, .int p3)]) dX0_paceWeights_1 (by decide) rfl ?_
  refine zR.iconst (v := 0) dX0_paceWeights_3 (by decide) ?_
  refine zR.istore (i := 5) (ls' := [(5, .int 0), (4, .int 0), (0, .ref 27), (1, .int p1), (2, .int p2), (3, .int p3)]) dX0_paceWeights_4 (by decide) rfl ?_
  refine zR.sub [2, 3, 4, 5, 1, 0] rfl ?_
  exact kX0_paceWeights_6 σ zF _ _ _ _ _ _ h
theorem lX0_paceWeights {sc : Nat × (Nat → Int32)} (σ : zS) (p1 : Int32) (p2 : Int32) (p3 : Int32) (w : Int32) (h : fX0_paceWeights σ p1 p2 p3 = some w) : zC (zY0 sc) 5 0 0 mX0_paceWeights [.ref 27, .int p1, .int p2, .int p3] (zE σ) (some (.int w), zE σ) := zC.of (by decide +kernel) (Nat.le_of_ble_eq_true rfl) ⟨_, rfl⟩ (eX0_paceWeights σ p1 p2 p3 w h)
theorem dX0_bestPace_0 : decode cX0_bestPace 0 = .ok (.iconst 1, 1) := by decide +kernel
theorem dX0_bestPace_1 : decode cX0_bestPace 1 = .ok (.istore_n 3, 1) := by decide +kernel
theorem dX0_bestPace_2 : decode cX0_bestPace 2 = .ok (.aload_n 0, 1) := by decide +kernel
theorem dX0_bestPace_3 : decode cX0_bestPace 3 = .ok (.iload_n 1, 1) := by decide +kernel
theorem dX0_bestPace_4 : decode cX0_bestPace 4 = .ok (.iload_n 2, 1) := by decide +kernel
theorem dX0_bestPace_5 : decode cX0_bestPace 5 = .ok (.iconst 1, 1) := by decide +kernel
theorem dX0_bestPace_6 : decode cX0_bestPace 6 = .ok (.invokevirtual 170, 3) := by decide +kernel
theorem dX0_bestPace_9 : decode cX0_bestPace 9 = .ok (.istore 4, 2) := by decide +kernel
theorem dX0_bestPace_11 : decode cX0_bestPace 11 = .ok (.iconst 2, 1) := by decide +kernel
theorem dX0_bestPace_12 : decode cX0_bestPace 12 = .ok (.istore 5, 2) := by decide +kernel
theorem dX0_bestPace_14 : decode cX0_bestPace 14 = .ok (.iload 5, 2) := by decide +kernel
theorem dX0_bestPace_16 : decode cX0_bestPace 16 = .ok (.iconst 4, 1) := by decide +kernel
theorem dX0_bestPace_17 : decode cX0_bestPace 17 = .ok (.if_icmp .gt 33, 3) := by decide +kernel
theorem dX0_bestPace_20 : decode cX0_bestPace 20 = .ok (.aload_n 0, 1) := by decide +kernel
theorem dX0_bestPace_21 : decode cX0_bestPace 21 = .ok (.iload_n 1, 1) := by decide +kernel
theorem dX0_bestPace_22 : decode cX0_bestPace 22 = .ok (.iload_n 2, 1) := by decide +kernel
theorem dX0_bestPace_23 : decode cX0_bestPace 23 = .ok (.iload 5, 2) := by decide +kernel
theorem dX0_bestPace_25 : decode cX0_bestPace 25 = .ok (.invokevirtual 170, 3) := by decide +kernel
theorem dX0_bestPace_28 : decode cX0_bestPace 28 = .ok (.istore 6, 2) := by decide +kernel
theorem dX0_bestPace_30 : decode cX0_bestPace 30 = .ok (.iload 6, 2) := by decide +kernel
theorem dX0_bestPace_32 : decode cX0_bestPace 32 = .ok (.iload 4, 2) := by decide +kernel
theorem dX0_bestPace_34 : decode cX0_bestPace 34 = .ok (.if_icmp .le 10, 3) := by decide +kernel
theorem dX0_bestPace_37 : decode cX0_bestPace 37 = .ok (.iload 6, 2) := by decide +kernel
theorem dX0_bestPace_39 : decode cX0_bestPace 39 = .ok (.istore 4, 2) := by decide +kernel
theorem dX0_bestPace_41 : decode cX0_bestPace 41 = .ok (.iload 5, 2) := by decide +kernel
theorem dX0_bestPace_43 : decode cX0_bestPace 43 = .ok (.istore_n 3, 1) := by decide +kernel
theorem dX0_bestPace_44 : decode cX0_bestPace 44 = .ok (.iinc 5 1, 3) := by decide +kernel
theorem dX0_bestPace_47 : decode cX0_bestPace 47 = .ok (.goto (-33), 3) := by decide +kernel
theorem dX0_bestPace_50 : decode cX0_bestPace 50 = .ok (.iload_n 3, 1) := by decide +kernel
theorem dX0_bestPace_51 : decode cX0_bestPace 51 = .ok (.ireturn, 1) := by decide +kernel
def fX0_bestPace_44 (σ : zS) (r14 : Int32 → Int32 → Int32 → Int32 → Int32 → Option Int32) (x1 : Int32) (x2 : Int32) (x3 : Int32) (x4 : Int32) (x5 : Int32) : Option Int32 := r14 x1 x2 x3 x4 (x5 + 1)
theorem kX0_bestPace_44 {sc : Nat × (Nat → Int32)} (σ : zS) (r14 : Int32 → Int32 → Int32 → Int32 → Int32 → Option Int32) (hr14 : ∀ (x1 : Int32) (x2 : Int32) (x3 : Int32) (x4 : Int32) (x5 : Int32) (w : Int32), r14 x1 x2 x3 x4 x5 = some w → zR (zY0 sc) 6 0 0 mX0_bestPace 14 [(0, .ref 27), (1, .int x1), (2, .int x2), (3, .int x3), (4, .int x4), (5, .int x5)] [] (zE σ) (some (.int w), zE σ)) (x1 : Int32) (x2 : Int32) (x3 : Int32) (x4 : Int32) (x5 : Int32) (w : Int32) (h : fX0_bestPace_44 σ r14 x1 x2 x3 x4 x5 = some w) : zR (zY0 sc) 6 0 0 mX0_bestPace 44 [(0, .ref 27), (1, .int x1), (2, .int x2), (3, .int x3), (4, .int x4), (5, .int x5)] [] (zE σ) (some (.int w), zE σ) := by
  unfold fX0_bestPace_44 at h
  refine zR.iinc 5 (v := x5 + 1) (ls' := [(5, .int (x5 + 1)), (0, .ref 27), (1, .int x1), (2, .int x2), (3, .int x3), (4, .int x4)]) dX0_bestPace_44 rfl rfl (by decide) rfl ?_
  refine zR.goto (tgt := 14) dX0_bestPace_47 (by decide) ?_
  refine zR.sub [1, 2, 3, 4, 5, 0] rfl ?_
  exact hr14 _ _ _ _ _ _ h
def fX0_bestPace_14 (σ : zS) : Nat → Int32 → Int32 → Int32 → Int32 → Int32 → Option Int32
  | 0, _, _, _, _, _ => none
  | f + 1, x1, x2, x3, x4, x5 => if 4 < x5 then some x3 else bnr (fX0_paceWeights σ x1 x2 x5) fun v3 => if v3 ≤ x4 then fX0_bestPace_44 σ (fX0_bestPace_14 σ f) x1 x2 x3 x4 x5 else fX0_bestPace_44 σ (fX0_bestPace_14 σ f) x1 x2 x5 v3 x5
theorem kX0_bestPace_14 {sc : Nat × (Nat → Int32)} (σ : zS) : ∀ (fuel : Nat) (x1 : Int32) (x2 : Int32) (x3 : Int32) (x4 : Int32) (x5 : Int32) (w : Int32) (h : fX0_bestPace_14 σ fuel x1 x2 x3 x4 x5 = some w), zR (zY0 sc) 6 0 0 mX0_bestPace 14 [(0, .ref 27), (1, .int x1), (2, .int x2), (3, .int x3), (4, .int x4), (5, .int x5)] [] (zE σ) (some (.int w), zE σ) := by
  intro fuel
  induction fuel with
  | zero => intro x1 x2 x3 x4 x5 w h; exact nomatch h
  | succ f ih =>
    intro x1 x2 x3 x4 x5 w h
    rw [fX0_bestPace_14] at h
    refine kR.iload dX0_bestPace_14 5 rfl ?_
    refine zR.iconst (v := 4) dX0_bestPace_16 (by decide) ?_
    refine kR.icmp_gt (tgt := 50) dX0_bestPace_17 (by decide) h (fun h => ?_) (fun h => ?_)
    · refine kR.iload_n dX0_bestPace_50 3 rfl ?_
      exact kR.iretO dX0_bestPace_51 (nzI rfl _) h
    · refine kR.aload_n dX0_bestPace_20 0 rfl ?_
      refine kR.iload_n dX0_bestPace_21 1 rfl ?_
      refine kR.iload_n dX0_bestPace_22 2 rfl ?_
      refine kR.iload dX0_bestPace_23 5 rfl ?_
      obtain ⟨v3, e4, h⟩ := bnr_some h
      refine kR.cVi [.int x1, .int x2, .int x5] dX0_bestPace_25 rfl (by decide) mwX0_170 zp27 (by decide) rfl rfl (Nat.le_of_ble_eq_true rfl) (lX0_paceWeights σ x1 x2 x5 _ e4) ?_
      refine zR.istore (i := 6) (ls' := [(6, .int v3), (0, .ref 27), (1, .int x1), (2, .int x2), (3, .int x3), (4, .int x4), (5, .int x5)]) dX0_bestPace_28 (by decide) rfl ?_
      refine kR.iload dX0_bestPace_30 0 rfl ?_
      refine kR.iload dX0_bestPace_32 5 rfl ?_
      refine kR.icmp_le (tgt := 44) dX0_bestPace_34 (by decide) h (fun h => ?_) (fun h => ?_)
      · refine zR.sub [1, 2, 3, 4, 5, 6] rfl ?_
        exact kX0_bestPace_44 σ (fX0_bestPace_14 σ f) ih _ _ _ _ _ _ h
      · refine kR.iload dX0_bestPace_37 0 rfl ?_
        refine zR.istore (i := 4) (ls' := [(4, .int v3), (6, .int v3), (0, .ref 27), (1, .int x1), (2, .int x2), (3, .int x3), (5, .int x5)]) dX0_bestPace_39 (by decide) rfl ?_
        refine kR.iload dX0_bestPace_41 6 rfl ?_
        refine zR.istore_n (i := 3) (ls' := [(3, .int x5), (4, .int v3), (6, .int v3), (0, .ref 27), (1, .int x1), (2, .int x2), (5, .int x5)]) dX0_bestPace_43 rfl (by decide) rfl ?_
        refine zR.sub [3, 4, 5, 0, 1, 6] rfl ?_
        exact kX0_bestPace_44 σ (fX0_bestPace_14 σ f) ih _ _ _ _ _ _ h
def fX0_bestPace (σ : zS) (p1 : Int32) (p2 : Int32) : Option Int32 := bnr (fX0_paceWeights σ p1 p2 1) fun v1 => fX0_bestPace_14 σ zF p1 p2 1 v1 2
theorem eX0_bestPace {sc : Nat × (Nat → Int32)} (σ : zS) (p1 : Int32) (p2 : Int32) (w : Int32) (h : fX0_bestPace σ p1 p2 = some w) : zR (zY0 sc) 6 0 0 mX0_bestPace 0 [(0, .ref 27), (1, .int p1), (2, .int p2)] [] (zE σ) (some (.int w), zE σ) := by
  unfold fX0_bestPace at h
  refine zR.iconst (v := 1) dX0_bestPace_0 (by decide) ?_
  refine zR.istore_n (i := 3) (ls' := [(3, .int 1), (0, .ref 27), (1, .int p1), (2, .int p2)]) dX0_bestPace_1 rfl (by decide) rfl ?_
  refine kR.aload_n dX0_bestPace_2 1 rfl ?_
  refine kR.iload_n dX0_bestPace_3 2 rfl ?_
  refine kR.iload_n dX0_bestPace_4 3 rfl ?_
  refine zR.iconst (v := 1) dX0_bestPace_5 (by decide) ?_
  obtain ⟨v1, e2, h⟩ := bnr_some h
  refine kR.cVi [.int p1, .int p2, .int 1] dX0_bestPace_6 rfl (by decide) mwX0_170 zp27 (by decide) rfl rfl (Nat.le_of_ble_eq_true rfl) (lX0_paceWeights σ p1 p2 1 _ e2) ?_
  refine zR.istore (i := 4) (ls' := [(4, .int v1), (3, .int 1), (0, .ref 27), (1, .int p1), (2, .int p2)]) dX0_bestPace_9 (by decide) rfl ?_
  refine zR.iconst (v := 2) dX0_bestPace_11 (by decide) ?_
  refine zR.istore (i := 5) (ls' := [(5, .int 2), (4, .int v1), (3, .int 1), (0, .ref 27), (1, .int p1), (2, .int p2)]) dX0_bestPace_12 (by decide) rfl ?_
  refine zR.sub [3, 4, 5, 2, 1, 0] rfl ?_
  exact kX0_bestPace_14 σ zF _ _ _ _ _ _ h
theorem lX0_bestPace {sc : Nat × (Nat → Int32)} (σ : zS) (p1 : Int32) (p2 : Int32) (w : Int32) (h : fX0_bestPace σ p1 p2 = some w) : zC (zY0 sc) 6 0 0 mX0_bestPace [.ref 27, .int p1, .int p2] (zE σ) (some (.int w), zE σ) := zC.of (by decide +kernel) (Nat.le_of_ble_eq_true rfl) ⟨_, rfl⟩ (eX0_bestPace σ p1 p2 w h)
theorem dX10_pace_0 : decode cX10_pace 0 = .ok (.aload_n 0, 1) := by decide +kernel
theorem dX10_pace_1 : decode cX10_pace 1 = .ok (.getfield 38, 3) := by decide +kernel
theorem dX10_pace_4 : decode cX10_pace 4 = .ok (.getfield 111, 3) := by decide +kernel
theorem dX10_pace_7 : decode cX10_pace 7 = .ok (.astore 4, 2) := by decide +kernel
theorem dX10_pace_9 : decode cX10_pace 9 = .ok (.aload 4, 2) := by decide +kernel
theorem dX10_pace_11 : decode cX10_pace 11 = .ok (.iload_n 1, 1) := by decide +kernel
theorem dX10_pace_12 : decode cX10_pace 12 = .ok (.invokevirtual 147, 3) := by decide +kernel
theorem dX10_pace_15 : decode cX10_pace 15 = .ok (.ifCond .eq 27, 3) := by decide +kernel
theorem dX10_pace_18 : decode cX10_pace 18 = .ok (.iload_n 2, 1) := by decide +kernel
theorem dX10_pace_19 : decode cX10_pace 19 = .ok (.ifCond .lt 23, 3) := by decide +kernel
theorem dX10_pace_22 : decode cX10_pace 22 = .ok (.iload_n 2, 1) := by decide +kernel
theorem dX10_pace_23 : decode cX10_pace 23 = .ok (.iconst 1, 1) := by decide +kernel
theorem dX10_pace_24 : decode cX10_pace 24 = .ok (.aload 4, 2) := by decide +kernel
theorem dX10_pace_26 : decode cX10_pace 26 = .ok (.getfield 131, 3) := by decide +kernel
theorem dX10_pace_29 : decode cX10_pace 29 = .ok (.ishl, 1) := by decide +kernel
theorem dX10_pace_30 : decode cX10_pace 30 = .ok (.if_icmp .ge 12, 3) := by decide +kernel
theorem dX10_pace_33 : decode cX10_pace 33 = .ok (.iload_n 3, 1) := by decide +kernel
theorem dX10_pace_34 : decode cX10_pace 34 = .ok (.ifCond .lt 8, 3) := by decide +kernel
theorem dX10_pace_37 : decode cX10_pace 37 = .ok (.iload_n 3, 1) := by decide +kernel
theorem dX10_pace_38 : decode cX10_pace 38 = .ok (.iconst 1, 1) := by decide +kernel
theorem dX10_pace_39 : decode cX10_pace 39 = .ok (.if_icmp .le 5, 3) := by decide +kernel
theorem dX10_pace_42 : decode cX10_pace 42 = .ok (.iconst (-1), 1) := by decide +kernel
theorem dX10_pace_43 : decode cX10_pace 43 = .ok (.ireturn, 1) := by decide +kernel
theorem dX10_pace_44 : decode cX10_pace 44 = .ok (.aload_n 0, 1) := by decide +kernel
theorem dX10_pace_45 : decode cX10_pace 45 = .ok (.getfield 47, 3) := by decide +kernel
theorem dX10_pace_48 : decode cX10_pace 48 = .ok (.iload_n 1, 1) := by decide +kernel
theorem dX10_pace_49 : decode cX10_pace 49 = .ok (.iload_n 2, 1) := by decide +kernel
theorem dX10_pace_50 : decode cX10_pace 50 = .ok (.invokevirtual 257, 3) := by decide +kernel
theorem dX10_pace_53 : decode cX10_pace 53 = .ok (.istore 5, 2) := by decide +kernel
theorem dX10_pace_55 : decode cX10_pace 55 = .ok (.iload_n 3, 1) := by decide +kernel
theorem dX10_pace_56 : decode cX10_pace 56 = .ok (.ifCond .ne 6, 3) := by decide +kernel
theorem dX10_pace_59 : decode cX10_pace 59 = .ok (.iload 5, 2) := by decide +kernel
theorem dX10_pace_61 : decode cX10_pace 61 = .ok (.ireturn, 1) := by decide +kernel
theorem dX10_pace_62 : decode cX10_pace 62 = .ok (.aload_n 0, 1) := by decide +kernel
theorem dX10_pace_63 : decode cX10_pace 63 = .ok (.getfield 47, 3) := by decide +kernel
theorem dX10_pace_66 : decode cX10_pace 66 = .ok (.iload_n 1, 1) := by decide +kernel
theorem dX10_pace_67 : decode cX10_pace 67 = .ok (.iload_n 2, 1) := by decide +kernel
theorem dX10_pace_68 : decode cX10_pace 68 = .ok (.iload 5, 2) := by decide +kernel
theorem dX10_pace_70 : decode cX10_pace 70 = .ok (.invokevirtual 260, 3) := by decide +kernel
theorem dX10_pace_73 : decode cX10_pace 73 = .ok (.i2l, 1) := by decide +kernel
theorem dX10_pace_74 : decode cX10_pace 74 = .ok (.aload 4, 2) := by decide +kernel
theorem dX10_pace_76 : decode cX10_pace 76 = .ok (.iload_n 1, 1) := by decide +kernel
theorem dX10_pace_77 : decode cX10_pace 77 = .ok (.invokevirtual 180, 3) := by decide +kernel
theorem dX10_pace_80 : decode cX10_pace 80 = .ok (.i2l, 1) := by decide +kernel
theorem dX10_pace_81 : decode cX10_pace 81 = .ok (.invokestatic 202, 3) := by decide +kernel
theorem dX10_pace_84 : decode cX10_pace 84 = .ok (.ireturn, 1) := by decide +kernel
def fX10_pace (σ : zS) (p1 : Int32) (p2 : Int32) (p3 : Int32) : Option Int32 := if (fX6_hasTunnel σ.2.2.2.1 σ p1) = 0 then some ((-1)) else if p2 < 0 then some ((-1)) else if (1 <<< ((iG σ (rp σ.2.2.2.1 + 0) 2) &&& 31)) ≤ p2 then some ((-1)) else if p3 < 0 then some ((-1)) else if p3 ≤ 1 then bnr (fX0_bestPace σ p1 p2) fun v1 => if p3 = 0 then some v1 else bnr (fX0_paceWeights σ p1 p2 v1) fun v3 => bnr (fX6_allWeights σ.2.2.2.1 σ p1) fun v5 => bnr (fX10_thousandths v3.toInt64 v5.toInt64) fun v7 => some v7 else some ((-1))
theorem eX10_pace {sc : Nat × (Nat → Int32)} (σ : zS) (p1 : Int32) (p2 : Int32) (p3 : Int32) (w : Int32) (h : fX10_pace σ p1 p2 p3 = some w) : zR (zY0 sc) 7 0 0 mX10_pace 0 [(0, .ref 1), (1, .int p1), (2, .int p2), (3, .int p3)] [] (zE σ) (some (.int w), zE σ) := by
  unfold fX10_pace at h
  refine kR.aload_n dX10_pace_0 0 rfl ?_
  refine kR.getR (v := 8) dX10_pace_1 flX10_38 zcf10 zp1 (Or.inl ⟨_, rfl⟩) rfl ?_
  refine kR.getR (v := (rp σ.2.2.2.1 + 0)) dX10_pace_4 flX10_111 zcf4 zp8 (Or.inl ⟨_, rfl⟩) rfl ?_
  refine zR.astore (i := 4) (ls' := [(4, .ref (rp σ.2.2.2.1 + 0)), (0, .ref 1), (1, .int p1), (2, .int p2), (3, .int p3)]) dX10_pace_7 (by decide) rfl ?_
  refine kR.aload dX10_pace_9 0 rfl ?_
  refine kR.iload_n dX10_pace_11 2 rfl ?_
  refine kR.cVi [.int p1] dX10_pace_12 rfl (by decide) mwX10_147 (zq0 σ.2.2.2.1) (by decide) rfl rfl (Nat.le_of_ble_eq_true rfl) (lX6_hasTunnel σ.2.2.2.1 σ p1) ?_
  refine kR.if_eq (tgt := 42) dX10_pace_15 (by decide) h (fun h => ?_) (fun h => ?_)
  · refine zR.iconst (v := (-1)) dX10_pace_42 (by decide) ?_
    exact kR.iretO dX10_pace_43 (nzI rfl _) h
  · refine kR.iload_n dX10_pace_18 3 rfl ?_
    refine kR.if_lt (tgt := 42) dX10_pace_19 (by decide) h (fun h => ?_) (fun h => ?_)
    · refine zR.iconst (v := (-1)) dX10_pace_42 (by decide) ?_
      exact kR.iretO dX10_pace_43 (nzI rfl _) h
    · refine kR.iload_n dX10_pace_22 3 rfl ?_
      refine zR.iconst (v := 1) dX10_pace_23 (by decide) ?_
      refine kR.aload dX10_pace_24 0 rfl ?_
      refine kR.getI dX10_pace_26 flX10_131 zcf6 (zq0 σ.2.2.2.1) (Or.inl rfl) ?_
      refine zR.ishl dX10_pace_29 ?_
      refine kR.icmp_ge (tgt := 42) dX10_pace_30 (by decide) h (fun h => ?_) (fun h => ?_)
      · refine zR.iconst (v := (-1)) dX10_pace_42 (by decide) ?_
        exact kR.iretO dX10_pace_43 (nzI rfl _) h
      · refine kR.iload_n dX10_pace_33 4 rfl ?_
        refine kR.if_lt (tgt := 42) dX10_pace_34 (by decide) h (fun h => ?_) (fun h => ?_)
        · refine zR.iconst (v := (-1)) dX10_pace_42 (by decide) ?_
          exact kR.iretO dX10_pace_43 (nzI rfl _) h
        · refine kR.iload_n dX10_pace_37 4 rfl ?_
          refine zR.iconst (v := 1) dX10_pace_38 (by decide) ?_
          refine kR.icmp_le (tgt := 44) dX10_pace_39 (by decide) h (fun h => ?_) (fun h => ?_)
          · refine kR.aload_n dX10_pace_44 1 rfl ?_
            refine kR.getR (v := 27) dX10_pace_45 flX10_47 zcf10 zp1 (Or.inl ⟨_, rfl⟩) rfl ?_
            refine kR.iload_n dX10_pace_48 2 rfl ?_
            refine kR.iload_n dX10_pace_49 3 rfl ?_
            obtain ⟨v1, e2, h⟩ := bnr_some h
            refine kR.cVi [.int p1, .int p2] dX10_pace_50 rfl (by decide) mwX10_257 zp27 (by decide) rfl rfl (Nat.le_of_ble_eq_true rfl) (lX0_bestPace σ p1 p2 _ e2) ?_
            refine zR.istore (i := 5) (ls' := [(5, .int v1), (4, .ref (rp σ.2.2.2.1 + 0)), (0, .ref 1), (1, .int p1), (2, .int p2), (3, .int p3)]) dX10_pace_53 (by decide) rfl ?_
            refine kR.iload_n dX10_pace_55 5 rfl ?_
            refine kR.if_ne (tgt := 62) dX10_pace_56 (by decide) h (fun h => ?_) (fun h => ?_)
            · refine kR.aload_n dX10_pace_62 2 rfl ?_
              refine kR.getR (v := 27) dX10_pace_63 flX10_47 zcf10 zp1 (Or.inl ⟨_, rfl⟩) rfl ?_
              refine kR.iload_n dX10_pace_66 3 rfl ?_
              refine kR.iload_n dX10_pace_67 4 rfl ?_
              refine kR.iload dX10_pace_68 0 rfl ?_
              obtain ⟨v3, e4, h⟩ := bnr_some h
              refine kR.cVi [.int p1, .int p2, .int v1] dX10_pace_70 rfl (by decide) mwX10_260 zp27 (by decide) rfl rfl (Nat.le_of_ble_eq_true rfl) (lX0_paceWeights σ p1 p2 v1 _ e4) ?_
              refine zR.i2l dX10_pace_73 ?_
              refine kR.aload dX10_pace_74 1 rfl ?_
              refine kR.iload_n dX10_pace_76 3 rfl ?_
              obtain ⟨v5, e6, h⟩ := bnr_some h
              refine kR.cVi [.int p1] dX10_pace_77 rfl (by decide) mwX10_180 (zq0 σ.2.2.2.1) (by decide) rfl rfl (Nat.le_of_ble_eq_true rfl) (lX6_allWeights σ.2.2.2.1 σ p1 _ e6) ?_
              refine zR.i2l dX10_pace_80 ?_
              obtain ⟨v7, e8, h⟩ := bnr_some h
              refine kR.cSi [.long (v3.toInt64), .long (v5.toInt64)] dX10_pace_81 rfl (by decide) (Or.inl mwX10_202) rfl (Nat.le_of_ble_eq_true rfl) (lX10_thousandths v3.toInt64 v5.toInt64 _ e8) ?_
              exact kR.iretO dX10_pace_84 (nzI rfl _) h
            · refine kR.iload dX10_pace_59 0 rfl ?_
              exact kR.iretO dX10_pace_61 (nzI rfl _) h
          · refine zR.iconst (v := (-1)) dX10_pace_42 (by decide) ?_
            exact kR.iretO dX10_pace_43 (nzI rfl _) h
theorem lX10_pace {sc : Nat × (Nat → Int32)} (σ : zS) (p1 : Int32) (p2 : Int32) (p3 : Int32) (w : Int32) (h : fX10_pace σ p1 p2 p3 = some w) : zC (zY0 sc) 7 0 0 mX10_pace [.ref 1, .int p1, .int p2, .int p3] (zE σ) (some (.int w), zE σ) := zC.of (by decide +kernel) (Nat.le_of_ble_eq_true rfl) ⟨_, rfl⟩ (eX10_pace σ p1 p2 p3 w h)
theorem dX0_totalAmong_0 : decode cX0_totalAmong 0 = .ok (.lconst 0, 1) := by decide +kernel
theorem dX0_totalAmong_1 : decode cX0_totalAmong 1 = .ok (.lstore 4, 2) := by decide +kernel
theorem dX0_totalAmong_3 : decode cX0_totalAmong 3 = .ok (.iconst 0, 1) := by decide +kernel
theorem dX0_totalAmong_4 : decode cX0_totalAmong 4 = .ok (.istore 6, 2) := by decide +kernel
theorem dX0_totalAmong_6 : decode cX0_totalAmong 6 = .ok (.iload 6, 2) := by decide +kernel
theorem dX0_totalAmong_8 : decode cX0_totalAmong 8 = .ok (.aload_n 0, 1) := by decide +kernel
theorem dX0_totalAmong_9 : decode cX0_totalAmong 9 = .ok (.getfield 51, 3) := by decide +kernel
theorem dX0_totalAmong_12 : decode cX0_totalAmong 12 = .ok (.getfield 63, 3) := by decide +kernel
theorem dX0_totalAmong_15 : decode cX0_totalAmong 15 = .ok (.iload_n 2, 1) := by decide +kernel
theorem dX0_totalAmong_16 : decode cX0_totalAmong 16 = .ok (.invokevirtual 101, 3) := by decide +kernel
theorem dX0_totalAmong_19 : decode cX0_totalAmong 19 = .ok (.if_icmp .ge 92, 3) := by decide +kernel
theorem dX0_totalAmong_22 : decode cX0_totalAmong 22 = .ok (.aload_n 0, 1) := by decide +kernel
theorem dX0_totalAmong_23 : decode cX0_totalAmong 23 = .ok (.getfield 51, 3) := by decide +kernel
theorem dX0_totalAmong_26 : decode cX0_totalAmong 26 = .ok (.getfield 63, 3) := by decide +kernel
theorem dX0_totalAmong_29 : decode cX0_totalAmong 29 = .ok (.iload_n 2, 1) := by decide +kernel
theorem dX0_totalAmong_30 : decode cX0_totalAmong 30 = .ok (.iload 6, 2) := by decide +kernel
theorem dX0_totalAmong_32 : decode cX0_totalAmong 32 = .ok (.invokevirtual 108, 3) := by decide +kernel
theorem dX0_totalAmong_35 : decode cX0_totalAmong 35 = .ok (.istore 7, 2) := by decide +kernel
theorem dX0_totalAmong_37 : decode cX0_totalAmong 37 = .ok (.aload_n 0, 1) := by decide +kernel
theorem dX0_totalAmong_38 : decode cX0_totalAmong 38 = .ok (.getfield 51, 3) := by decide +kernel
theorem dX0_totalAmong_41 : decode cX0_totalAmong 41 = .ok (.iload_n 2, 1) := by decide +kernel
theorem dX0_totalAmong_42 : decode cX0_totalAmong 42 = .ok (.iload 7, 2) := by decide +kernel
theorem dX0_totalAmong_44 : decode cX0_totalAmong 44 = .ok (.invokevirtual 183, 3) := by decide +kernel
theorem dX0_totalAmong_47 : decode cX0_totalAmong 47 = .ok (.aload_n 0, 1) := by decide +kernel
theorem dX0_totalAmong_48 : decode cX0_totalAmong 48 = .ok (.getfield 51, 3) := by decide +kernel
theorem dX0_totalAmong_51 : decode cX0_totalAmong 51 = .ok (.getfield 63, 3) := by decide +kernel
theorem dX0_totalAmong_54 : decode cX0_totalAmong 54 = .ok (.iload_n 3, 1) := by decide +kernel
theorem dX0_totalAmong_55 : decode cX0_totalAmong 55 = .ok (.invokevirtual 187, 3) := by decide +kernel
theorem dX0_totalAmong_58 : decode cX0_totalAmong 58 = .ok (.ifCond .eq 15, 3) := by decide +kernel
theorem dX0_totalAmong_61 : decode cX0_totalAmong 61 = .ok (.aload_n 0, 1) := by decide +kernel
theorem dX0_totalAmong_62 : decode cX0_totalAmong 62 = .ok (.getfield 51, 3) := by decide +kernel
theorem dX0_totalAmong_65 : decode cX0_totalAmong 65 = .ok (.getfield 155, 3) := by decide +kernel
theorem dX0_totalAmong_68 : decode cX0_totalAmong 68 = .ok (.iload_n 3, 1) := by decide +kernel
theorem dX0_totalAmong_69 : decode cX0_totalAmong 69 = .ok (.iconst 0, 1) := by decide +kernel
theorem dX0_totalAmong_70 : decode cX0_totalAmong 70 = .ok (.invokestatic 142, 3) := by decide +kernel
theorem dX0_totalAmong_73 : decode cX0_totalAmong 73 = .ok (.lload 4, 2) := by decide +kernel
theorem dX0_totalAmong_75 : decode cX0_totalAmong 75 = .ok (.aload_n 0, 1) := by decide +kernel
theorem dX0_totalAmong_76 : decode cX0_totalAmong 76 = .ok (.getfield 51, 3) := by decide +kernel
theorem dX0_totalAmong_79 : decode cX0_totalAmong 79 = .ok (.getfield 63, 3) := by decide +kernel
theorem dX0_totalAmong_82 : decode cX0_totalAmong 82 = .ok (.iload_n 2, 1) := by decide +kernel
theorem dX0_totalAmong_83 : decode cX0_totalAmong 83 = .ok (.iload 6, 2) := by decide +kernel
theorem dX0_totalAmong_85 : decode cX0_totalAmong 85 = .ok (.invokevirtual 111, 3) := by decide +kernel
theorem dX0_totalAmong_88 : decode cX0_totalAmong 88 = .ok (.i2l, 1) := by decide +kernel
theorem dX0_totalAmong_89 : decode cX0_totalAmong 89 = .ok (.aload_n 0, 1) := by decide +kernel
theorem dX0_totalAmong_90 : decode cX0_totalAmong 90 = .ok (.getfield 51, 3) := by decide +kernel
theorem dX0_totalAmong_93 : decode cX0_totalAmong 93 = .ok (.iload_n 1, 1) := by decide +kernel
theorem dX0_totalAmong_94 : decode cX0_totalAmong 94 = .ok (.iload_n 2, 1) := by decide +kernel
theorem dX0_totalAmong_95 : decode cX0_totalAmong 95 = .ok (.iload 7, 2) := by decide +kernel
theorem dX0_totalAmong_97 : decode cX0_totalAmong 97 = .ok (.invokevirtual 158, 3) := by decide +kernel
theorem dX0_totalAmong_100 : decode cX0_totalAmong 100 = .ok (.i2l, 1) := by decide +kernel
theorem dX0_totalAmong_101 : decode cX0_totalAmong 101 = .ok (.lmul, 1) := by decide +kernel
theorem dX0_totalAmong_102 : decode cX0_totalAmong 102 = .ok (.ladd, 1) := by decide +kernel
theorem dX0_totalAmong_103 : decode cX0_totalAmong 103 = .ok (.lstore 4, 2) := by decide +kernel
theorem dX0_totalAmong_105 : decode cX0_totalAmong 105 = .ok (.iinc 6 1, 3) := by decide +kernel
theorem dX0_totalAmong_108 : decode cX0_totalAmong 108 = .ok (.goto (-102), 3) := by decide +kernel
theorem dX0_totalAmong_111 : decode cX0_totalAmong 111 = .ok (.lload 4, 2) := by decide +kernel
theorem dX0_totalAmong_113 : decode cX0_totalAmong 113 = .ok (.lreturn, 1) := by decide +kernel
def fX0_totalAmong_72 (r6 : Int32 → Int32 → Int32 → Int64 → Int32 → zS → Option (Int64 × zS)) (x1 : Int32) (x2 : Int32) (x3 : Int32) (x4 : Int64) (x6 : Int32) (x7 : Int32) (σ : zS) : Option (Int64 × zS) := bnr (fX6_weightAt σ.2.2.2.1 σ x2 x6) fun v6 => bnc (fX4_worthAmong x1 x2 x7 σ) fun v10 σ8 => r6 x1 x2 x3 (x4 + (v6.toInt64 * v10.toInt64)) (x6 + 1) σ8
theorem kX0_totalAmong_73 {sc : Nat × (Nat → Int32)} (r6 : Int32 → Int32 → Int32 → Int64 → Int32 → zS → Option (Int64 × zS)) (hr6 : ∀ (x1 : Int32) (x2 : Int32) (x3 : Int32) (x4 : Int64) (x6 : Int32) (σ : zS) (w : Int64 × zS), r6 x1 x2 x3 x4 x6 σ = some w → zR (zY0 sc) 5 0 0 mX0_totalAmong 6 [(0, .ref 27), (1, .int x1), (2, .int x2), (3, .int x3), (4, .long x4), (6, .int x6)] [] (zE σ) (some (.long w.1), zE w.2)) (x1 : Int32) (x2 : Int32) (x3 : Int32) (x4 : Int64) (x6 : Int32) (x7 : Int32) (σ : zS) (w : Int64 × zS) (h : fX0_totalAmong_72 r6 x1 x2 x3 x4 x6 x7 σ = some w) : zR (zY0 sc) 5 0 0 mX0_totalAmong 73 [(0, .ref 27), (1, .int x1), (2, .int x2), (3, .int x3), (4, .long x4), (6, .int x6), (7, .int x7)] [] (zE σ) (some (.long w.1), zE w.2) := by
  unfold fX0_totalAmong_72 at h
  refine kR.lload dX0_totalAmong_73 4 rfl ?_
  refine kR.aload_n dX0_totalAmong_75 0 rfl ?_
  refine kR.getR (v := 8) dX0_totalAmong_76 flX0_51 zcf0 zp27 (Or.inl ⟨_, rfl⟩) rfl ?_
  refine kR.getR (v := (rp σ.2.2.2.1 + 0)) dX0_totalAmong_79 flX0_63 zcf4 zp8 (Or.inl ⟨_, rfl⟩) rfl ?_
  refine kR.iload_n dX0_totalAmong_82 2 rfl ?_
  refine kR.iload dX0_totalAmong_83 5 rfl ?_
  obtain ⟨v6, e7, h⟩ := bnr_some h
  refine kR.cVi [.int x2, .int x6] dX0_totalAmong_85 rfl (by decide) mwX0_111 (zq0 σ.2.2.2.1) (by decide) rfl rfl (Nat.le_of_ble_eq_true rfl) (lX6_weightAt σ.2.2.2.1 σ x2 x6 _ e7) ?_
  refine zR.i2l dX0_totalAmong_88 ?_
  refine kR.aload_n dX0_totalAmong_89 0 rfl ?_
  refine kR.getR (v := 8) dX0_totalAmong_90 flX0_51 zcf0 zp27 (Or.inl ⟨_, rfl⟩) rfl ?_
  refine kR.iload_n dX0_totalAmong_93 1 rfl ?_
  refine kR.iload_n dX0_totalAmong_94 2 rfl ?_
  refine kR.iload dX0_totalAmong_95 6 rfl ?_
  obtain ⟨v10, σ8, e9, h⟩ := bnc_some h
  refine kR.cVi [.int x1, .int x2, .int x7] dX0_totalAmong_97 rfl (by decide) mwX0_158 zp8 (by decide) rfl rfl (Nat.le_of_ble_eq_true rfl) (lX4_worthAmong x1 x2 x7 σ _ e9) ?_
  refine zR.i2l dX0_totalAmong_100 ?_
  refine zR.lmul dX0_totalAmong_101 ?_
  refine zR.ladd dX0_totalAmong_102 ?_
  refine zR.lstore (i := 4) (ls' := [(4, .long (x4 + (v6.toInt64 * v10.toInt64))), (0, .ref 27), (1, .int x1), (2, .int x2), (3, .int x3), (6, .int x6), (7, .int x7)]) dX0_totalAmong_103 (by decide) rfl ?_
  refine zR.iinc 5 (v := x6 + 1) (ls' := [(6, .int (x6 + 1)), (4, .long (x4 + (v6.toInt64 * v10.toInt64))), (0, .ref 27), (1, .int x1), (2, .int x2), (3, .int x3), (7, .int x7)]) dX0_totalAmong_105 rfl rfl (by decide) rfl ?_
  refine zR.goto (tgt := 6) dX0_totalAmong_108 (by decide) ?_
  refine zR.sub [2, 3, 4, 5, 1, 0] rfl ?_
  exact hr6 _ _ _ _ _ _ _ h
def fX0_totalAmong_6 : Nat → Int32 → Int32 → Int32 → Int64 → Int32 → zS → Option (Int64 × zS)
  | 0, _, _, _, _, _, _ => none
  | f + 1, x1, x2, x3, x4, x6, σ => aI σ (rp σ.2.2.2.1 + 3) 6 x2 fun v1 => if v1 ≤ x6 then some (x4, σ) else bnr (fX6_lengthAt σ.2.2.2.1 σ x2 x6) fun v2 => bnr (fX4_allHold x2 v2 σ) fun σ4 => if (fX6_hasHolder σ4.2.2.2.1 σ4 x3) = 0 then fX0_totalAmong_72 (fX0_totalAmong_6 f) x1 x2 x3 x4 x6 v2 σ4 else wI σ4 25 6 x3 0 fun σ11 => fX0_totalAmong_72 (fX0_totalAmong_6 f) x1 x2 x3 x4 x6 v2 σ11
theorem kX0_totalAmong_6 {sc : Nat × (Nat → Int32)} : ∀ (fuel : Nat) (x1 : Int32) (x2 : Int32) (x3 : Int32) (x4 : Int64) (x6 : Int32) (σ : zS) (w : Int64 × zS) (h : fX0_totalAmong_6 fuel x1 x2 x3 x4 x6 σ = some w), zR (zY0 sc) 5 0 0 mX0_totalAmong 6 [(0, .ref 27), (1, .int x1), (2, .int x2), (3, .int x3), (4, .long x4), (6, .int x6)] [] (zE σ) (some (.long w.1), zE w.2) := by
  intro fuel
  induction fuel with
  | zero => intro x1 x2 x3 x4 x6 σ w h; exact nomatch h
  | succ f ih =>
    intro x1 x2 x3 x4 x6 σ w h
    rw [fX0_totalAmong_6] at h
    refine kR.iload dX0_totalAmong_6 5 rfl ?_
    refine kR.aload_n dX0_totalAmong_8 0 rfl ?_
    refine kR.getR (v := 8) dX0_totalAmong_9 flX0_51 zcf0 zp27 (Or.inl ⟨_, rfl⟩) rfl ?_
    refine kR.getR (v := (rp σ.2.2.2.1 + 0)) dX0_totalAmong_12 flX0_63 zcf4 zp8 (Or.inl ⟨_, rfl⟩) rfl ?_
    refine kR.iload_n dX0_totalAmong_15 2 rfl ?_
    obtain ⟨v1, e0, h⟩ := aIlc h
    refine kR.cVi [.int x2] dX0_totalAmong_16 rfl (by decide) mwX0_101 (zq0 σ.2.2.2.1) (by decide) rfl rfl (Nat.le_of_ble_eq_true rfl) (lX6_lengthCount σ.2.2.2.1 σ x2 _ e0) ?_
    refine kR.icmp_ge (tgt := 111) dX0_totalAmong_19 (by decide) h (fun h => ?_) (fun h => ?_)
    · refine kR.lload dX0_totalAmong_111 4 rfl ?_
      exact kR.lretW dX0_totalAmong_113 h
    · refine kR.aload_n dX0_totalAmong_22 0 rfl ?_
      refine kR.getR (v := 8) dX0_totalAmong_23 flX0_51 zcf0 zp27 (Or.inl ⟨_, rfl⟩) rfl ?_
      refine kR.getR (v := (rp σ.2.2.2.1 + 0)) dX0_totalAmong_26 flX0_63 zcf4 zp8 (Or.inl ⟨_, rfl⟩) rfl ?_
      refine kR.iload_n dX0_totalAmong_29 2 rfl ?_
      refine kR.iload dX0_totalAmong_30 5 rfl ?_
      obtain ⟨v2, e3, h⟩ := bnr_some h
      refine kR.cVi [.int x2, .int x6] dX0_totalAmong_32 rfl (by decide) mwX0_108 (zq0 σ.2.2.2.1) (by decide) rfl rfl (Nat.le_of_ble_eq_true rfl) (lX6_lengthAt σ.2.2.2.1 σ x2 x6 _ e3) ?_
      refine zR.istore (i := 7) (ls' := [(7, .int v2), (0, .ref 27), (1, .int x1), (2, .int x2), (3, .int x3), (4, .long x4), (6, .int x6)]) dX0_totalAmong_35 (by decide) rfl ?_
      refine kR.aload_n dX0_totalAmong_37 1 rfl ?_
      refine kR.getR (v := 8) dX0_totalAmong_38 flX0_51 zcf0 zp27 (Or.inl ⟨_, rfl⟩) rfl ?_
      refine kR.iload_n dX0_totalAmong_41 3 rfl ?_
      refine kR.iload dX0_totalAmong_42 0 rfl ?_
      obtain ⟨σ4, e5, h⟩ := bnr_some h
      refine kR.cVv [.int x2, .int v2] dX0_totalAmong_44 rfl (by decide) mwX0_183 zp8 (by decide) rfl rfl (Nat.le_of_ble_eq_true rfl) (lX4_allHold x2 v2 σ _ e5) ?_
      refine kR.aload_n dX0_totalAmong_47 1 rfl ?_
      refine kR.getR (v := 8) dX0_totalAmong_48 flX0_51 zcf0 zp27 (Or.inl ⟨_, rfl⟩) rfl ?_
      refine kR.getR (v := (rp σ4.2.2.2.1 + 0)) dX0_totalAmong_51 flX0_63 zcf4 zp8 (Or.inl ⟨_, rfl⟩) rfl ?_
      refine kR.iload_n dX0_totalAmong_54 4 rfl ?_
      refine kR.cVi [.int x3] dX0_totalAmong_55 rfl (by decide) mwX0_187 (zq0 σ4.2.2.2.1) (by decide) rfl rfl (Nat.le_of_ble_eq_true rfl) (lX6_hasHolder σ4.2.2.2.1 σ4 x3) ?_
      refine kR.if_eq (tgt := 73) dX0_totalAmong_58 (by decide) h (fun h => ?_) (fun h => ?_)
      · refine zR.sub [1, 2, 3, 4, 5, 6, 0] rfl ?_
        exact kX0_totalAmong_73 (fX0_totalAmong_6 f) ih _ _ _ _ _ _ _ _ h
      · refine kR.aload_n dX0_totalAmong_61 1 rfl ?_
        refine kR.getR (v := 8) dX0_totalAmong_62 flX0_51 zcf0 zp27 (Or.inl ⟨_, rfl⟩) rfl ?_
        refine kR.getR (v := 25) dX0_totalAmong_65 flX0_155 zcf4 zp8 (Or.inr ⟨_, rfl⟩) rfl ?_
        refine kR.iload_n dX0_totalAmong_68 4 rfl ?_
        refine zR.iconst (v := 0) dX0_totalAmong_69 (by decide) ?_
        obtain ⟨σ11, e0, h⟩ := wIv (Nat.le_of_ble_eq_true rfl) h
        refine kR.cSv [.ref 25, .int x3, .int 0] dX0_totalAmong_70 rfl (by decide) (Or.inr mwX0_142) rfl (Nat.le_of_ble_eq_true rfl) (lX10_setAt 25 6 (fun _ => zp25) rfl (Nat.le_of_ble_eq_true rfl) x3 0 σ4 _ e0) ?_
        refine zR.sub [1, 2, 3, 4, 5, 6, 0] rfl ?_
        exact kX0_totalAmong_73 (fX0_totalAmong_6 f) ih _ _ _ _ _ _ _ _ h
def fX0_totalAmong (p1 : Int32) (p2 : Int32) (p3 : Int32) (σ : zS) : Option (Int64 × zS) := fX0_totalAmong_6 zF p1 p2 p3 0 0 σ
theorem eX0_totalAmong {sc : Nat × (Nat → Int32)} (p1 : Int32) (p2 : Int32) (p3 : Int32) (σ : zS) (w : Int64 × zS) (h : fX0_totalAmong p1 p2 p3 σ = some w) : zR (zY0 sc) 5 0 0 mX0_totalAmong 0 [(0, .ref 27), (1, .int p1), (2, .int p2), (3, .int p3)] [] (zE σ) (some (.long w.1), zE w.2) := by
  unfold fX0_totalAmong at h
  refine zR.lconst (v := 0) dX0_totalAmong_0 (by decide) ?_
  refine zR.lstore (i := 4) (ls' := [(4, .long 0), (0, .ref 27), (1, .int p1), (2, .int p2), (3, .int p3)]) dX0_totalAmong_1 (by decide) rfl ?_
  refine zR.iconst (v := 0) dX0_totalAmong_3 (by decide) ?_
  refine zR.istore (i := 6) (ls' := [(6, .int 0), (4, .long 0), (0, .ref 27), (1, .int p1), (2, .int p2), (3, .int p3)]) dX0_totalAmong_4 (by decide) rfl ?_
  refine zR.sub [2, 3, 4, 5, 1, 0] rfl ?_
  exact kX0_totalAmong_6 zF _ _ _ _ _ _ _ h
theorem lX0_totalAmong {sc : Nat × (Nat → Int32)} (p1 : Int32) (p2 : Int32) (p3 : Int32) (σ : zS) (w : Int64 × zS) (h : fX0_totalAmong p1 p2 p3 σ = some w) : zC (zY0 sc) 5 0 0 mX0_totalAmong [.ref 27, .int p1, .int p2, .int p3] (zE σ) (some (.long w.1), zE w.2) := zC.of (by decide +kernel) (Nat.le_of_ble_eq_true rfl) rfl (eX0_totalAmong p1 p2 p3 σ w h)
theorem dX0_bestToLaugh_0 : decode cX0_bestToLaugh 0 = .ok (.iconst (-1), 1) := by decide +kernel
theorem dX0_bestToLaugh_1 : decode cX0_bestToLaugh 1 = .ok (.istore_n 3, 1) := by decide +kernel
theorem dX0_bestToLaugh_2 : decode cX0_bestToLaugh 2 = .ok (.aload_n 0, 1) := by decide +kernel
theorem dX0_bestToLaugh_3 : decode cX0_bestToLaugh 3 = .ok (.iload_n 1, 1) := by decide +kernel
theorem dX0_bestToLaugh_4 : decode cX0_bestToLaugh 4 = .ok (.iload_n 2, 1) := by decide +kernel
theorem dX0_bestToLaugh_5 : decode cX0_bestToLaugh 5 = .ok (.iconst (-1), 1) := by decide +kernel
theorem dX0_bestToLaugh_6 : decode cX0_bestToLaugh 6 = .ok (.invokevirtual 179, 3) := by decide +kernel
theorem dX0_bestToLaugh_9 : decode cX0_bestToLaugh 9 = .ok (.lstore 4, 2) := by decide +kernel
theorem dX0_bestToLaugh_11 : decode cX0_bestToLaugh 11 = .ok (.iconst 0, 1) := by decide +kernel
theorem dX0_bestToLaugh_12 : decode cX0_bestToLaugh 12 = .ok (.istore 6, 2) := by decide +kernel
theorem dX0_bestToLaugh_14 : decode cX0_bestToLaugh 14 = .ok (.iload 6, 2) := by decide +kernel
theorem dX0_bestToLaugh_16 : decode cX0_bestToLaugh 16 = .ok (.aload_n 0, 1) := by decide +kernel
theorem dX0_bestToLaugh_17 : decode cX0_bestToLaugh 17 = .ok (.getfield 51, 3) := by decide +kernel
theorem dX0_bestToLaugh_20 : decode cX0_bestToLaugh 20 = .ok (.getfield 63, 3) := by decide +kernel
theorem dX0_bestToLaugh_23 : decode cX0_bestToLaugh 23 = .ok (.getfield 130, 3) := by decide +kernel
theorem dX0_bestToLaugh_26 : decode cX0_bestToLaugh 26 = .ok (.if_icmp .ge 40, 3) := by decide +kernel
theorem dX0_bestToLaugh_29 : decode cX0_bestToLaugh 29 = .ok (.iload 6, 2) := by decide +kernel
theorem dX0_bestToLaugh_31 : decode cX0_bestToLaugh 31 = .ok (.iload_n 1, 1) := by decide +kernel
theorem dX0_bestToLaugh_32 : decode cX0_bestToLaugh 32 = .ok (.if_icmp .eq 28, 3) := by decide +kernel
theorem dX0_bestToLaugh_35 : decode cX0_bestToLaugh 35 = .ok (.aload_n 0, 1) := by decide +kernel
theorem dX0_bestToLaugh_36 : decode cX0_bestToLaugh 36 = .ok (.iload_n 1, 1) := by decide +kernel
theorem dX0_bestToLaugh_37 : decode cX0_bestToLaugh 37 = .ok (.iload_n 2, 1) := by decide +kernel
theorem dX0_bestToLaugh_38 : decode cX0_bestToLaugh 38 = .ok (.iload 6, 2) := by decide +kernel
theorem dX0_bestToLaugh_40 : decode cX0_bestToLaugh 40 = .ok (.invokevirtual 179, 3) := by decide +kernel
theorem dX0_bestToLaugh_43 : decode cX0_bestToLaugh 43 = .ok (.lstore 7, 2) := by decide +kernel
theorem dX0_bestToLaugh_45 : decode cX0_bestToLaugh 45 = .ok (.lload 7, 2) := by decide +kernel
theorem dX0_bestToLaugh_47 : decode cX0_bestToLaugh 47 = .ok (.lload 4, 2) := by decide +kernel
theorem dX0_bestToLaugh_49 : decode cX0_bestToLaugh 49 = .ok (.lcmp, 1) := by decide +kernel
theorem dX0_bestToLaugh_50 : decode cX0_bestToLaugh 50 = .ok (.ifCond .le 10, 3) := by decide +kernel
theorem dX0_bestToLaugh_53 : decode cX0_bestToLaugh 53 = .ok (.lload 7, 2) := by decide +kernel
theorem dX0_bestToLaugh_55 : decode cX0_bestToLaugh 55 = .ok (.lstore 4, 2) := by decide +kernel
theorem dX0_bestToLaugh_57 : decode cX0_bestToLaugh 57 = .ok (.iload 6, 2) := by decide +kernel
theorem dX0_bestToLaugh_59 : decode cX0_bestToLaugh 59 = .ok (.istore_n 3, 1) := by decide +kernel
theorem dX0_bestToLaugh_60 : decode cX0_bestToLaugh 60 = .ok (.iinc 6 1, 3) := by decide +kernel
theorem dX0_bestToLaugh_63 : decode cX0_bestToLaugh 63 = .ok (.goto (-49), 3) := by decide +kernel
theorem dX0_bestToLaugh_66 : decode cX0_bestToLaugh 66 = .ok (.iload_n 3, 1) := by decide +kernel
theorem dX0_bestToLaugh_67 : decode cX0_bestToLaugh 67 = .ok (.ireturn, 1) := by decide +kernel
def fX0_bestToLaugh_60 (r14 : Int32 → Int32 → Int32 → Int64 → Int32 → zS → Option (Int32 × zS)) (x1 : Int32) (x2 : Int32) (x3 : Int32) (x4 : Int64) (x6 : Int32) (σ : zS) : Option (Int32 × zS) := r14 x1 x2 x3 x4 (x6 + 1) σ
theorem kX0_bestToLaugh_60 {sc : Nat × (Nat → Int32)} (r14 : Int32 → Int32 → Int32 → Int64 → Int32 → zS → Option (Int32 × zS)) (hr14 : ∀ (x1 : Int32) (x2 : Int32) (x3 : Int32) (x4 : Int64) (x6 : Int32) (σ : zS) (w : Int32 × zS), r14 x1 x2 x3 x4 x6 σ = some w → zR (zY0 sc) 6 0 0 mX0_bestToLaugh 14 [(0, .ref 27), (1, .int x1), (2, .int x2), (3, .int x3), (4, .long x4), (6, .int x6)] [] (zE σ) (some (.int w.1), zE w.2)) (x1 : Int32) (x2 : Int32) (x3 : Int32) (x4 : Int64) (x6 : Int32) (σ : zS) (w : Int32 × zS) (h : fX0_bestToLaugh_60 r14 x1 x2 x3 x4 x6 σ = some w) : zR (zY0 sc) 6 0 0 mX0_bestToLaugh 60 [(0, .ref 27), (1, .int x1), (2, .int x2), (3, .int x3), (4, .long x4), (6, .int x6)] [] (zE σ) (some (.int w.1), zE w.2) := by
  unfold fX0_bestToLaugh_60 at h
  refine zR.iinc 5 (v := x6 + 1) (ls' := [(6, .int (x6 + 1)), (0, .ref 27), (1, .int x1), (2, .int x2), (3, .int x3), (4, .long x4)]) dX0_bestToLaugh_60 rfl rfl (by decide) rfl ?_
  refine zR.goto (tgt := 14) dX0_bestToLaugh_63 (by decide) ?_
  refine zR.sub [1, 2, 3, 4, 5, 0] rfl ?_
  exact hr14 _ _ _ _ _ _ _ h
def fX0_bestToLaugh_14 : Nat → Int32 → Int32 → Int32 → Int64 → Int32 → zS → Option (Int32 × zS)
  | 0, _, _, _, _, _, _ => none
  | f + 1, x1, x2, x3, x4, x6, σ => if (iG σ (rp σ.2.2.2.1 + 0) 2) ≤ x6 then some (x3, σ) else if x6 = x1 then fX0_bestToLaugh_60 (fX0_bestToLaugh_14 f) x1 x2 x3 x4 x6 σ else bnc (fX0_totalAmong x1 x2 x6 σ) fun v6 σ4 => if v6 ≤ x4 then fX0_bestToLaugh_60 (fX0_bestToLaugh_14 f) x1 x2 x3 x4 x6 σ4 else fX0_bestToLaugh_60 (fX0_bestToLaugh_14 f) x1 x2 x6 v6 x6 σ4
theorem kX0_bestToLaugh_14 {sc : Nat × (Nat → Int32)} : ∀ (fuel : Nat) (x1 : Int32) (x2 : Int32) (x3 : Int32) (x4 : Int64) (x6 : Int32) (σ : zS) (w : Int32 × zS) (h : fX0_bestToLaugh_14 fuel x1 x2 x3 x4 x6 σ = some w), zR (zY0 sc) 6 0 0 mX0_bestToLaugh 14 [(0, .ref 27), (1, .int x1), (2, .int x2), (3, .int x3), (4, .long x4), (6, .int x6)] [] (zE σ) (some (.int w.1), zE w.2) := by
  intro fuel
  induction fuel with
  | zero => intro x1 x2 x3 x4 x6 σ w h; exact nomatch h
  | succ f ih =>
    intro x1 x2 x3 x4 x6 σ w h
    rw [fX0_bestToLaugh_14] at h
    refine kR.iload dX0_bestToLaugh_14 5 rfl ?_
    refine kR.aload_n dX0_bestToLaugh_16 0 rfl ?_
    refine kR.getR (v := 8) dX0_bestToLaugh_17 flX0_51 zcf0 zp27 (Or.inl ⟨_, rfl⟩) rfl ?_
    refine kR.getR (v := (rp σ.2.2.2.1 + 0)) dX0_bestToLaugh_20 flX0_63 zcf4 zp8 (Or.inl ⟨_, rfl⟩) rfl ?_
    refine kR.getI dX0_bestToLaugh_23 flX0_130 zcf6 (zq0 σ.2.2.2.1) (Or.inl rfl) ?_
    refine kR.icmp_ge (tgt := 66) dX0_bestToLaugh_26 (by decide) h (fun h => ?_) (fun h => ?_)
    · refine kR.iload_n dX0_bestToLaugh_66 3 rfl ?_
      exact kR.iretW dX0_bestToLaugh_67 (nzI rfl _) h
    · refine kR.iload dX0_bestToLaugh_29 5 rfl ?_
      refine kR.iload_n dX0_bestToLaugh_31 1 rfl ?_
      refine kR.icmp_eq (tgt := 60) dX0_bestToLaugh_32 (by decide) h (fun h => ?_) (fun h => ?_)
      · exact kX0_bestToLaugh_60 (fX0_bestToLaugh_14 f) ih _ _ _ _ _ _ _ h
      · refine kR.aload_n dX0_bestToLaugh_35 0 rfl ?_
        refine kR.iload_n dX0_bestToLaugh_36 1 rfl ?_
        refine kR.iload_n dX0_bestToLaugh_37 2 rfl ?_
        refine kR.iload dX0_bestToLaugh_38 5 rfl ?_
        obtain ⟨v6, σ4, e5, h⟩ := bnc_some h
        refine kR.cVl [.int x1, .int x2, .int x6] dX0_bestToLaugh_40 rfl (by decide) mwX0_179 zp27 (by decide) rfl rfl (Nat.le_of_ble_eq_true rfl) (lX0_totalAmong x1 x2 x6 σ _ e5) ?_
        refine zR.lstore (i := 7) (ls' := [(7, .long v6), (0, .ref 27), (1, .int x1), (2, .int x2), (3, .int x3), (4, .long x4), (6, .int x6)]) dX0_bestToLaugh_43 (by decide) rfl ?_
        refine kR.lload dX0_bestToLaugh_45 0 rfl ?_
        refine kR.lload dX0_bestToLaugh_47 5 rfl ?_
        refine kR.lcmp_le (tgt := 60) dX0_bestToLaugh_49 dX0_bestToLaugh_50 (by decide) h (fun h => ?_) (fun h => ?_)
        · refine zR.sub [1, 2, 3, 4, 5, 6] rfl ?_
          exact kX0_bestToLaugh_60 (fX0_bestToLaugh_14 f) ih _ _ _ _ _ _ _ h
        · refine kR.lload dX0_bestToLaugh_53 0 rfl ?_
          refine zR.lstore (i := 4) (ls' := [(4, .long v6), (7, .long v6), (0, .ref 27), (1, .int x1), (2, .int x2), (3, .int x3), (6, .int x6)]) dX0_bestToLaugh_55 (by decide) rfl ?_
          refine kR.iload dX0_bestToLaugh_57 6 rfl ?_
          refine zR.istore_n (i := 3) (ls' := [(3, .int x6), (4, .long v6), (7, .long v6), (0, .ref 27), (1, .int x1), (2, .int x2), (6, .int x6)]) dX0_bestToLaugh_59 rfl (by decide) rfl ?_
          refine zR.sub [3, 4, 5, 0, 1, 6] rfl ?_
          exact kX0_bestToLaugh_60 (fX0_bestToLaugh_14 f) ih _ _ _ _ _ _ _ h
def fX0_bestToLaugh (p1 : Int32) (p2 : Int32) (σ : zS) : Option (Int32 × zS) := bnc (fX0_totalAmong p1 p2 ((-1)) σ) fun v3 σ1 => fX0_bestToLaugh_14 zF p1 p2 ((-1)) v3 0 σ1
theorem eX0_bestToLaugh {sc : Nat × (Nat → Int32)} (p1 : Int32) (p2 : Int32) (σ : zS) (w : Int32 × zS) (h : fX0_bestToLaugh p1 p2 σ = some w) : zR (zY0 sc) 6 0 0 mX0_bestToLaugh 0 [(0, .ref 27), (1, .int p1), (2, .int p2)] [] (zE σ) (some (.int w.1), zE w.2) := by
  unfold fX0_bestToLaugh at h
  refine zR.iconst (v := (-1)) dX0_bestToLaugh_0 (by decide) ?_
  refine zR.istore_n (i := 3) (ls' := [(3, .int ((-1))), (0, .ref 27), (1, .int p1), (2, .int p2)]) dX0_bestToLaugh_1 rfl (by decide) rfl ?_
  refine kR.aload_n dX0_bestToLaugh_2 1 rfl ?_
  refine kR.iload_n dX0_bestToLaugh_3 2 rfl ?_
  refine kR.iload_n dX0_bestToLaugh_4 3 rfl ?_
  refine zR.iconst (v := (-1)) dX0_bestToLaugh_5 (by decide) ?_
  obtain ⟨v3, σ1, e2, h⟩ := bnc_some h
  refine kR.cVl [.int p1, .int p2, .int ((-1))] dX0_bestToLaugh_6 rfl (by decide) mwX0_179 zp27 (by decide) rfl rfl (Nat.le_of_ble_eq_true rfl) (lX0_totalAmong p1 p2 ((-1)) σ _ e2) ?_
  refine zR.lstore (i := 4) (ls' := [(4, .long v3), (3, .int ((-1))), (0, .ref 27), (1, .int p1), (2, .int p2)]) dX0_bestToLaugh_9 (by decide) rfl ?_
  refine zR.iconst (v := 0) dX0_bestToLaugh_11 (by decide) ?_
  refine zR.istore (i := 6) (ls' := [(6, .int 0), (4, .long v3), (3, .int ((-1))), (0, .ref 27), (1, .int p1), (2, .int p2)]) dX0_bestToLaugh_12 (by decide) rfl ?_
  refine zR.sub [3, 4, 5, 2, 1, 0] rfl ?_
  exact kX0_bestToLaugh_14 zF _ _ _ _ _ _ _ h
theorem lX0_bestToLaugh {sc : Nat × (Nat → Int32)} (p1 : Int32) (p2 : Int32) (σ : zS) (w : Int32 × zS) (h : fX0_bestToLaugh p1 p2 σ = some w) : zC (zY0 sc) 6 0 0 mX0_bestToLaugh [.ref 27, .int p1, .int p2] (zE σ) (some (.int w.1), zE w.2) := zC.of (by decide +kernel) (Nat.le_of_ble_eq_true rfl) ⟨_, rfl⟩ (eX0_bestToLaugh p1 p2 σ w h)
theorem dX10_whom_0 : decode cX10_whom 0 = .ok (.aload_n 0, 1) := by decide +kernel
theorem dX10_whom_1 : decode cX10_whom 1 = .ok (.getfield 38, 3) := by decide +kernel
theorem dX10_whom_4 : decode cX10_whom 4 = .ok (.getfield 111, 3) := by decide +kernel
theorem dX10_whom_7 : decode cX10_whom 7 = .ok (.iload_n 1, 1) := by decide +kernel
theorem dX10_whom_8 : decode cX10_whom 8 = .ok (.iload_n 2, 1) := by decide +kernel
theorem dX10_whom_9 : decode cX10_whom 9 = .ok (.invokevirtual 206, 3) := by decide +kernel
theorem dX10_whom_12 : decode cX10_whom 12 = .ok (.ifCond .eq 12, 3) := by decide +kernel
theorem dX10_whom_15 : decode cX10_whom 15 = .ok (.iload_n 3, 1) := by decide +kernel
theorem dX10_whom_16 : decode cX10_whom 16 = .ok (.ifCond .lt 8, 3) := by decide +kernel
theorem dX10_whom_19 : decode cX10_whom 19 = .ok (.iload_n 3, 1) := by decide +kernel
theorem dX10_whom_20 : decode cX10_whom 20 = .ok (.iconst 1, 1) := by decide +kernel
theorem dX10_whom_21 : decode cX10_whom 21 = .ok (.if_icmp .le 6, 3) := by decide +kernel
theorem dX10_whom_24 : decode cX10_whom 24 = .ok (.ldc 201, 2) := by decide +kernel
theorem dX10_whom_26 : decode cX10_whom 26 = .ok (.ireturn, 1) := by decide +kernel
theorem dX10_whom_27 : decode cX10_whom 27 = .ok (.aload_n 0, 1) := by decide +kernel
theorem dX10_whom_28 : decode cX10_whom 28 = .ok (.getfield 47, 3) := by decide +kernel
theorem dX10_whom_31 : decode cX10_whom 31 = .ok (.iload_n 1, 1) := by decide +kernel
theorem dX10_whom_32 : decode cX10_whom 32 = .ok (.iload_n 2, 1) := by decide +kernel
theorem dX10_whom_33 : decode cX10_whom 33 = .ok (.invokevirtual 263, 3) := by decide +kernel
theorem dX10_whom_36 : decode cX10_whom 36 = .ok (.istore 4, 2) := by decide +kernel
theorem dX10_whom_38 : decode cX10_whom 38 = .ok (.iload_n 3, 1) := by decide +kernel
theorem dX10_whom_39 : decode cX10_whom 39 = .ok (.ifCond .ne 6, 3) := by decide +kernel
theorem dX10_whom_42 : decode cX10_whom 42 = .ok (.iload 4, 2) := by decide +kernel
theorem dX10_whom_44 : decode cX10_whom 44 = .ok (.ireturn, 1) := by decide +kernel
theorem dX10_whom_45 : decode cX10_whom 45 = .ok (.aload_n 0, 1) := by decide +kernel
theorem dX10_whom_46 : decode cX10_whom 46 = .ok (.getfield 47, 3) := by decide +kernel
theorem dX10_whom_49 : decode cX10_whom 49 = .ok (.iload_n 1, 1) := by decide +kernel
theorem dX10_whom_50 : decode cX10_whom 50 = .ok (.iload_n 2, 1) := by decide +kernel
theorem dX10_whom_51 : decode cX10_whom 51 = .ok (.iload 4, 2) := by decide +kernel
theorem dX10_whom_53 : decode cX10_whom 53 = .ok (.invokevirtual 266, 3) := by decide +kernel
theorem dX10_whom_56 : decode cX10_whom 56 = .ok (.aload_n 0, 1) := by decide +kernel
theorem dX10_whom_57 : decode cX10_whom 57 = .ok (.getfield 38, 3) := by decide +kernel
theorem dX10_whom_60 : decode cX10_whom 60 = .ok (.getfield 111, 3) := by decide +kernel
theorem dX10_whom_63 : decode cX10_whom 63 = .ok (.iload_n 2, 1) := by decide +kernel
theorem dX10_whom_64 : decode cX10_whom 64 = .ok (.invokevirtual 180, 3) := by decide +kernel
theorem dX10_whom_67 : decode cX10_whom 67 = .ok (.i2l, 1) := by decide +kernel
theorem dX10_whom_68 : decode cX10_whom 68 = .ok (.invokestatic 202, 3) := by decide +kernel
theorem dX10_whom_71 : decode cX10_whom 71 = .ok (.ireturn, 1) := by decide +kernel
def fX10_whom (p1 : Int32) (p2 : Int32) (p3 : Int32) (σ : zS) : Option (Int32 × zS) := if (fX6_hasBoth σ.2.2.2.1 σ p1 p2) = 0 then some ((-1000000000), σ) else if p3 < 0 then some ((-1000000000), σ) else if p3 ≤ 1 then bnc (fX0_bestToLaugh p1 p2 σ) fun v3 σ1 => if p3 = 0 then some (v3, σ1) else bnc (fX0_totalAmong p1 p2 v3 σ1) fun v6 σ4 => bnr (fX6_allWeights σ4.2.2.2.1 σ4 p2) fun v7 => bnr (fX10_thousandths v6 v7.toInt64) fun v9 => some (v9, σ4) else some ((-1000000000), σ)
theorem eX10_whom {sc : Nat × (Nat → Int32)} (p1 : Int32) (p2 : Int32) (p3 : Int32) (σ : zS) (w : Int32 × zS) (h : fX10_whom p1 p2 p3 σ = some w) : zR (zY0 sc) 7 0 0 mX10_whom 0 [(0, .ref 1), (1, .int p1), (2, .int p2), (3, .int p3)] [] (zE σ) (some (.int w.1), zE w.2) := by
  unfold fX10_whom at h
  refine kR.aload_n dX10_whom_0 0 rfl ?_
  refine kR.getR (v := 8) dX10_whom_1 flX10_38 zcf10 zp1 (Or.inl ⟨_, rfl⟩) rfl ?_
  refine kR.getR (v := (rp σ.2.2.2.1 + 0)) dX10_whom_4 flX10_111 zcf4 zp8 (Or.inl ⟨_, rfl⟩) rfl ?_
  refine kR.iload_n dX10_whom_7 1 rfl ?_
  refine kR.iload_n dX10_whom_8 2 rfl ?_
  refine kR.cVi [.int p1, .int p2] dX10_whom_9 rfl (by decide) mwX10_206 (zq0 σ.2.2.2.1) (by decide) rfl rfl (Nat.le_of_ble_eq_true rfl) (lX6_hasBoth σ.2.2.2.1 σ p1 p2) ?_
  refine kR.if_eq (tgt := 24) dX10_whom_12 (by decide) h (fun h => ?_) (fun h => ?_)
  · refine zR.ldc (v := (-1000000000)) dX10_whom_24 ciX10_201 ?_
    exact kR.iretW dX10_whom_26 (nzI rfl _) h
  · refine kR.iload_n dX10_whom_15 3 rfl ?_
    refine kR.if_lt (tgt := 24) dX10_whom_16 (by decide) h (fun h => ?_) (fun h => ?_)
    · refine zR.ldc (v := (-1000000000)) dX10_whom_24 ciX10_201 ?_
      exact kR.iretW dX10_whom_26 (nzI rfl _) h
    · refine kR.iload_n dX10_whom_19 3 rfl ?_
      refine zR.iconst (v := 1) dX10_whom_20 (by decide) ?_
      refine kR.icmp_le (tgt := 27) dX10_whom_21 (by decide) h (fun h => ?_) (fun h => ?_)
      · refine kR.aload_n dX10_whom_27 0 rfl ?_
        refine kR.getR (v := 27) dX10_whom_28 flX10_47 zcf10 zp1 (Or.inl ⟨_, rfl⟩) rfl ?_
        refine kR.iload_n dX10_whom_31 1 rfl ?_
        refine kR.iload_n dX10_whom_32 2 rfl ?_
        obtain ⟨v3, σ1, e2, h⟩ := bnc_some h
        refine kR.cVi [.int p1, .int p2] dX10_whom_33 rfl (by decide) mwX10_263 zp27 (by decide) rfl rfl (Nat.le_of_ble_eq_true rfl) (lX0_bestToLaugh p1 p2 σ _ e2) ?_
        refine zR.istore (i := 4) (ls' := [(4, .int v3), (0, .ref 1), (1, .int p1), (2, .int p2), (3, .int p3)]) dX10_whom_36 (by decide) rfl ?_
        refine kR.iload_n dX10_whom_38 4 rfl ?_
        refine kR.if_ne (tgt := 45) dX10_whom_39 (by decide) h (fun h => ?_) (fun h => ?_)
        · refine kR.aload_n dX10_whom_45 1 rfl ?_
          refine kR.getR (v := 27) dX10_whom_46 flX10_47 zcf10 zp1 (Or.inl ⟨_, rfl⟩) rfl ?_
          refine kR.iload_n dX10_whom_49 2 rfl ?_
          refine kR.iload_n dX10_whom_50 3 rfl ?_
          refine kR.iload dX10_whom_51 0 rfl ?_
          obtain ⟨v6, σ4, e5, h⟩ := bnc_some h
          refine kR.cVl [.int p1, .int p2, .int v3] dX10_whom_53 rfl (by decide) mwX10_266 zp27 (by decide) rfl rfl (Nat.le_of_ble_eq_true rfl) (lX0_totalAmong p1 p2 v3 σ1 _ e5) ?_
          refine kR.aload_n dX10_whom_56 1 rfl ?_
          refine kR.getR (v := 8) dX10_whom_57 flX10_38 zcf10 zp1 (Or.inl ⟨_, rfl⟩) rfl ?_
          refine kR.getR (v := (rp σ4.2.2.2.1 + 0)) dX10_whom_60 flX10_111 zcf4 zp8 (Or.inl ⟨_, rfl⟩) rfl ?_
          refine kR.iload_n dX10_whom_63 3 rfl ?_
          obtain ⟨v7, e8, h⟩ := bnr_some h
          refine kR.cVi [.int p2] dX10_whom_64 rfl (by decide) mwX10_180 (zq0 σ4.2.2.2.1) (by decide) rfl rfl (Nat.le_of_ble_eq_true rfl) (lX6_allWeights σ4.2.2.2.1 σ4 p2 _ e8) ?_
          refine zR.i2l dX10_whom_67 ?_
          obtain ⟨v9, e10, h⟩ := bnr_some h
          refine kR.cSi [.long v6, .long (v7.toInt64)] dX10_whom_68 rfl (by decide) (Or.inl mwX10_202) rfl (Nat.le_of_ble_eq_true rfl) (lX10_thousandths v6 v7.toInt64 _ e10) ?_
          exact kR.iretW dX10_whom_71 (nzI rfl _) h
        · refine kR.iload dX10_whom_42 0 rfl ?_
          exact kR.iretW dX10_whom_44 (nzI rfl _) h
      · refine zR.ldc (v := (-1000000000)) dX10_whom_24 ciX10_201 ?_
        exact kR.iretW dX10_whom_26 (nzI rfl _) h
theorem lX10_whom {sc : Nat × (Nat → Int32)} (p1 : Int32) (p2 : Int32) (p3 : Int32) (σ : zS) (w : Int32 × zS) (h : fX10_whom p1 p2 p3 σ = some w) : zC (zY0 sc) 7 0 0 mX10_whom [.ref 1, .int p1, .int p2, .int p3] (zE σ) (some (.int w.1), zE w.2) := zC.of (by decide +kernel) (Nat.le_of_ble_eq_true rfl) ⟨_, rfl⟩ (eX10_whom p1 p2 p3 σ w h)
theorem dX10_isSecond_0 : decode cX10_isSecond 0 = .ok (.iload_n 0, 1) := by decide +kernel
theorem dX10_isSecond_1 : decode cX10_isSecond 1 = .ok (.ifCond .lt 13, 3) := by decide +kernel
theorem dX10_isSecond_4 : decode cX10_isSecond 4 = .ok (.iload_n 0, 1) := by decide +kernel
theorem dX10_isSecond_5 : decode cX10_isSecond 5 = .ok (.bipush 60, 2) := by decide +kernel
theorem dX10_isSecond_7 : decode cX10_isSecond 7 = .ok (.if_icmp .gt 7, 3) := by decide +kernel
theorem dX10_isSecond_10 : decode cX10_isSecond 10 = .ok (.iconst 1, 1) := by decide +kernel
theorem dX10_isSecond_11 : decode cX10_isSecond 11 = .ok (.goto 4, 3) := by decide +kernel
theorem dX10_isSecond_14 : decode cX10_isSecond 14 = .ok (.iconst 0, 1) := by decide +kernel
theorem dX10_isSecond_15 : decode cX10_isSecond 15 = .ok (.ireturn, 1) := by decide +kernel
def fX10_isSecond (p0 : Int32) : Int32 := if p0 < 0 then 0 else if 60 < p0 then 0 else 1
theorem eX10_isSecond {sc : Nat × (Nat → Int32)} {μ : zM} (p0 : Int32) (w : Int32) (h : fX10_isSecond p0 = w) : zR (zY0 sc) 1 0 0 mX10_isSecond 0 [(0, .int p0)] [] μ (some (.int w), μ) := by
  unfold fX10_isSecond at h
  refine kR.iload_n dX10_isSecond_0 0 rfl ?_
  refine kR.if_lt (tgt := 14) dX10_isSecond_1 (by decide) h (fun h => ?_) (fun h => ?_)
  · refine zR.iconst (v := 0) dX10_isSecond_14 (by decide) ?_
    exact kR.iret dX10_isSecond_15 (nzZ rfl (Or.inl rfl)) h
  · refine kR.iload_n dX10_isSecond_4 0 rfl ?_
    refine zR.bipush (v := 60) dX10_isSecond_5 (by decide) ?_
    refine kR.icmp_gt (tgt := 14) dX10_isSecond_7 (by decide) h (fun h => ?_) (fun h => ?_)
    · refine zR.iconst (v := 0) dX10_isSecond_14 (by decide) ?_
      exact kR.iret dX10_isSecond_15 (nzZ rfl (Or.inl rfl)) h
    · refine zR.iconst (v := 1) dX10_isSecond_10 (by decide) ?_
      refine zR.goto (tgt := 15) dX10_isSecond_11 (by decide) ?_
      exact kR.iret dX10_isSecond_15 (nzZ rfl (Or.inr rfl)) h
theorem lX10_isSecond {sc : Nat × (Nat → Int32)} {μ : zM} (p0 : Int32) : zC (zY0 sc) 1 0 0 mX10_isSecond [.int p0] μ (some (.int (fX10_isSecond p0)), μ) := zC.of (by decide +kernel) (Nat.le_of_ble_eq_true rfl) ⟨_, rfl⟩ (eX10_isSecond p0 _ rfl)
theorem dX1_take_0 : decode cX1_take 0 = .ok (.aload_n 1, 1) := by decide +kernel
theorem dX1_take_1 : decode cX1_take 1 = .ok (.getfield 25, 3) := by decide +kernel
theorem dX1_take_4 : decode cX1_take 4 = .ok (.iconst 2, 1) := by decide +kernel
theorem dX1_take_5 : decode cX1_take 5 = .ok (.idiv, 1) := by decide +kernel
theorem dX1_take_6 : decode cX1_take 6 = .ok (.istore 4, 2) := by decide +kernel
theorem dX1_take_8 : decode cX1_take 8 = .ok (.aload_n 2, 1) := by decide +kernel
theorem dX1_take_9 : decode cX1_take 9 = .ok (.iload_n 3, 1) := by decide +kernel
theorem dX1_take_10 : decode cX1_take 10 = .ok (.invokevirtual 30, 3) := by decide +kernel
theorem dX1_take_13 : decode cX1_take 13 = .ok (.ifCond .eq 25, 3) := by decide +kernel
theorem dX1_take_16 : decode cX1_take 16 = .ok (.aload_n 1, 1) := by decide +kernel
theorem dX1_take_17 : decode cX1_take 17 = .ok (.getfield 25, 3) := by decide +kernel
theorem dX1_take_20 : decode cX1_take 20 = .ok (.iconst 2, 1) := by decide +kernel
theorem dX1_take_21 : decode cX1_take 21 = .ok (.irem, 1) := by decide +kernel
theorem dX1_take_22 : decode cX1_take 22 = .ok (.ifCond .ne 16, 3) := by decide +kernel
theorem dX1_take_25 : decode cX1_take 25 = .ok (.iload 4, 2) := by decide +kernel
theorem dX1_take_27 : decode cX1_take 27 = .ok (.iconst 1, 1) := by decide +kernel
theorem dX1_take_28 : decode cX1_take 28 = .ok (.if_icmp .lt 10, 3) := by decide +kernel
theorem dX1_take_31 : decode cX1_take 31 = .ok (.iload 4, 2) := by decide +kernel
theorem dX1_take_33 : decode cX1_take 33 = .ok (.bipush 12, 2) := by decide +kernel
theorem dX1_take_35 : decode cX1_take 35 = .ok (.if_icmp .le 5, 3) := by decide +kernel
theorem dX1_take_38 : decode cX1_take 38 = .ok (.iconst 0, 1) := by decide +kernel
theorem dX1_take_39 : decode cX1_take 39 = .ok (.ireturn, 1) := by decide +kernel
theorem dX1_take_40 : decode cX1_take 40 = .ok (.iconst 0, 1) := by decide +kernel
theorem dX1_take_41 : decode cX1_take 41 = .ok (.istore 5, 2) := by decide +kernel
theorem dX1_take_43 : decode cX1_take 43 = .ok (.iload 5, 2) := by decide +kernel
theorem dX1_take_45 : decode cX1_take 45 = .ok (.iload 4, 2) := by decide +kernel
theorem dX1_take_47 : decode cX1_take 47 = .ok (.if_icmp .ge 42, 3) := by decide +kernel
theorem dX1_take_50 : decode cX1_take 50 = .ok (.aload_n 2, 1) := by decide +kernel
theorem dX1_take_51 : decode cX1_take 51 = .ok (.aload_n 1, 1) := by decide +kernel
theorem dX1_take_52 : decode cX1_take 52 = .ok (.iconst 2, 1) := by decide +kernel
theorem dX1_take_53 : decode cX1_take 53 = .ok (.iload 5, 2) := by decide +kernel
theorem dX1_take_55 : decode cX1_take 55 = .ok (.imul, 1) := by decide +kernel
theorem dX1_take_56 : decode cX1_take 56 = .ok (.invokevirtual 36, 3) := by decide +kernel
theorem dX1_take_59 : decode cX1_take 59 = .ok (.invokevirtual 40, 3) := by decide +kernel
theorem dX1_take_62 : decode cX1_take 62 = .ok (.ifCond .eq 19, 3) := by decide +kernel
theorem dX1_take_65 : decode cX1_take 65 = .ok (.aload_n 1, 1) := by decide +kernel
theorem dX1_take_66 : decode cX1_take 66 = .ok (.iconst 2, 1) := by decide +kernel
theorem dX1_take_67 : decode cX1_take 67 = .ok (.iload 5, 2) := by decide +kernel
theorem dX1_take_69 : decode cX1_take 69 = .ok (.imul, 1) := by decide +kernel
theorem dX1_take_70 : decode cX1_take 70 = .ok (.iconst 1, 1) := by decide +kernel
theorem dX1_take_71 : decode cX1_take 71 = .ok (.iadd, 1) := by decide +kernel
theorem dX1_take_72 : decode cX1_take 72 = .ok (.invokevirtual 36, 3) := by decide +kernel
theorem dX1_take_75 : decode cX1_take 75 = .ok (.invokestatic 43, 3) := by decide +kernel
theorem dX1_take_78 : decode cX1_take 78 = .ok (.ifCond .ne 5, 3) := by decide +kernel
theorem dX1_take_81 : decode cX1_take 81 = .ok (.iconst 0, 1) := by decide +kernel
theorem dX1_take_82 : decode cX1_take 82 = .ok (.ireturn, 1) := by decide +kernel
theorem dX1_take_83 : decode cX1_take 83 = .ok (.iinc 5 1, 3) := by decide +kernel
theorem dX1_take_86 : decode cX1_take 86 = .ok (.goto (-43), 3) := by decide +kernel
theorem dX1_take_89 : decode cX1_take 89 = .ok (.iconst 0, 1) := by decide +kernel
theorem dX1_take_90 : decode cX1_take 90 = .ok (.istore 5, 2) := by decide +kernel
theorem dX1_take_92 : decode cX1_take 92 = .ok (.iload 5, 2) := by decide +kernel
theorem dX1_take_94 : decode cX1_take 94 = .ok (.iload 4, 2) := by decide +kernel
theorem dX1_take_96 : decode cX1_take 96 = .ok (.if_icmp .ge 41, 3) := by decide +kernel
theorem dX1_take_99 : decode cX1_take 99 = .ok (.aload_n 0, 1) := by decide +kernel
theorem dX1_take_100 : decode cX1_take 100 = .ok (.getfield 9, 3) := by decide +kernel
theorem dX1_take_103 : decode cX1_take 103 = .ok (.iload 5, 2) := by decide +kernel
theorem dX1_take_105 : decode cX1_take 105 = .ok (.aload_n 1, 1) := by decide +kernel
theorem dX1_take_106 : decode cX1_take 106 = .ok (.iconst 2, 1) := by decide +kernel
theorem dX1_take_107 : decode cX1_take 107 = .ok (.iload 5, 2) := by decide +kernel
theorem dX1_take_109 : decode cX1_take 109 = .ok (.imul, 1) := by decide +kernel
theorem dX1_take_110 : decode cX1_take 110 = .ok (.invokevirtual 36, 3) := by decide +kernel
theorem dX1_take_113 : decode cX1_take 113 = .ok (.iastore, 1) := by decide +kernel
theorem dX1_take_114 : decode cX1_take 114 = .ok (.aload_n 0, 1) := by decide +kernel
theorem dX1_take_115 : decode cX1_take 115 = .ok (.getfield 15, 3) := by decide +kernel
theorem dX1_take_118 : decode cX1_take 118 = .ok (.iload 5, 2) := by decide +kernel
theorem dX1_take_120 : decode cX1_take 120 = .ok (.aload_n 1, 1) := by decide +kernel
theorem dX1_take_121 : decode cX1_take 121 = .ok (.iconst 2, 1) := by decide +kernel
theorem dX1_take_122 : decode cX1_take 122 = .ok (.iload 5, 2) := by decide +kernel
theorem dX1_take_124 : decode cX1_take 124 = .ok (.imul, 1) := by decide +kernel
theorem dX1_take_125 : decode cX1_take 125 = .ok (.iconst 1, 1) := by decide +kernel
theorem dX1_take_126 : decode cX1_take 126 = .ok (.iadd, 1) := by decide +kernel
theorem dX1_take_127 : decode cX1_take 127 = .ok (.invokevirtual 36, 3) := by decide +kernel
theorem dX1_take_130 : decode cX1_take 130 = .ok (.iastore, 1) := by decide +kernel
theorem dX1_take_131 : decode cX1_take 131 = .ok (.iinc 5 1, 3) := by decide +kernel
theorem dX1_take_134 : decode cX1_take 134 = .ok (.goto (-42), 3) := by decide +kernel
theorem dX1_take_137 : decode cX1_take 137 = .ok (.aload_n 0, 1) := by decide +kernel
theorem dX1_take_138 : decode cX1_take 138 = .ok (.iload_n 3, 1) := by decide +kernel
theorem dX1_take_139 : decode cX1_take 139 = .ok (.putfield 18, 3) := by decide +kernel
theorem dX1_take_142 : decode cX1_take 142 = .ok (.aload_n 0, 1) := by decide +kernel
theorem dX1_take_143 : decode cX1_take 143 = .ok (.iload 4, 2) := by decide +kernel
theorem dX1_take_145 : decode cX1_take 145 = .ok (.putfield 22, 3) := by decide +kernel
theorem dX1_take_148 : decode cX1_take 148 = .ok (.iconst 1, 1) := by decide +kernel
theorem dX1_take_149 : decode cX1_take 149 = .ok (.ireturn, 1) := by decide +kernel
def fX1_take_92 (b2 : Bool) : Nat → Int32 → Int32 → Int32 → zS → Option (Int32 × zS)
  | 0, _, _, _, _ => none
  | f + 1, x3, x4, x5, σ => if x4 ≤ x5 then bnd (iS σ 32 2 x3) fun σ1 => bnd (iS σ1 32 3 x4) fun σ2 => some (1, σ2) else bnr (fX9_byteAt σ (2 * x5)) fun v3 => wI σ 33 12 x5 v3 fun σ5 => bnr (fX9_byteAt σ5 ((2 * x5) + 1)) fun v6 => wI σ5 34 12 x5 v6 fun σ8 => fX1_take_92 b2 f x3 x4 (x5 + 1) σ8
theorem kX1_take_92 {sc : Nat × (Nat → Int32)} (b2 : Bool) : ∀ (fuel : Nat) (x3 : Int32) (x4 : Int32) (x5 : Int32) (σ : zS) (w : Int32 × zS) (h : fX1_take_92 b2 fuel x3 x4 x5 σ = some w), zR (zY0 sc) 2 0 0 mX1_take 92 [(0, .ref 32), (1, .ref 2), (3, .int x3), (4, .int x4), (5, .int x5)] [] (zE σ) (some (.int w.1), zE w.2) := by
  intro fuel
  induction fuel with
  | zero => intro x3 x4 x5 σ w h; exact nomatch h
  | succ f ih =>
    intro x3 x4 x5 σ w h
    rw [fX1_take_92] at h
    refine kR.iload dX1_take_92 4 rfl ?_
    refine kR.iload dX1_take_94 3 rfl ?_
    refine kR.icmp_ge (tgt := 137) dX1_take_96 (by decide) h (fun h => ?_) (fun h => ?_)
    · refine kR.aload_n dX1_take_137 0 rfl ?_
      refine kR.iload_n dX1_take_138 2 rfl ?_
      refine kR.putI dX1_take_139 fpX1_18 zcf1 zp32 rfl h (fun σ1 h => ?_)
      refine kR.aload_n dX1_take_142 0 rfl ?_
      refine kR.iload dX1_take_143 3 rfl ?_
      refine kR.putI dX1_take_145 fpX1_22 zcf1 zp32 rfl h (fun σ2 h => ?_)
      refine zR.iconst (v := 1) dX1_take_148 (by decide) ?_
      exact kR.iretW dX1_take_149 (nzZ rfl (Or.inr rfl)) h
    · refine kR.aload_n dX1_take_99 0 rfl ?_
      refine kR.getR (v := 33) dX1_take_100 flX1_9 zcf1 zp32 (Or.inr ⟨_, rfl⟩) rfl ?_
      refine kR.iload dX1_take_103 4 rfl ?_
      refine kR.aload_n dX1_take_105 1 rfl ?_
      refine zR.iconst (v := 2) dX1_take_106 (by decide) ?_
      refine kR.iload dX1_take_107 4 rfl ?_
      refine zR.imul dX1_take_109 ?_
      obtain ⟨v3, e4, h⟩ := bnr_some h
      refine kR.cVi [.int (2 * x5)] dX1_take_110 rfl (by decide) mwX1_36 zp2 (by decide) rfl rfl (Nat.le_of_ble_eq_true rfl) (lX9_byteAt σ (2 * x5) _ e4) ?_
      refine kR.iast dX1_take_113 zp33 rfl h (fun σ5 h => ?_)
      refine kR.aload_n dX1_take_114 0 rfl ?_
      refine kR.getR (v := 34) dX1_take_115 flX1_15 zcf1 zp32 (Or.inr ⟨_, rfl⟩) rfl ?_
      refine kR.iload dX1_take_118 4 rfl ?_
      refine kR.aload_n dX1_take_120 1 rfl ?_
      refine zR.iconst (v := 2) dX1_take_121 (by decide) ?_
      refine kR.iload dX1_take_122 4 rfl ?_
      refine zR.imul dX1_take_124 ?_
      refine zR.iconst (v := 1) dX1_take_125 (by decide) ?_
      refine zR.iadd dX1_take_126 ?_
      obtain ⟨v6, e7, h⟩ := bnr_some h
      refine kR.cVi [.int ((2 * x5) + 1)] dX1_take_127 rfl (by decide) mwX1_36 zp2 (by decide) rfl rfl (Nat.le_of_ble_eq_true rfl) (lX9_byteAt σ5 ((2 * x5) + 1) _ e7) ?_
      refine kR.iast dX1_take_130 zp34 rfl h (fun σ8 h => ?_)
      refine zR.iinc 4 (v := x5 + 1) (ls' := [(5, .int (x5 + 1)), (0, .ref 32), (1, .ref 2), (3, .int x3), (4, .int x4)]) dX1_take_131 rfl rfl (by decide) rfl ?_
      refine zR.goto (tgt := 92) dX1_take_134 (by decide) ?_
      refine zR.sub [1, 2, 3, 4, 0] rfl ?_
      exact ih _ _ _ _ _ h
def fX1_take_43 (b2 : Bool) : Nat → Int32 → Int32 → Int32 → zS → Option (Int32 × zS)
  | 0, _, _, _, _ => none
  | f + 1, x3, x4, x5, σ => if x4 ≤ x5 then fX1_take_92 b2 zF x3 x4 0 σ else bnr (fX9_byteAt σ (2 * x5)) fun v9 => if (fX6_hasHolder b2 σ v9) = 0 then some (0, σ) else bnr (fX9_byteAt σ ((2 * x5) + 1)) fun v11 => if (fX10_isSecond v11) = 0 then some (0, σ) else fX1_take_43 b2 f x3 x4 (x5 + 1) σ
theorem kX1_take_43 {sc : Nat × (Nat → Int32)} (b2 : Bool) : ∀ (fuel : Nat) (x3 : Int32) (x4 : Int32) (x5 : Int32) (σ : zS) (w : Int32 × zS) (h : fX1_take_43 b2 fuel x3 x4 x5 σ = some w), zR (zY0 sc) 2 0 0 mX1_take 43 [(0, .ref 32), (1, .ref 2), (2, .ref (rp b2 + 0)), (3, .int x3), (4, .int x4), (5, .int x5)] [] (zE σ) (some (.int w.1), zE w.2) := by
  intro fuel
  induction fuel with
  | zero => intro x3 x4 x5 σ w h; exact nomatch h
  | succ f ih =>
    intro x3 x4 x5 σ w h
    rw [fX1_take_43] at h
    refine kR.iload dX1_take_43 5 rfl ?_
    refine kR.iload dX1_take_45 4 rfl ?_
    refine kR.icmp_ge (tgt := 89) dX1_take_47 (by decide) h (fun h => ?_) (fun h => ?_)
    · refine zR.iconst (v := 0) dX1_take_89 (by decide) ?_
      refine zR.istore (i := 5) (ls' := [(5, .int 0), (0, .ref 32), (1, .ref 2), (2, .ref (rp b2 + 0)), (3, .int x3), (4, .int x4)]) dX1_take_90 (by decide) rfl ?_
      refine zR.sub [1, 2, 4, 5, 0] rfl ?_
      exact kX1_take_92 b2 zF _ _ _ _ _ h
    · refine kR.aload_n dX1_take_50 2 rfl ?_
      refine kR.aload_n dX1_take_51 1 rfl ?_
      refine zR.iconst (v := 2) dX1_take_52 (by decide) ?_
      refine kR.iload dX1_take_53 5 rfl ?_
      refine zR.imul dX1_take_55 ?_
      obtain ⟨v9, e10, h⟩ := bnr_some h
      refine kR.cVi [.int (2 * x5)] dX1_take_56 rfl (by decide) mwX1_36 zp2 (by decide) rfl rfl (Nat.le_of_ble_eq_true rfl) (lX9_byteAt σ (2 * x5) _ e10) ?_
      refine kR.cVi [.int v9] dX1_take_59 rfl (by decide) mwX1_40 (zq0 b2) (by decide) rfl rfl (Nat.le_of_ble_eq_true rfl) (lX6_hasHolder b2 σ v9) ?_
      refine kR.if_eq (tgt := 81) dX1_take_62 (by decide) h (fun h => ?_) (fun h => ?_)
      · refine zR.iconst (v := 0) dX1_take_81 (by decide) ?_
        exact kR.iretW dX1_take_82 (nzZ rfl (Or.inl rfl)) h
      · refine kR.aload_n dX1_take_65 1 rfl ?_
        refine zR.iconst (v := 2) dX1_take_66 (by decide) ?_
        refine kR.iload dX1_take_67 5 rfl ?_
        refine zR.imul dX1_take_69 ?_
        refine zR.iconst (v := 1) dX1_take_70 (by decide) ?_
        refine zR.iadd dX1_take_71 ?_
        obtain ⟨v11, e12, h⟩ := bnr_some h
        refine kR.cVi [.int ((2 * x5) + 1)] dX1_take_72 rfl (by decide) mwX1_36 zp2 (by decide) rfl rfl (Nat.le_of_ble_eq_true rfl) (lX9_byteAt σ ((2 * x5) + 1) _ e12) ?_
        refine kR.cSi [.int v11] dX1_take_75 rfl (by decide) (Or.inr mwX1_43) rfl (Nat.le_of_ble_eq_true rfl) (lX10_isSecond v11) ?_
        refine kR.if_ne (tgt := 83) dX1_take_78 (by decide) h (fun h => ?_) (fun h => ?_)
        · refine zR.iinc 5 (v := x5 + 1) (ls' := [(5, .int (x5 + 1)), (0, .ref 32), (1, .ref 2), (2, .ref (rp b2 + 0)), (3, .int x3), (4, .int x4)]) dX1_take_83 rfl rfl (by decide) rfl ?_
          refine zR.goto (tgt := 43) dX1_take_86 (by decide) ?_
          refine zR.sub [1, 2, 3, 4, 5, 0] rfl ?_
          exact ih _ _ _ _ _ h
        · refine zR.iconst (v := 0) dX1_take_81 (by decide) ?_
          exact kR.iretW dX1_take_82 (nzZ rfl (Or.inl rfl)) h
def fX1_take (b2 : Bool) (p3 : Int32) (σ : zS) : Option (Int32 × zS) := if (fX6_hasTunnel b2 σ p3) = 0 then some (0, σ) else if ((iG σ 2 1) - (iG σ 2 1) / 2 * 2) = 0 then if ((iG σ 2 1) / 2) < 1 then some (0, σ) else if ((iG σ 2 1) / 2) ≤ 12 then fX1_take_43 b2 zF p3 ((iG σ 2 1) / 2) 0 σ else some (0, σ) else some (0, σ)
theorem eX1_take {sc : Nat × (Nat → Int32)} (b2 : Bool) (p3 : Int32) (σ : zS) (w : Int32 × zS) (h : fX1_take b2 p3 σ = some w) : zR (zY0 sc) 2 0 0 mX1_take 0 [(0, .ref 32), (1, .ref 2), (2, .ref (rp b2 + 0)), (3, .int p3)] [] (zE σ) (some (.int w.1), zE w.2) := by
  unfold fX1_take at h
  refine kR.aload_n dX1_take_0 1 rfl ?_
  refine kR.getI dX1_take_1 flX1_25 zcf9 zp2 (Or.inl rfl) ?_
  refine zR.iconst (v := 2) dX1_take_4 (by decide) ?_
  refine zR.idiv dX1_take_5 (by decide) ?_
  refine zR.istore (i := 4) (ls' := [(4, .int ((iG σ 2 1) / 2)), (0, .ref 32), (1, .ref 2), (2, .ref (rp b2 + 0)), (3, .int p3)]) dX1_take_6 (by decide) rfl ?_
  refine kR.aload_n dX1_take_8 3 rfl ?_
  refine kR.iload_n dX1_take_9 4 rfl ?_
  refine kR.cVi [.int p3] dX1_take_10 rfl (by decide) mwX1_30 (zq0 b2) (by decide) rfl rfl (Nat.le_of_ble_eq_true rfl) (lX6_hasTunnel b2 σ p3) ?_
  refine kR.if_eq (tgt := 38) dX1_take_13 (by decide) h (fun h => ?_) (fun h => ?_)
  · refine zR.iconst (v := 0) dX1_take_38 (by decide) ?_
    exact kR.iretW dX1_take_39 (nzZ rfl (Or.inl rfl)) h
  · refine kR.aload_n dX1_take_16 2 rfl ?_
    refine kR.getI dX1_take_17 flX1_25 zcf9 zp2 (Or.inl rfl) ?_
    refine zR.iconst (v := 2) dX1_take_20 (by decide) ?_
    refine zR.irem dX1_take_21 (by decide) ?_
    refine kR.if_ne (tgt := 38) dX1_take_22 (by decide) h (fun h => ?_) (fun h => ?_)
    · refine zR.iconst (v := 0) dX1_take_38 (by decide) ?_
      exact kR.iretW dX1_take_39 (nzZ rfl (Or.inl rfl)) h
    · refine kR.iload dX1_take_25 0 rfl ?_
      refine zR.iconst (v := 1) dX1_take_27 (by decide) ?_
      refine kR.icmp_lt (tgt := 38) dX1_take_28 (by decide) h (fun h => ?_) (fun h => ?_)
      · refine zR.iconst (v := 0) dX1_take_38 (by decide) ?_
        exact kR.iretW dX1_take_39 (nzZ rfl (Or.inl rfl)) h
      · refine kR.iload dX1_take_31 0 rfl ?_
        refine zR.bipush (v := 12) dX1_take_33 (by decide) ?_
        refine kR.icmp_le (tgt := 40) dX1_take_35 (by decide) h (fun h => ?_) (fun h => ?_)
        · refine zR.iconst (v := 0) dX1_take_40 (by decide) ?_
          refine zR.istore (i := 5) (ls' := [(5, .int 0), (4, .int ((iG σ 2 1) / 2)), (0, .ref 32), (1, .ref 2), (2, .ref (rp b2 + 0)), (3, .int p3)]) dX1_take_41 (by decide) rfl ?_
          refine zR.sub [2, 3, 4, 5, 1, 0] rfl ?_
          exact kX1_take_43 b2 zF _ _ _ _ _ h
        · refine zR.iconst (v := 0) dX1_take_38 (by decide) ?_
          exact kR.iretW dX1_take_39 (nzZ rfl (Or.inl rfl)) h
theorem lX1_take {sc : Nat × (Nat → Int32)} (b2 : Bool) (p3 : Int32) (σ : zS) (w : Int32 × zS) (h : fX1_take b2 p3 σ = some w) : zC (zY0 sc) 2 0 0 mX1_take [.ref 32, .ref 2, .ref (rp b2 + 0), .int p3] (zE σ) (some (.int w.1), zE w.2) := zC.of (by decide +kernel) (Nat.le_of_ble_eq_true rfl) ⟨_, rfl⟩ (eX1_take b2 p3 σ w h)
theorem dX10_faces_0 : decode cX10_faces 0 = .ok (.aload_n 0, 1) := by decide +kernel
theorem dX10_faces_1 : decode cX10_faces 1 = .ok (.getfield 54, 3) := by decide +kernel
theorem dX10_faces_4 : decode cX10_faces 4 = .ok (.aload_n 0, 1) := by decide +kernel
theorem dX10_faces_5 : decode cX10_faces 5 = .ok (.getfield 12, 3) := by decide +kernel
theorem dX10_faces_8 : decode cX10_faces 8 = .ok (.aload_n 0, 1) := by decide +kernel
theorem dX10_faces_9 : decode cX10_faces 9 = .ok (.getfield 38, 3) := by decide +kernel
theorem dX10_faces_12 : decode cX10_faces 12 = .ok (.getfield 111, 3) := by decide +kernel
theorem dX10_faces_15 : decode cX10_faces 15 = .ok (.iload_n 1, 1) := by decide +kernel
theorem dX10_faces_16 : decode cX10_faces 16 = .ok (.invokevirtual 270, 3) := by decide +kernel
theorem dX10_faces_19 : decode cX10_faces 19 = .ok (.istore_n 2, 1) := by decide +kernel
theorem dX10_faces_20 : decode cX10_faces 20 = .ok (.aload_n 0, 1) := by decide +kernel
theorem dX10_faces_21 : decode cX10_faces 21 = .ok (.getfield 12, 3) := by decide +kernel
theorem dX10_faces_24 : decode cX10_faces 24 = .ok (.iconst 0, 1) := by decide +kernel
theorem dX10_faces_25 : decode cX10_faces 25 = .ok (.putfield 86, 3) := by decide +kernel
theorem dX10_faces_28 : decode cX10_faces 28 = .ok (.iload_n 2, 1) := by decide +kernel
theorem dX10_faces_29 : decode cX10_faces 29 = .ok (.ifCond .eq 13, 3) := by decide +kernel
theorem dX10_faces_32 : decode cX10_faces 32 = .ok (.aload_n 0, 1) := by decide +kernel
theorem dX10_faces_33 : decode cX10_faces 33 = .ok (.getfield 54, 3) := by decide +kernel
theorem dX10_faces_36 : decode cX10_faces 36 = .ok (.getfield 118, 3) := by decide +kernel
theorem dX10_faces_39 : decode cX10_faces 39 = .ok (.goto 8, 3) := by decide +kernel
theorem dX10_faces_42 : decode cX10_faces 42 = .ok (.aload_n 0, 1) := by decide +kernel
theorem dX10_faces_43 : decode cX10_faces 43 = .ok (.iconst 4, 1) := by decide +kernel
theorem dX10_faces_44 : decode cX10_faces 44 = .ok (.invokevirtual 89, 3) := by decide +kernel
theorem dX10_faces_47 : decode cX10_faces 47 = .ok (.ireturn, 1) := by decide +kernel
def fX10_faces (p1 : Int32) (σ : zS) : Option (Int32 × zS) := bnc (fX1_take σ.2.2.2.1 p1 σ) fun v3 σ1 => bnd (iS σ1 2 1 0) fun σ4 => if v3 = 0 then bnc (fX10_refuse 4 σ4) fun v7 σ5 => some (v7, σ5) else some (iG σ4 32 3, σ4)
theorem eX10_faces {sc : Nat × (Nat → Int32)} (p1 : Int32) (σ : zS) (w : Int32 × zS) (h : fX10_faces p1 σ = some w) : zR (zY0 sc) 3 0 0 mX10_faces 0 [(0, .ref 1), (1, .int p1)] [] (zE σ) (some (.int w.1), zE w.2) := by
  unfold fX10_faces at h
  refine kR.aload_n dX10_faces_0 0 rfl ?_
  refine kR.getR (v := 32) dX10_faces_1 flX10_54 zcf10 zp1 (Or.inl ⟨_, rfl⟩) rfl ?_
  refine kR.aload_n dX10_faces_4 0 rfl ?_
  refine kR.getR (v := 2) dX10_faces_5 flX10_12 zcf10 zp1 (Or.inl ⟨_, rfl⟩) rfl ?_
  refine kR.aload_n dX10_faces_8 0 rfl ?_
  refine kR.getR (v := 8) dX10_faces_9 flX10_38 zcf10 zp1 (Or.inl ⟨_, rfl⟩) rfl ?_
  refine kR.getR (v := (rp σ.2.2.2.1 + 0)) dX10_faces_12 flX10_111 zcf4 zp8 (Or.inl ⟨_, rfl⟩) rfl ?_
  refine kR.iload_n dX10_faces_15 1 rfl ?_
  obtain ⟨v3, σ1, e2, h⟩ := bnc_some h
  refine kR.cVi [.ref 2, .ref (rp σ.2.2.2.1 + 0), .int p1] dX10_faces_16 rfl (by decide) mwX10_270 zp32 (by decide) rfl rfl (Nat.le_of_ble_eq_true rfl) (lX1_take σ.2.2.2.1 p1 σ _ e2) ?_
  refine zR.istore_n (i := 2) (ls' := [(2, .int v3), (0, .ref 1), (1, .int p1)]) dX10_faces_19 rfl (by decide) rfl ?_
  refine kR.aload_n dX10_faces_20 1 rfl ?_
  refine kR.getR (v := 2) dX10_faces_21 flX10_12 zcf10 zp1 (Or.inl ⟨_, rfl⟩) rfl ?_
  refine zR.iconst (v := 0) dX10_faces_24 (by decide) ?_
  refine kR.putI dX10_faces_25 fpX10_86 zcf9 zp2 rfl h (fun σ4 h => ?_)
  refine kR.iload_n dX10_faces_28 0 rfl ?_
  refine kR.if_eq (tgt := 42) dX10_faces_29 (by decide) h (fun h => ?_) (fun h => ?_)
  · refine kR.aload_n dX10_faces_42 1 rfl ?_
    refine zR.iconst (v := 4) dX10_faces_43 (by decide) ?_
    obtain ⟨v7, σ5, e6, h⟩ := bnc_some h
    refine kR.cVi [.int 4] dX10_faces_44 rfl (by decide) mwX10_89 zp1 (by decide) rfl rfl (Nat.le_of_ble_eq_true rfl) (lX10_refuse 4 σ4 _ e6) ?_
    exact kR.iretW dX10_faces_47 (nzI rfl _) h
  · refine kR.aload_n dX10_faces_32 1 rfl ?_
    refine kR.getR (v := 32) dX10_faces_33 flX10_54 zcf10 zp1 (Or.inl ⟨_, rfl⟩) rfl ?_
    refine kR.getI dX10_faces_36 flX10_118 zcf1 zp32 (Or.inl rfl) ?_
    refine zR.goto (tgt := 47) dX10_faces_39 (by decide) ?_
    exact kR.iretW dX10_faces_47 (nzI rfl _) h
theorem lX10_faces {sc : Nat × (Nat → Int32)} (p1 : Int32) (σ : zS) (w : Int32 × zS) (h : fX10_faces p1 σ = some w) : zC (zY0 sc) 3 0 0 mX10_faces [.ref 1, .int p1] (zE σ) (some (.int w.1), zE w.2) := zC.of (by decide +kernel) (Nat.le_of_ble_eq_true rfl) ⟨_, rfl⟩ (eX10_faces p1 σ w h)
theorem dJ6_bitCount_0f7a4_0 : decode cJ6_bitCount_0f7a4 0 = .ok (.iload_n 0, 1) := by decide +kernel
theorem dJ6_bitCount_0f7a4_1 : decode cJ6_bitCount_0f7a4 1 = .ok (.iload_n 0, 1) := by decide +kernel
theorem dJ6_bitCount_0f7a4_2 : decode cJ6_bitCount_0f7a4 2 = .ok (.iconst 1, 1) := by decide +kernel
theorem dJ6_bitCount_0f7a4_3 : decode cJ6_bitCount_0f7a4 3 = .ok (.iushr, 1) := by decide +kernel
theorem dJ6_bitCount_0f7a4_4 : decode cJ6_bitCount_0f7a4 4 = .ok (.ldc_w 265, 3) := by decide +kernel
theorem dJ6_bitCount_0f7a4_7 : decode cJ6_bitCount_0f7a4 7 = .ok (.iand, 1) := by decide +kernel
theorem dJ6_bitCount_0f7a4_8 : decode cJ6_bitCount_0f7a4 8 = .ok (.isub, 1) := by decide +kernel
theorem dJ6_bitCount_0f7a4_9 : decode cJ6_bitCount_0f7a4 9 = .ok (.istore_n 0, 1) := by decide +kernel
theorem dJ6_bitCount_0f7a4_10 : decode cJ6_bitCount_0f7a4 10 = .ok (.iload_n 0, 1) := by decide +kernel
theorem dJ6_bitCount_0f7a4_11 : decode cJ6_bitCount_0f7a4 11 = .ok (.ldc_w 266, 3) := by decide +kernel
theorem dJ6_bitCount_0f7a4_14 : decode cJ6_bitCount_0f7a4 14 = .ok (.iand, 1) := by decide +kernel
theorem dJ6_bitCount_0f7a4_15 : decode cJ6_bitCount_0f7a4 15 = .ok (.iload_n 0, 1) := by decide +kernel
theorem dJ6_bitCount_0f7a4_16 : decode cJ6_bitCount_0f7a4 16 = .ok (.iconst 2, 1) := by decide +kernel
theorem dJ6_bitCount_0f7a4_17 : decode cJ6_bitCount_0f7a4 17 = .ok (.iushr, 1) := by decide +kernel
theorem dJ6_bitCount_0f7a4_18 : decode cJ6_bitCount_0f7a4 18 = .ok (.ldc_w 266, 3) := by decide +kernel
theorem dJ6_bitCount_0f7a4_21 : decode cJ6_bitCount_0f7a4 21 = .ok (.iand, 1) := by decide +kernel
theorem dJ6_bitCount_0f7a4_22 : decode cJ6_bitCount_0f7a4 22 = .ok (.iadd, 1) := by decide +kernel
theorem dJ6_bitCount_0f7a4_23 : decode cJ6_bitCount_0f7a4 23 = .ok (.istore_n 0, 1) := by decide +kernel
theorem dJ6_bitCount_0f7a4_24 : decode cJ6_bitCount_0f7a4 24 = .ok (.iload_n 0, 1) := by decide +kernel
theorem dJ6_bitCount_0f7a4_25 : decode cJ6_bitCount_0f7a4 25 = .ok (.iload_n 0, 1) := by decide +kernel
theorem dJ6_bitCount_0f7a4_26 : decode cJ6_bitCount_0f7a4 26 = .ok (.iconst 4, 1) := by decide +kernel
theorem dJ6_bitCount_0f7a4_27 : decode cJ6_bitCount_0f7a4 27 = .ok (.iushr, 1) := by decide +kernel
theorem dJ6_bitCount_0f7a4_28 : decode cJ6_bitCount_0f7a4 28 = .ok (.iadd, 1) := by decide +kernel
theorem dJ6_bitCount_0f7a4_29 : decode cJ6_bitCount_0f7a4 29 = .ok (.ldc_w 267, 3) := by decide +kernel
theorem dJ6_bitCount_0f7a4_32 : decode cJ6_bitCount_0f7a4 32 = .ok (.iand, 1) := by decide +kernel
theorem dJ6_bitCount_0f7a4_33 : decode cJ6_bitCount_0f7a4 33 = .ok (.istore_n 0, 1) := by decide +kernel
theorem dJ6_bitCount_0f7a4_34 : decode cJ6_bitCount_0f7a4 34 = .ok (.iload_n 0, 1) := by decide +kernel
theorem dJ6_bitCount_0f7a4_35 : decode cJ6_bitCount_0f7a4 35 = .ok (.iload_n 0, 1) := by decide +kernel
theorem dJ6_bitCount_0f7a4_36 : decode cJ6_bitCount_0f7a4 36 = .ok (.bipush 8, 2) := by decide +kernel
theorem dJ6_bitCount_0f7a4_38 : decode cJ6_bitCount_0f7a4 38 = .ok (.iushr, 1) := by decide +kernel
theorem dJ6_bitCount_0f7a4_39 : decode cJ6_bitCount_0f7a4 39 = .ok (.iadd, 1) := by decide +kernel
theorem dJ6_bitCount_0f7a4_40 : decode cJ6_bitCount_0f7a4 40 = .ok (.istore_n 0, 1) := by decide +kernel
theorem dJ6_bitCount_0f7a4_41 : decode cJ6_bitCount_0f7a4 41 = .ok (.iload_n 0, 1) := by decide +kernel
theorem dJ6_bitCount_0f7a4_42 : decode cJ6_bitCount_0f7a4 42 = .ok (.iload_n 0, 1) := by decide +kernel
theorem dJ6_bitCount_0f7a4_43 : decode cJ6_bitCount_0f7a4 43 = .ok (.bipush 16, 2) := by decide +kernel
theorem dJ6_bitCount_0f7a4_45 : decode cJ6_bitCount_0f7a4 45 = .ok (.iushr, 1) := by decide +kernel
theorem dJ6_bitCount_0f7a4_46 : decode cJ6_bitCount_0f7a4 46 = .ok (.iadd, 1) := by decide +kernel
theorem dJ6_bitCount_0f7a4_47 : decode cJ6_bitCount_0f7a4 47 = .ok (.istore_n 0, 1) := by decide +kernel
theorem dJ6_bitCount_0f7a4_48 : decode cJ6_bitCount_0f7a4 48 = .ok (.iload_n 0, 1) := by decide +kernel
theorem dJ6_bitCount_0f7a4_49 : decode cJ6_bitCount_0f7a4 49 = .ok (.bipush 63, 2) := by decide +kernel
theorem dJ6_bitCount_0f7a4_51 : decode cJ6_bitCount_0f7a4 51 = .ok (.iand, 1) := by decide +kernel
theorem dJ6_bitCount_0f7a4_52 : decode cJ6_bitCount_0f7a4 52 = .ok (.ireturn, 1) := by decide +kernel
def fJ6_bitCount_0f7a4 (p0 : Int32) : Int32 := bnd (((((p0) : Int32).toUInt32 >>> (((1) : Int32).toUInt32 &&& Int32.toUInt32 31)).toInt32) &&& 1431655765) fun v1 => bnd (((((p0 - v1) : Int32).toUInt32 >>> (((2) : Int32).toUInt32 &&& Int32.toUInt32 31)).toInt32) &&& 858993459) fun v2 => bnd ((((p0 - v1) &&& 858993459) + v2) + ((((((p0 - v1) &&& 858993459) + v2) : Int32).toUInt32 >>> (((4) : Int32).toUInt32 &&& Int32.toUInt32 31)).toInt32)) fun v3 => bnd ((v3 &&& 252645135) + ((((v3 &&& 252645135) : Int32).toUInt32 >>> (((8) : Int32).toUInt32 &&& Int32.toUInt32 31)).toInt32)) fun v4 => bnd (v4 + ((((v4) : Int32).toUInt32 >>> (((16) : Int32).toUInt32 &&& Int32.toUInt32 31)).toInt32)) fun v5 => v5 &&& 63
theorem eJ6_bitCount_0f7a4 {sc : Nat × (Nat → Int32)} {μ : zM} (p0 : Int32) (w : Int32) (h : fJ6_bitCount_0f7a4 p0 = w) : zR (zY0 sc) 1 0 0 mJ6_bitCount_0f7a4 0 [(0, .int p0)] [] μ (some (.int w), μ) := by
  unfold fJ6_bitCount_0f7a4 at h
  refine kR.iload_n dJ6_bitCount_0f7a4_0 0 rfl ?_
  refine kR.iload_n dJ6_bitCount_0f7a4_1 0 rfl ?_
  refine zR.iconst (v := 1) dJ6_bitCount_0f7a4_2 (by decide) ?_
  refine zR.iushr dJ6_bitCount_0f7a4_3 ?_
  refine zR.ldcw (v := 1431655765) dJ6_bitCount_0f7a4_4 ciJ6_265 ?_
  refine zR.iand dJ6_bitCount_0f7a4_7 ?_
  refine kR.nmI h (fun v1 h => ?_)
  refine zR.isub dJ6_bitCount_0f7a4_8 ?_
  refine zR.istore_n (i := 0) (ls' := [(0, .int (p0 - v1))]) dJ6_bitCount_0f7a4_9 rfl (by decide) rfl ?_
  refine kR.iload_n dJ6_bitCount_0f7a4_10 0 rfl ?_
  refine zR.ldcw (v := 858993459) dJ6_bitCount_0f7a4_11 ciJ6_266 ?_
  refine zR.iand dJ6_bitCount_0f7a4_14 ?_
  refine kR.iload_n dJ6_bitCount_0f7a4_15 0 rfl ?_
  refine zR.iconst (v := 2) dJ6_bitCount_0f7a4_16 (by decide) ?_
  refine zR.iushr dJ6_bitCount_0f7a4_17 ?_
  refine zR.ldcw (v := 858993459) dJ6_bitCount_0f7a4_18 ciJ6_266 ?_
  refine zR.iand dJ6_bitCount_0f7a4_21 ?_
  refine kR.nmI h (fun v2 h => ?_)
  refine zR.iadd dJ6_bitCount_0f7a4_22 ?_
  refine zR.istore_n (i := 0) (ls' := [(0, .int (((p0 - v1) &&& 858993459) + v2))]) dJ6_bitCount_0f7a4_23 rfl (by decide) rfl ?_
  refine kR.iload_n dJ6_bitCount_0f7a4_24 0 rfl ?_
  refine kR.iload_n dJ6_bitCount_0f7a4_25 0 rfl ?_
  refine zR.iconst (v := 4) dJ6_bitCount_0f7a4_26 (by decide) ?_
  refine zR.iushr dJ6_bitCount_0f7a4_27 ?_
  refine zR.iadd dJ6_bitCount_0f7a4_28 ?_
  refine kR.nmI h (fun v3 h => ?_)
  refine zR.ldcw (v := 252645135) dJ6_bitCount_0f7a4_29 ciJ6_267 ?_
  refine zR.iand dJ6_bitCount_0f7a4_32 ?_
  refine zR.istore_n (i := 0) (ls' := [(0, .int (v3 &&& 252645135))]) dJ6_bitCount_0f7a4_33 rfl (by decide) rfl ?_
  refine kR.iload_n dJ6_bitCount_0f7a4_34 0 rfl ?_
  refine kR.iload_n dJ6_bitCount_0f7a4_35 0 rfl ?_
  refine zR.bipush (v := 8) dJ6_bitCount_0f7a4_36 (by decide) ?_
  refine zR.iushr dJ6_bitCount_0f7a4_38 ?_
  refine zR.iadd dJ6_bitCount_0f7a4_39 ?_
  refine kR.nmI h (fun v4 h => ?_)
  refine zR.istore_n (i := 0) (ls' := [(0, .int v4)]) dJ6_bitCount_0f7a4_40 rfl (by decide) rfl ?_
  refine kR.iload_n dJ6_bitCount_0f7a4_41 0 rfl ?_
  refine kR.iload_n dJ6_bitCount_0f7a4_42 0 rfl ?_
  refine zR.bipush (v := 16) dJ6_bitCount_0f7a4_43 (by decide) ?_
  refine zR.iushr dJ6_bitCount_0f7a4_45 ?_
  refine zR.iadd dJ6_bitCount_0f7a4_46 ?_
  refine kR.nmI h (fun v5 h => ?_)
  refine zR.istore_n (i := 0) (ls' := [(0, .int v5)]) dJ6_bitCount_0f7a4_47 rfl (by decide) rfl ?_
  refine kR.iload_n dJ6_bitCount_0f7a4_48 0 rfl ?_
  refine zR.bipush (v := 63) dJ6_bitCount_0f7a4_49 (by decide) ?_
  refine zR.iand dJ6_bitCount_0f7a4_51 ?_
  exact kR.iret dJ6_bitCount_0f7a4_52 (nzI rfl _) h
theorem lJ6_bitCount_0f7a4 {sc : Nat × (Nat → Int32)} {μ : zM} (p0 : Int32) : zC (zY0 sc) 1 0 0 mJ6_bitCount_0f7a4 [.int p0] μ (some (.int (fJ6_bitCount_0f7a4 p0)), μ) := zC.of (by decide +kernel) (Nat.le_of_ble_eq_true rfl) ⟨_, rfl⟩ (eJ6_bitCount_0f7a4 p0 _ rfl)

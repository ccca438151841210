/-! MY OWN (by program): X2_takeBack, X10_undo, X10_seed, X7_keptPart, X10_kept, X3_addByte, X3_withChecked, X3_write, X10_image, X10_octet, X3_holderSize, X3_scoreAt, X3_isHolderAt, X3_isOf, X7_keepNothing, X3_putInto, X10_goOn, X10_status, X11_is, X11_put, X11_refuses, X11_feed, X11_end, X11_blame, X11_isLetter -/
theorem dX2_takeBack_0 : decode cX2_takeBack 0 = .ok (.aload_n 0, 1) := by decide +kernel
theorem dX2_takeBack_1 : decode cX2_takeBack 1 = .ok (.aload_n 0, 1) := by decide +kernel
theorem dX2_takeBack_2 : decode cX2_takeBack 2 = .ok (.getfield 17, 3) := by decide +kernel
theorem dX2_takeBack_5 : decode cX2_takeBack 5 = .ok (.bipush 20, 2) := by decide +kernel
theorem dX2_takeBack_7 : decode cX2_takeBack 7 = .ok (.iadd, 1) := by decide +kernel
theorem dX2_takeBack_8 : decode cX2_takeBack 8 = .ok (.iconst 1, 1) := by decide +kernel
theorem dX2_takeBack_9 : decode cX2_takeBack 9 = .ok (.isub, 1) := by decide +kernel
theorem dX2_takeBack_10 : decode cX2_takeBack 10 = .ok (.bipush 20, 2) := by decide +kernel
theorem dX2_takeBack_12 : decode cX2_takeBack 12 = .ok (.irem, 1) := by decide +kernel
theorem dX2_takeBack_13 : decode cX2_takeBack 13 = .ok (.putfield 17, 3) := by decide +kernel
theorem dX2_takeBack_16 : decode cX2_takeBack 16 = .ok (.aload_n 0, 1) := by decide +kernel
theorem dX2_takeBack_17 : decode cX2_takeBack 17 = .ok (.dup, 1) := by decide +kernel
theorem dX2_takeBack_18 : decode cX2_takeBack 18 = .ok (.getfield 21, 3) := by decide +kernel
theorem dX2_takeBack_21 : decode cX2_takeBack 21 = .ok (.iconst 1, 1) := by decide +kernel
theorem dX2_takeBack_22 : decode cX2_takeBack 22 = .ok (.isub, 1) := by decide +kernel
theorem dX2_takeBack_23 : decode cX2_takeBack 23 = .ok (.putfield 21, 3) := by decide +kernel
theorem dX2_takeBack_26 : decode cX2_takeBack 26 = .ok (.aload_n 0, 1) := by decide +kernel
theorem dX2_takeBack_27 : decode cX2_takeBack 27 = .ok (.getfield 11, 3) := by decide +kernel
theorem dX2_takeBack_30 : decode cX2_takeBack 30 = .ok (.aload_n 0, 1) := by decide +kernel
theorem dX2_takeBack_31 : decode cX2_takeBack 31 = .ok (.getfield 17, 3) := by decide +kernel
theorem dX2_takeBack_34 : decode cX2_takeBack 34 = .ok (.bipush 104, 2) := by decide +kernel
theorem dX2_takeBack_36 : decode cX2_takeBack 36 = .ok (.imul, 1) := by decide +kernel
theorem dX2_takeBack_37 : decode cX2_takeBack 37 = .ok (.aload_n 1, 1) := by decide +kernel
theorem dX2_takeBack_38 : decode cX2_takeBack 38 = .ok (.getfield 24, 3) := by decide +kernel
theorem dX2_takeBack_41 : decode cX2_takeBack 41 = .ok (.iconst 0, 1) := by decide +kernel
theorem dX2_takeBack_42 : decode cX2_takeBack 42 = .ok (.bipush 104, 2) := by decide +kernel
theorem dX2_takeBack_44 : decode cX2_takeBack 44 = .ok (.invokestatic 27, 3) := by decide +kernel
theorem dX2_takeBack_47 : decode cX2_takeBack 47 = .ok (.return_, 1) := by decide +kernel
def fX2_takeBack (σ : zS) : Option zS := bnd (iS σ 6 1 ((((iG σ 6 1) + 20) - 1) - (((iG σ 6 1) + 20) - 1) / 20 * 20)) fun σ1 => bnd (iS σ1 6 2 ((iG σ1 6 2) - 1)) fun σ2 => wC σ2 7 5 2080 104 ((iG σ2 6 1) * 104) 0 104 fun σ3 => some σ3
theorem eX2_takeBack {sc : Nat × (Nat → Int32)} (σ : zS) (w : zS) (h : fX2_takeBack σ = some w) : zR (zY0 sc) 1 0 0 mX2_takeBack 0 [(0, .ref 6), (1, .ref 4)] [] (zE σ) (none, zE w) := by
  unfold fX2_takeBack at h
  refine kR.aload_n dX2_takeBack_0 0 rfl ?_
  refine kR.aload_n dX2_takeBack_1 0 rfl ?_
  refine kR.getI dX2_takeBack_2 flX2_17 zcf2 zp6 (Or.inl rfl) ?_
  refine zR.bipush (v := 20) dX2_takeBack_5 (by decide) ?_
  refine zR.iadd dX2_takeBack_7 ?_
  refine zR.iconst (v := 1) dX2_takeBack_8 (by decide) ?_
  refine zR.isub dX2_takeBack_9 ?_
  refine zR.bipush (v := 20) dX2_takeBack_10 (by decide) ?_
  refine zR.irem dX2_takeBack_12 (by decide) ?_
  refine kR.putI dX2_takeBack_13 fpX2_17 zcf2 zp6 rfl h (fun σ1 h => ?_)
  refine kR.aload_n dX2_takeBack_16 0 rfl ?_
  refine zR.dup dX2_takeBack_17 rfl ?_
  refine kR.getI dX2_takeBack_18 flX2_21 zcf2 zp6 (Or.inl rfl) ?_
  refine zR.iconst (v := 1) dX2_takeBack_21 (by decide) ?_
  refine zR.isub dX2_takeBack_22 ?_
  refine kR.putI dX2_takeBack_23 fpX2_21 zcf2 zp6 rfl h (fun σ2 h => ?_)
  refine kR.aload_n dX2_takeBack_26 0 rfl ?_
  refine kR.getR (v := 7) dX2_takeBack_27 flX2_11 zcf2 zp6 (Or.inr ⟨_, rfl⟩) rfl ?_
  refine kR.aload_n dX2_takeBack_30 0 rfl ?_
  refine kR.getI dX2_takeBack_31 flX2_17 zcf2 zp6 (Or.inl rfl) ?_
  refine zR.bipush (v := 104) dX2_takeBack_34 (by decide) ?_
  refine zR.imul dX2_takeBack_36 ?_
  refine kR.aload_n dX2_takeBack_37 1 rfl ?_
  refine kR.getR (v := 5) dX2_takeBack_38 flX2_24 zcf7 zp4 (Or.inr ⟨_, rfl⟩) rfl ?_
  refine zR.iconst (v := 0) dX2_takeBack_41 (by decide) ?_
  refine zR.bipush (v := 104) dX2_takeBack_42 (by decide) ?_
  refine kR.copy dX2_takeBack_44 (by decide) mcX2_27 zp7 zp5 rfl rfl (Nat.le_of_ble_eq_true rfl) h (fun σ3 h => ?_)
  exact kR.vret dX2_takeBack_47 h
theorem lX2_takeBack {sc : Nat × (Nat → Int32)} (σ : zS) (w : zS) (h : fX2_takeBack σ = some w) : zC (zY0 sc) 1 0 0 mX2_takeBack [.ref 6, .ref 4] (zE σ) (none, zE w) := zC.of (by decide +kernel) (Nat.le_of_ble_eq_true rfl) rfl (eX2_takeBack σ w h)
theorem dX10_undo_0 : decode cX10_undo 0 = .ok (.aload_n 0, 1) := by decide +kernel
theorem dX10_undo_1 : decode cX10_undo 1 = .ok (.getfield 26, 3) := by decide +kernel
theorem dX10_undo_4 : decode cX10_undo 4 = .ok (.getfield 115, 3) := by decide +kernel
theorem dX10_undo_7 : decode cX10_undo 7 = .ok (.ifCond .ne 11, 3) := by decide +kernel
theorem dX10_undo_10 : decode cX10_undo 10 = .ok (.aload_n 0, 1) := by decide +kernel
theorem dX10_undo_11 : decode cX10_undo 11 = .ok (.iconst 3, 1) := by decide +kernel
theorem dX10_undo_12 : decode cX10_undo 12 = .ok (.invokevirtual 89, 3) := by decide +kernel
theorem dX10_undo_15 : decode cX10_undo 15 = .ok (.pop, 1) := by decide +kernel
theorem dX10_undo_16 : decode cX10_undo 16 = .ok (.iconst 0, 1) := by decide +kernel
theorem dX10_undo_17 : decode cX10_undo 17 = .ok (.ireturn, 1) := by decide +kernel
theorem dX10_undo_18 : decode cX10_undo 18 = .ok (.aload_n 0, 1) := by decide +kernel
theorem dX10_undo_19 : decode cX10_undo 19 = .ok (.getfield 26, 3) := by decide +kernel
theorem dX10_undo_22 : decode cX10_undo 22 = .ok (.aload_n 0, 1) := by decide +kernel
theorem dX10_undo_23 : decode cX10_undo 23 = .ok (.getfield 19, 3) := by decide +kernel
theorem dX10_undo_26 : decode cX10_undo 26 = .ok (.invokevirtual 304, 3) := by decide +kernel
theorem dX10_undo_29 : decode cX10_undo 29 = .ok (.aload_n 0, 1) := by decide +kernel
theorem dX10_undo_30 : decode cX10_undo 30 = .ok (.getfield 47, 3) := by decide +kernel
theorem dX10_undo_33 : decode cX10_undo 33 = .ok (.invokevirtual 119, 3) := by decide +kernel
theorem dX10_undo_36 : decode cX10_undo 36 = .ok (.iconst 1, 1) := by decide +kernel
theorem dX10_undo_37 : decode cX10_undo 37 = .ok (.ireturn, 1) := by decide +kernel
def fX10_undo (σ : zS) : Option (Int32 × zS) := if (iG σ 6 2) = 0 then bnc (fX10_refuse 3 σ) fun v7 σ5 => some (0, σ5) else bnr (fX2_takeBack σ) fun σ1 => bnr (fX0_forget σ1) fun σ3 => some (1, σ3)
theorem eX10_undo {sc : Nat × (Nat → Int32)} (σ : zS) (w : Int32 × zS) (h : fX10_undo σ = some w) : zR (zY0 sc) 2 0 0 mX10_undo 0 [(0, .ref 1)] [] (zE σ) (some (.int w.1), zE w.2) := by
  unfold fX10_undo at h
  refine kR.aload_n dX10_undo_0 0 rfl ?_
  refine kR.getR (v := 6) dX10_undo_1 flX10_26 zcf10 zp1 (Or.inl ⟨_, rfl⟩) rfl ?_
  refine kR.getI dX10_undo_4 flX10_115 zcf2 zp6 (Or.inl rfl) ?_
  refine kR.if_ne (tgt := 18) dX10_undo_7 (by decide) h (fun h => ?_) (fun h => ?_)
  · refine kR.aload_n dX10_undo_18 0 rfl ?_
    refine kR.getR (v := 6) dX10_undo_19 flX10_26 zcf10 zp1 (Or.inl ⟨_, rfl⟩) rfl ?_
    refine kR.aload_n dX10_undo_22 0 rfl ?_
    refine kR.getR (v := 4) dX10_undo_23 flX10_19 zcf10 zp1 (Or.inl ⟨_, rfl⟩) rfl ?_
    obtain ⟨σ1, e2, h⟩ := bnr_some h
    refine kR.cVv [.ref 4] dX10_undo_26 rfl (by decide) mwX10_304 zp6 (by decide) rfl rfl (Nat.le_of_ble_eq_true rfl) (lX2_takeBack σ _ e2) ?_
    refine kR.aload_n dX10_undo_29 0 rfl ?_
    refine kR.getR (v := 27) dX10_undo_30 flX10_47 zcf10 zp1 (Or.inl ⟨_, rfl⟩) rfl ?_
    obtain ⟨σ3, e4, h⟩ := bnr_some h
    refine kR.cVv [] dX10_undo_33 rfl (by decide) mwX10_119 zp27 (by decide) rfl rfl (Nat.le_of_ble_eq_true rfl) (lX0_forget σ1 _ e4) ?_
    refine zR.iconst (v := 1) dX10_undo_36 (by decide) ?_
    exact kR.iretW dX10_undo_37 (nzZ rfl (Or.inr rfl)) h
  · refine kR.aload_n dX10_undo_10 0 rfl ?_
    refine zR.iconst (v := 3) dX10_undo_11 (by decide) ?_
    obtain ⟨v7, σ5, e6, h⟩ := bnc_some h
    refine kR.cVi [.int 3] dX10_undo_12 rfl (by decide) mwX10_89 zp1 (by decide) rfl rfl (Nat.le_of_ble_eq_true rfl) (lX10_refuse 3 σ _ e6) ?_
    refine zR.pop dX10_undo_15 rfl ?_
    refine zR.iconst (v := 0) dX10_undo_16 (by decide) ?_
    exact kR.iretW dX10_undo_17 (nzZ rfl (Or.inl rfl)) h
theorem lX10_undo {sc : Nat × (Nat → Int32)} (σ : zS) (w : Int32 × zS) (h : fX10_undo σ = some w) : zC (zY0 sc) 2 0 0 mX10_undo [.ref 1] (zE σ) (some (.int w.1), zE w.2) := zC.of (by decide +kernel) (Nat.le_of_ble_eq_true rfl) ⟨_, rfl⟩ (eX10_undo σ w h)
theorem dX10_seed_0 : decode cX10_seed 0 = .ok (.iload_n 1, 1) := by decide +kernel
theorem dX10_seed_1 : decode cX10_seed 1 = .ok (.ifCond .ge 11, 3) := by decide +kernel
theorem dX10_seed_4 : decode cX10_seed 4 = .ok (.aload_n 0, 1) := by decide +kernel
theorem dX10_seed_5 : decode cX10_seed 5 = .ok (.iconst 4, 1) := by decide +kernel
theorem dX10_seed_6 : decode cX10_seed 6 = .ok (.invokevirtual 89, 3) := by decide +kernel
theorem dX10_seed_9 : decode cX10_seed 9 = .ok (.pop, 1) := by decide +kernel
theorem dX10_seed_10 : decode cX10_seed 10 = .ok (.iconst 0, 1) := by decide +kernel
theorem dX10_seed_11 : decode cX10_seed 11 = .ok (.ireturn, 1) := by decide +kernel
theorem dX10_seed_12 : decode cX10_seed 12 = .ok (.aload_n 0, 1) := by decide +kernel
theorem dX10_seed_13 : decode cX10_seed 13 = .ok (.iload_n 1, 1) := by decide +kernel
theorem dX10_seed_14 : decode cX10_seed 14 = .ok (.putfield 82, 3) := by decide +kernel
theorem dX10_seed_17 : decode cX10_seed 17 = .ok (.iconst 1, 1) := by decide +kernel
theorem dX10_seed_18 : decode cX10_seed 18 = .ok (.ireturn, 1) := by decide +kernel
def fX10_seed (p1 : Int32) (σ : zS) : Option (Int32 × zS) := if 0 ≤ p1 then bnd (iS σ 1 10 p1) fun σ1 => some (1, σ1) else bnc (fX10_refuse 4 σ) fun v4 σ2 => some (0, σ2)
theorem eX10_seed {sc : Nat × (Nat → Int32)} (p1 : Int32) (σ : zS) (w : Int32 × zS) (h : fX10_seed p1 σ = some w) : zR (zY0 sc) 2 0 0 mX10_seed 0 [(0, .ref 1), (1, .int p1)] [] (zE σ) (some (.int w.1), zE w.2) := by
  unfold fX10_seed at h
  refine kR.iload_n dX10_seed_0 1 rfl ?_
  refine kR.if_ge (tgt := 12) dX10_seed_1 (by decide) h (fun h => ?_) (fun h => ?_)
  · refine kR.aload_n dX10_seed_12 0 rfl ?_
    refine kR.iload_n dX10_seed_13 1 rfl ?_
    refine kR.putI dX10_seed_14 fpX10_82 zcf10 zp1 rfl h (fun σ1 h => ?_)
    refine zR.iconst (v := 1) dX10_seed_17 (by decide) ?_
    exact kR.iretW dX10_seed_18 (nzZ rfl (Or.inr rfl)) h
  · refine kR.aload_n dX10_seed_4 0 rfl ?_
    refine zR.iconst (v := 4) dX10_seed_5 (by decide) ?_
    obtain ⟨v4, σ2, e3, h⟩ := bnc_some h
    refine kR.cVi [.int 4] dX10_seed_6 rfl (by decide) mwX10_89 zp1 (by decide) rfl rfl (Nat.le_of_ble_eq_true rfl) (lX10_refuse 4 σ _ e3) ?_
    refine zR.pop dX10_seed_9 rfl ?_
    refine zR.iconst (v := 0) dX10_seed_10 (by decide) ?_
    exact kR.iretW dX10_seed_11 (nzZ rfl (Or.inl rfl)) h
theorem lX10_seed {sc : Nat × (Nat → Int32)} (p1 : Int32) (σ : zS) (w : Int32 × zS) (h : fX10_seed p1 σ = some w) : zC (zY0 sc) 2 0 0 mX10_seed [.ref 1, .int p1] (zE σ) (some (.int w.1), zE w.2) := zC.of (by decide +kernel) (Nat.le_of_ble_eq_true rfl) ⟨_, rfl⟩ (eX10_seed p1 σ w h)
theorem dX7_keptPart_0 : decode cX7_keptPart 0 = .ok (.iload_n 2, 1) := by decide +kernel
theorem dX7_keptPart_1 : decode cX7_keptPart 1 = .ok (.ifCond .lt 8, 3) := by decide +kernel
theorem dX7_keptPart_4 : decode cX7_keptPart 4 = .ok (.iload_n 2, 1) := by decide +kernel
theorem dX7_keptPart_5 : decode cX7_keptPart 5 = .ok (.iconst 3, 1) := by decide +kernel
theorem dX7_keptPart_6 : decode cX7_keptPart 6 = .ok (.if_icmp .le 5, 3) := by decide +kernel
theorem dX7_keptPart_9 : decode cX7_keptPart 9 = .ok (.iconst (-1), 1) := by decide +kernel
theorem dX7_keptPart_10 : decode cX7_keptPart 10 = .ok (.ireturn, 1) := by decide +kernel
theorem dX7_keptPart_11 : decode cX7_keptPart 11 = .ok (.aload_n 0, 1) := by decide +kernel
theorem dX7_keptPart_12 : decode cX7_keptPart 12 = .ok (.getfield 11, 3) := by decide +kernel
theorem dX7_keptPart_15 : decode cX7_keptPart 15 = .ok (.iconst 1, 1) := by decide +kernel
theorem dX7_keptPart_16 : decode cX7_keptPart 16 = .ok (.iaload, 1) := by decide +kernel
theorem dX7_keptPart_17 : decode cX7_keptPart 17 = .ok (.aload_n 0, 1) := by decide +kernel
theorem dX7_keptPart_18 : decode cX7_keptPart 18 = .ok (.invokevirtual 60, 3) := by decide +kernel
theorem dX7_keptPart_21 : decode cX7_keptPart 21 = .ok (.isub, 1) := by decide +kernel
theorem dX7_keptPart_22 : decode cX7_keptPart 22 = .ok (.iload_n 1, 1) := by decide +kernel
theorem dX7_keptPart_23 : decode cX7_keptPart 23 = .ok (.iadd, 1) := by decide +kernel
theorem dX7_keptPart_24 : decode cX7_keptPart 24 = .ok (.bipush 48, 2) := by decide +kernel
theorem dX7_keptPart_26 : decode cX7_keptPart 26 = .ok (.irem, 1) := by decide +kernel
theorem dX7_keptPart_27 : decode cX7_keptPart 27 = .ok (.istore_n 3, 1) := by decide +kernel
theorem dX7_keptPart_28 : decode cX7_keptPart 28 = .ok (.aload_n 0, 1) := by decide +kernel
theorem dX7_keptPart_29 : decode cX7_keptPart 29 = .ok (.getfield 11, 3) := by decide +kernel
theorem dX7_keptPart_32 : decode cX7_keptPart 32 = .ok (.iconst 2, 1) := by decide +kernel
theorem dX7_keptPart_33 : decode cX7_keptPart 33 = .ok (.iload_n 3, 1) := by decide +kernel
theorem dX7_keptPart_34 : decode cX7_keptPart 34 = .ok (.iadd, 1) := by decide +kernel
theorem dX7_keptPart_35 : decode cX7_keptPart 35 = .ok (.invokestatic 32, 3) := by decide +kernel
theorem dX7_keptPart_38 : decode cX7_keptPart 38 = .ok (.bipush 24, 2) := by decide +kernel
theorem dX7_keptPart_40 : decode cX7_keptPart 40 = .ok (.bipush 8, 2) := by decide +kernel
theorem dX7_keptPart_42 : decode cX7_keptPart 42 = .ok (.iload_n 2, 1) := by decide +kernel
theorem dX7_keptPart_43 : decode cX7_keptPart 43 = .ok (.imul, 1) := by decide +kernel
theorem dX7_keptPart_44 : decode cX7_keptPart 44 = .ok (.isub, 1) := by decide +kernel
theorem dX7_keptPart_45 : decode cX7_keptPart 45 = .ok (.ishr, 1) := by decide +kernel
theorem dX7_keptPart_46 : decode cX7_keptPart 46 = .ok (.sipush 255, 3) := by decide +kernel
theorem dX7_keptPart_49 : decode cX7_keptPart 49 = .ok (.iand, 1) := by decide +kernel
theorem dX7_keptPart_50 : decode cX7_keptPart 50 = .ok (.ireturn, 1) := by decide +kernel
def fX7_keptPart (σ : zS) (p1 : Int32) (p2 : Int32) : Option Int32 := if p2 < 0 then some ((-1)) else if p2 ≤ 3 then aI σ 5 104 1 fun v1 => bnr (fX7_keptCount σ) fun v2 => aI σ 5 104 (2 + (((v1 - v2) + p1) - ((v1 - v2) + p1) / 48 * 48)) fun v4 => some ((v4 >>> ((24 - (8 * p2)) &&& 31)) &&& 255) else some ((-1))
theorem eX7_keptPart {sc : Nat × (Nat → Int32)} (σ : zS) (p1 : Int32) (p2 : Int32) (w : Int32) (h : fX7_keptPart σ p1 p2 = some w) : zR (zY0 sc) 3 0 0 mX7_keptPart 0 [(0, .ref 4), (1, .int p1), (2, .int p2)] [] (zE σ) (some (.int w), zE σ) := by
  unfold fX7_keptPart at h
  refine kR.iload_n dX7_keptPart_0 2 rfl ?_
  refine kR.if_lt (tgt := 9) dX7_keptPart_1 (by decide) h (fun h => ?_) (fun h => ?_)
  · refine zR.iconst (v := (-1)) dX7_keptPart_9 (by decide) ?_
    exact kR.iretO dX7_keptPart_10 (nzI rfl _) h
  · refine kR.iload_n dX7_keptPart_4 2 rfl ?_
    refine zR.iconst (v := 3) dX7_keptPart_5 (by decide) ?_
    refine kR.icmp_le (tgt := 11) dX7_keptPart_6 (by decide) h (fun h => ?_) (fun h => ?_)
    · refine kR.aload_n dX7_keptPart_11 0 rfl ?_
      refine kR.getR (v := 5) dX7_keptPart_12 flX7_11 zcf7 zp4 (Or.inr ⟨_, rfl⟩) rfl ?_
      refine zR.iconst (v := 1) dX7_keptPart_15 (by decide) ?_
      refine kR.iald dX7_keptPart_16 zp5 rfl h (fun v1 h => ?_)
      refine kR.aload_n dX7_keptPart_17 0 rfl ?_
      obtain ⟨v2, e3, h⟩ := bnr_some h
      refine kR.cVi [] dX7_keptPart_18 rfl (by decide) mwX7_60 zp4 (by decide) rfl rfl (Nat.le_of_ble_eq_true rfl) (lX7_keptCount σ _ e3) ?_
      refine zR.isub dX7_keptPart_21 ?_
      refine kR.iload_n dX7_keptPart_22 1 rfl ?_
      refine zR.iadd dX7_keptPart_23 ?_
      refine zR.bipush (v := 48) dX7_keptPart_24 (by decide) ?_
      refine zR.irem dX7_keptPart_26 (by decide) ?_
      refine zR.istore_n (i := 3) (ls' := [(3, .int (((v1 - v2) + p1) - ((v1 - v2) + p1) / 48 * 48)), (0, .ref 4), (1, .int p1), (2, .int p2)]) dX7_keptPart_27 rfl (by decide) rfl ?_
      refine kR.aload_n dX7_keptPart_28 1 rfl ?_
      refine kR.getR (v := 5) dX7_keptPart_29 flX7_11 zcf7 zp4 (Or.inr ⟨_, rfl⟩) rfl ?_
      refine zR.iconst (v := 2) dX7_keptPart_32 (by decide) ?_
      refine kR.iload_n dX7_keptPart_33 0 rfl ?_
      refine zR.iadd dX7_keptPart_34 ?_
      obtain ⟨v4, e0, h⟩ := aIv (Nat.le_of_ble_eq_true rfl) h
      refine kR.cSi [.ref 5, .int (2 + (((v1 - v2) + p1) - ((v1 - v2) + p1) / 48 * 48))] dX7_keptPart_35 rfl (by decide) (Or.inr mwX7_32) rfl (Nat.le_of_ble_eq_true rfl) (lX10_valueAt 5 104 σ (fun _ => zp5) rfl (Nat.le_of_ble_eq_true rfl) (2 + (((v1 - v2) + p1) - ((v1 - v2) + p1) / 48 * 48)) _ e0) ?_
      refine zR.bipush (v := 24) dX7_keptPart_38 (by decide) ?_
      refine zR.bipush (v := 8) dX7_keptPart_40 (by decide) ?_
      refine kR.iload_n dX7_keptPart_42 3 rfl ?_
      refine zR.imul dX7_keptPart_43 ?_
      refine zR.isub dX7_keptPart_44 ?_
      refine zR.ishr dX7_keptPart_45 ?_
      refine zR.sipush (v := 255) dX7_keptPart_46 (by decide) ?_
      refine zR.iand dX7_keptPart_49 ?_
      exact kR.iretO dX7_keptPart_50 (nzI rfl _) h
    · refine zR.iconst (v := (-1)) dX7_keptPart_9 (by decide) ?_
      exact kR.iretO dX7_keptPart_10 (nzI rfl _) h
theorem lX7_keptPart {sc : Nat × (Nat → Int32)} (σ : zS) (p1 : Int32) (p2 : Int32) (w : Int32) (h : fX7_keptPart σ p1 p2 = some w) : zC (zY0 sc) 3 0 0 mX7_keptPart [.ref 4, .int p1, .int p2] (zE σ) (some (.int w), zE σ) := zC.of (by decide +kernel) (Nat.le_of_ble_eq_true rfl) ⟨_, rfl⟩ (eX7_keptPart σ p1 p2 w h)
theorem dX10_kept_0 : decode cX10_kept 0 = .ok (.iload_n 1, 1) := by decide +kernel
theorem dX10_kept_1 : decode cX10_kept 1 = .ok (.ifCond .lt 14, 3) := by decide +kernel
theorem dX10_kept_4 : decode cX10_kept 4 = .ok (.iload_n 1, 1) := by decide +kernel
theorem dX10_kept_5 : decode cX10_kept 5 = .ok (.aload_n 0, 1) := by decide +kernel
theorem dX10_kept_6 : decode cX10_kept 6 = .ok (.getfield 19, 3) := by decide +kernel
theorem dX10_kept_9 : decode cX10_kept 9 = .ok (.invokevirtual 144, 3) := by decide +kernel
theorem dX10_kept_12 : decode cX10_kept 12 = .ok (.if_icmp .lt 5, 3) := by decide +kernel
theorem dX10_kept_15 : decode cX10_kept 15 = .ok (.iconst (-1), 1) := by decide +kernel
theorem dX10_kept_16 : decode cX10_kept 16 = .ok (.ireturn, 1) := by decide +kernel
theorem dX10_kept_17 : decode cX10_kept 17 = .ok (.aload_n 0, 1) := by decide +kernel
theorem dX10_kept_18 : decode cX10_kept 18 = .ok (.getfield 19, 3) := by decide +kernel
theorem dX10_kept_21 : decode cX10_kept 21 = .ok (.iload_n 1, 1) := by decide +kernel
theorem dX10_kept_22 : decode cX10_kept 22 = .ok (.iload_n 2, 1) := by decide +kernel
theorem dX10_kept_23 : decode cX10_kept 23 = .ok (.invokevirtual 308, 3) := by decide +kernel
theorem dX10_kept_26 : decode cX10_kept 26 = .ok (.ireturn, 1) := by decide +kernel
def fX10_kept (σ : zS) (p1 : Int32) (p2 : Int32) : Option Int32 := if p1 < 0 then some ((-1)) else bnr (fX7_keptCount σ) fun v1 => if p1 < v1 then bnr (fX7_keptPart σ p1 p2) fun v3 => some v3 else some ((-1))
theorem eX10_kept {sc : Nat × (Nat → Int32)} (σ : zS) (p1 : Int32) (p2 : Int32) (w : Int32) (h : fX10_kept σ p1 p2 = some w) : zR (zY0 sc) 4 0 0 mX10_kept 0 [(0, .ref 1), (1, .int p1), (2, .int p2)] [] (zE σ) (some (.int w), zE σ) := by
  unfold fX10_kept at h
  refine kR.iload_n dX10_kept_0 1 rfl ?_
  refine kR.if_lt (tgt := 15) dX10_kept_1 (by decide) h (fun h => ?_) (fun h => ?_)
  · refine zR.iconst (v := (-1)) dX10_kept_15 (by decide) ?_
    exact kR.iretO dX10_kept_16 (nzI rfl _) h
  · refine kR.iload_n dX10_kept_4 1 rfl ?_
    refine kR.aload_n dX10_kept_5 0 rfl ?_
    refine kR.getR (v := 4) dX10_kept_6 flX10_19 zcf10 zp1 (Or.inl ⟨_, rfl⟩) rfl ?_
    obtain ⟨v1, e2, h⟩ := bnr_some h
    refine kR.cVi [] dX10_kept_9 rfl (by decide) mwX10_144 zp4 (by decide) rfl rfl (Nat.le_of_ble_eq_true rfl) (lX7_keptCount σ _ e2) ?_
    refine kR.icmp_lt (tgt := 17) dX10_kept_12 (by decide) h (fun h => ?_) (fun h => ?_)
    · refine kR.aload_n dX10_kept_17 0 rfl ?_
      refine kR.getR (v := 4) dX10_kept_18 flX10_19 zcf10 zp1 (Or.inl ⟨_, rfl⟩) rfl ?_
      refine kR.iload_n dX10_kept_21 1 rfl ?_
      refine kR.iload_n dX10_kept_22 2 rfl ?_
      obtain ⟨v3, e4, h⟩ := bnr_some h
      refine kR.cVi [.int p1, .int p2] dX10_kept_23 rfl (by decide) mwX10_308 zp4 (by decide) rfl rfl (Nat.le_of_ble_eq_true rfl) (lX7_keptPart σ p1 p2 _ e4) ?_
      exact kR.iretO dX10_kept_26 (nzI rfl _) h
    · refine zR.iconst (v := (-1)) dX10_kept_15 (by decide) ?_
      exact kR.iretO dX10_kept_16 (nzI rfl _) h
theorem lX10_kept {sc : Nat × (Nat → Int32)} (σ : zS) (p1 : Int32) (p2 : Int32) (w : Int32) (h : fX10_kept σ p1 p2 = some w) : zC (zY0 sc) 4 0 0 mX10_kept [.ref 1, .int p1, .int p2] (zE σ) (some (.int w), zE σ) := zC.of (by decide +kernel) (Nat.le_of_ble_eq_true rfl) ⟨_, rfl⟩ (eX10_kept σ p1 p2 w h)
theorem dX3_addByte_0 : decode cX3_addByte 0 = .ok (.aload_n 0, 1) := by decide +kernel
theorem dX3_addByte_1 : decode cX3_addByte 1 = .ok (.getfield 15, 3) := by decide +kernel
theorem dX3_addByte_4 : decode cX3_addByte 4 = .ok (.aload_n 0, 1) := by decide +kernel
theorem dX3_addByte_5 : decode cX3_addByte 5 = .ok (.getfield 11, 3) := by decide +kernel
theorem dX3_addByte_8 : decode cX3_addByte 8 = .ok (.arraylength, 1) := by decide +kernel
theorem dX3_addByte_9 : decode cX3_addByte 9 = .ok (.if_icmp .ge 23, 3) := by decide +kernel
theorem dX3_addByte_12 : decode cX3_addByte 12 = .ok (.aload_n 0, 1) := by decide +kernel
theorem dX3_addByte_13 : decode cX3_addByte 13 = .ok (.getfield 11, 3) := by decide +kernel
theorem dX3_addByte_16 : decode cX3_addByte 16 = .ok (.aload_n 0, 1) := by decide +kernel
theorem dX3_addByte_17 : decode cX3_addByte 17 = .ok (.getfield 15, 3) := by decide +kernel
theorem dX3_addByte_20 : decode cX3_addByte 20 = .ok (.iload_n 1, 1) := by decide +kernel
theorem dX3_addByte_21 : decode cX3_addByte 21 = .ok (.iastore, 1) := by decide +kernel
theorem dX3_addByte_22 : decode cX3_addByte 22 = .ok (.aload_n 0, 1) := by decide +kernel
theorem dX3_addByte_23 : decode cX3_addByte 23 = .ok (.dup, 1) := by decide +kernel
theorem dX3_addByte_24 : decode cX3_addByte 24 = .ok (.getfield 15, 3) := by decide +kernel
theorem dX3_addByte_27 : decode cX3_addByte 27 = .ok (.iconst 1, 1) := by decide +kernel
theorem dX3_addByte_28 : decode cX3_addByte 28 = .ok (.iadd, 1) := by decide +kernel
theorem dX3_addByte_29 : decode cX3_addByte 29 = .ok (.putfield 15, 3) := by decide +kernel
theorem dX3_addByte_32 : decode cX3_addByte 32 = .ok (.return_, 1) := by decide +kernel
def fX3_addByte (p1 : Int32) (σ : zS) : Option zS := if 68 ≤ (iG σ 35 1) then some σ else wI σ 36 68 (iG σ 35 1) p1 fun σ1 => bnd (iS σ1 35 1 ((iG σ1 35 1) + 1)) fun σ2 => some σ2
theorem eX3_addByte {sc : Nat × (Nat → Int32)} (p1 : Int32) (σ : zS) (w : zS) (h : fX3_addByte p1 σ = some w) : zR (zY0 sc) 1 0 0 mX3_addByte 0 [(0, .ref 35), (1, .int p1)] [] (zE σ) (none, zE w) := by
  unfold fX3_addByte at h
  refine kR.aload_n dX3_addByte_0 0 rfl ?_
  refine kR.getI dX3_addByte_1 flX3_15 zcf3 zp35 (Or.inl rfl) ?_
  refine kR.aload_n dX3_addByte_4 0 rfl ?_
  refine kR.getR (v := 36) dX3_addByte_5 flX3_11 zcf3 zp35 (Or.inr ⟨_, rfl⟩) rfl ?_
  refine zR.alen (v := 68) dX3_addByte_8 (Or.inl zp36) rfl ?_
  refine kR.icmp_ge (tgt := 32) dX3_addByte_9 (by decide) h (fun h => ?_) (fun h => ?_)
  · exact kR.vret dX3_addByte_32 h
  · refine kR.aload_n dX3_addByte_12 0 rfl ?_
    refine kR.getR (v := 36) dX3_addByte_13 flX3_11 zcf3 zp35 (Or.inr ⟨_, rfl⟩) rfl ?_
    refine kR.aload_n dX3_addByte_16 0 rfl ?_
    refine kR.getI dX3_addByte_17 flX3_15 zcf3 zp35 (Or.inl rfl) ?_
    refine kR.iload_n dX3_addByte_20 1 rfl ?_
    refine kR.iast dX3_addByte_21 zp36 rfl h (fun σ1 h => ?_)
    refine kR.aload_n dX3_addByte_22 0 rfl ?_
    refine zR.dup dX3_addByte_23 rfl ?_
    refine kR.getI dX3_addByte_24 flX3_15 zcf3 zp35 (Or.inl rfl) ?_
    refine zR.iconst (v := 1) dX3_addByte_27 (by decide) ?_
    refine zR.iadd dX3_addByte_28 ?_
    refine kR.putI dX3_addByte_29 fpX3_15 zcf3 zp35 rfl h (fun σ2 h => ?_)
    exact kR.vret dX3_addByte_32 h
theorem lX3_addByte {sc : Nat × (Nat → Int32)} (p1 : Int32) (σ : zS) (w : zS) (h : fX3_addByte p1 σ = some w) : zC (zY0 sc) 1 0 0 mX3_addByte [.ref 35, .int p1] (zE σ) (none, zE w) := zC.of (by decide +kernel) (Nat.le_of_ble_eq_true rfl) rfl (eX3_addByte p1 σ w h)
theorem dX3_withChecked_0 : decode cX3_withChecked 0 = .ok (.iconst 5, 1) := by decide +kernel
theorem dX3_withChecked_1 : decode cX3_withChecked 1 = .ok (.iload_n 0, 1) := by decide +kernel
theorem dX3_withChecked_2 : decode cX3_withChecked 2 = .ok (.imul, 1) := by decide +kernel
theorem dX3_withChecked_3 : decode cX3_withChecked 3 = .ok (.iload_n 1, 1) := by decide +kernel
theorem dX3_withChecked_4 : decode cX3_withChecked 4 = .ok (.iadd, 1) := by decide +kernel
theorem dX3_withChecked_5 : decode cX3_withChecked 5 = .ok (.sipush 251, 3) := by decide +kernel
theorem dX3_withChecked_8 : decode cX3_withChecked 8 = .ok (.irem, 1) := by decide +kernel
theorem dX3_withChecked_9 : decode cX3_withChecked 9 = .ok (.ireturn, 1) := by decide +kernel
def fX3_withChecked (p0 : Int32) (p1 : Int32) : Int32 := ((5 * p0) + p1) - ((5 * p0) + p1) / 251 * 251
theorem eX3_withChecked {sc : Nat × (Nat → Int32)} {μ : zM} (p0 : Int32) (p1 : Int32) (w : Int32) (h : fX3_withChecked p0 p1 = w) : zR (zY0 sc) 1 0 0 mX3_withChecked 0 [(0, .int p0), (1, .int p1)] [] μ (some (.int w), μ) := by
  unfold fX3_withChecked at h
  refine zR.iconst (v := 5) dX3_withChecked_0 (by decide) ?_
  refine kR.iload_n dX3_withChecked_1 0 rfl ?_
  refine zR.imul dX3_withChecked_2 ?_
  refine kR.iload_n dX3_withChecked_3 1 rfl ?_
  refine zR.iadd dX3_withChecked_4 ?_
  refine zR.sipush (v := 251) dX3_withChecked_5 (by decide) ?_
  refine zR.irem dX3_withChecked_8 (by decide) ?_
  exact kR.iret dX3_withChecked_9 (nzI rfl _) h
theorem lX3_withChecked {sc : Nat × (Nat → Int32)} {μ : zM} (p0 : Int32) (p1 : Int32) : zC (zY0 sc) 1 0 0 mX3_withChecked [.int p0, .int p1] μ (some (.int (fX3_withChecked p0 p1)), μ) := zC.of (by decide +kernel) (Nat.le_of_ble_eq_true rfl) ⟨_, rfl⟩ (eX3_withChecked p0 p1 _ rfl)
theorem dX3_write_0 : decode cX3_write 0 = .ok (.aload_n 0, 1) := by decide +kernel
theorem dX3_write_1 : decode cX3_write 1 = .ok (.iconst 0, 1) := by decide +kernel
theorem dX3_write_2 : decode cX3_write 2 = .ok (.putfield 15, 3) := by decide +kernel
theorem dX3_write_5 : decode cX3_write 5 = .ok (.aload_n 0, 1) := by decide +kernel
theorem dX3_write_6 : decode cX3_write 6 = .ok (.aload_n 1, 1) := by decide +kernel
theorem dX3_write_7 : decode cX3_write 7 = .ok (.invokevirtual 19, 3) := by decide +kernel
theorem dX3_write_10 : decode cX3_write 10 = .ok (.invokevirtual 25, 3) := by decide +kernel
theorem dX3_write_13 : decode cX3_write 13 = .ok (.iconst 0, 1) := by decide +kernel
theorem dX3_write_14 : decode cX3_write 14 = .ok (.istore_n 3, 1) := by decide +kernel
theorem dX3_write_15 : decode cX3_write 15 = .ok (.iload_n 3, 1) := by decide +kernel
theorem dX3_write_16 : decode cX3_write 16 = .ok (.aload_n 2, 1) := by decide +kernel
theorem dX3_write_17 : decode cX3_write 17 = .ok (.getfield 29, 3) := by decide +kernel
theorem dX3_write_20 : decode cX3_write 20 = .ok (.if_icmp .ge 98, 3) := by decide +kernel
theorem dX3_write_23 : decode cX3_write 23 = .ok (.aload_n 0, 1) := by decide +kernel
theorem dX3_write_24 : decode cX3_write 24 = .ok (.aload_n 1, 1) := by decide +kernel
theorem dX3_write_25 : decode cX3_write 25 = .ok (.iload_n 3, 1) := by decide +kernel
theorem dX3_write_26 : decode cX3_write 26 = .ok (.invokevirtual 34, 3) := by decide +kernel
theorem dX3_write_29 : decode cX3_write 29 = .ok (.invokevirtual 25, 3) := by decide +kernel
theorem dX3_write_32 : decode cX3_write 32 = .ok (.aload_n 0, 1) := by decide +kernel
theorem dX3_write_33 : decode cX3_write 33 = .ok (.aload_n 1, 1) := by decide +kernel
theorem dX3_write_34 : decode cX3_write 34 = .ok (.iload_n 3, 1) := by decide +kernel
theorem dX3_write_35 : decode cX3_write 35 = .ok (.invokevirtual 38, 3) := by decide +kernel
theorem dX3_write_38 : decode cX3_write 38 = .ok (.invokevirtual 25, 3) := by decide +kernel
theorem dX3_write_41 : decode cX3_write 41 = .ok (.aload_n 1, 1) := by decide +kernel
theorem dX3_write_42 : decode cX3_write 42 = .ok (.iload_n 3, 1) := by decide +kernel
theorem dX3_write_43 : decode cX3_write 43 = .ok (.invokevirtual 41, 3) := by decide +kernel
theorem dX3_write_46 : decode cX3_write 46 = .ok (.ldc 44, 2) := by decide +kernel
theorem dX3_write_48 : decode cX3_write 48 = .ok (.iadd, 1) := by decide +kernel
theorem dX3_write_49 : decode cX3_write 49 = .ok (.istore 4, 2) := by decide +kernel
theorem dX3_write_51 : decode cX3_write 51 = .ok (.aload_n 0, 1) := by decide +kernel
theorem dX3_write_52 : decode cX3_write 52 = .ok (.iload 4, 2) := by decide +kernel
theorem dX3_write_54 : decode cX3_write 54 = .ok (.bipush 16, 2) := by decide +kernel
theorem dX3_write_56 : decode cX3_write 56 = .ok (.ishr, 1) := by decide +kernel
theorem dX3_write_57 : decode cX3_write 57 = .ok (.invokevirtual 25, 3) := by decide +kernel
theorem dX3_write_60 : decode cX3_write 60 = .ok (.aload_n 0, 1) := by decide +kernel
theorem dX3_write_61 : decode cX3_write 61 = .ok (.iload 4, 2) := by decide +kernel
theorem dX3_write_63 : decode cX3_write 63 = .ok (.bipush 8, 2) := by decide +kernel
theorem dX3_write_65 : decode cX3_write 65 = .ok (.ishr, 1) := by decide +kernel
theorem dX3_write_66 : decode cX3_write 66 = .ok (.sipush 255, 3) := by decide +kernel
theorem dX3_write_69 : decode cX3_write 69 = .ok (.iand, 1) := by decide +kernel
theorem dX3_write_70 : decode cX3_write 70 = .ok (.invokevirtual 25, 3) := by decide +kernel
theorem dX3_write_73 : decode cX3_write 73 = .ok (.aload_n 0, 1) := by decide +kernel
theorem dX3_write_74 : decode cX3_write 74 = .ok (.iload 4, 2) := by decide +kernel
theorem dX3_write_76 : decode cX3_write 76 = .ok (.sipush 255, 3) := by decide +kernel
theorem dX3_write_79 : decode cX3_write 79 = .ok (.iand, 1) := by decide +kernel
theorem dX3_write_80 : decode cX3_write 80 = .ok (.invokevirtual 25, 3) := by decide +kernel
theorem dX3_write_83 : decode cX3_write 83 = .ok (.iconst 0, 1) := by decide +kernel
theorem dX3_write_84 : decode cX3_write 84 = .ok (.istore 5, 2) := by decide +kernel
theorem dX3_write_86 : decode cX3_write 86 = .ok (.iload 5, 2) := by decide +kernel
theorem dX3_write_88 : decode cX3_write 88 = .ok (.aload_n 2, 1) := by decide +kernel
theorem dX3_write_89 : decode cX3_write 89 = .ok (.getfield 45, 3) := by decide +kernel
theorem dX3_write_92 : decode cX3_write 92 = .ok (.if_icmp .ge 20, 3) := by decide +kernel
theorem dX3_write_95 : decode cX3_write 95 = .ok (.aload_n 0, 1) := by decide +kernel
theorem dX3_write_96 : decode cX3_write 96 = .ok (.aload_n 1, 1) := by decide +kernel
theorem dX3_write_97 : decode cX3_write 97 = .ok (.iload_n 3, 1) := by decide +kernel
theorem dX3_write_98 : decode cX3_write 98 = .ok (.iload 5, 2) := by decide +kernel
theorem dX3_write_100 : decode cX3_write 100 = .ok (.invokevirtual 48, 3) := by decide +kernel
theorem dX3_write_103 : decode cX3_write 103 = .ok (.invokevirtual 25, 3) := by decide +kernel
theorem dX3_write_106 : decode cX3_write 106 = .ok (.iinc 5 1, 3) := by decide +kernel
theorem dX3_write_109 : decode cX3_write 109 = .ok (.goto (-23), 3) := by decide +kernel
theorem dX3_write_112 : decode cX3_write 112 = .ok (.iinc 3 1, 3) := by decide +kernel
theorem dX3_write_115 : decode cX3_write 115 = .ok (.goto (-100), 3) := by decide +kernel
theorem dX3_write_118 : decode cX3_write 118 = .ok (.bipush 107, 2) := by decide +kernel
theorem dX3_write_120 : decode cX3_write 120 = .ok (.istore_n 3, 1) := by decide +kernel
theorem dX3_write_121 : decode cX3_write 121 = .ok (.iconst 0, 1) := by decide +kernel
theorem dX3_write_122 : decode cX3_write 122 = .ok (.istore 4, 2) := by decide +kernel
theorem dX3_write_124 : decode cX3_write 124 = .ok (.iload 4, 2) := by decide +kernel
theorem dX3_write_126 : decode cX3_write 126 = .ok (.aload_n 0, 1) := by decide +kernel
theorem dX3_write_127 : decode cX3_write 127 = .ok (.getfield 15, 3) := by decide +kernel
theorem dX3_write_130 : decode cX3_write 130 = .ok (.if_icmp .ge 21, 3) := by decide +kernel
theorem dX3_write_133 : decode cX3_write 133 = .ok (.iload_n 3, 1) := by decide +kernel
theorem dX3_write_134 : decode cX3_write 134 = .ok (.aload_n 0, 1) := by decide +kernel
theorem dX3_write_135 : decode cX3_write 135 = .ok (.getfield 11, 3) := by decide +kernel
theorem dX3_write_138 : decode cX3_write 138 = .ok (.iload 4, 2) := by decide +kernel
theorem dX3_write_140 : decode cX3_write 140 = .ok (.iaload, 1) := by decide +kernel
theorem dX3_write_141 : decode cX3_write 141 = .ok (.invokestatic 52, 3) := by decide +kernel
theorem dX3_write_144 : decode cX3_write 144 = .ok (.istore_n 3, 1) := by decide +kernel
theorem dX3_write_145 : decode cX3_write 145 = .ok (.iinc 4 1, 3) := by decide +kernel
theorem dX3_write_148 : decode cX3_write 148 = .ok (.goto (-24), 3) := by decide +kernel
theorem dX3_write_151 : decode cX3_write 151 = .ok (.aload_n 0, 1) := by decide +kernel
theorem dX3_write_152 : decode cX3_write 152 = .ok (.iload_n 3, 1) := by decide +kernel
theorem dX3_write_153 : decode cX3_write 153 = .ok (.invokevirtual 25, 3) := by decide +kernel
theorem dX3_write_156 : decode cX3_write 156 = .ok (.return_, 1) := by decide +kernel
def fX3_write_124 (b2 : Bool) : Nat → Int32 → Int32 → zS → Option zS
  | 0, _, _, _ => none
  | f + 1, x3, x4, σ => if (iG σ 35 1) ≤ x4 then bnr (fX3_addByte x3 σ) fun σ6 => some σ6 else aI σ 36 68 x4 fun v8 => fX3_write_124 b2 f (fX3_withChecked x3 v8) (x4 + 1) σ
theorem kX3_write_124 {sc : Nat × (Nat → Int32)} (b2 : Bool) : ∀ (fuel : Nat) (x3 : Int32) (x4 : Int32) (σ : zS) (w : zS) (h : fX3_write_124 b2 fuel x3 x4 σ = some w), zR (zY0 sc) 3 0 0 mX3_write 124 [(0, .ref 35), (3, .int x3), (4, .int x4)] [] (zE σ) (none, zE w) := by
  intro fuel
  induction fuel with
  | zero => intro x3 x4 σ w h; exact nomatch h
  | succ f ih =>
    intro x3 x4 σ w h
    rw [fX3_write_124] at h
    refine kR.iload dX3_write_124 2 rfl ?_
    refine kR.aload_n dX3_write_126 0 rfl ?_
    refine kR.getI dX3_write_127 flX3_15 zcf3 zp35 (Or.inl rfl) ?_
    refine kR.icmp_ge (tgt := 151) dX3_write_130 (by decide) h (fun h => ?_) (fun h => ?_)
    · refine kR.aload_n dX3_write_151 0 rfl ?_
      refine kR.iload_n dX3_write_152 1 rfl ?_
      obtain ⟨σ6, e7, h⟩ := bnr_some h
      refine kR.cVv [.int x3] dX3_write_153 rfl (by decide) mwX3_25 zp35 (by decide) rfl rfl (Nat.le_of_ble_eq_true rfl) (lX3_addByte x3 σ _ e7) ?_
      exact kR.vret dX3_write_156 h
    · refine kR.iload_n dX3_write_133 1 rfl ?_
      refine kR.aload_n dX3_write_134 0 rfl ?_
      refine kR.getR (v := 36) dX3_write_135 flX3_11 zcf3 zp35 (Or.inr ⟨_, rfl⟩) rfl ?_
      refine kR.iload dX3_write_138 2 rfl ?_
      refine kR.iald dX3_write_140 zp36 rfl h (fun v8 h => ?_)
      refine kR.cSi [.int x3, .int v8] dX3_write_141 rfl (by decide) (Or.inl mwX3_52) rfl (Nat.le_of_ble_eq_true rfl) (lX3_withChecked x3 v8) ?_
      refine zR.istore_n (i := 3) (ls' := [(3, .int (fX3_withChecked x3 v8)), (0, .ref 35), (4, .int x4)]) dX3_write_144 rfl (by decide) rfl ?_
      refine zR.iinc 2 (v := x4 + 1) (ls' := [(4, .int (x4 + 1)), (3, .int (fX3_withChecked x3 v8)), (0, .ref 35)]) dX3_write_145 rfl rfl (by decide) rfl ?_
      refine zR.goto (tgt := 124) dX3_write_148 (by decide) ?_
      refine zR.sub [2, 1, 0] rfl ?_
      exact ih _ _ _ _ h
def fX3_write_86 (b2 : Bool) (r15 : Int32 → zS → Option zS) : Nat → Int32 → Int32 → zS → Option zS
  | 0, _, _, _ => none
  | f + 1, x3, x5, σ => if (iG σ (rp b2 + 0) 1) ≤ x5 then r15 (x3 + 1) σ else bnr (fX7_thinksOf σ x3 x5) fun v25 => bnr (fX3_addByte v25 σ) fun σ27 => fX3_write_86 b2 r15 f x3 (x5 + 1) σ27
theorem kX3_write_86 {sc : Nat × (Nat → Int32)} (b2 : Bool) (r15 : Int32 → zS → Option zS) (hr15 : ∀ (x3 : Int32) (σ : zS) (w : zS), r15 x3 σ = some w → zR (zY0 sc) 3 0 0 mX3_write 15 [(0, .ref 35), (1, .ref 4), (2, .ref (rp b2 + 0)), (3, .int x3)] [] (zE σ) (none, zE w)) : ∀ (fuel : Nat) (x3 : Int32) (x5 : Int32) (σ : zS) (w : zS) (h : fX3_write_86 b2 r15 fuel x3 x5 σ = some w), zR (zY0 sc) 3 0 0 mX3_write 86 [(0, .ref 35), (1, .ref 4), (2, .ref (rp b2 + 0)), (3, .int x3), (5, .int x5)] [] (zE σ) (none, zE w) := by
  intro fuel
  induction fuel with
  | zero => intro x3 x5 σ w h; exact nomatch h
  | succ f ih =>
    intro x3 x5 σ w h
    rw [fX3_write_86] at h
    refine kR.iload dX3_write_86 4 rfl ?_
    refine kR.aload_n dX3_write_88 2 rfl ?_
    refine kR.getI dX3_write_89 flX3_45 zcf6 (zq0 b2) (Or.inl rfl) ?_
    refine kR.icmp_ge (tgt := 112) dX3_write_92 (by decide) h (fun h => ?_) (fun h => ?_)
    · refine zR.iinc 3 (v := x3 + 1) (ls' := [(3, .int (x3 + 1)), (0, .ref 35), (1, .ref 4), (2, .ref (rp b2 + 0)), (5, .int x5)]) dX3_write_112 rfl rfl (by decide) rfl ?_
      refine zR.goto (tgt := 15) dX3_write_115 (by decide) ?_
      refine zR.sub [1, 2, 3, 0] rfl ?_
      exact hr15 _ _ _ h
    · refine kR.aload_n dX3_write_95 0 rfl ?_
      refine kR.aload_n dX3_write_96 1 rfl ?_
      refine kR.iload_n dX3_write_97 3 rfl ?_
      refine kR.iload dX3_write_98 4 rfl ?_
      obtain ⟨v25, e26, h⟩ := bnr_some h
      refine kR.cVi [.int x3, .int x5] dX3_write_100 rfl (by decide) mwX3_48 zp4 (by decide) rfl rfl (Nat.le_of_ble_eq_true rfl) (lX7_thinksOf σ x3 x5 _ e26) ?_
      obtain ⟨σ27, e28, h⟩ := bnr_some h
      refine kR.cVv [.int v25] dX3_write_103 rfl (by decide) mwX3_25 zp35 (by decide) rfl rfl (Nat.le_of_ble_eq_true rfl) (lX3_addByte v25 σ _ e28) ?_
      refine zR.iinc 4 (v := x5 + 1) (ls' := [(5, .int (x5 + 1)), (0, .ref 35), (1, .ref 4), (2, .ref (rp b2 + 0)), (3, .int x3)]) dX3_write_106 rfl rfl (by decide) rfl ?_
      refine zR.goto (tgt := 86) dX3_write_109 (by decide) ?_
      refine zR.sub [1, 2, 3, 4, 0] rfl ?_
      exact ih _ _ _ _ h
def fX3_write_15 (b2 : Bool) : Nat → Int32 → zS → Option zS
  | 0, _, _ => none
  | f + 1, x3, σ => if (iG σ (rp b2 + 0) 2) ≤ x3 then fX3_write_124 b2 zF 107 0 σ else bnr (fX7_breathOf σ x3) fun v9 => bnr (fX3_addByte v9 σ) fun σ11 => bnr (fX7_givesOf σ11 x3) fun v13 => bnr (fX3_addByte v13 σ11) fun σ15 => bnr (fX7_scoreOf σ15 x3) fun v17 => bnr (fX3_addByte ((v17 + 100000) >>> (16 &&& 31)) σ15) fun σ19 => bnr (fX3_addByte (((v17 + 100000) >>> (8 &&& 31)) &&& 255) σ19) fun σ21 => bnr (fX3_addByte ((v17 + 100000) &&& 255) σ21) fun σ23 => fX3_write_86 b2 (fX3_write_15 b2 f) zF x3 0 σ23
theorem kX3_write_15 {sc : Nat × (Nat → Int32)} (b2 : Bool) : ∀ (fuel : Nat) (x3 : Int32) (σ : zS) (w : zS) (h : fX3_write_15 b2 fuel x3 σ = some w), zR (zY0 sc) 3 0 0 mX3_write 15 [(0, .ref 35), (1, .ref 4), (2, .ref (rp b2 + 0)), (3, .int x3)] [] (zE σ) (none, zE w) := by
  intro fuel
  induction fuel with
  | zero => intro x3 σ w h; exact nomatch h
  | succ f ih =>
    intro x3 σ w h
    rw [fX3_write_15] at h
    refine kR.iload_n dX3_write_15 3 rfl ?_
    refine kR.aload_n dX3_write_16 2 rfl ?_
    refine kR.getI dX3_write_17 flX3_29 zcf6 (zq0 b2) (Or.inl rfl) ?_
    refine kR.icmp_ge (tgt := 118) dX3_write_20 (by decide) h (fun h => ?_) (fun h => ?_)
    · refine zR.bipush (v := 107) dX3_write_118 (by decide) ?_
      refine zR.istore_n (i := 3) (ls' := [(3, .int 107), (0, .ref 35), (1, .ref 4), (2, .ref (rp b2 + 0))]) dX3_write_120 rfl (by decide) rfl ?_
      refine zR.iconst (v := 0) dX3_write_121 (by decide) ?_
      refine zR.istore (i := 4) (ls' := [(4, .int 0), (3, .int 107), (0, .ref 35), (1, .ref 4), (2, .ref (rp b2 + 0))]) dX3_write_122 (by decide) rfl ?_
      refine zR.sub [2, 1, 0] rfl ?_
      exact kX3_write_124 b2 zF _ _ _ _ h
    · refine kR.aload_n dX3_write_23 0 rfl ?_
      refine kR.aload_n dX3_write_24 1 rfl ?_
      refine kR.iload_n dX3_write_25 3 rfl ?_
      obtain ⟨v9, e10, h⟩ := bnr_some h
      refine kR.cVi [.int x3] dX3_write_26 rfl (by decide) mwX3_34 zp4 (by decide) rfl rfl (Nat.le_of_ble_eq_true rfl) (lX7_breathOf σ x3 _ e10) ?_
      obtain ⟨σ11, e12, h⟩ := bnr_some h
      refine kR.cVv [.int v9] dX3_write_29 rfl (by decide) mwX3_25 zp35 (by decide) rfl rfl (Nat.le_of_ble_eq_true rfl) (lX3_addByte v9 σ _ e12) ?_
      refine kR.aload_n dX3_write_32 0 rfl ?_
      refine kR.aload_n dX3_write_33 1 rfl ?_
      refine kR.iload_n dX3_write_34 3 rfl ?_
      obtain ⟨v13, e14, h⟩ := bnr_some h
      refine kR.cVi [.int x3] dX3_write_35 rfl (by decide) mwX3_38 zp4 (by decide) rfl rfl (Nat.le_of_ble_eq_true rfl) (lX7_givesOf σ11 x3 _ e14) ?_
      obtain ⟨σ15, e16, h⟩ := bnr_some h
      refine kR.cVv [.int v13] dX3_write_38 rfl (by decide) mwX3_25 zp35 (by decide) rfl rfl (Nat.le_of_ble_eq_true rfl) (lX3_addByte v13 σ11 _ e16) ?_
      refine kR.aload_n dX3_write_41 1 rfl ?_
      refine kR.iload_n dX3_write_42 3 rfl ?_
      obtain ⟨v17, e18, h⟩ := bnr_some h
      refine kR.cVi [.int x3] dX3_write_43 rfl (by decide) mwX3_41 zp4 (by decide) rfl rfl (Nat.le_of_ble_eq_true rfl) (lX7_scoreOf σ15 x3 _ e18) ?_
      refine zR.ldc (v := 100000) dX3_write_46 ciX3_44 ?_
      refine zR.iadd dX3_write_48 ?_
      refine zR.istore (i := 4) (ls' := [(4, .int (v17 + 100000)), (0, .ref 35), (1, .ref 4), (2, .ref (rp b2 + 0)), (3, .int x3)]) dX3_write_49 (by decide) rfl ?_
      refine kR.aload_n dX3_write_51 1 rfl ?_
      refine kR.iload dX3_write_52 0 rfl ?_
      refine zR.bipush (v := 16) dX3_write_54 (by decide) ?_
      refine zR.ishr dX3_write_56 ?_
      obtain ⟨σ19, e20, h⟩ := bnr_some h
      refine kR.cVv [.int ((v17 + 100000) >>> (16 &&& 31))] dX3_write_57 rfl (by decide) mwX3_25 zp35 (by decide) rfl rfl (Nat.le_of_ble_eq_true rfl) (lX3_addByte ((v17 + 100000) >>> (16 &&& 31)) σ15 _ e20) ?_
      refine kR.aload_n dX3_write_60 1 rfl ?_
      refine kR.iload dX3_write_61 0 rfl ?_
      refine zR.bipush (v := 8) dX3_write_63 (by decide) ?_
      refine zR.ishr dX3_write_65 ?_
      refine zR.sipush (v := 255) dX3_write_66 (by decide) ?_
      refine zR.iand dX3_write_69 ?_
      obtain ⟨σ21, e22, h⟩ := bnr_some h
      refine kR.cVv [.int (((v17 + 100000) >>> (8 &&& 31)) &&& 255)] dX3_write_70 rfl (by decide) mwX3_25 zp35 (by decide) rfl rfl (Nat.le_of_ble_eq_true rfl) (lX3_addByte (((v17 + 100000) >>> (8 &&& 31)) &&& 255) σ19 _ e22) ?_
      refine kR.aload_n dX3_write_73 1 rfl ?_
      refine kR.iload dX3_write_74 0 rfl ?_
      refine zR.sipush (v := 255) dX3_write_76 (by decide) ?_
      refine zR.iand dX3_write_79 ?_
      obtain ⟨σ23, e24, h⟩ := bnr_some h
      refine kR.cVv [.int ((v17 + 100000) &&& 255)] dX3_write_80 rfl (by decide) mwX3_25 zp35 (by decide) rfl rfl (Nat.le_of_ble_eq_true rfl) (lX3_addByte ((v17 + 100000) &&& 255) σ21 _ e24) ?_
      refine zR.iconst (v := 0) dX3_write_83 (by decide) ?_
      refine zR.istore (i := 5) (ls' := [(5, .int 0), (4, .int (v17 + 100000)), (0, .ref 35), (1, .ref 4), (2, .ref (rp b2 + 0)), (3, .int x3)]) dX3_write_84 (by decide) rfl ?_
      refine zR.sub [2, 3, 4, 5, 0] rfl ?_
      exact kX3_write_86 b2 (fX3_write_15 b2 f) ih zF _ _ _ _ h
def fX3_write (b2 : Bool) (σ : zS) : Option zS := bnd (iS σ 35 1 0) fun σ1 => bnr (fX7_nextTunnel σ1) fun v2 => bnr (fX3_addByte v2 σ1) fun σ4 => fX3_write_15 b2 zF 0 σ4
theorem eX3_write {sc : Nat × (Nat → Int32)} (b2 : Bool) (σ : zS) (w : zS) (h : fX3_write b2 σ = some w) : zR (zY0 sc) 3 0 0 mX3_write 0 [(0, .ref 35), (1, .ref 4), (2, .ref (rp b2 + 0))] [] (zE σ) (none, zE w) := by
  unfold fX3_write at h
  refine kR.aload_n dX3_write_0 0 rfl ?_
  refine zR.iconst (v := 0) dX3_write_1 (by decide) ?_
  refine kR.putI dX3_write_2 fpX3_15 zcf3 zp35 rfl h (fun σ1 h => ?_)
  refine kR.aload_n dX3_write_5 0 rfl ?_
  refine kR.aload_n dX3_write_6 1 rfl ?_
  obtain ⟨v2, e3, h⟩ := bnr_some h
  refine kR.cVi [] dX3_write_7 rfl (by decide) mwX3_19 zp4 (by decide) rfl rfl (Nat.le_of_ble_eq_true rfl) (lX7_nextTunnel σ1 _ e3) ?_
  obtain ⟨σ4, e5, h⟩ := bnr_some h
  refine kR.cVv [.int v2] dX3_write_10 rfl (by decide) mwX3_25 zp35 (by decide) rfl rfl (Nat.le_of_ble_eq_true rfl) (lX3_addByte v2 σ1 _ e5) ?_
  refine zR.iconst (v := 0) dX3_write_13 (by decide) ?_
  refine zR.istore_n (i := 3) (ls' := [(3, .int 0), (0, .ref 35), (1, .ref 4), (2, .ref (rp b2 + 0))]) dX3_write_14 rfl (by decide) rfl ?_
  refine zR.sub [1, 2, 3, 0] rfl ?_
  exact kX3_write_15 b2 zF _ _ _ h
theorem lX3_write {sc : Nat × (Nat → Int32)} (b2 : Bool) (σ : zS) (w : zS) (h : fX3_write b2 σ = some w) : zC (zY0 sc) 3 0 0 mX3_write [.ref 35, .ref 4, .ref (rp b2 + 0)] (zE σ) (none, zE w) := zC.of (by decide +kernel) (Nat.le_of_ble_eq_true rfl) rfl (eX3_write b2 σ w h)
theorem dX10_image_0 : decode cX10_image 0 = .ok (.aload_n 0, 1) := by decide +kernel
theorem dX10_image_1 : decode cX10_image 1 = .ok (.getfield 61, 3) := by decide +kernel
theorem dX10_image_4 : decode cX10_image 4 = .ok (.aload_n 0, 1) := by decide +kernel
theorem dX10_image_5 : decode cX10_image 5 = .ok (.getfield 19, 3) := by decide +kernel
theorem dX10_image_8 : decode cX10_image 8 = .ok (.aload_n 0, 1) := by decide +kernel
theorem dX10_image_9 : decode cX10_image 9 = .ok (.getfield 38, 3) := by decide +kernel
theorem dX10_image_12 : decode cX10_image 12 = .ok (.getfield 111, 3) := by decide +kernel
theorem dX10_image_15 : decode cX10_image 15 = .ok (.invokevirtual 311, 3) := by decide +kernel
theorem dX10_image_18 : decode cX10_image 18 = .ok (.aload_n 0, 1) := by decide +kernel
theorem dX10_image_19 : decode cX10_image 19 = .ok (.getfield 61, 3) := by decide +kernel
theorem dX10_image_22 : decode cX10_image 22 = .ok (.getfield 314, 3) := by decide +kernel
theorem dX10_image_25 : decode cX10_image 25 = .ok (.ireturn, 1) := by decide +kernel
def fX10_image (σ : zS) : Option (Int32 × zS) := bnr (fX3_write σ.2.2.2.1 σ) fun σ1 => some (iG σ1 35 1, σ1)
theorem eX10_image {sc : Nat × (Nat → Int32)} (σ : zS) (w : Int32 × zS) (h : fX10_image σ = some w) : zR (zY0 sc) 4 0 0 mX10_image 0 [(0, .ref 1)] [] (zE σ) (some (.int w.1), zE w.2) := by
  unfold fX10_image at h
  refine kR.aload_n dX10_image_0 0 rfl ?_
  refine kR.getR (v := 35) dX10_image_1 flX10_61 zcf10 zp1 (Or.inl ⟨_, rfl⟩) rfl ?_
  refine kR.aload_n dX10_image_4 0 rfl ?_
  refine kR.getR (v := 4) dX10_image_5 flX10_19 zcf10 zp1 (Or.inl ⟨_, rfl⟩) rfl ?_
  refine kR.aload_n dX10_image_8 0 rfl ?_
  refine kR.getR (v := 8) dX10_image_9 flX10_38 zcf10 zp1 (Or.inl ⟨_, rfl⟩) rfl ?_
  refine kR.getR (v := (rp σ.2.2.2.1 + 0)) dX10_image_12 flX10_111 zcf4 zp8 (Or.inl ⟨_, rfl⟩) rfl ?_
  obtain ⟨σ1, e2, h⟩ := bnr_some h
  refine kR.cVv [.ref 4, .ref (rp σ.2.2.2.1 + 0)] dX10_image_15 rfl (by decide) mwX10_311 zp35 (by decide) rfl rfl (Nat.le_of_ble_eq_true rfl) (lX3_write σ.2.2.2.1 σ _ e2) ?_
  refine kR.aload_n dX10_image_18 0 rfl ?_
  refine kR.getR (v := 35) dX10_image_19 flX10_61 zcf10 zp1 (Or.inl ⟨_, rfl⟩) rfl ?_
  refine kR.getI dX10_image_22 flX10_314 zcf3 zp35 (Or.inl rfl) ?_
  exact kR.iretW dX10_image_25 (nzI rfl _) h
theorem lX10_image {sc : Nat × (Nat → Int32)} (σ : zS) (w : Int32 × zS) (h : fX10_image σ = some w) : zC (zY0 sc) 4 0 0 mX10_image [.ref 1] (zE σ) (some (.int w.1), zE w.2) := zC.of (by decide +kernel) (Nat.le_of_ble_eq_true rfl) ⟨_, rfl⟩ (eX10_image σ w h)
theorem dX10_octet_0 : decode cX10_octet 0 = .ok (.iload_n 1, 1) := by decide +kernel
theorem dX10_octet_1 : decode cX10_octet 1 = .ok (.ifCond .lt 26, 3) := by decide +kernel
theorem dX10_octet_4 : decode cX10_octet 4 = .ok (.iload_n 1, 1) := by decide +kernel
theorem dX10_octet_5 : decode cX10_octet 5 = .ok (.aload_n 0, 1) := by decide +kernel
theorem dX10_octet_6 : decode cX10_octet 6 = .ok (.getfield 61, 3) := by decide +kernel
theorem dX10_octet_9 : decode cX10_octet 9 = .ok (.getfield 314, 3) := by decide +kernel
theorem dX10_octet_12 : decode cX10_octet 12 = .ok (.if_icmp .ge 15, 3) := by decide +kernel
theorem dX10_octet_15 : decode cX10_octet 15 = .ok (.aload_n 0, 1) := by decide +kernel
theorem dX10_octet_16 : decode cX10_octet 16 = .ok (.getfield 61, 3) := by decide +kernel
theorem dX10_octet_19 : decode cX10_octet 19 = .ok (.getfield 315, 3) := by decide +kernel
theorem dX10_octet_22 : decode cX10_octet 22 = .ok (.iload_n 1, 1) := by decide +kernel
theorem dX10_octet_23 : decode cX10_octet 23 = .ok (.iaload, 1) := by decide +kernel
theorem dX10_octet_24 : decode cX10_octet 24 = .ok (.goto 4, 3) := by decide +kernel
theorem dX10_octet_27 : decode cX10_octet 27 = .ok (.iconst (-1), 1) := by decide +kernel
theorem dX10_octet_28 : decode cX10_octet 28 = .ok (.ireturn, 1) := by decide +kernel
def fX10_octet (σ : zS) (p1 : Int32) : Option Int32 := if p1 < 0 then some ((-1)) else if (iG σ 35 1) ≤ p1 then some ((-1)) else aI σ 36 68 p1 fun v1 => some v1
theorem eX10_octet {sc : Nat × (Nat → Int32)} (σ : zS) (p1 : Int32) (w : Int32) (h : fX10_octet σ p1 = some w) : zR (zY0 sc) 1 0 0 mX10_octet 0 [(0, .ref 1), (1, .int p1)] [] (zE σ) (some (.int w), zE σ) := by
  unfold fX10_octet at h
  refine kR.iload_n dX10_octet_0 1 rfl ?_
  refine kR.if_lt (tgt := 27) dX10_octet_1 (by decide) h (fun h => ?_) (fun h => ?_)
  · refine zR.iconst (v := (-1)) dX10_octet_27 (by decide) ?_
    exact kR.iretO dX10_octet_28 (nzI rfl _) h
  · refine kR.iload_n dX10_octet_4 1 rfl ?_
    refine kR.aload_n dX10_octet_5 0 rfl ?_
    refine kR.getR (v := 35) dX10_octet_6 flX10_61 zcf10 zp1 (Or.inl ⟨_, rfl⟩) rfl ?_
    refine kR.getI dX10_octet_9 flX10_314 zcf3 zp35 (Or.inl rfl) ?_
    refine kR.icmp_ge (tgt := 27) dX10_octet_12 (by decide) h (fun h => ?_) (fun h => ?_)
    · refine zR.iconst (v := (-1)) dX10_octet_27 (by decide) ?_
      exact kR.iretO dX10_octet_28 (nzI rfl _) h
    · refine kR.aload_n dX10_octet_15 0 rfl ?_
      refine kR.getR (v := 35) dX10_octet_16 flX10_61 zcf10 zp1 (Or.inl ⟨_, rfl⟩) rfl ?_
      refine kR.getR (v := 36) dX10_octet_19 flX10_315 zcf3 zp35 (Or.inr ⟨_, rfl⟩) rfl ?_
      refine kR.iload_n dX10_octet_22 1 rfl ?_
      refine kR.iald dX10_octet_23 zp36 rfl h (fun v1 h => ?_)
      refine zR.goto (tgt := 28) dX10_octet_24 (by decide) ?_
      exact kR.iretO dX10_octet_28 (nzI rfl _) h
theorem lX10_octet {sc : Nat × (Nat → Int32)} (σ : zS) (p1 : Int32) (w : Int32) (h : fX10_octet σ p1 = some w) : zC (zY0 sc) 1 0 0 mX10_octet [.ref 1, .int p1] (zE σ) (some (.int w), zE σ) := zC.of (by decide +kernel) (Nat.le_of_ble_eq_true rfl) ⟨_, rfl⟩ (eX10_octet σ p1 w h)
theorem dX3_holderSize_0 : decode cX3_holderSize 0 = .ok (.iconst 5, 1) := by decide +kernel
theorem dX3_holderSize_1 : decode cX3_holderSize 1 = .ok (.aload_n 0, 1) := by decide +kernel
theorem dX3_holderSize_2 : decode cX3_holderSize 2 = .ok (.getfield 45, 3) := by decide +kernel
theorem dX3_holderSize_5 : decode cX3_holderSize 5 = .ok (.iadd, 1) := by decide +kernel
theorem dX3_holderSize_6 : decode cX3_holderSize 6 = .ok (.ireturn, 1) := by decide +kernel
def fX3_holderSize (b0 : Bool) (σ : zS) : Int32 := 5 + (iG σ (rp b0 + 0) 1)
theorem eX3_holderSize {sc : Nat × (Nat → Int32)} (b0 : Bool) (σ : zS) (w : Int32) (h : fX3_holderSize b0 σ = w) : zR (zY0 sc) 1 0 0 mX3_holderSize 0 [(0, .ref (rp b0 + 0))] [] (zE σ) (some (.int w), zE σ) := by
  unfold fX3_holderSize at h
  refine zR.iconst (v := 5) dX3_holderSize_0 (by decide) ?_
  refine kR.aload_n dX3_holderSize_1 0 rfl ?_
  refine kR.getI dX3_holderSize_2 flX3_45 zcf6 (zq0 b0) (Or.inl rfl) ?_
  refine zR.iadd dX3_holderSize_5 ?_
  exact kR.iret dX3_holderSize_6 (nzI rfl _) h
theorem lX3_holderSize {sc : Nat × (Nat → Int32)} (b0 : Bool) (σ : zS) : zC (zY0 sc) 1 0 0 mX3_holderSize [.ref (rp b0 + 0)] (zE σ) (some (.int (fX3_holderSize b0 σ)), zE σ) := zC.of (by decide +kernel) (Nat.le_of_ble_eq_true rfl) ⟨_, rfl⟩ (eX3_holderSize b0 σ _ rfl)
theorem dX3_scoreAt_0 : decode cX3_scoreAt 0 = .ok (.aload_n 0, 1) := by decide +kernel
theorem dX3_scoreAt_1 : decode cX3_scoreAt 1 = .ok (.iload_n 1, 1) := by decide +kernel
theorem dX3_scoreAt_2 : decode cX3_scoreAt 2 = .ok (.invokevirtual 62, 3) := by decide +kernel
theorem dX3_scoreAt_5 : decode cX3_scoreAt 5 = .ok (.bipush 16, 2) := by decide +kernel
theorem dX3_scoreAt_7 : decode cX3_scoreAt 7 = .ok (.ishl, 1) := by decide +kernel
theorem dX3_scoreAt_8 : decode cX3_scoreAt 8 = .ok (.aload_n 0, 1) := by decide +kernel
theorem dX3_scoreAt_9 : decode cX3_scoreAt 9 = .ok (.iload_n 1, 1) := by decide +kernel
theorem dX3_scoreAt_10 : decode cX3_scoreAt 10 = .ok (.iconst 1, 1) := by decide +kernel
theorem dX3_scoreAt_11 : decode cX3_scoreAt 11 = .ok (.iadd, 1) := by decide +kernel
theorem dX3_scoreAt_12 : decode cX3_scoreAt 12 = .ok (.invokevirtual 62, 3) := by decide +kernel
theorem dX3_scoreAt_15 : decode cX3_scoreAt 15 = .ok (.bipush 8, 2) := by decide +kernel
theorem dX3_scoreAt_17 : decode cX3_scoreAt 17 = .ok (.ishl, 1) := by decide +kernel
theorem dX3_scoreAt_18 : decode cX3_scoreAt 18 = .ok (.ior, 1) := by decide +kernel
theorem dX3_scoreAt_19 : decode cX3_scoreAt 19 = .ok (.aload_n 0, 1) := by decide +kernel
theorem dX3_scoreAt_20 : decode cX3_scoreAt 20 = .ok (.iload_n 1, 1) := by decide +kernel
theorem dX3_scoreAt_21 : decode cX3_scoreAt 21 = .ok (.iconst 2, 1) := by decide +kernel
theorem dX3_scoreAt_22 : decode cX3_scoreAt 22 = .ok (.iadd, 1) := by decide +kernel
theorem dX3_scoreAt_23 : decode cX3_scoreAt 23 = .ok (.invokevirtual 62, 3) := by decide +kernel
theorem dX3_scoreAt_26 : decode cX3_scoreAt 26 = .ok (.ior, 1) := by decide +kernel
theorem dX3_scoreAt_27 : decode cX3_scoreAt 27 = .ok (.ldc 44, 2) := by decide +kernel
theorem dX3_scoreAt_29 : decode cX3_scoreAt 29 = .ok (.isub, 1) := by decide +kernel
theorem dX3_scoreAt_30 : decode cX3_scoreAt 30 = .ok (.ireturn, 1) := by decide +kernel
def fX3_scoreAt (σ : zS) (p1 : Int32) : Option Int32 := bnr (fX9_byteAt σ p1) fun v1 => bnr (fX9_byteAt σ (p1 + 1)) fun v3 => bnr (fX9_byteAt σ (p1 + 2)) fun v5 => some ((((v1 <<< (16 &&& 31)) ||| (v3 <<< (8 &&& 31))) ||| v5) - 100000)
theorem eX3_scoreAt {sc : Nat × (Nat → Int32)} (σ : zS) (p1 : Int32) (w : Int32) (h : fX3_scoreAt σ p1 = some w) : zR (zY0 sc) 2 0 0 mX3_scoreAt 0 [(0, .ref 2), (1, .int p1)] [] (zE σ) (some (.int w), zE σ) := by
  unfold fX3_scoreAt at h
  refine kR.aload_n dX3_scoreAt_0 0 rfl ?_
  refine kR.iload_n dX3_scoreAt_1 1 rfl ?_
  obtain ⟨v1, e2, h⟩ := bnr_some h
  refine kR.cVi [.int p1] dX3_scoreAt_2 rfl (by decide) mwX3_62 zp2 (by decide) rfl rfl (Nat.le_of_ble_eq_true rfl) (lX9_byteAt σ p1 _ e2) ?_
  refine zR.bipush (v := 16) dX3_scoreAt_5 (by decide) ?_
  refine zR.ishl dX3_scoreAt_7 ?_
  refine kR.aload_n dX3_scoreAt_8 0 rfl ?_
  refine kR.iload_n dX3_scoreAt_9 1 rfl ?_
  refine zR.iconst (v := 1) dX3_scoreAt_10 (by decide) ?_
  refine zR.iadd dX3_scoreAt_11 ?_
  obtain ⟨v3, e4, h⟩ := bnr_some h
  refine kR.cVi [.int (p1 + 1)] dX3_scoreAt_12 rfl (by decide) mwX3_62 zp2 (by decide) rfl rfl (Nat.le_of_ble_eq_true rfl) (lX9_byteAt σ (p1 + 1) _ e4) ?_
  refine zR.bipush (v := 8) dX3_scoreAt_15 (by decide) ?_
  refine zR.ishl dX3_scoreAt_17 ?_
  refine zR.ior dX3_scoreAt_18 ?_
  refine kR.aload_n dX3_scoreAt_19 0 rfl ?_
  refine kR.iload_n dX3_scoreAt_20 1 rfl ?_
  refine zR.iconst (v := 2) dX3_scoreAt_21 (by decide) ?_
  refine zR.iadd dX3_scoreAt_22 ?_
  obtain ⟨v5, e6, h⟩ := bnr_some h
  refine kR.cVi [.int (p1 + 2)] dX3_scoreAt_23 rfl (by decide) mwX3_62 zp2 (by decide) rfl rfl (Nat.le_of_ble_eq_true rfl) (lX9_byteAt σ (p1 + 2) _ e6) ?_
  refine zR.ior dX3_scoreAt_26 ?_
  refine zR.ldc (v := 100000) dX3_scoreAt_27 ciX3_44 ?_
  refine zR.isub dX3_scoreAt_29 ?_
  exact kR.iretO dX3_scoreAt_30 (nzI rfl _) h
theorem lX3_scoreAt {sc : Nat × (Nat → Int32)} (σ : zS) (p1 : Int32) (w : Int32) (h : fX3_scoreAt σ p1 = some w) : zC (zY0 sc) 2 0 0 mX3_scoreAt [.ref 2, .int p1] (zE σ) (some (.int w), zE σ) := zC.of (by decide +kernel) (Nat.le_of_ble_eq_true rfl) ⟨_, rfl⟩ (eX3_scoreAt σ p1 w h)
theorem dX3_isHolderAt_0 : decode cX3_isHolderAt 0 = .ok (.aload_n 0, 1) := by decide +kernel
theorem dX3_isHolderAt_1 : decode cX3_isHolderAt 1 = .ok (.iload_n 1, 1) := by decide +kernel
theorem dX3_isHolderAt_2 : decode cX3_isHolderAt 2 = .ok (.invokevirtual 62, 3) := by decide +kernel
theorem dX3_isHolderAt_5 : decode cX3_isHolderAt 5 = .ok (.invokestatic 73, 3) := by decide +kernel
theorem dX3_isHolderAt_8 : decode cX3_isHolderAt 8 = .ok (.ifCond .eq 16, 3) := by decide +kernel
theorem dX3_isHolderAt_11 : decode cX3_isHolderAt 11 = .ok (.aload_n 0, 1) := by decide +kernel
theorem dX3_isHolderAt_12 : decode cX3_isHolderAt 12 = .ok (.iload_n 1, 1) := by decide +kernel
theorem dX3_isHolderAt_13 : decode cX3_isHolderAt 13 = .ok (.iconst 1, 1) := by decide +kernel
theorem dX3_isHolderAt_14 : decode cX3_isHolderAt 14 = .ok (.iadd, 1) := by decide +kernel
theorem dX3_isHolderAt_15 : decode cX3_isHolderAt 15 = .ok (.invokevirtual 62, 3) := by decide +kernel
theorem dX3_isHolderAt_18 : decode cX3_isHolderAt 18 = .ok (.invokestatic 73, 3) := by decide +kernel
theorem dX3_isHolderAt_21 : decode cX3_isHolderAt 21 = .ok (.ifCond .ne 5, 3) := by decide +kernel
theorem dX3_isHolderAt_24 : decode cX3_isHolderAt 24 = .ok (.iconst 0, 1) := by decide +kernel
theorem dX3_isHolderAt_25 : decode cX3_isHolderAt 25 = .ok (.ireturn, 1) := by decide +kernel
theorem dX3_isHolderAt_26 : decode cX3_isHolderAt 26 = .ok (.aload_n 0, 1) := by decide +kernel
theorem dX3_isHolderAt_27 : decode cX3_isHolderAt 27 = .ok (.iload_n 1, 1) := by decide +kernel
theorem dX3_isHolderAt_28 : decode cX3_isHolderAt 28 = .ok (.iconst 2, 1) := by decide +kernel
theorem dX3_isHolderAt_29 : decode cX3_isHolderAt 29 = .ok (.iadd, 1) := by decide +kernel
theorem dX3_isHolderAt_30 : decode cX3_isHolderAt 30 = .ok (.invokestatic 76, 3) := by decide +kernel
theorem dX3_isHolderAt_33 : decode cX3_isHolderAt 33 = .ok (.istore_n 3, 1) := by decide +kernel
theorem dX3_isHolderAt_34 : decode cX3_isHolderAt 34 = .ok (.iload_n 3, 1) := by decide +kernel
theorem dX3_isHolderAt_35 : decode cX3_isHolderAt 35 = .ok (.ldc 80, 2) := by decide +kernel
theorem dX3_isHolderAt_37 : decode cX3_isHolderAt 37 = .ok (.if_icmp .lt 9, 3) := by decide +kernel
theorem dX3_isHolderAt_40 : decode cX3_isHolderAt 40 = .ok (.iload_n 3, 1) := by decide +kernel
theorem dX3_isHolderAt_41 : decode cX3_isHolderAt 41 = .ok (.ldc 81, 2) := by decide +kernel
theorem dX3_isHolderAt_43 : decode cX3_isHolderAt 43 = .ok (.if_icmp .le 5, 3) := by decide +kernel
theorem dX3_isHolderAt_46 : decode cX3_isHolderAt 46 = .ok (.iconst 0, 1) := by decide +kernel
theorem dX3_isHolderAt_47 : decode cX3_isHolderAt 47 = .ok (.ireturn, 1) := by decide +kernel
theorem dX3_isHolderAt_48 : decode cX3_isHolderAt 48 = .ok (.iconst 0, 1) := by decide +kernel
theorem dX3_isHolderAt_49 : decode cX3_isHolderAt 49 = .ok (.istore 4, 2) := by decide +kernel
theorem dX3_isHolderAt_51 : decode cX3_isHolderAt 51 = .ok (.iload 4, 2) := by decide +kernel
theorem dX3_isHolderAt_53 : decode cX3_isHolderAt 53 = .ok (.iload_n 2, 1) := by decide +kernel
theorem dX3_isHolderAt_54 : decode cX3_isHolderAt 54 = .ok (.if_icmp .ge 27, 3) := by decide +kernel
theorem dX3_isHolderAt_57 : decode cX3_isHolderAt 57 = .ok (.aload_n 0, 1) := by decide +kernel
theorem dX3_isHolderAt_58 : decode cX3_isHolderAt 58 = .ok (.iload_n 1, 1) := by decide +kernel
theorem dX3_isHolderAt_59 : decode cX3_isHolderAt 59 = .ok (.iconst 5, 1) := by decide +kernel
theorem dX3_isHolderAt_60 : decode cX3_isHolderAt 60 = .ok (.iadd, 1) := by decide +kernel
theorem dX3_isHolderAt_61 : decode cX3_isHolderAt 61 = .ok (.iload 4, 2) := by decide +kernel
theorem dX3_isHolderAt_63 : decode cX3_isHolderAt 63 = .ok (.iadd, 1) := by decide +kernel
theorem dX3_isHolderAt_64 : decode cX3_isHolderAt 64 = .ok (.invokevirtual 62, 3) := by decide +kernel
theorem dX3_isHolderAt_67 : decode cX3_isHolderAt 67 = .ok (.invokestatic 73, 3) := by decide +kernel
theorem dX3_isHolderAt_70 : decode cX3_isHolderAt 70 = .ok (.ifCond .ne 5, 3) := by decide +kernel
theorem dX3_isHolderAt_73 : decode cX3_isHolderAt 73 = .ok (.iconst 0, 1) := by decide +kernel
theorem dX3_isHolderAt_74 : decode cX3_isHolderAt 74 = .ok (.ireturn, 1) := by decide +kernel
theorem dX3_isHolderAt_75 : decode cX3_isHolderAt 75 = .ok (.iinc 4 1, 3) := by decide +kernel
theorem dX3_isHolderAt_78 : decode cX3_isHolderAt 78 = .ok (.goto (-27), 3) := by decide +kernel
theorem dX3_isHolderAt_81 : decode cX3_isHolderAt 81 = .ok (.iconst 1, 1) := by decide +kernel
theorem dX3_isHolderAt_82 : decode cX3_isHolderAt 82 = .ok (.ireturn, 1) := by decide +kernel
def fX3_isHolderAt_51 (σ : zS) : Nat → Int32 → Int32 → Int32 → Option Int32
  | 0, _, _, _ => none
  | f + 1, x1, x2, x4 => if x2 ≤ x4 then some 1 else bnr (fX9_byteAt σ ((x1 + 5) + x4)) fun v7 => if (fX10_isSecond v7) = 0 then some 0 else fX3_isHolderAt_51 σ f x1 x2 (x4 + 1)
theorem kX3_isHolderAt_51 {sc : Nat × (Nat → Int32)} (σ : zS) : ∀ (fuel : Nat) (x1 : Int32) (x2 : Int32) (x4 : Int32) (w : Int32) (h : fX3_isHolderAt_51 σ fuel x1 x2 x4 = some w), zR (zY0 sc) 3 0 0 mX3_isHolderAt 51 [(0, .ref 2), (1, .int x1), (2, .int x2), (4, .int x4)] [] (zE σ) (some (.int w), zE σ) := by
  intro fuel
  induction fuel with
  | zero => intro x1 x2 x4 w h; exact nomatch h
  | succ f ih =>
    intro x1 x2 x4 w h
    rw [fX3_isHolderAt_51] at h
    refine kR.iload dX3_isHolderAt_51 3 rfl ?_
    refine kR.iload_n dX3_isHolderAt_53 2 rfl ?_
    refine kR.icmp_ge (tgt := 81) dX3_isHolderAt_54 (by decide) h (fun h => ?_) (fun h => ?_)
    · refine zR.iconst (v := 1) dX3_isHolderAt_81 (by decide) ?_
      exact kR.iretO dX3_isHolderAt_82 (nzZ rfl (Or.inr rfl)) h
    · refine kR.aload_n dX3_isHolderAt_57 0 rfl ?_
      refine kR.iload_n dX3_isHolderAt_58 1 rfl ?_
      refine zR.iconst (v := 5) dX3_isHolderAt_59 (by decide) ?_
      refine zR.iadd dX3_isHolderAt_60 ?_
      refine kR.iload dX3_isHolderAt_61 3 rfl ?_
      refine zR.iadd dX3_isHolderAt_63 ?_
      obtain ⟨v7, e8, h⟩ := bnr_some h
      refine kR.cVi [.int ((x1 + 5) + x4)] dX3_isHolderAt_64 rfl (by decide) mwX3_62 zp2 (by decide) rfl rfl (Nat.le_of_ble_eq_true rfl) (lX9_byteAt σ ((x1 + 5) + x4) _ e8) ?_
      refine kR.cSi [.int v7] dX3_isHolderAt_67 rfl (by decide) (Or.inr mwX3_73) rfl (Nat.le_of_ble_eq_true rfl) (lX10_isSecond v7) ?_
      refine kR.if_ne (tgt := 75) dX3_isHolderAt_70 (by decide) h (fun h => ?_) (fun h => ?_)
      · refine zR.iinc 3 (v := x4 + 1) (ls' := [(4, .int (x4 + 1)), (0, .ref 2), (1, .int x1), (2, .int x2)]) dX3_isHolderAt_75 rfl rfl (by decide) rfl ?_
        refine zR.goto (tgt := 51) dX3_isHolderAt_78 (by decide) ?_
        refine zR.sub [1, 2, 3, 0] rfl ?_
        exact ih _ _ _ _ h
      · refine zR.iconst (v := 0) dX3_isHolderAt_73 (by decide) ?_
        exact kR.iretO dX3_isHolderAt_74 (nzZ rfl (Or.inl rfl)) h
def fX3_isHolderAt (σ : zS) (p1 : Int32) (p2 : Int32) : Option Int32 := bnr (fX9_byteAt σ p1) fun v1 => if (fX10_isSecond v1) = 0 then some 0 else bnr (fX9_byteAt σ (p1 + 1)) fun v3 => if (fX10_isSecond v3) = 0 then some 0 else bnr (fX3_scoreAt σ (p1 + 2)) fun v5 => if v5 < ((-99999)) then some 0 else if v5 ≤ 99999 then fX3_isHolderAt_51 σ zF p1 p2 0 else some 0
theorem eX3_isHolderAt {sc : Nat × (Nat → Int32)} (σ : zS) (p1 : Int32) (p2 : Int32) (w : Int32) (h : fX3_isHolderAt σ p1 p2 = some w) : zR (zY0 sc) 3 0 0 mX3_isHolderAt 0 [(0, .ref 2), (1, .int p1), (2, .int p2)] [] (zE σ) (some (.int w), zE σ) := by
  unfold fX3_isHolderAt at h
  refine kR.aload_n dX3_isHolderAt_0 0 rfl ?_
  refine kR.iload_n dX3_isHolderAt_1 1 rfl ?_
  obtain ⟨v1, e2, h⟩ := bnr_some h
  refine kR.cVi [.int p1] dX3_isHolderAt_2 rfl (by decide) mwX3_62 zp2 (by decide) rfl rfl (Nat.le_of_ble_eq_true rfl) (lX9_byteAt σ p1 _ e2) ?_
  refine kR.cSi [.int v1] dX3_isHolderAt_5 rfl (by decide) (Or.inr mwX3_73) rfl (Nat.le_of_ble_eq_true rfl) (lX10_isSecond v1) ?_
  refine kR.if_eq (tgt := 24) dX3_isHolderAt_8 (by decide) h (fun h => ?_) (fun h => ?_)
  · refine zR.iconst (v := 0) dX3_isHolderAt_24 (by decide) ?_
    exact kR.iretO dX3_isHolderAt_25 (nzZ rfl (Or.inl rfl)) h
  · refine kR.aload_n dX3_isHolderAt_11 0 rfl ?_
    refine kR.iload_n dX3_isHolderAt_12 1 rfl ?_
    refine zR.iconst (v := 1) dX3_isHolderAt_13 (by decide) ?_
    refine zR.iadd dX3_isHolderAt_14 ?_
    obtain ⟨v3, e4, h⟩ := bnr_some h
    refine kR.cVi [.int (p1 + 1)] dX3_isHolderAt_15 rfl (by decide) mwX3_62 zp2 (by decide) rfl rfl (Nat.le_of_ble_eq_true rfl) (lX9_byteAt σ (p1 + 1) _ e4) ?_
    refine kR.cSi [.int v3] dX3_isHolderAt_18 rfl (by decide) (Or.inr mwX3_73) rfl (Nat.le_of_ble_eq_true rfl) (lX10_isSecond v3) ?_
    refine kR.if_ne (tgt := 26) dX3_isHolderAt_21 (by decide) h (fun h => ?_) (fun h => ?_)
    · refine kR.aload_n dX3_isHolderAt_26 0 rfl ?_
      refine kR.iload_n dX3_isHolderAt_27 1 rfl ?_
      refine zR.iconst (v := 2) dX3_isHolderAt_28 (by decide) ?_
      refine zR.iadd dX3_isHolderAt_29 ?_
      obtain ⟨v5, e6, h⟩ := bnr_some h
      refine kR.cSi [.ref 2, .int (p1 + 2)] dX3_isHolderAt_30 rfl (by decide) (Or.inl mwX3_76) rfl (Nat.le_of_ble_eq_true rfl) (lX3_scoreAt σ (p1 + 2) _ e6) ?_
      refine zR.istore_n (i := 3) (ls' := [(3, .int v5), (0, .ref 2), (1, .int p1), (2, .int p2)]) dX3_isHolderAt_33 rfl (by decide) rfl ?_
      refine kR.iload_n dX3_isHolderAt_34 0 rfl ?_
      refine zR.ldc (v := (-99999)) dX3_isHolderAt_35 ciX3_80 ?_
      refine kR.icmp_lt (tgt := 46) dX3_isHolderAt_37 (by decide) h (fun h => ?_) (fun h => ?_)
      · refine zR.iconst (v := 0) dX3_isHolderAt_46 (by decide) ?_
        exact kR.iretO dX3_isHolderAt_47 (nzZ rfl (Or.inl rfl)) h
      · refine kR.iload_n dX3_isHolderAt_40 0 rfl ?_
        refine zR.ldc (v := 99999) dX3_isHolderAt_41 ciX3_81 ?_
        refine kR.icmp_le (tgt := 48) dX3_isHolderAt_43 (by decide) h (fun h => ?_) (fun h => ?_)
        · refine zR.iconst (v := 0) dX3_isHolderAt_48 (by decide) ?_
          refine zR.istore (i := 4) (ls' := [(4, .int 0), (3, .int v5), (0, .ref 2), (1, .int p1), (2, .int p2)]) dX3_isHolderAt_49 (by decide) rfl ?_
          refine zR.sub [2, 3, 4, 0] rfl ?_
          exact kX3_isHolderAt_51 σ zF _ _ _ _ h
        · refine zR.iconst (v := 0) dX3_isHolderAt_46 (by decide) ?_
          exact kR.iretO dX3_isHolderAt_47 (nzZ rfl (Or.inl rfl)) h
    · refine zR.iconst (v := 0) dX3_isHolderAt_24 (by decide) ?_
      exact kR.iretO dX3_isHolderAt_25 (nzZ rfl (Or.inl rfl)) h
theorem lX3_isHolderAt {sc : Nat × (Nat → Int32)} (σ : zS) (p1 : Int32) (p2 : Int32) (w : Int32) (h : fX3_isHolderAt σ p1 p2 = some w) : zC (zY0 sc) 3 0 0 mX3_isHolderAt [.ref 2, .int p1, .int p2] (zE σ) (some (.int w), zE σ) := zC.of (by decide +kernel) (Nat.le_of_ble_eq_true rfl) ⟨_, rfl⟩ (eX3_isHolderAt σ p1 p2 w h)
theorem dX3_isOf_0 : decode cX3_isOf 0 = .ok (.iconst 1, 1) := by decide +kernel
theorem dX3_isOf_1 : decode cX3_isOf 1 = .ok (.aload_n 1, 1) := by decide +kernel
theorem dX3_isOf_2 : decode cX3_isOf 2 = .ok (.getfield 29, 3) := by decide +kernel
theorem dX3_isOf_5 : decode cX3_isOf 5 = .ok (.aload_n 1, 1) := by decide +kernel
theorem dX3_isOf_6 : decode cX3_isOf 6 = .ok (.invokestatic 55, 3) := by decide +kernel
theorem dX3_isOf_9 : decode cX3_isOf 9 = .ok (.imul, 1) := by decide +kernel
theorem dX3_isOf_10 : decode cX3_isOf 10 = .ok (.iadd, 1) := by decide +kernel
theorem dX3_isOf_11 : decode cX3_isOf 11 = .ok (.istore_n 2, 1) := by decide +kernel
theorem dX3_isOf_12 : decode cX3_isOf 12 = .ok (.aload_n 0, 1) := by decide +kernel
theorem dX3_isOf_13 : decode cX3_isOf 13 = .ok (.getfield 59, 3) := by decide +kernel
theorem dX3_isOf_16 : decode cX3_isOf 16 = .ok (.iload_n 2, 1) := by decide +kernel
theorem dX3_isOf_17 : decode cX3_isOf 17 = .ok (.iconst 1, 1) := by decide +kernel
theorem dX3_isOf_18 : decode cX3_isOf 18 = .ok (.iadd, 1) := by decide +kernel
theorem dX3_isOf_19 : decode cX3_isOf 19 = .ok (.if_icmp .eq 5, 3) := by decide +kernel
theorem dX3_isOf_22 : decode cX3_isOf 22 = .ok (.iconst 0, 1) := by decide +kernel
theorem dX3_isOf_23 : decode cX3_isOf 23 = .ok (.ireturn, 1) := by decide +kernel
theorem dX3_isOf_24 : decode cX3_isOf 24 = .ok (.bipush 107, 2) := by decide +kernel
theorem dX3_isOf_26 : decode cX3_isOf 26 = .ok (.istore_n 3, 1) := by decide +kernel
theorem dX3_isOf_27 : decode cX3_isOf 27 = .ok (.iconst 0, 1) := by decide +kernel
theorem dX3_isOf_28 : decode cX3_isOf 28 = .ok (.istore 4, 2) := by decide +kernel
theorem dX3_isOf_30 : decode cX3_isOf 30 = .ok (.iload 4, 2) := by decide +kernel
theorem dX3_isOf_32 : decode cX3_isOf 32 = .ok (.iload_n 2, 1) := by decide +kernel
theorem dX3_isOf_33 : decode cX3_isOf 33 = .ok (.if_icmp .ge 20, 3) := by decide +kernel
theorem dX3_isOf_36 : decode cX3_isOf 36 = .ok (.iload_n 3, 1) := by decide +kernel
theorem dX3_isOf_37 : decode cX3_isOf 37 = .ok (.aload_n 0, 1) := by decide +kernel
theorem dX3_isOf_38 : decode cX3_isOf 38 = .ok (.iload 4, 2) := by decide +kernel
theorem dX3_isOf_40 : decode cX3_isOf 40 = .ok (.invokevirtual 62, 3) := by decide +kernel
theorem dX3_isOf_43 : decode cX3_isOf 43 = .ok (.invokestatic 52, 3) := by decide +kernel
theorem dX3_isOf_46 : decode cX3_isOf 46 = .ok (.istore_n 3, 1) := by decide +kernel
theorem dX3_isOf_47 : decode cX3_isOf 47 = .ok (.iinc 4 1, 3) := by decide +kernel
theorem dX3_isOf_50 : decode cX3_isOf 50 = .ok (.goto (-20), 3) := by decide +kernel
theorem dX3_isOf_53 : decode cX3_isOf 53 = .ok (.iload_n 3, 1) := by decide +kernel
theorem dX3_isOf_54 : decode cX3_isOf 54 = .ok (.aload_n 0, 1) := by decide +kernel
theorem dX3_isOf_55 : decode cX3_isOf 55 = .ok (.iload_n 2, 1) := by decide +kernel
theorem dX3_isOf_56 : decode cX3_isOf 56 = .ok (.invokevirtual 62, 3) := by decide +kernel
theorem dX3_isOf_59 : decode cX3_isOf 59 = .ok (.if_icmp .eq 5, 3) := by decide +kernel
theorem dX3_isOf_62 : decode cX3_isOf 62 = .ok (.iconst 0, 1) := by decide +kernel
theorem dX3_isOf_63 : decode cX3_isOf 63 = .ok (.ireturn, 1) := by decide +kernel
theorem dX3_isOf_64 : decode cX3_isOf 64 = .ok (.aload_n 0, 1) := by decide +kernel
theorem dX3_isOf_65 : decode cX3_isOf 65 = .ok (.iconst 0, 1) := by decide +kernel
theorem dX3_isOf_66 : decode cX3_isOf 66 = .ok (.invokevirtual 62, 3) := by decide +kernel
theorem dX3_isOf_69 : decode cX3_isOf 69 = .ok (.ifCond .eq 17, 3) := by decide +kernel
theorem dX3_isOf_72 : decode cX3_isOf 72 = .ok (.aload_n 1, 1) := by decide +kernel
theorem dX3_isOf_73 : decode cX3_isOf 73 = .ok (.aload_n 0, 1) := by decide +kernel
theorem dX3_isOf_74 : decode cX3_isOf 74 = .ok (.iconst 0, 1) := by decide +kernel
theorem dX3_isOf_75 : decode cX3_isOf 75 = .ok (.invokevirtual 62, 3) := by decide +kernel
theorem dX3_isOf_78 : decode cX3_isOf 78 = .ok (.invokevirtual 65, 3) := by decide +kernel
theorem dX3_isOf_81 : decode cX3_isOf 81 = .ok (.ifCond .ne 5, 3) := by decide +kernel
theorem dX3_isOf_84 : decode cX3_isOf 84 = .ok (.iconst 0, 1) := by decide +kernel
theorem dX3_isOf_85 : decode cX3_isOf 85 = .ok (.ireturn, 1) := by decide +kernel
theorem dX3_isOf_86 : decode cX3_isOf 86 = .ok (.iconst 0, 1) := by decide +kernel
theorem dX3_isOf_87 : decode cX3_isOf 87 = .ok (.istore 4, 2) := by decide +kernel
theorem dX3_isOf_89 : decode cX3_isOf 89 = .ok (.iload 4, 2) := by decide +kernel
theorem dX3_isOf_91 : decode cX3_isOf 91 = .ok (.aload_n 1, 1) := by decide +kernel
theorem dX3_isOf_92 : decode cX3_isOf 92 = .ok (.getfield 29, 3) := by decide +kernel
theorem dX3_isOf_95 : decode cX3_isOf 95 = .ok (.if_icmp .ge 31, 3) := by decide +kernel
theorem dX3_isOf_98 : decode cX3_isOf 98 = .ok (.aload_n 0, 1) := by decide +kernel
theorem dX3_isOf_99 : decode cX3_isOf 99 = .ok (.iconst 1, 1) := by decide +kernel
theorem dX3_isOf_100 : decode cX3_isOf 100 = .ok (.iload 4, 2) := by decide +kernel
theorem dX3_isOf_102 : decode cX3_isOf 102 = .ok (.aload_n 1, 1) := by decide +kernel
theorem dX3_isOf_103 : decode cX3_isOf 103 = .ok (.invokestatic 55, 3) := by decide +kernel
theorem dX3_isOf_106 : decode cX3_isOf 106 = .ok (.imul, 1) := by decide +kernel
theorem dX3_isOf_107 : decode cX3_isOf 107 = .ok (.iadd, 1) := by decide +kernel
theorem dX3_isOf_108 : decode cX3_isOf 108 = .ok (.aload_n 1, 1) := by decide +kernel
theorem dX3_isOf_109 : decode cX3_isOf 109 = .ok (.getfield 45, 3) := by decide +kernel
theorem dX3_isOf_112 : decode cX3_isOf 112 = .ok (.invokestatic 69, 3) := by decide +kernel
theorem dX3_isOf_115 : decode cX3_isOf 115 = .ok (.ifCond .ne 5, 3) := by decide +kernel
theorem dX3_isOf_118 : decode cX3_isOf 118 = .ok (.iconst 0, 1) := by decide +kernel
theorem dX3_isOf_119 : decode cX3_isOf 119 = .ok (.ireturn, 1) := by decide +kernel
theorem dX3_isOf_120 : decode cX3_isOf 120 = .ok (.iinc 4 1, 3) := by decide +kernel
theorem dX3_isOf_123 : decode cX3_isOf 123 = .ok (.goto (-34), 3) := by decide +kernel
theorem dX3_isOf_126 : decode cX3_isOf 126 = .ok (.iconst 1, 1) := by decide +kernel
theorem dX3_isOf_127 : decode cX3_isOf 127 = .ok (.ireturn, 1) := by decide +kernel
def fX3_isOf_89 (b1 : Bool) (σ : zS) : Nat → Int32 → Option Int32
  | 0, _ => none
  | f + 1, x4 => if (iG σ (rp b1 + 0) 2) ≤ x4 then some 1 else bnr (fX3_isHolderAt σ (1 + (x4 * (fX3_holderSize b1 σ))) (iG σ (rp b1 + 0) 1)) fun v5 => if v5 = 0 then some 0 else fX3_isOf_89 b1 σ f (x4 + 1)
theorem kX3_isOf_89 {sc : Nat × (Nat → Int32)} (b1 : Bool) (σ : zS) : ∀ (fuel : Nat) (x4 : Int32) (w : Int32) (h : fX3_isOf_89 b1 σ fuel x4 = some w), zR (zY0 sc) 4 0 0 mX3_isOf 89 [(0, .ref 2), (1, .ref (rp b1 + 0)), (4, .int x4)] [] (zE σ) (some (.int w), zE σ) := by
  intro fuel
  induction fuel with
  | zero => intro x4 w h; exact nomatch h
  | succ f ih =>
    intro x4 w h
    rw [fX3_isOf_89] at h
    refine kR.iload dX3_isOf_89 2 rfl ?_
    refine kR.aload_n dX3_isOf_91 1 rfl ?_
    refine kR.getI dX3_isOf_92 flX3_29 zcf6 (zq0 b1) (Or.inl rfl) ?_
    refine kR.icmp_ge (tgt := 126) dX3_isOf_95 (by decide) h (fun h => ?_) (fun h => ?_)
    · refine zR.iconst (v := 1) dX3_isOf_126 (by decide) ?_
      exact kR.iretO dX3_isOf_127 (nzZ rfl (Or.inr rfl)) h
    · refine kR.aload_n dX3_isOf_98 0 rfl ?_
      refine zR.iconst (v := 1) dX3_isOf_99 (by decide) ?_
      refine kR.iload dX3_isOf_100 2 rfl ?_
      refine kR.aload_n dX3_isOf_102 1 rfl ?_
      refine kR.cSi [.ref (rp b1 + 0)] dX3_isOf_103 rfl (by decide) (Or.inl mwX3_55) rfl (Nat.le_of_ble_eq_true rfl) (lX3_holderSize b1 σ) ?_
      refine zR.imul dX3_isOf_106 ?_
      refine zR.iadd dX3_isOf_107 ?_
      refine kR.aload_n dX3_isOf_108 1 rfl ?_
      refine kR.getI dX3_isOf_109 flX3_45 zcf6 (zq0 b1) (Or.inl rfl) ?_
      obtain ⟨v5, e6, h⟩ := bnr_some h
      refine kR.cSi [.ref 2, .int (1 + (x4 * (fX3_holderSize b1 σ))), .int (iG σ (rp b1 + 0) 1)] dX3_isOf_112 rfl (by decide) (Or.inl mwX3_69) rfl (Nat.le_of_ble_eq_true rfl) (lX3_isHolderAt σ (1 + (x4 * (fX3_holderSize b1 σ))) (iG σ (rp b1 + 0) 1) _ e6) ?_
      refine kR.if_ne (tgt := 120) dX3_isOf_115 (by decide) h (fun h => ?_) (fun h => ?_)
      · refine zR.iinc 2 (v := x4 + 1) (ls' := [(4, .int (x4 + 1)), (0, .ref 2), (1, .ref (rp b1 + 0))]) dX3_isOf_120 rfl rfl (by decide) rfl ?_
        refine zR.goto (tgt := 89) dX3_isOf_123 (by decide) ?_
        refine zR.sub [1, 2, 0] rfl ?_
        exact ih _ _ h
      · refine zR.iconst (v := 0) dX3_isOf_118 (by decide) ?_
        exact kR.iretO dX3_isOf_119 (nzZ rfl (Or.inl rfl)) h
def fX3_isOf_86 (b1 : Bool) (σ : zS) : Option Int32 := fX3_isOf_89 b1 σ zF 0
theorem kX3_isOf_86 {sc : Nat × (Nat → Int32)} (b1 : Bool) (σ : zS) (w : Int32) (h : fX3_isOf_86 b1 σ = some w) : zR (zY0 sc) 4 0 0 mX3_isOf 86 [(0, .ref 2), (1, .ref (rp b1 + 0))] [] (zE σ) (some (.int w), zE σ) := by
  unfold fX3_isOf_86 at h
  refine zR.iconst (v := 0) dX3_isOf_86 (by decide) ?_
  refine zR.istore (i := 4) (ls' := [(4, .int 0), (0, .ref 2), (1, .ref (rp b1 + 0))]) dX3_isOf_87 (by decide) rfl ?_
  refine zR.sub [1, 2, 0] rfl ?_
  exact kX3_isOf_89 b1 σ zF _ _ h
def fX3_isOf_30 (b1 : Bool) (σ : zS) : Nat → Int32 → Int32 → Int32 → Option Int32
  | 0, _, _, _ => none
  | f + 1, x2, x3, x4 => if x2 ≤ x4 then bnr (fX9_byteAt σ x2) fun v1 => if x3 = v1 then bnr (fX9_byteAt σ 0) fun v3 => if v3 = 0 then fX3_isOf_86 b1 σ else bnr (fX9_byteAt σ 0) fun v7 => if (fX6_hasTunnel b1 σ v7) = 0 then some 0 else fX3_isOf_86 b1 σ else some 0 else bnr (fX9_byteAt σ x4) fun v9 => fX3_isOf_30 b1 σ f x2 (fX3_withChecked x3 v9) (x4 + 1)
theorem kX3_isOf_30 {sc : Nat × (Nat → Int32)} (b1 : Bool) (σ : zS) : ∀ (fuel : Nat) (x2 : Int32) (x3 : Int32) (x4 : Int32) (w : Int32) (h : fX3_isOf_30 b1 σ fuel x2 x3 x4 = some w), zR (zY0 sc) 4 0 0 mX3_isOf 30 [(0, .ref 2), (1, .ref (rp b1 + 0)), (2, .int x2), (3, .int x3), (4, .int x4)] [] (zE σ) (some (.int w), zE σ) := by
  intro fuel
  induction fuel with
  | zero => intro x2 x3 x4 w h; exact nomatch h
  | succ f ih =>
    intro x2 x3 x4 w h
    rw [fX3_isOf_30] at h
    refine kR.iload dX3_isOf_30 4 rfl ?_
    refine kR.iload_n dX3_isOf_32 2 rfl ?_
    refine kR.icmp_ge (tgt := 53) dX3_isOf_33 (by decide) h (fun h => ?_) (fun h => ?_)
    · refine kR.iload_n dX3_isOf_53 3 rfl ?_
      refine kR.aload_n dX3_isOf_54 0 rfl ?_
      refine kR.iload_n dX3_isOf_55 2 rfl ?_
      obtain ⟨v1, e2, h⟩ := bnr_some h
      refine kR.cVi [.int x2] dX3_isOf_56 rfl (by decide) mwX3_62 zp2 (by decide) rfl rfl (Nat.le_of_ble_eq_true rfl) (lX9_byteAt σ x2 _ e2) ?_
      refine kR.icmp_eq (tgt := 64) dX3_isOf_59 (by decide) h (fun h => ?_) (fun h => ?_)
      · refine kR.aload_n dX3_isOf_64 0 rfl ?_
        refine zR.iconst (v := 0) dX3_isOf_65 (by decide) ?_
        obtain ⟨v3, e4, h⟩ := bnr_some h
        refine kR.cVi [.int 0] dX3_isOf_66 rfl (by decide) mwX3_62 zp2 (by decide) rfl rfl (Nat.le_of_ble_eq_true rfl) (lX9_byteAt σ 0 _ e4) ?_
        refine kR.if_eq (tgt := 86) dX3_isOf_69 (by decide) h (fun h => ?_) (fun h => ?_)
        · refine zR.sub [0, 1] rfl ?_
          exact kX3_isOf_86 b1 σ _ h
        · refine kR.aload_n dX3_isOf_72 1 rfl ?_
          refine kR.aload_n dX3_isOf_73 0 rfl ?_
          refine zR.iconst (v := 0) dX3_isOf_74 (by decide) ?_
          obtain ⟨v7, e8, h⟩ := bnr_some h
          refine kR.cVi [.int 0] dX3_isOf_75 rfl (by decide) mwX3_62 zp2 (by decide) rfl rfl (Nat.le_of_ble_eq_true rfl) (lX9_byteAt σ 0 _ e8) ?_
          refine kR.cVi [.int v7] dX3_isOf_78 rfl (by decide) mwX3_65 (zq0 b1) (by decide) rfl rfl (Nat.le_of_ble_eq_true rfl) (lX6_hasTunnel b1 σ v7) ?_
          refine kR.if_ne (tgt := 86) dX3_isOf_81 (by decide) h (fun h => ?_) (fun h => ?_)
          · refine zR.sub [0, 1] rfl ?_
            exact kX3_isOf_86 b1 σ _ h
          · refine zR.iconst (v := 0) dX3_isOf_84 (by decide) ?_
            exact kR.iretO dX3_isOf_85 (nzZ rfl (Or.inl rfl)) h
      · refine zR.iconst (v := 0) dX3_isOf_62 (by decide) ?_
        exact kR.iretO dX3_isOf_63 (nzZ rfl (Or.inl rfl)) h
    · refine kR.iload_n dX3_isOf_36 3 rfl ?_
      refine kR.aload_n dX3_isOf_37 0 rfl ?_
      refine kR.iload dX3_isOf_38 4 rfl ?_
      obtain ⟨v9, e10, h⟩ := bnr_some h
      refine kR.cVi [.int x4] dX3_isOf_40 rfl (by decide) mwX3_62 zp2 (by decide) rfl rfl (Nat.le_of_ble_eq_true rfl) (lX9_byteAt σ x4 _ e10) ?_
      refine kR.cSi [.int x3, .int v9] dX3_isOf_43 rfl (by decide) (Or.inl mwX3_52) rfl (Nat.le_of_ble_eq_true rfl) (lX3_withChecked x3 v9) ?_
      refine zR.istore_n (i := 3) (ls' := [(3, .int (fX3_withChecked x3 v9)), (0, .ref 2), (1, .ref (rp b1 + 0)), (2, .int x2), (4, .int x4)]) dX3_isOf_46 rfl (by decide) rfl ?_
      refine zR.iinc 4 (v := x4 + 1) (ls' := [(4, .int (x4 + 1)), (3, .int (fX3_withChecked x3 v9)), (0, .ref 2), (1, .ref (rp b1 + 0)), (2, .int x2)]) dX3_isOf_47 rfl rfl (by decide) rfl ?_
      refine zR.goto (tgt := 30) dX3_isOf_50 (by decide) ?_
      refine zR.sub [2, 3, 4, 1, 0] rfl ?_
      exact ih _ _ _ _ h
def fX3_isOf (b1 : Bool) (σ : zS) : Option Int32 := if (iG σ 2 1) = ((1 + ((iG σ (rp b1 + 0) 2) * (fX3_holderSize b1 σ))) + 1) then fX3_isOf_30 b1 σ zF (1 + ((iG σ (rp b1 + 0) 2) * (fX3_holderSize b1 σ))) 107 0 else some 0
theorem eX3_isOf {sc : Nat × (Nat → Int32)} (b1 : Bool) (σ : zS) (w : Int32) (h : fX3_isOf b1 σ = some w) : zR (zY0 sc) 4 0 0 mX3_isOf 0 [(0, .ref 2), (1, .ref (rp b1 + 0))] [] (zE σ) (some (.int w), zE σ) := by
  unfold fX3_isOf at h
  refine zR.iconst (v := 1) dX3_isOf_0 (by decide) ?_
  refine kR.aload_n dX3_isOf_1 1 rfl ?_
  refine kR.getI dX3_isOf_2 flX3_29 zcf6 (zq0 b1) (Or.inl rfl) ?_
  refine kR.aload_n dX3_isOf_5 1 rfl ?_
  refine kR.cSi [.ref (rp b1 + 0)] dX3_isOf_6 rfl (by decide) (Or.inl mwX3_55) rfl (Nat.le_of_ble_eq_true rfl) (lX3_holderSize b1 σ) ?_
  refine zR.imul dX3_isOf_9 ?_
  refine zR.iadd dX3_isOf_10 ?_
  refine zR.istore_n (i := 2) (ls' := [(2, .int (1 + ((iG σ (rp b1 + 0) 2) * (fX3_holderSize b1 σ)))), (0, .ref 2), (1, .ref (rp b1 + 0))]) dX3_isOf_11 rfl (by decide) rfl ?_
  refine kR.aload_n dX3_isOf_12 1 rfl ?_
  refine kR.getI dX3_isOf_13 flX3_59 zcf9 zp2 (Or.inl rfl) ?_
  refine kR.iload_n dX3_isOf_16 0 rfl ?_
  refine zR.iconst (v := 1) dX3_isOf_17 (by decide) ?_
  refine zR.iadd dX3_isOf_18 ?_
  refine kR.icmp_eq (tgt := 24) dX3_isOf_19 (by decide) h (fun h => ?_) (fun h => ?_)
  · refine zR.bipush (v := 107) dX3_isOf_24 (by decide) ?_
    refine zR.istore_n (i := 3) (ls' := [(3, .int 107), (2, .int (1 + ((iG σ (rp b1 + 0) 2) * (fX3_holderSize b1 σ)))), (0, .ref 2), (1, .ref (rp b1 + 0))]) dX3_isOf_26 rfl (by decide) rfl ?_
    refine zR.iconst (v := 0) dX3_isOf_27 (by decide) ?_
    refine zR.istore (i := 4) (ls' := [(4, .int 0), (3, .int 107), (2, .int (1 + ((iG σ (rp b1 + 0) 2) * (fX3_holderSize b1 σ)))), (0, .ref 2), (1, .ref (rp b1 + 0))]) dX3_isOf_28 (by decide) rfl ?_
    refine zR.sub [3, 4, 2, 1, 0] rfl ?_
    exact kX3_isOf_30 b1 σ zF _ _ _ _ h
  · refine zR.iconst (v := 0) dX3_isOf_22 (by decide) ?_
    exact kR.iretO dX3_isOf_23 (nzZ rfl (Or.inl rfl)) h
theorem lX3_isOf {sc : Nat × (Nat → Int32)} (b1 : Bool) (σ : zS) (w : Int32) (h : fX3_isOf b1 σ = some w) : zC (zY0 sc) 4 0 0 mX3_isOf [.ref 2, .ref (rp b1 + 0)] (zE σ) (some (.int w), zE σ) := zC.of (by decide +kernel) (Nat.le_of_ble_eq_true rfl) ⟨_, rfl⟩ (eX3_isOf b1 σ w h)
theorem dX7_keepNothing_0 : decode cX7_keepNothing 0 = .ok (.aload_n 0, 1) := by decide +kernel
theorem dX7_keepNothing_1 : decode cX7_keepNothing 1 = .ok (.getfield 11, 3) := by decide +kernel
theorem dX7_keepNothing_4 : decode cX7_keepNothing 4 = .ok (.iconst 1, 1) := by decide +kernel
theorem dX7_keepNothing_5 : decode cX7_keepNothing 5 = .ok (.iconst 0, 1) := by decide +kernel
theorem dX7_keepNothing_6 : decode cX7_keepNothing 6 = .ok (.iastore, 1) := by decide +kernel
theorem dX7_keepNothing_7 : decode cX7_keepNothing 7 = .ok (.return_, 1) := by decide +kernel
def fX7_keepNothing (σ : zS) : Option zS := wI σ 5 104 1 0 fun σ1 => some σ1
theorem eX7_keepNothing {sc : Nat × (Nat → Int32)} (σ : zS) (w : zS) (h : fX7_keepNothing σ = some w) : zR (zY0 sc) 1 0 0 mX7_keepNothing 0 [(0, .ref 4)] [] (zE σ) (none, zE w) := by
  unfold fX7_keepNothing at h
  refine kR.aload_n dX7_keepNothing_0 0 rfl ?_
  refine kR.getR (v := 5) dX7_keepNothing_1 flX7_11 zcf7 zp4 (Or.inr ⟨_, rfl⟩) rfl ?_
  refine zR.iconst (v := 1) dX7_keepNothing_4 (by decide) ?_
  refine zR.iconst (v := 0) dX7_keepNothing_5 (by decide) ?_
  refine kR.iast dX7_keepNothing_6 zp5 rfl h (fun σ1 h => ?_)
  exact kR.vret dX7_keepNothing_7 h
theorem lX7_keepNothing {sc : Nat × (Nat → Int32)} (σ : zS) (w : zS) (h : fX7_keepNothing σ = some w) : zC (zY0 sc) 1 0 0 mX7_keepNothing [.ref 4] (zE σ) (none, zE w) := zC.of (by decide +kernel) (Nat.le_of_ble_eq_true rfl) rfl (eX7_keepNothing σ w h)
theorem dX3_putInto_0 : decode cX3_putInto 0 = .ok (.aload_n 2, 1) := by decide +kernel
theorem dX3_putInto_1 : decode cX3_putInto 1 = .ok (.invokevirtual 82, 3) := by decide +kernel
theorem dX3_putInto_4 : decode cX3_putInto 4 = .ok (.aload_n 2, 1) := by decide +kernel
theorem dX3_putInto_5 : decode cX3_putInto 5 = .ok (.aload_n 0, 1) := by decide +kernel
theorem dX3_putInto_6 : decode cX3_putInto 6 = .ok (.iconst 0, 1) := by decide +kernel
theorem dX3_putInto_7 : decode cX3_putInto 7 = .ok (.invokevirtual 62, 3) := by decide +kernel
theorem dX3_putInto_10 : decode cX3_putInto 10 = .ok (.invokevirtual 85, 3) := by decide +kernel
theorem dX3_putInto_13 : decode cX3_putInto 13 = .ok (.iconst 0, 1) := by decide +kernel
theorem dX3_putInto_14 : decode cX3_putInto 14 = .ok (.istore_n 3, 1) := by decide +kernel
theorem dX3_putInto_15 : decode cX3_putInto 15 = .ok (.iload_n 3, 1) := by decide +kernel
theorem dX3_putInto_16 : decode cX3_putInto 16 = .ok (.aload_n 1, 1) := by decide +kernel
theorem dX3_putInto_17 : decode cX3_putInto 17 = .ok (.getfield 29, 3) := by decide +kernel
theorem dX3_putInto_20 : decode cX3_putInto 20 = .ok (.if_icmp .ge 92, 3) := by decide +kernel
theorem dX3_putInto_23 : decode cX3_putInto 23 = .ok (.iconst 1, 1) := by decide +kernel
theorem dX3_putInto_24 : decode cX3_putInto 24 = .ok (.iload_n 3, 1) := by decide +kernel
theorem dX3_putInto_25 : decode cX3_putInto 25 = .ok (.aload_n 1, 1) := by decide +kernel
theorem dX3_putInto_26 : decode cX3_putInto 26 = .ok (.invokestatic 55, 3) := by decide +kernel
theorem dX3_putInto_29 : decode cX3_putInto 29 = .ok (.imul, 1) := by decide +kernel
theorem dX3_putInto_30 : decode cX3_putInto 30 = .ok (.iadd, 1) := by decide +kernel
theorem dX3_putInto_31 : decode cX3_putInto 31 = .ok (.istore 4, 2) := by decide +kernel
theorem dX3_putInto_33 : decode cX3_putInto 33 = .ok (.aload_n 2, 1) := by decide +kernel
theorem dX3_putInto_34 : decode cX3_putInto 34 = .ok (.iload_n 3, 1) := by decide +kernel
theorem dX3_putInto_35 : decode cX3_putInto 35 = .ok (.aload_n 0, 1) := by decide +kernel
theorem dX3_putInto_36 : decode cX3_putInto 36 = .ok (.iload 4, 2) := by decide +kernel
theorem dX3_putInto_38 : decode cX3_putInto 38 = .ok (.invokevirtual 62, 3) := by decide +kernel
theorem dX3_putInto_41 : decode cX3_putInto 41 = .ok (.invokevirtual 88, 3) := by decide +kernel
theorem dX3_putInto_44 : decode cX3_putInto 44 = .ok (.aload_n 2, 1) := by decide +kernel
theorem dX3_putInto_45 : decode cX3_putInto 45 = .ok (.iload_n 3, 1) := by decide +kernel
theorem dX3_putInto_46 : decode cX3_putInto 46 = .ok (.aload_n 0, 1) := by decide +kernel
theorem dX3_putInto_47 : decode cX3_putInto 47 = .ok (.iload 4, 2) := by decide +kernel
theorem dX3_putInto_49 : decode cX3_putInto 49 = .ok (.iconst 1, 1) := by decide +kernel
theorem dX3_putInto_50 : decode cX3_putInto 50 = .ok (.iadd, 1) := by decide +kernel
theorem dX3_putInto_51 : decode cX3_putInto 51 = .ok (.invokevirtual 62, 3) := by decide +kernel
theorem dX3_putInto_54 : decode cX3_putInto 54 = .ok (.invokevirtual 92, 3) := by decide +kernel
theorem dX3_putInto_57 : decode cX3_putInto 57 = .ok (.aload_n 2, 1) := by decide +kernel
theorem dX3_putInto_58 : decode cX3_putInto 58 = .ok (.iload_n 3, 1) := by decide +kernel
theorem dX3_putInto_59 : decode cX3_putInto 59 = .ok (.aload_n 0, 1) := by decide +kernel
theorem dX3_putInto_60 : decode cX3_putInto 60 = .ok (.iload 4, 2) := by decide +kernel
theorem dX3_putInto_62 : decode cX3_putInto 62 = .ok (.iconst 2, 1) := by decide +kernel
theorem dX3_putInto_63 : decode cX3_putInto 63 = .ok (.iadd, 1) := by decide +kernel
theorem dX3_putInto_64 : decode cX3_putInto 64 = .ok (.invokestatic 76, 3) := by decide +kernel
theorem dX3_putInto_67 : decode cX3_putInto 67 = .ok (.invokevirtual 95, 3) := by decide +kernel
theorem dX3_putInto_70 : decode cX3_putInto 70 = .ok (.iconst 0, 1) := by decide +kernel
theorem dX3_putInto_71 : decode cX3_putInto 71 = .ok (.istore 5, 2) := by decide +kernel
theorem dX3_putInto_73 : decode cX3_putInto 73 = .ok (.iload 5, 2) := by decide +kernel
theorem dX3_putInto_75 : decode cX3_putInto 75 = .ok (.aload_n 1, 1) := by decide +kernel
theorem dX3_putInto_76 : decode cX3_putInto 76 = .ok (.getfield 45, 3) := by decide +kernel
theorem dX3_putInto_79 : decode cX3_putInto 79 = .ok (.if_icmp .ge 27, 3) := by decide +kernel
theorem dX3_putInto_82 : decode cX3_putInto 82 = .ok (.aload_n 2, 1) := by decide +kernel
theorem dX3_putInto_83 : decode cX3_putInto 83 = .ok (.iload_n 3, 1) := by decide +kernel
theorem dX3_putInto_84 : decode cX3_putInto 84 = .ok (.iload 5, 2) := by decide +kernel
theorem dX3_putInto_86 : decode cX3_putInto 86 = .ok (.aload_n 0, 1) := by decide +kernel
theorem dX3_putInto_87 : decode cX3_putInto 87 = .ok (.iload 4, 2) := by decide +kernel
theorem dX3_putInto_89 : decode cX3_putInto 89 = .ok (.iconst 5, 1) := by decide +kernel
theorem dX3_putInto_90 : decode cX3_putInto 90 = .ok (.iadd, 1) := by decide +kernel
theorem dX3_putInto_91 : decode cX3_putInto 91 = .ok (.iload 5, 2) := by decide +kernel
theorem dX3_putInto_93 : decode cX3_putInto 93 = .ok (.iadd, 1) := by decide +kernel
theorem dX3_putInto_94 : decode cX3_putInto 94 = .ok (.invokevirtual 62, 3) := by decide +kernel
theorem dX3_putInto_97 : decode cX3_putInto 97 = .ok (.invokevirtual 98, 3) := by decide +kernel
theorem dX3_putInto_100 : decode cX3_putInto 100 = .ok (.iinc 5 1, 3) := by decide +kernel
theorem dX3_putInto_103 : decode cX3_putInto 103 = .ok (.goto (-30), 3) := by decide +kernel
theorem dX3_putInto_106 : decode cX3_putInto 106 = .ok (.iinc 3 1, 3) := by decide +kernel
theorem dX3_putInto_109 : decode cX3_putInto 109 = .ok (.goto (-94), 3) := by decide +kernel
theorem dX3_putInto_112 : decode cX3_putInto 112 = .ok (.return_, 1) := by decide +kernel
def fX3_putInto_73 (b1 : Bool) (r15 : Int32 → zS → Option zS) : Nat → Int32 → Int32 → Int32 → zS → Option zS
  | 0, _, _, _, _ => none
  | f + 1, x3, x4, x5, σ => if (iG σ (rp b1 + 0) 1) ≤ x5 then r15 (x3 + 1) σ else bnr (fX9_byteAt σ ((x4 + 5) + x5)) fun v19 => bnr (fX7_setThinks x3 x5 v19 σ) fun σ21 => fX3_putInto_73 b1 r15 f x3 x4 (x5 + 1) σ21
theorem kX3_putInto_73 {sc : Nat × (Nat → Int32)} (b1 : Bool) (r15 : Int32 → zS → Option zS) (hr15 : ∀ (x3 : Int32) (σ : zS) (w : zS), r15 x3 σ = some w → zR (zY0 sc) 3 0 0 mX3_putInto 15 [(0, .ref 2), (1, .ref (rp b1 + 0)), (2, .ref 4), (3, .int x3)] [] (zE σ) (none, zE w)) : ∀ (fuel : Nat) (x3 : Int32) (x4 : Int32) (x5 : Int32) (σ : zS) (w : zS) (h : fX3_putInto_73 b1 r15 fuel x3 x4 x5 σ = some w), zR (zY0 sc) 3 0 0 mX3_putInto 73 [(0, .ref 2), (1, .ref (rp b1 + 0)), (2, .ref 4), (3, .int x3), (4, .int x4), (5, .int x5)] [] (zE σ) (none, zE w) := by
  intro fuel
  induction fuel with
  | zero => intro x3 x4 x5 σ w h; exact nomatch h
  | succ f ih =>
    intro x3 x4 x5 σ w h
    rw [fX3_putInto_73] at h
    refine kR.iload dX3_putInto_73 5 rfl ?_
    refine kR.aload_n dX3_putInto_75 1 rfl ?_
    refine kR.getI dX3_putInto_76 flX3_45 zcf6 (zq0 b1) (Or.inl rfl) ?_
    refine kR.icmp_ge (tgt := 106) dX3_putInto_79 (by decide) h (fun h => ?_) (fun h => ?_)
    · refine zR.iinc 3 (v := x3 + 1) (ls' := [(3, .int (x3 + 1)), (0, .ref 2), (1, .ref (rp b1 + 0)), (2, .ref 4), (4, .int x4), (5, .int x5)]) dX3_putInto_106 rfl rfl (by decide) rfl ?_
      refine zR.goto (tgt := 15) dX3_putInto_109 (by decide) ?_
      refine zR.sub [1, 2, 3, 0] rfl ?_
      exact hr15 _ _ _ h
    · refine kR.aload_n dX3_putInto_82 2 rfl ?_
      refine kR.iload_n dX3_putInto_83 3 rfl ?_
      refine kR.iload dX3_putInto_84 5 rfl ?_
      refine kR.aload_n dX3_putInto_86 0 rfl ?_
      refine kR.iload dX3_putInto_87 4 rfl ?_
      refine zR.iconst (v := 5) dX3_putInto_89 (by decide) ?_
      refine zR.iadd dX3_putInto_90 ?_
      refine kR.iload dX3_putInto_91 5 rfl ?_
      refine zR.iadd dX3_putInto_93 ?_
      obtain ⟨v19, e20, h⟩ := bnr_some h
      refine kR.cVi [.int ((x4 + 5) + x5)] dX3_putInto_94 rfl (by decide) mwX3_62 zp2 (by decide) rfl rfl (Nat.le_of_ble_eq_true rfl) (lX9_byteAt σ ((x4 + 5) + x5) _ e20) ?_
      obtain ⟨σ21, e22, h⟩ := bnr_some h
      refine kR.cVv [.int x3, .int x5, .int v19] dX3_putInto_97 rfl (by decide) mwX3_98 zp4 (by decide) rfl rfl (Nat.le_of_ble_eq_true rfl) (lX7_setThinks x3 x5 v19 σ _ e22) ?_
      refine zR.iinc 5 (v := x5 + 1) (ls' := [(5, .int (x5 + 1)), (0, .ref 2), (1, .ref (rp b1 + 0)), (2, .ref 4), (3, .int x3), (4, .int x4)]) dX3_putInto_100 rfl rfl (by decide) rfl ?_
      refine zR.goto (tgt := 73) dX3_putInto_103 (by decide) ?_
      refine zR.sub [1, 2, 3, 4, 5, 0] rfl ?_
      exact ih _ _ _ _ _ h
def fX3_putInto_15 (b1 : Bool) : Nat → Int32 → zS → Option zS
  | 0, _, _ => none
  | f + 1, x3, σ => if (iG σ (rp b1 + 0) 2) ≤ x3 then some σ else bnr (fX9_byteAt σ (1 + (x3 * (fX3_holderSize b1 σ)))) fun v7 => bnr (fX7_setBreath x3 v7 σ) fun σ9 => bnr (fX9_byteAt σ9 ((1 + (x3 * (fX3_holderSize b1 σ))) + 1)) fun v11 => bnr (fX7_setGives x3 v11 σ9) fun σ13 => bnr (fX3_scoreAt σ13 ((1 + (x3 * (fX3_holderSize b1 σ))) + 2)) fun v15 => bnr (fX7_setScore x3 v15 σ13) fun σ17 => fX3_putInto_73 b1 (fX3_putInto_15 b1 f) zF x3 (1 + (x3 * (fX3_holderSize b1 σ))) 0 σ17
theorem kX3_putInto_15 {sc : Nat × (Nat → Int32)} (b1 : Bool) : ∀ (fuel : Nat) (x3 : Int32) (σ : zS) (w : zS) (h : fX3_putInto_15 b1 fuel x3 σ = some w), zR (zY0 sc) 3 0 0 mX3_putInto 15 [(0, .ref 2), (1, .ref (rp b1 + 0)), (2, .ref 4), (3, .int x3)] [] (zE σ) (none, zE w) := by
  intro fuel
  induction fuel with
  | zero => intro x3 σ w h; exact nomatch h
  | succ f ih =>
    intro x3 σ w h
    rw [fX3_putInto_15] at h
    refine kR.iload_n dX3_putInto_15 3 rfl ?_
    refine kR.aload_n dX3_putInto_16 1 rfl ?_
    refine kR.getI dX3_putInto_17 flX3_29 zcf6 (zq0 b1) (Or.inl rfl) ?_
    refine kR.icmp_ge (tgt := 112) dX3_putInto_20 (by decide) h (fun h => ?_) (fun h => ?_)
    · exact kR.vret dX3_putInto_112 h
    · refine zR.iconst (v := 1) dX3_putInto_23 (by decide) ?_
      refine kR.iload_n dX3_putInto_24 3 rfl ?_
      refine kR.aload_n dX3_putInto_25 1 rfl ?_
      refine kR.cSi [.ref (rp b1 + 0)] dX3_putInto_26 rfl (by decide) (Or.inl mwX3_55) rfl (Nat.le_of_ble_eq_true rfl) (lX3_holderSize b1 σ) ?_
      refine zR.imul dX3_putInto_29 ?_
      refine zR.iadd dX3_putInto_30 ?_
      refine zR.istore (i := 4) (ls' := [(4, .int (1 + (x3 * (fX3_holderSize b1 σ)))), (0, .ref 2), (1, .ref (rp b1 + 0)), (2, .ref 4), (3, .int x3)]) dX3_putInto_31 (by decide) rfl ?_
      refine kR.aload_n dX3_putInto_33 3 rfl ?_
      refine kR.iload_n dX3_putInto_34 4 rfl ?_
      refine kR.aload_n dX3_putInto_35 1 rfl ?_
      refine kR.iload dX3_putInto_36 0 rfl ?_
      obtain ⟨v7, e8, h⟩ := bnr_some h
      refine kR.cVi [.int (1 + (x3 * (fX3_holderSize b1 σ)))] dX3_putInto_38 rfl (by decide) mwX3_62 zp2 (by decide) rfl rfl (Nat.le_of_ble_eq_true rfl) (lX9_byteAt σ (1 + (x3 * (fX3_holderSize b1 σ))) _ e8) ?_
      obtain ⟨σ9, e10, h⟩ := bnr_some h
      refine kR.cVv [.int x3, .int v7] dX3_putInto_41 rfl (by decide) mwX3_88 zp4 (by decide) rfl rfl (Nat.le_of_ble_eq_true rfl) (lX7_setBreath x3 v7 σ _ e10) ?_
      refine kR.aload_n dX3_putInto_44 3 rfl ?_
      refine kR.iload_n dX3_putInto_45 4 rfl ?_
      refine kR.aload_n dX3_putInto_46 1 rfl ?_
      refine kR.iload dX3_putInto_47 0 rfl ?_
      refine zR.iconst (v := 1) dX3_putInto_49 (by decide) ?_
      refine zR.iadd dX3_putInto_50 ?_
      obtain ⟨v11, e12, h⟩ := bnr_some h
      refine kR.cVi [.int ((1 + (x3 * (fX3_holderSize b1 σ))) + 1)] dX3_putInto_51 rfl (by decide) mwX3_62 zp2 (by decide) rfl rfl (Nat.le_of_ble_eq_true rfl) (lX9_byteAt σ9 ((1 + (x3 * (fX3_holderSize b1 σ))) + 1) _ e12) ?_
      obtain ⟨σ13, e14, h⟩ := bnr_some h
      refine kR.cVv [.int x3, .int v11] dX3_putInto_54 rfl (by decide) mwX3_92 zp4 (by decide) rfl rfl (Nat.le_of_ble_eq_true rfl) (lX7_setGives x3 v11 σ9 _ e14) ?_
      refine kR.aload_n dX3_putInto_57 3 rfl ?_
      refine kR.iload_n dX3_putInto_58 4 rfl ?_
      refine kR.aload_n dX3_putInto_59 1 rfl ?_
      refine kR.iload dX3_putInto_60 0 rfl ?_
      refine zR.iconst (v := 2) dX3_putInto_62 (by decide) ?_
      refine zR.iadd dX3_putInto_63 ?_
      obtain ⟨v15, e16, h⟩ := bnr_some h
      refine kR.cSi [.ref 2, .int ((1 + (x3 * (fX3_holderSize b1 σ))) + 2)] dX3_putInto_64 rfl (by decide) (Or.inl mwX3_76) rfl (Nat.le_of_ble_eq_true rfl) (lX3_scoreAt σ13 ((1 + (x3 * (fX3_holderSize b1 σ))) + 2) _ e16) ?_
      obtain ⟨σ17, e18, h⟩ := bnr_some h
      refine kR.cVv [.int x3, .int v15] dX3_putInto_67 rfl (by decide) mwX3_95 zp4 (by decide) rfl rfl (Nat.le_of_ble_eq_true rfl) (lX7_setScore x3 v15 σ13 _ e18) ?_
      refine zR.iconst (v := 0) dX3_putInto_70 (by decide) ?_
      refine zR.istore (i := 5) (ls' := [(5, .int 0), (4, .int (1 + (x3 * (fX3_holderSize b1 σ)))), (0, .ref 2), (1, .ref (rp b1 + 0)), (2, .ref 4), (3, .int x3)]) dX3_putInto_71 (by decide) rfl ?_
      refine zR.sub [2, 3, 4, 5, 1, 0] rfl ?_
      exact kX3_putInto_73 b1 (fX3_putInto_15 b1 f) ih zF _ _ _ _ _ h
def fX3_putInto (b1 : Bool) (σ : zS) : Option zS := bnr (fX7_keepNothing σ) fun σ1 => bnr (fX9_byteAt σ1 0) fun v3 => bnr (fX7_setNextTunnel v3 σ1) fun σ5 => fX3_putInto_15 b1 zF 0 σ5
theorem eX3_putInto {sc : Nat × (Nat → Int32)} (b1 : Bool) (σ : zS) (w : zS) (h : fX3_putInto b1 σ = some w) : zR (zY0 sc) 3 0 0 mX3_putInto 0 [(0, .ref 2), (1, .ref (rp b1 + 0)), (2, .ref 4)] [] (zE σ) (none, zE w) := by
  unfold fX3_putInto at h
  refine kR.aload_n dX3_putInto_0 2 rfl ?_
  obtain ⟨σ1, e2, h⟩ := bnr_some h
  refine kR.cVv [] dX3_putInto_1 rfl (by decide) mwX3_82 zp4 (by decide) rfl rfl (Nat.le_of_ble_eq_true rfl) (lX7_keepNothing σ _ e2) ?_
  refine kR.aload_n dX3_putInto_4 2 rfl ?_
  refine kR.aload_n dX3_putInto_5 0 rfl ?_
  refine zR.iconst (v := 0) dX3_putInto_6 (by decide) ?_
  obtain ⟨v3, e4, h⟩ := bnr_some h
  refine kR.cVi [.int 0] dX3_putInto_7 rfl (by decide) mwX3_62 zp2 (by decide) rfl rfl (Nat.le_of_ble_eq_true rfl) (lX9_byteAt σ1 0 _ e4) ?_
  obtain ⟨σ5, e6, h⟩ := bnr_some h
  refine kR.cVv [.int v3] dX3_putInto_10 rfl (by decide) mwX3_85 zp4 (by decide) rfl rfl (Nat.le_of_ble_eq_true rfl) (lX7_setNextTunnel v3 σ1 _ e6) ?_
  refine zR.iconst (v := 0) dX3_putInto_13 (by decide) ?_
  refine zR.istore_n (i := 3) (ls' := [(3, .int 0), (0, .ref 2), (1, .ref (rp b1 + 0)), (2, .ref 4)]) dX3_putInto_14 rfl (by decide) rfl ?_
  refine zR.sub [1, 2, 3, 0] rfl ?_
  exact kX3_putInto_15 b1 zF _ _ _ h
theorem lX3_putInto {sc : Nat × (Nat → Int32)} (b1 : Bool) (σ : zS) (w : zS) (h : fX3_putInto b1 σ = some w) : zC (zY0 sc) 3 0 0 mX3_putInto [.ref 2, .ref (rp b1 + 0), .ref 4] (zE σ) (none, zE w) := zC.of (by decide +kernel) (Nat.le_of_ble_eq_true rfl) rfl (eX3_putInto b1 σ w h)
theorem dX10_goOn_0 : decode cX10_goOn 0 = .ok (.aload_n 0, 1) := by decide +kernel
theorem dX10_goOn_1 : decode cX10_goOn 1 = .ok (.getfield 12, 3) := by decide +kernel
theorem dX10_goOn_4 : decode cX10_goOn 4 = .ok (.aload_n 0, 1) := by decide +kernel
theorem dX10_goOn_5 : decode cX10_goOn 5 = .ok (.getfield 38, 3) := by decide +kernel
theorem dX10_goOn_8 : decode cX10_goOn 8 = .ok (.getfield 111, 3) := by decide +kernel
theorem dX10_goOn_11 : decode cX10_goOn 11 = .ok (.invokestatic 318, 3) := by decide +kernel
theorem dX10_goOn_14 : decode cX10_goOn 14 = .ok (.istore_n 1, 1) := by decide +kernel
theorem dX10_goOn_15 : decode cX10_goOn 15 = .ok (.iload_n 1, 1) := by decide +kernel
theorem dX10_goOn_16 : decode cX10_goOn 16 = .ok (.ifCond .eq 39, 3) := by decide +kernel
theorem dX10_goOn_19 : decode cX10_goOn 19 = .ok (.aload_n 0, 1) := by decide +kernel
theorem dX10_goOn_20 : decode cX10_goOn 20 = .ok (.getfield 12, 3) := by decide +kernel
theorem dX10_goOn_23 : decode cX10_goOn 23 = .ok (.aload_n 0, 1) := by decide +kernel
theorem dX10_goOn_24 : decode cX10_goOn 24 = .ok (.getfield 38, 3) := by decide +kernel
theorem dX10_goOn_27 : decode cX10_goOn 27 = .ok (.getfield 111, 3) := by decide +kernel
theorem dX10_goOn_30 : decode cX10_goOn 30 = .ok (.aload_n 0, 1) := by decide +kernel
theorem dX10_goOn_31 : decode cX10_goOn 31 = .ok (.getfield 19, 3) := by decide +kernel
theorem dX10_goOn_34 : decode cX10_goOn 34 = .ok (.invokestatic 322, 3) := by decide +kernel
theorem dX10_goOn_37 : decode cX10_goOn 37 = .ok (.aload_n 0, 1) := by decide +kernel
theorem dX10_goOn_38 : decode cX10_goOn 38 = .ok (.getfield 26, 3) := by decide +kernel
theorem dX10_goOn_41 : decode cX10_goOn 41 = .ok (.iconst 0, 1) := by decide +kernel
theorem dX10_goOn_42 : decode cX10_goOn 42 = .ok (.putfield 115, 3) := by decide +kernel
theorem dX10_goOn_45 : decode cX10_goOn 45 = .ok (.aload_n 0, 1) := by decide +kernel
theorem dX10_goOn_46 : decode cX10_goOn 46 = .ok (.getfield 47, 3) := by decide +kernel
theorem dX10_goOn_49 : decode cX10_goOn 49 = .ok (.invokevirtual 119, 3) := by decide +kernel
theorem dX10_goOn_52 : decode cX10_goOn 52 = .ok (.goto 9, 3) := by decide +kernel
theorem dX10_goOn_55 : decode cX10_goOn 55 = .ok (.aload_n 0, 1) := by decide +kernel
theorem dX10_goOn_56 : decode cX10_goOn 56 = .ok (.iconst 4, 1) := by decide +kernel
theorem dX10_goOn_57 : decode cX10_goOn 57 = .ok (.invokevirtual 89, 3) := by decide +kernel
theorem dX10_goOn_60 : decode cX10_goOn 60 = .ok (.pop, 1) := by decide +kernel
theorem dX10_goOn_61 : decode cX10_goOn 61 = .ok (.aload_n 0, 1) := by decide +kernel
theorem dX10_goOn_62 : decode cX10_goOn 62 = .ok (.getfield 12, 3) := by decide +kernel
theorem dX10_goOn_65 : decode cX10_goOn 65 = .ok (.iconst 0, 1) := by decide +kernel
theorem dX10_goOn_66 : decode cX10_goOn 66 = .ok (.putfield 86, 3) := by decide +kernel
theorem dX10_goOn_69 : decode cX10_goOn 69 = .ok (.iload_n 1, 1) := by decide +kernel
theorem dX10_goOn_70 : decode cX10_goOn 70 = .ok (.ireturn, 1) := by decide +kernel
def fX10_goOn_61 (x1 : Int32) (σ : zS) : Option (Int32 × zS) := bnd (iS σ 2 1 0) fun σ6 => gd (x1 = 0 ∨ x1 = 1) (some (x1, σ6))
theorem kX10_goOn_61 {sc : Nat × (Nat → Int32)} (x1 : Int32) (σ : zS) (w : Int32 × zS) (h : fX10_goOn_61 x1 σ = some w) : zR (zY0 sc) 5 0 0 mX10_goOn 61 [(0, .ref 1), (1, .int x1)] [] (zE σ) (some (.int w.1), zE w.2) := by
  unfold fX10_goOn_61 at h
  refine kR.aload_n dX10_goOn_61 0 rfl ?_
  refine kR.getR (v := 2) dX10_goOn_62 flX10_12 zcf10 zp1 (Or.inl ⟨_, rfl⟩) rfl ?_
  refine zR.iconst (v := 0) dX10_goOn_65 (by decide) ?_
  refine kR.putI dX10_goOn_66 fpX10_86 zcf9 zp2 rfl h (fun σ6 h => ?_)
  refine kR.iload_n dX10_goOn_69 1 rfl ?_
  obtain ⟨gz, h⟩ := kR.guard h
  exact kR.iretW dX10_goOn_70 (nzZ rfl gz) h
def fX10_goOn (σ : zS) : Option (Int32 × zS) := bnr (fX3_isOf σ.2.2.2.1 σ) fun v1 => if v1 = 0 then bnc (fX10_refuse 4 σ) fun v5 σ3 => fX10_goOn_61 v1 σ3 else bnr (fX3_putInto σ.2.2.2.1 σ) fun σ7 => bnd (iS σ7 6 2 0) fun σ9 => bnr (fX0_forget σ9) fun σ10 => fX10_goOn_61 v1 σ10
theorem eX10_goOn {sc : Nat × (Nat → Int32)} (σ : zS) (w : Int32 × zS) (h : fX10_goOn σ = some w) : zR (zY0 sc) 5 0 0 mX10_goOn 0 [(0, .ref 1)] [] (zE σ) (some (.int w.1), zE w.2) := by
  unfold fX10_goOn at h
  refine kR.aload_n dX10_goOn_0 0 rfl ?_
  refine kR.getR (v := 2) dX10_goOn_1 flX10_12 zcf10 zp1 (Or.inl ⟨_, rfl⟩) rfl ?_
  refine kR.aload_n dX10_goOn_4 0 rfl ?_
  refine kR.getR (v := 8) dX10_goOn_5 flX10_38 zcf10 zp1 (Or.inl ⟨_, rfl⟩) rfl ?_
  refine kR.getR (v := (rp σ.2.2.2.1 + 0)) dX10_goOn_8 flX10_111 zcf4 zp8 (Or.inl ⟨_, rfl⟩) rfl ?_
  obtain ⟨v1, e2, h⟩ := bnr_some h
  refine kR.cSi [.ref 2, .ref (rp σ.2.2.2.1 + 0)] dX10_goOn_11 rfl (by decide) (Or.inl mwX10_318) rfl (Nat.le_of_ble_eq_true rfl) (lX3_isOf σ.2.2.2.1 σ _ e2) ?_
  refine zR.istore_n (i := 1) (ls' := [(1, .int v1), (0, .ref 1)]) dX10_goOn_14 rfl (by decide) rfl ?_
  refine kR.iload_n dX10_goOn_15 0 rfl ?_
  refine kR.if_eq (tgt := 55) dX10_goOn_16 (by decide) h (fun h => ?_) (fun h => ?_)
  · refine kR.aload_n dX10_goOn_55 1 rfl ?_
    refine zR.iconst (v := 4) dX10_goOn_56 (by decide) ?_
    obtain ⟨v5, σ3, e4, h⟩ := bnc_some h
    refine kR.cVi [.int 4] dX10_goOn_57 rfl (by decide) mwX10_89 zp1 (by decide) rfl rfl (Nat.le_of_ble_eq_true rfl) (lX10_refuse 4 σ _ e4) ?_
    refine zR.pop dX10_goOn_60 rfl ?_
    refine zR.sub [1, 0] rfl ?_
    exact kX10_goOn_61 _ _ _ h
  · refine kR.aload_n dX10_goOn_19 1 rfl ?_
    refine kR.getR (v := 2) dX10_goOn_20 flX10_12 zcf10 zp1 (Or.inl ⟨_, rfl⟩) rfl ?_
    refine kR.aload_n dX10_goOn_23 1 rfl ?_
    refine kR.getR (v := 8) dX10_goOn_24 flX10_38 zcf10 zp1 (Or.inl ⟨_, rfl⟩) rfl ?_
    refine kR.getR (v := (rp σ.2.2.2.1 + 0)) dX10_goOn_27 flX10_111 zcf4 zp8 (Or.inl ⟨_, rfl⟩) rfl ?_
    refine kR.aload_n dX10_goOn_30 1 rfl ?_
    refine kR.getR (v := 4) dX10_goOn_31 flX10_19 zcf10 zp1 (Or.inl ⟨_, rfl⟩) rfl ?_
    obtain ⟨σ7, e8, h⟩ := bnr_some h
    refine kR.cSv [.ref 2, .ref (rp σ.2.2.2.1 + 0), .ref 4] dX10_goOn_34 rfl (by decide) (Or.inl mwX10_322) rfl (Nat.le_of_ble_eq_true rfl) (lX3_putInto σ.2.2.2.1 σ _ e8) ?_
    refine kR.aload_n dX10_goOn_37 1 rfl ?_
    refine kR.getR (v := 6) dX10_goOn_38 flX10_26 zcf10 zp1 (Or.inl ⟨_, rfl⟩) rfl ?_
    refine zR.iconst (v := 0) dX10_goOn_41 (by decide) ?_
    refine kR.putI dX10_goOn_42 fpX10_115 zcf2 zp6 rfl h (fun σ9 h => ?_)
    refine kR.aload_n dX10_goOn_45 1 rfl ?_
    refine kR.getR (v := 27) dX10_goOn_46 flX10_47 zcf10 zp1 (Or.inl ⟨_, rfl⟩) rfl ?_
    obtain ⟨σ10, e11, h⟩ := bnr_some h
    refine kR.cVv [] dX10_goOn_49 rfl (by decide) mwX10_119 zp27 (by decide) rfl rfl (Nat.le_of_ble_eq_true rfl) (lX0_forget σ9 _ e11) ?_
    refine zR.goto (tgt := 61) dX10_goOn_52 (by decide) ?_
    refine zR.sub [1, 0] rfl ?_
    exact kX10_goOn_61 _ _ _ h
theorem lX10_goOn {sc : Nat × (Nat → Int32)} (σ : zS) (w : Int32 × zS) (h : fX10_goOn σ = some w) : zC (zY0 sc) 5 0 0 mX10_goOn [.ref 1] (zE σ) (some (.int w.1), zE w.2) := zC.of (by decide +kernel) (Nat.le_of_ble_eq_true rfl) ⟨_, rfl⟩ (eX10_goOn σ w h)
theorem dX10_status_0 : decode cX10_status 0 = .ok (.iload_n 1, 1) := by decide +kernel
theorem dX10_status_1 : decode cX10_status 1 = .ok (.ifCond .lt 21, 3) := by decide +kernel
theorem dX10_status_4 : decode cX10_status 4 = .ok (.iload_n 1, 1) := by decide +kernel
theorem dX10_status_5 : decode cX10_status 5 = .ok (.aload_n 0, 1) := by decide +kernel
theorem dX10_status_6 : decode cX10_status 6 = .ok (.getfield 65, 3) := by decide +kernel
theorem dX10_status_9 : decode cX10_status 9 = .ok (.arraylength, 1) := by decide +kernel
theorem dX10_status_10 : decode cX10_status 10 = .ok (.if_icmp .ge 12, 3) := by decide +kernel
theorem dX10_status_13 : decode cX10_status 13 = .ok (.aload_n 0, 1) := by decide +kernel
theorem dX10_status_14 : decode cX10_status 14 = .ok (.getfield 65, 3) := by decide +kernel
theorem dX10_status_17 : decode cX10_status 17 = .ok (.iload_n 1, 1) := by decide +kernel
theorem dX10_status_18 : decode cX10_status 18 = .ok (.iaload, 1) := by decide +kernel
theorem dX10_status_19 : decode cX10_status 19 = .ok (.goto 4, 3) := by decide +kernel
theorem dX10_status_22 : decode cX10_status 22 = .ok (.iconst (-1), 1) := by decide +kernel
theorem dX10_status_23 : decode cX10_status 23 = .ok (.ireturn, 1) := by decide +kernel
def fX10_status (σ : zS) (p1 : Int32) : Option Int32 := if p1 < 0 then some ((-1)) else if 5 ≤ p1 then some ((-1)) else aI σ 37 5 p1 fun v1 => some v1
theorem eX10_status {sc : Nat × (Nat → Int32)} (σ : zS) (p1 : Int32) (w : Int32) (h : fX10_status σ p1 = some w) : zR (zY0 sc) 1 0 0 mX10_status 0 [(0, .ref 1), (1, .int p1)] [] (zE σ) (some (.int w), zE σ) := by
  unfold fX10_status at h
  refine kR.iload_n dX10_status_0 1 rfl ?_
  refine kR.if_lt (tgt := 22) dX10_status_1 (by decide) h (fun h => ?_) (fun h => ?_)
  · refine zR.iconst (v := (-1)) dX10_status_22 (by decide) ?_
    exact kR.iretO dX10_status_23 (nzI rfl _) h
  · refine kR.iload_n dX10_status_4 1 rfl ?_
    refine kR.aload_n dX10_status_5 0 rfl ?_
    refine kR.getR (v := 37) dX10_status_6 flX10_65 zcf10 zp1 (Or.inr ⟨_, rfl⟩) rfl ?_
    refine zR.alen (v := 5) dX10_status_9 (Or.inl zp37) rfl ?_
    refine kR.icmp_ge (tgt := 22) dX10_status_10 (by decide) h (fun h => ?_) (fun h => ?_)
    · refine zR.iconst (v := (-1)) dX10_status_22 (by decide) ?_
      exact kR.iretO dX10_status_23 (nzI rfl _) h
    · refine kR.aload_n dX10_status_13 0 rfl ?_
      refine kR.getR (v := 37) dX10_status_14 flX10_65 zcf10 zp1 (Or.inr ⟨_, rfl⟩) rfl ?_
      refine kR.iload_n dX10_status_17 1 rfl ?_
      refine kR.iald dX10_status_18 zp37 rfl h (fun v1 h => ?_)
      refine zR.goto (tgt := 23) dX10_status_19 (by decide) ?_
      exact kR.iretO dX10_status_23 (nzI rfl _) h
theorem lX10_status {sc : Nat × (Nat → Int32)} (σ : zS) (p1 : Int32) (w : Int32) (h : fX10_status σ p1 = some w) : zC (zY0 sc) 1 0 0 mX10_status [.ref 1, .int p1] (zE σ) (some (.int w), zE σ) := zC.of (by decide +kernel) (Nat.le_of_ble_eq_true rfl) ⟨_, rfl⟩ (eX10_status σ p1 w h)
theorem dX11_is_0 : decode cX11_is 0 = .ok (.iload_n 0, 1) := by decide +kernel
theorem dX11_is_1 : decode cX11_is 1 = .ok (.iload_n 1, 1) := by decide +kernel
theorem dX11_is_2 : decode cX11_is 2 = .ok (.if_icmp .lt 12, 3) := by decide +kernel
theorem dX11_is_5 : decode cX11_is 5 = .ok (.iload_n 0, 1) := by decide +kernel
theorem dX11_is_6 : decode cX11_is 6 = .ok (.iload_n 2, 1) := by decide +kernel
theorem dX11_is_7 : decode cX11_is 7 = .ok (.if_icmp .gt 7, 3) := by decide +kernel
theorem dX11_is_10 : decode cX11_is 10 = .ok (.iconst 1, 1) := by decide +kernel
theorem dX11_is_11 : decode cX11_is 11 = .ok (.goto 4, 3) := by decide +kernel
theorem dX11_is_14 : decode cX11_is 14 = .ok (.iconst 0, 1) := by decide +kernel
theorem dX11_is_15 : decode cX11_is 15 = .ok (.ireturn, 1) := by decide +kernel
def fX11_is (p0 : Int32) (p1 : Int32) (p2 : Int32) : Int32 := if p0 < p1 then 0 else if p2 < p0 then 0 else 1
theorem eX11_is {sc : Nat × (Nat → Int32)} {μ : zM} (p0 : Int32) (p1 : Int32) (p2 : Int32) (w : Int32) (h : fX11_is p0 p1 p2 = w) : zR (zY0 sc) 1 0 0 mX11_is 0 [(0, .int p0), (1, .int p1), (2, .int p2)] [] μ (some (.int w), μ) := by
  unfold fX11_is at h
  refine kR.iload_n dX11_is_0 0 rfl ?_
  refine kR.iload_n dX11_is_1 1 rfl ?_
  refine kR.icmp_lt (tgt := 14) dX11_is_2 (by decide) h (fun h => ?_) (fun h => ?_)
  · refine zR.iconst (v := 0) dX11_is_14 (by decide) ?_
    exact kR.iret dX11_is_15 (nzZ rfl (Or.inl rfl)) h
  · refine kR.iload_n dX11_is_5 0 rfl ?_
    refine kR.iload_n dX11_is_6 2 rfl ?_
    refine kR.icmp_gt (tgt := 14) dX11_is_7 (by decide) h (fun h => ?_) (fun h => ?_)
    · refine zR.iconst (v := 0) dX11_is_14 (by decide) ?_
      exact kR.iret dX11_is_15 (nzZ rfl (Or.inl rfl)) h
    · refine zR.iconst (v := 1) dX11_is_10 (by decide) ?_
      refine zR.goto (tgt := 15) dX11_is_11 (by decide) ?_
      exact kR.iret dX11_is_15 (nzZ rfl (Or.inr rfl)) h
theorem lX11_is {sc : Nat × (Nat → Int32)} {μ : zM} (p0 : Int32) (p1 : Int32) (p2 : Int32) : zC (zY0 sc) 1 0 0 mX11_is [.int p0, .int p1, .int p2] μ (some (.int (fX11_is p0 p1 p2)), μ) := zC.of (by decide +kernel) (Nat.le_of_ble_eq_true rfl) ⟨_, rfl⟩ (eX11_is p0 p1 p2 _ rfl)
theorem dX11_put_0 : decode cX11_put 0 = .ok (.bipush 24, 2) := by decide +kernel
theorem dX11_put_2 : decode cX11_put 2 = .ok (.istore_n 2, 1) := by decide +kernel
theorem dX11_put_3 : decode cX11_put 3 = .ok (.iload_n 2, 1) := by decide +kernel
theorem dX11_put_4 : decode cX11_put 4 = .ok (.ifCond .lt 35, 3) := by decide +kernel
theorem dX11_put_7 : decode cX11_put 7 = .ok (.aload_n 0, 1) := by decide +kernel
theorem dX11_put_8 : decode cX11_put 8 = .ok (.getfield 7, 3) := by decide +kernel
theorem dX11_put_11 : decode cX11_put 11 = .ok (.aload_n 0, 1) := by decide +kernel
theorem dX11_put_12 : decode cX11_put 12 = .ok (.getfield 13, 3) := by decide +kernel
theorem dX11_put_15 : decode cX11_put 15 = .ok (.iload_n 1, 1) := by decide +kernel
theorem dX11_put_16 : decode cX11_put 16 = .ok (.iload_n 2, 1) := by decide +kernel
theorem dX11_put_17 : decode cX11_put 17 = .ok (.ishr, 1) := by decide +kernel
theorem dX11_put_18 : decode cX11_put 18 = .ok (.sipush 255, 3) := by decide +kernel
theorem dX11_put_21 : decode cX11_put 21 = .ok (.iand, 1) := by decide +kernel
theorem dX11_put_22 : decode cX11_put 22 = .ok (.iastore, 1) := by decide +kernel
theorem dX11_put_23 : decode cX11_put 23 = .ok (.aload_n 0, 1) := by decide +kernel
theorem dX11_put_24 : decode cX11_put 24 = .ok (.dup, 1) := by decide +kernel
theorem dX11_put_25 : decode cX11_put 25 = .ok (.getfield 13, 3) := by decide +kernel
theorem dX11_put_28 : decode cX11_put 28 = .ok (.iconst 1, 1) := by decide +kernel
theorem dX11_put_29 : decode cX11_put 29 = .ok (.iadd, 1) := by decide +kernel
theorem dX11_put_30 : decode cX11_put 30 = .ok (.putfield 13, 3) := by decide +kernel
theorem dX11_put_33 : decode cX11_put 33 = .ok (.iinc 2 (-8), 3) := by decide +kernel
theorem dX11_put_36 : decode cX11_put 36 = .ok (.goto (-33), 3) := by decide +kernel
theorem dX11_put_39 : decode cX11_put 39 = .ok (.return_, 1) := by decide +kernel
def fX11_put_3 : Nat → Int32 → Int32 → zS → Option zS
  | 0, _, _, _ => none
  | f + 1, x1, x2, σ => if x2 < 0 then some σ else wI σ 57 1800 (iG σ 56 1) ((x1 >>> (x2 &&& 31)) &&& 255) fun σ1 => bnd (iS σ1 56 1 ((iG σ1 56 1) + 1)) fun σ2 => fX11_put_3 f x1 (x2 + (-8)) σ2
theorem kX11_put_3 {sc : Nat × (Nat → Int32)} : ∀ (fuel : Nat) (x1 : Int32) (x2 : Int32) (σ : zS) (w : zS) (h : fX11_put_3 fuel x1 x2 σ = some w), zR (zY0 sc) 1 0 0 mX11_put 3 [(0, .ref 56), (1, .int x1), (2, .int x2)] [] (zE σ) (none, zE w) := by
  intro fuel
  induction fuel with
  | zero => intro x1 x2 σ w h; exact nomatch h
  | succ f ih =>
    intro x1 x2 σ w h
    rw [fX11_put_3] at h
    refine kR.iload_n dX11_put_3 2 rfl ?_
    refine kR.if_lt (tgt := 39) dX11_put_4 (by decide) h (fun h => ?_) (fun h => ?_)
    · exact kR.vret dX11_put_39 h
    · refine kR.aload_n dX11_put_7 0 rfl ?_
      refine kR.getR (v := 57) dX11_put_8 flX11_7 zcf11 zp56 (Or.inr ⟨_, rfl⟩) rfl ?_
      refine kR.aload_n dX11_put_11 0 rfl ?_
      refine kR.getI dX11_put_12 flX11_13 zcf11 zp56 (Or.inl rfl) ?_
      refine kR.iload_n dX11_put_15 1 rfl ?_
      refine kR.iload_n dX11_put_16 2 rfl ?_
      refine zR.ishr dX11_put_17 ?_
      refine zR.sipush (v := 255) dX11_put_18 (by decide) ?_
      refine zR.iand dX11_put_21 ?_
      refine kR.iast dX11_put_22 zp57 rfl h (fun σ1 h => ?_)
      refine kR.aload_n dX11_put_23 0 rfl ?_
      refine zR.dup dX11_put_24 rfl ?_
      refine kR.getI dX11_put_25 flX11_13 zcf11 zp56 (Or.inl rfl) ?_
      refine zR.iconst (v := 1) dX11_put_28 (by decide) ?_
      refine zR.iadd dX11_put_29 ?_
      refine kR.putI dX11_put_30 fpX11_13 zcf11 zp56 rfl h (fun σ2 h => ?_)
      refine zR.iinc 2 (v := x2 + (-8)) (ls' := [(2, .int (x2 + (-8))), (0, .ref 56), (1, .int x1)]) dX11_put_33 rfl rfl (by decide) rfl ?_
      refine zR.goto (tgt := 3) dX11_put_36 (by decide) ?_
      refine zR.sub [1, 2, 0] rfl ?_
      exact ih _ _ _ _ h
def fX11_put (p1 : Int32) (σ : zS) : Option zS := fX11_put_3 zF p1 24 σ
theorem eX11_put {sc : Nat × (Nat → Int32)} (p1 : Int32) (σ : zS) (w : zS) (h : fX11_put p1 σ = some w) : zR (zY0 sc) 1 0 0 mX11_put 0 [(0, .ref 56), (1, .int p1)] [] (zE σ) (none, zE w) := by
  unfold fX11_put at h
  refine zR.bipush (v := 24) dX11_put_0 (by decide) ?_
  refine zR.istore_n (i := 2) (ls' := [(2, .int 24), (0, .ref 56), (1, .int p1)]) dX11_put_2 rfl (by decide) rfl ?_
  refine zR.sub [1, 2, 0] rfl ?_
  exact kX11_put_3 zF _ _ _ _ h
theorem lX11_put {sc : Nat × (Nat → Int32)} (p1 : Int32) (σ : zS) (w : zS) (h : fX11_put p1 σ = some w) : zC (zY0 sc) 1 0 0 mX11_put [.ref 56, .int p1] (zE σ) (none, zE w) := zC.of (by decide +kernel) (Nat.le_of_ble_eq_true rfl) rfl (eX11_put p1 σ w h)
theorem dX11_refuses_0 : decode cX11_refuses 0 = .ok (.aload_n 0, 1) := by decide +kernel
theorem dX11_refuses_1 : decode cX11_refuses 1 = .ok (.getfield 153, 3) := by decide +kernel
theorem dX11_refuses_4 : decode cX11_refuses 4 = .ok (.iload_n 1, 1) := by decide +kernel
theorem dX11_refuses_5 : decode cX11_refuses 5 = .ok (.dup2, 1) := by decide +kernel
theorem dX11_refuses_6 : decode cX11_refuses 6 = .ok (.iaload, 1) := by decide +kernel
theorem dX11_refuses_7 : decode cX11_refuses 7 = .ok (.iconst 1, 1) := by decide +kernel
theorem dX11_refuses_8 : decode cX11_refuses 8 = .ok (.iadd, 1) := by decide +kernel
theorem dX11_refuses_9 : decode cX11_refuses 9 = .ok (.iastore, 1) := by decide +kernel
theorem dX11_refuses_10 : decode cX11_refuses 10 = .ok (.iconst (-1), 1) := by decide +kernel
theorem dX11_refuses_11 : decode cX11_refuses 11 = .ok (.ireturn, 1) := by decide +kernel
def fX11_refuses (p1 : Int32) (σ : zS) : Option (Int32 × zS) := aI σ 84 5 p1 fun v1 => wI σ 84 5 p1 (v1 + 1) fun σ2 => some ((-1), σ2)
theorem eX11_refuses {sc : Nat × (Nat → Int32)} (p1 : Int32) (σ : zS) (w : Int32 × zS) (h : fX11_refuses p1 σ = some w) : zR (zY0 sc) 1 0 0 mX11_refuses 0 [(0, .ref 56), (1, .int p1)] [] (zE σ) (some (.int w.1), zE w.2) := by
  unfold fX11_refuses at h
  refine kR.aload_n dX11_refuses_0 0 rfl ?_
  refine kR.getR (v := 84) dX11_refuses_1 flX11_153 zcf11 zp56 (Or.inr ⟨_, rfl⟩) rfl ?_
  refine kR.iload_n dX11_refuses_4 1 rfl ?_
  refine zR.dup2 dX11_refuses_5 rfl rfl ?_
  refine kR.iald dX11_refuses_6 zp84 rfl h (fun v1 h => ?_)
  refine zR.iconst (v := 1) dX11_refuses_7 (by decide) ?_
  refine zR.iadd dX11_refuses_8 ?_
  refine kR.iast dX11_refuses_9 zp84 rfl h (fun σ2 h => ?_)
  refine zR.iconst (v := (-1)) dX11_refuses_10 (by decide) ?_
  exact kR.iretW dX11_refuses_11 (nzI rfl _) h
theorem lX11_refuses {sc : Nat × (Nat → Int32)} (p1 : Int32) (σ : zS) (w : Int32 × zS) (h : fX11_refuses p1 σ = some w) : zC (zY0 sc) 1 0 0 mX11_refuses [.ref 56, .int p1] (zE σ) (some (.int w.1), zE w.2) := zC.of (by decide +kernel) (Nat.le_of_ble_eq_true rfl) ⟨_, rfl⟩ (eX11_refuses p1 σ w h)
theorem dX11_feed_0 : decode cX11_feed 0 = .ok (.aload_n 0, 1) := by decide +kernel
theorem dX11_feed_1 : decode cX11_feed 1 = .ok (.getfield 13, 3) := by decide +kernel
theorem dX11_feed_4 : decode cX11_feed 4 = .ok (.bipush 20, 2) := by decide +kernel
theorem dX11_feed_6 : decode cX11_feed 6 = .ok (.iadd, 1) := by decide +kernel
theorem dX11_feed_7 : decode cX11_feed 7 = .ok (.sipush 1600, 3) := by decide +kernel
theorem dX11_feed_10 : decode cX11_feed 10 = .ok (.if_icmp .le 9, 3) := by decide +kernel
theorem dX11_feed_13 : decode cX11_feed 13 = .ok (.aload_n 0, 1) := by decide +kernel
theorem dX11_feed_14 : decode cX11_feed 14 = .ok (.iconst 0, 1) := by decide +kernel
theorem dX11_feed_15 : decode cX11_feed 15 = .ok (.invokevirtual 252, 3) := by decide +kernel
theorem dX11_feed_18 : decode cX11_feed 18 = .ok (.ireturn, 1) := by decide +kernel
theorem dX11_feed_19 : decode cX11_feed 19 = .ok (.aload_n 0, 1) := by decide +kernel
theorem dX11_feed_20 : decode cX11_feed 20 = .ok (.iload_n 1, 1) := by decide +kernel
theorem dX11_feed_21 : decode cX11_feed 21 = .ok (.invokevirtual 256, 3) := by decide +kernel
theorem dX11_feed_24 : decode cX11_feed 24 = .ok (.aload_n 0, 1) := by decide +kernel
theorem dX11_feed_25 : decode cX11_feed 25 = .ok (.iload_n 2, 1) := by decide +kernel
theorem dX11_feed_26 : decode cX11_feed 26 = .ok (.invokevirtual 256, 3) := by decide +kernel
theorem dX11_feed_29 : decode cX11_feed 29 = .ok (.aload_n 0, 1) := by decide +kernel
theorem dX11_feed_30 : decode cX11_feed 30 = .ok (.iload_n 3, 1) := by decide +kernel
theorem dX11_feed_31 : decode cX11_feed 31 = .ok (.invokevirtual 256, 3) := by decide +kernel
theorem dX11_feed_34 : decode cX11_feed 34 = .ok (.aload_n 0, 1) := by decide +kernel
theorem dX11_feed_35 : decode cX11_feed 35 = .ok (.iload 4, 2) := by decide +kernel
theorem dX11_feed_37 : decode cX11_feed 37 = .ok (.invokevirtual 256, 3) := by decide +kernel
theorem dX11_feed_40 : decode cX11_feed 40 = .ok (.aload_n 0, 1) := by decide +kernel
theorem dX11_feed_41 : decode cX11_feed 41 = .ok (.iload 5, 2) := by decide +kernel
theorem dX11_feed_43 : decode cX11_feed 43 = .ok (.invokevirtual 256, 3) := by decide +kernel
theorem dX11_feed_46 : decode cX11_feed 46 = .ok (.aload_n 0, 1) := by decide +kernel
theorem dX11_feed_47 : decode cX11_feed 47 = .ok (.getfield 13, 3) := by decide +kernel
theorem dX11_feed_50 : decode cX11_feed 50 = .ok (.ireturn, 1) := by decide +kernel
def fX11_feed (p1 : Int32) (p2 : Int32) (p3 : Int32) (p4 : Int32) (p5 : Int32) (σ : zS) : Option (Int32 × zS) := if ((iG σ 56 1) + 20) ≤ 1600 then bnr (fX11_put p1 σ) fun σ1 => bnr (fX11_put p2 σ1) fun σ3 => bnr (fX11_put p3 σ3) fun σ5 => bnr (fX11_put p4 σ5) fun σ7 => bnr (fX11_put p5 σ7) fun σ9 => some (iG σ9 56 1, σ9) else bnc (fX11_refuses 0 σ) fun v13 σ11 => some (v13, σ11)
theorem eX11_feed {sc : Nat × (Nat → Int32)} (p1 : Int32) (p2 : Int32) (p3 : Int32) (p4 : Int32) (p5 : Int32) (σ : zS) (w : Int32 × zS) (h : fX11_feed p1 p2 p3 p4 p5 σ = some w) : zR (zY0 sc) 2 0 0 mX11_feed 0 [(0, .ref 56), (1, .int p1), (2, .int p2), (3, .int p3), (4, .int p4), (5, .int p5)] [] (zE σ) (some (.int w.1), zE w.2) := by
  unfold fX11_feed at h
  refine kR.aload_n dX11_feed_0 0 rfl ?_
  refine kR.getI dX11_feed_1 flX11_13 zcf11 zp56 (Or.inl rfl) ?_
  refine zR.bipush (v := 20) dX11_feed_4 (by decide) ?_
  refine zR.iadd dX11_feed_6 ?_
  refine zR.sipush (v := 1600) dX11_feed_7 (by decide) ?_
  refine kR.icmp_le (tgt := 19) dX11_feed_10 (by decide) h (fun h => ?_) (fun h => ?_)
  · refine kR.aload_n dX11_feed_19 0 rfl ?_
    refine kR.iload_n dX11_feed_20 1 rfl ?_
    obtain ⟨σ1, e2, h⟩ := bnr_some h
    refine kR.cVv [.int p1] dX11_feed_21 rfl (by decide) mwX11_256 zp56 (by decide) rfl rfl (Nat.le_of_ble_eq_true rfl) (lX11_put p1 σ _ e2) ?_
    refine kR.aload_n dX11_feed_24 0 rfl ?_
    refine kR.iload_n dX11_feed_25 2 rfl ?_
    obtain ⟨σ3, e4, h⟩ := bnr_some h
    refine kR.cVv [.int p2] dX11_feed_26 rfl (by decide) mwX11_256 zp56 (by decide) rfl rfl (Nat.le_of_ble_eq_true rfl) (lX11_put p2 σ1 _ e4) ?_
    refine kR.aload_n dX11_feed_29 0 rfl ?_
    refine kR.iload_n dX11_feed_30 3 rfl ?_
    obtain ⟨σ5, e6, h⟩ := bnr_some h
    refine kR.cVv [.int p3] dX11_feed_31 rfl (by decide) mwX11_256 zp56 (by decide) rfl rfl (Nat.le_of_ble_eq_true rfl) (lX11_put p3 σ3 _ e6) ?_
    refine kR.aload_n dX11_feed_34 0 rfl ?_
    refine kR.iload dX11_feed_35 4 rfl ?_
    obtain ⟨σ7, e8, h⟩ := bnr_some h
    refine kR.cVv [.int p4] dX11_feed_37 rfl (by decide) mwX11_256 zp56 (by decide) rfl rfl (Nat.le_of_ble_eq_true rfl) (lX11_put p4 σ5 _ e8) ?_
    refine kR.aload_n dX11_feed_40 0 rfl ?_
    refine kR.iload dX11_feed_41 5 rfl ?_
    obtain ⟨σ9, e10, h⟩ := bnr_some h
    refine kR.cVv [.int p5] dX11_feed_43 rfl (by decide) mwX11_256 zp56 (by decide) rfl rfl (Nat.le_of_ble_eq_true rfl) (lX11_put p5 σ7 _ e10) ?_
    refine kR.aload_n dX11_feed_46 0 rfl ?_
    refine kR.getI dX11_feed_47 flX11_13 zcf11 zp56 (Or.inl rfl) ?_
    exact kR.iretW dX11_feed_50 (nzI rfl _) h
  · refine kR.aload_n dX11_feed_13 0 rfl ?_
    refine zR.iconst (v := 0) dX11_feed_14 (by decide) ?_
    obtain ⟨v13, σ11, e12, h⟩ := bnc_some h
    refine kR.cVi [.int 0] dX11_feed_15 rfl (by decide) mwX11_252 zp56 (by decide) rfl rfl (Nat.le_of_ble_eq_true rfl) (lX11_refuses 0 σ _ e12) ?_
    exact kR.iretW dX11_feed_18 (nzI rfl _) h
theorem lX11_feed {sc : Nat × (Nat → Int32)} (p1 : Int32) (p2 : Int32) (p3 : Int32) (p4 : Int32) (p5 : Int32) (σ : zS) (w : Int32 × zS) (h : fX11_feed p1 p2 p3 p4 p5 σ = some w) : zC (zY0 sc) 2 0 0 mX11_feed [.ref 56, .int p1, .int p2, .int p3, .int p4, .int p5] (zE σ) (some (.int w.1), zE w.2) := zC.of (by decide +kernel) (Nat.le_of_ble_eq_true rfl) ⟨_, rfl⟩ (eX11_feed p1 p2 p3 p4 p5 σ w h)
theorem dX11_end_0 : decode cX11_end 0 = .ok (.iload_n 1, 1) := by decide +kernel
theorem dX11_end_1 : decode cX11_end 1 = .ok (.ifCond .lt 11, 3) := by decide +kernel
theorem dX11_end_4 : decode cX11_end 4 = .ok (.iload_n 1, 1) := by decide +kernel
theorem dX11_end_5 : decode cX11_end 5 = .ok (.aload_n 0, 1) := by decide +kernel
theorem dX11_end_6 : decode cX11_end 6 = .ok (.getfield 13, 3) := by decide +kernel
theorem dX11_end_9 : decode cX11_end 9 = .ok (.if_icmp .le 17, 3) := by decide +kernel
theorem dX11_end_12 : decode cX11_end 12 = .ok (.aload_n 0, 1) := by decide +kernel
theorem dX11_end_13 : decode cX11_end 13 = .ok (.iconst 0, 1) := by decide +kernel
theorem dX11_end_14 : decode cX11_end 14 = .ok (.invokevirtual 252, 3) := by decide +kernel
theorem dX11_end_17 : decode cX11_end 17 = .ok (.ifCond .lt 7, 3) := by decide +kernel
theorem dX11_end_20 : decode cX11_end 20 = .ok (.iconst 1, 1) := by decide +kernel
theorem dX11_end_21 : decode cX11_end 21 = .ok (.goto 4, 3) := by decide +kernel
theorem dX11_end_24 : decode cX11_end 24 = .ok (.iconst 0, 1) := by decide +kernel
theorem dX11_end_25 : decode cX11_end 25 = .ok (.ireturn, 1) := by decide +kernel
theorem dX11_end_26 : decode cX11_end 26 = .ok (.aload_n 0, 1) := by decide +kernel
theorem dX11_end_27 : decode cX11_end 27 = .ok (.iload_n 1, 1) := by decide +kernel
theorem dX11_end_28 : decode cX11_end 28 = .ok (.putfield 13, 3) := by decide +kernel
theorem dX11_end_31 : decode cX11_end 31 = .ok (.iconst 1, 1) := by decide +kernel
theorem dX11_end_32 : decode cX11_end 32 = .ok (.ireturn, 1) := by decide +kernel
def fX11_end_12 (σ : zS) : Option (Int32 × zS) := bnc (fX11_refuses 0 σ) fun v3 σ1 => if v3 < 0 then some (0, σ1) else some (1, σ1)
theorem kX11_end_12 {sc : Nat × (Nat → Int32)} (σ : zS) (w : Int32 × zS) (h : fX11_end_12 σ = some w) : zR (zY0 sc) 2 0 0 mX11_end 12 [(0, .ref 56)] [] (zE σ) (some (.int w.1), zE w.2) := by
  unfold fX11_end_12 at h
  refine kR.aload_n dX11_end_12 0 rfl ?_
  refine zR.iconst (v := 0) dX11_end_13 (by decide) ?_
  obtain ⟨v3, σ1, e2, h⟩ := bnc_some h
  refine kR.cVi [.int 0] dX11_end_14 rfl (by decide) mwX11_252 zp56 (by decide) rfl rfl (Nat.le_of_ble_eq_true rfl) (lX11_refuses 0 σ _ e2) ?_
  refine kR.if_lt (tgt := 24) dX11_end_17 (by decide) h (fun h => ?_) (fun h => ?_)
  · refine zR.iconst (v := 0) dX11_end_24 (by decide) ?_
    exact kR.iretW dX11_end_25 (nzZ rfl (Or.inl rfl)) h
  · refine zR.iconst (v := 1) dX11_end_20 (by decide) ?_
    refine zR.goto (tgt := 25) dX11_end_21 (by decide) ?_
    exact kR.iretW dX11_end_25 (nzZ rfl (Or.inr rfl)) h
def fX11_end (p1 : Int32) (σ : zS) : Option (Int32 × zS) := if p1 < 0 then fX11_end_12 σ else if p1 ≤ (iG σ 56 1) then bnd (iS σ 56 1 p1) fun σ4 => some (1, σ4) else fX11_end_12 σ
theorem eX11_end {sc : Nat × (Nat → Int32)} (p1 : Int32) (σ : zS) (w : Int32 × zS) (h : fX11_end p1 σ = some w) : zR (zY0 sc) 2 0 0 mX11_end 0 [(0, .ref 56), (1, .int p1)] [] (zE σ) (some (.int w.1), zE w.2) := by
  unfold fX11_end at h
  refine kR.iload_n dX11_end_0 1 rfl ?_
  refine kR.if_lt (tgt := 12) dX11_end_1 (by decide) h (fun h => ?_) (fun h => ?_)
  · refine zR.sub [0] rfl ?_
    exact kX11_end_12 _ _ h
  · refine kR.iload_n dX11_end_4 1 rfl ?_
    refine kR.aload_n dX11_end_5 0 rfl ?_
    refine kR.getI dX11_end_6 flX11_13 zcf11 zp56 (Or.inl rfl) ?_
    refine kR.icmp_le (tgt := 26) dX11_end_9 (by decide) h (fun h => ?_) (fun h => ?_)
    · refine kR.aload_n dX11_end_26 0 rfl ?_
      refine kR.iload_n dX11_end_27 1 rfl ?_
      refine kR.putI dX11_end_28 fpX11_13 zcf11 zp56 rfl h (fun σ4 h => ?_)
      refine zR.iconst (v := 1) dX11_end_31 (by decide) ?_
      exact kR.iretW dX11_end_32 (nzZ rfl (Or.inr rfl)) h
    · refine zR.sub [0] rfl ?_
      exact kX11_end_12 _ _ h
theorem lX11_end {sc : Nat × (Nat → Int32)} (p1 : Int32) (σ : zS) (w : Int32 × zS) (h : fX11_end p1 σ = some w) : zC (zY0 sc) 2 0 0 mX11_end [.ref 56, .int p1] (zE σ) (some (.int w.1), zE w.2) := zC.of (by decide +kernel) (Nat.le_of_ble_eq_true rfl) ⟨_, rfl⟩ (eX11_end p1 σ w h)
theorem dX11_blame_0 : decode cX11_blame 0 = .ok (.aload_n 0, 1) := by decide +kernel
theorem dX11_blame_1 : decode cX11_blame 1 = .ok (.getfield 36, 3) := by decide +kernel
theorem dX11_blame_4 : decode cX11_blame 4 = .ok (.ifCond .le 4, 3) := by decide +kernel
theorem dX11_blame_7 : decode cX11_blame 7 = .ok (.return_, 1) := by decide +kernel
theorem dX11_blame_8 : decode cX11_blame 8 = .ok (.aload_n 0, 1) := by decide +kernel
theorem dX11_blame_9 : decode cX11_blame 9 = .ok (.iload_n 1, 1) := by decide +kernel
theorem dX11_blame_10 : decode cX11_blame 10 = .ok (.putfield 36, 3) := by decide +kernel
theorem dX11_blame_13 : decode cX11_blame 13 = .ok (.aload_n 0, 1) := by decide +kernel
theorem dX11_blame_14 : decode cX11_blame 14 = .ok (.iload_n 2, 1) := by decide +kernel
theorem dX11_blame_15 : decode cX11_blame 15 = .ok (.putfield 39, 3) := by decide +kernel
theorem dX11_blame_18 : decode cX11_blame 18 = .ok (.return_, 1) := by decide +kernel
def fX11_blame (p1 : Int32) (p2 : Int32) (σ : zS) : Option zS := if (iG σ 56 8) ≤ 0 then bnd (iS σ 56 8 p1) fun σ1 => bnd (iS σ1 56 9 p2) fun σ2 => some σ2 else some σ
theorem eX11_blame {sc : Nat × (Nat → Int32)} (p1 : Int32) (p2 : Int32) (σ : zS) (w : zS) (h : fX11_blame p1 p2 σ = some w) : zR (zY0 sc) 1 0 0 mX11_blame 0 [(0, .ref 56), (1, .int p1), (2, .int p2)] [] (zE σ) (none, zE w) := by
  unfold fX11_blame at h
  refine kR.aload_n dX11_blame_0 0 rfl ?_
  refine kR.getI dX11_blame_1 flX11_36 zcf11 zp56 (Or.inl rfl) ?_
  refine kR.if_le (tgt := 8) dX11_blame_4 (by decide) h (fun h => ?_) (fun h => ?_)
  · refine kR.aload_n dX11_blame_8 0 rfl ?_
    refine kR.iload_n dX11_blame_9 1 rfl ?_
    refine kR.putI dX11_blame_10 fpX11_36 zcf11 zp56 rfl h (fun σ1 h => ?_)
    refine kR.aload_n dX11_blame_13 0 rfl ?_
    refine kR.iload_n dX11_blame_14 2 rfl ?_
    refine kR.putI dX11_blame_15 fpX11_39 zcf11 zp56 rfl h (fun σ2 h => ?_)
    exact kR.vret dX11_blame_18 h
  · exact kR.vret dX11_blame_7 h
theorem lX11_blame {sc : Nat × (Nat → Int32)} (p1 : Int32) (p2 : Int32) (σ : zS) (w : zS) (h : fX11_blame p1 p2 σ = some w) : zC (zY0 sc) 1 0 0 mX11_blame [.ref 56, .int p1, .int p2] (zE σ) (none, zE w) := zC.of (by decide +kernel) (Nat.le_of_ble_eq_true rfl) rfl (eX11_blame p1 p2 σ w h)
theorem dX11_isLetter_0 : decode cX11_isLetter 0 = .ok (.iload_n 0, 1) := by decide +kernel
theorem dX11_isLetter_1 : decode cX11_isLetter 1 = .ok (.bipush 97, 2) := by decide +kernel
theorem dX11_isLetter_3 : decode cX11_isLetter 3 = .ok (.if_icmp .lt 13, 3) := by decide +kernel
theorem dX11_isLetter_6 : decode cX11_isLetter 6 = .ok (.iload_n 0, 1) := by decide +kernel
theorem dX11_isLetter_7 : decode cX11_isLetter 7 = .ok (.bipush 122, 2) := by decide +kernel
theorem dX11_isLetter_9 : decode cX11_isLetter 9 = .ok (.if_icmp .gt 7, 3) := by decide +kernel
theorem dX11_isLetter_12 : decode cX11_isLetter 12 = .ok (.iconst 1, 1) := by decide +kernel
theorem dX11_isLetter_13 : decode cX11_isLetter 13 = .ok (.goto 4, 3) := by decide +kernel
theorem dX11_isLetter_16 : decode cX11_isLetter 16 = .ok (.iconst 0, 1) := by decide +kernel
theorem dX11_isLetter_17 : decode cX11_isLetter 17 = .ok (.ireturn, 1) := by decide +kernel
def fX11_isLetter (p0 : Int32) : Int32 := if p0 < 97 then 0 else if 122 < p0 then 0 else 1
theorem eX11_isLetter {sc : Nat × (Nat → Int32)} {μ : zM} (p0 : Int32) (w : Int32) (h : fX11_isLetter p0 = w) : zR (zY0 sc) 1 0 0 mX11_isLetter 0 [(0, .int p0)] [] μ (some (.int w), μ) := by
  unfold fX11_isLetter at h
  refine kR.iload_n dX11_isLetter_0 0 rfl ?_
  refine zR.bipush (v := 97) dX11_isLetter_1 (by decide) ?_
  refine kR.icmp_lt (tgt := 16) dX11_isLetter_3 (by decide) h (fun h => ?_) (fun h => ?_)
  · refine zR.iconst (v := 0) dX11_isLetter_16 (by decide) ?_
    exact kR.iret dX11_isLetter_17 (nzZ rfl (Or.inl rfl)) h
  · refine kR.iload_n dX11_isLetter_6 0 rfl ?_
    refine zR.bipush (v := 122) dX11_isLetter_7 (by decide) ?_
    refine kR.icmp_gt (tgt := 16) dX11_isLetter_9 (by decide) h (fun h => ?_) (fun h => ?_)
    · refine zR.iconst (v := 0) dX11_isLetter_16 (by decide) ?_
      exact kR.iret dX11_isLetter_17 (nzZ rfl (Or.inl rfl)) h
    · refine zR.iconst (v := 1) dX11_isLetter_12 (by decide) ?_
      refine zR.goto (tgt := 17) dX11_isLetter_13 (by decide) ?_
      exact kR.iret dX11_isLetter_17 (nzZ rfl (Or.inr rfl)) h
theorem lX11_isLetter {sc : Nat × (Nat → Int32)} {μ : zM} (p0 : Int32) : zC (zY0 sc) 1 0 0 mX11_isLetter [.int p0] μ (some (.int (fX11_isLetter p0)), μ) := zC.of (by decide +kernel) (Nat.le_of_ble_eq_true rfl) ⟨_, rfl⟩ (eX11_isLetter p0 _ rfl)

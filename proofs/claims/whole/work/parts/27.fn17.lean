/-! MY OWN (by program): X11_goOn, J3_checkIndex_8e157, J0_checkIndex_df160, J1_charAt_3b067, J0_charAt_5068e -/
theorem dX11_goOn_0 : decode cX11_goOn 0 = .ok (.aload_n 0, 1) := by decide +kernel
theorem dX11_goOn_1 : decode cX11_goOn 1 = .ok (.getfield 13, 3) := by decide +kernel
theorem dX11_goOn_4 : decode cX11_goOn 4 = .ok (.istore_n 1, 1) := by decide +kernel
theorem dX11_goOn_5 : decode cX11_goOn 5 = .ok (.aload_n 0, 1) := by decide +kernel
theorem dX11_goOn_6 : decode cX11_goOn 6 = .ok (.iconst 0, 1) := by decide +kernel
theorem dX11_goOn_7 : decode cX11_goOn 7 = .ok (.putfield 13, 3) := by decide +kernel
theorem dX11_goOn_10 : decode cX11_goOn 10 = .ok (.aload_n 0, 1) := by decide +kernel
theorem dX11_goOn_11 : decode cX11_goOn 11 = .ok (.iload_n 1, 1) := by decide +kernel
theorem dX11_goOn_12 : decode cX11_goOn 12 = .ok (.invokevirtual 586, 3) := by decide +kernel
theorem dX11_goOn_15 : decode cX11_goOn 15 = .ok (.ifCond .ne 17, 3) := by decide +kernel
theorem dX11_goOn_18 : decode cX11_goOn 18 = .ok (.aload_n 0, 1) := by decide +kernel
theorem dX11_goOn_19 : decode cX11_goOn 19 = .ok (.iconst 4, 1) := by decide +kernel
theorem dX11_goOn_20 : decode cX11_goOn 20 = .ok (.invokevirtual 252, 3) := by decide +kernel
theorem dX11_goOn_23 : decode cX11_goOn 23 = .ok (.ifCond .lt 7, 3) := by decide +kernel
theorem dX11_goOn_26 : decode cX11_goOn 26 = .ok (.iconst 1, 1) := by decide +kernel
theorem dX11_goOn_27 : decode cX11_goOn 27 = .ok (.goto 4, 3) := by decide +kernel
theorem dX11_goOn_30 : decode cX11_goOn 30 = .ok (.iconst 0, 1) := by decide +kernel
theorem dX11_goOn_31 : decode cX11_goOn 31 = .ok (.ireturn, 1) := by decide +kernel
theorem dX11_goOn_32 : decode cX11_goOn 32 = .ok (.aload_n 0, 1) := by decide +kernel
theorem dX11_goOn_33 : decode cX11_goOn 33 = .ok (.iconst 0, 1) := by decide +kernel
theorem dX11_goOn_34 : decode cX11_goOn 34 = .ok (.iconst 1, 1) := by decide +kernel
theorem dX11_goOn_35 : decode cX11_goOn 35 = .ok (.invokevirtual 446, 3) := by decide +kernel
theorem dX11_goOn_38 : decode cX11_goOn 38 = .ok (.aload_n 0, 1) := by decide +kernel
theorem dX11_goOn_39 : decode cX11_goOn 39 = .ok (.iconst 0, 1) := by decide +kernel
theorem dX11_goOn_40 : decode cX11_goOn 40 = .ok (.putfield 189, 3) := by decide +kernel
theorem dX11_goOn_43 : decode cX11_goOn 43 = .ok (.iconst 1, 1) := by decide +kernel
theorem dX11_goOn_44 : decode cX11_goOn 44 = .ok (.ireturn, 1) := by decide +kernel
def fX11_goOn (σ : zS) : Option (Int32 × zS) := bnd (iS σ 56 1 0) fun σ1 => bnc (fX11_comesOn (iG σ 56 1) σ1) fun v4 σ2 => if v4 = 0 then bnc (fX11_refuses 4 σ2) fun v10 σ8 => if v10 < 0 then some (0, σ8) else some (1, σ8) else bnr (fX11_copies 0 1 σ2) fun σ5 => bnd (iS σ5 56 58 0) fun σ7 => some (1, σ7)
theorem eX11_goOn {sc : Nat × (Nat → Int32)} (σ : zS) (w : Int32 × zS) (h : fX11_goOn σ = some w) : zR (zY0 sc) 4 0 0 mX11_goOn 0 [(0, .ref 56)] [] (zE σ) (some (.int w.1), zE w.2) := by
  unfold fX11_goOn at h
  refine kR.aload_n dX11_goOn_0 0 rfl ?_
  refine kR.getI dX11_goOn_1 flX11_13 zcf11 zp56 (Or.inl rfl) ?_
  refine zR.istore_n (i := 1) (ls' := [(1, .int (iG σ 56 1)), (0, .ref 56)]) dX11_goOn_4 rfl (by decide) rfl ?_
  refine kR.aload_n dX11_goOn_5 1 rfl ?_
  refine zR.iconst (v := 0) dX11_goOn_6 (by decide) ?_
  refine kR.putI dX11_goOn_7 fpX11_13 zcf11 zp56 rfl h (fun σ1 h => ?_)
  refine kR.aload_n dX11_goOn_10 1 rfl ?_
  refine kR.iload_n dX11_goOn_11 0 rfl ?_
  obtain ⟨v4, σ2, e3, h⟩ := bnc_some h
  refine kR.cVi [.int (iG σ 56 1)] dX11_goOn_12 rfl (by decide) mwX11_586 zp56 (by decide) rfl rfl (Nat.le_of_ble_eq_true rfl) (lX11_comesOn (iG σ 56 1) σ1 _ e3) ?_
  refine kR.if_ne (tgt := 32) dX11_goOn_15 (by decide) h (fun h => ?_) (fun h => ?_)
  · refine kR.aload_n dX11_goOn_32 1 rfl ?_
    refine zR.iconst (v := 0) dX11_goOn_33 (by decide) ?_
    refine zR.iconst (v := 1) dX11_goOn_34 (by decide) ?_
    obtain ⟨σ5, e6, h⟩ := bnr_some h
    refine kR.cVv [.int 0, .int 1] dX11_goOn_35 rfl (by decide) mwX11_446 zp56 (by decide) rfl rfl (Nat.le_of_ble_eq_true rfl) (lX11_copies 0 1 σ2 _ e6) ?_
    refine kR.aload_n dX11_goOn_38 1 rfl ?_
    refine zR.iconst (v := 0) dX11_goOn_39 (by decide) ?_
    refine kR.putI dX11_goOn_40 fpX11_189 zcf11 zp56 rfl h (fun σ7 h => ?_)
    refine zR.iconst (v := 1) dX11_goOn_43 (by decide) ?_
    exact kR.iretW dX11_goOn_44 (nzZ rfl (Or.inr rfl)) h
  · refine kR.aload_n dX11_goOn_18 1 rfl ?_
    refine zR.iconst (v := 4) dX11_goOn_19 (by decide) ?_
    obtain ⟨v10, σ8, e9, h⟩ := bnc_some h
    refine kR.cVi [.int 4] dX11_goOn_20 rfl (by decide) mwX11_252 zp56 (by decide) rfl rfl (Nat.le_of_ble_eq_true rfl) (lX11_refuses 4 σ2 _ e9) ?_
    refine kR.if_lt (tgt := 30) dX11_goOn_23 (by decide) h (fun h => ?_) (fun h => ?_)
    · refine zR.iconst (v := 0) dX11_goOn_30 (by decide) ?_
      exact kR.iretW dX11_goOn_31 (nzZ rfl (Or.inl rfl)) h
    · refine zR.iconst (v := 1) dX11_goOn_26 (by decide) ?_
      refine zR.goto (tgt := 31) dX11_goOn_27 (by decide) ?_
      exact kR.iretW dX11_goOn_31 (nzZ rfl (Or.inr rfl)) h
theorem lX11_goOn {sc : Nat × (Nat → Int32)} (σ : zS) (w : Int32 × zS) (h : fX11_goOn σ = some w) : zC (zY0 sc) 4 0 0 mX11_goOn [.ref 56] (zE σ) (some (.int w.1), zE w.2) := zC.of (by decide +kernel) (Nat.le_of_ble_eq_true rfl) ⟨_, rfl⟩ (eX11_goOn σ w h)
theorem dJ3_checkIndex_8e157_0 : decode cJ3_checkIndex_8e157 0 = .ok (.iload_n 0, 1) := by decide +kernel
theorem dJ3_checkIndex_8e157_1 : decode cJ3_checkIndex_8e157 1 = .ok (.ifCond .lt 8, 3) := by decide +kernel
theorem dJ3_checkIndex_8e157_4 : decode cJ3_checkIndex_8e157 4 = .ok (.iload_n 0, 1) := by decide +kernel
theorem dJ3_checkIndex_8e157_5 : decode cJ3_checkIndex_8e157 5 = .ok (.iload_n 1, 1) := by decide +kernel
theorem dJ3_checkIndex_8e157_6 : decode cJ3_checkIndex_8e157 6 = .ok (.if_icmp .lt 10, 3) := by decide +kernel
theorem dJ3_checkIndex_8e157_9 : decode cJ3_checkIndex_8e157 9 = .ok (.aload_n 2, 1) := by decide +kernel
theorem dJ3_checkIndex_8e157_10 : decode cJ3_checkIndex_8e157 10 = .ok (.iload_n 0, 1) := by decide +kernel
theorem dJ3_checkIndex_8e157_11 : decode cJ3_checkIndex_8e157 11 = .ok (.iload_n 1, 1) := by decide +kernel
theorem dJ3_checkIndex_8e157_12 : decode cJ3_checkIndex_8e157 12 = .ok (.invokestatic 95, 3) := by decide +kernel
theorem dJ3_checkIndex_8e157_15 : decode cJ3_checkIndex_8e157 15 = .ok (.athrow, 1) := by decide +kernel
theorem dJ3_checkIndex_8e157_16 : decode cJ3_checkIndex_8e157 16 = .ok (.iload_n 0, 1) := by decide +kernel
theorem dJ3_checkIndex_8e157_17 : decode cJ3_checkIndex_8e157 17 = .ok (.ireturn, 1) := by decide +kernel
def fJ3_checkIndex_8e157_9 (x0 : Int32) (x1 : Int32) : Option Int32 := none
theorem kJ3_checkIndex_8e157_9 {sc : Nat × (Nat → Int32)} {μ : zM} (x0 : Int32) (x1 : Int32) (w : Int32) (h : fJ3_checkIndex_8e157_9 x0 x1 = some w) : zR (zY0 sc) 1 0 0 mJ3_checkIndex_8e157 9 [(0, .int x0), (1, .int x1), (2, .ref (zFm (zY0 sc)))] [] μ (some (.int w), μ) := by
  unfold fJ3_checkIndex_8e157_9 at h
  refine kR.aload_n dJ3_checkIndex_8e157_9 2 rfl ?_
  refine kR.iload_n dJ3_checkIndex_8e157_10 0 rfl ?_
  refine kR.iload_n dJ3_checkIndex_8e157_11 1 rfl ?_
  exact nomatch h
def fJ3_checkIndex_8e157 (p0 : Int32) (p1 : Int32) : Option Int32 := if p0 < 0 then fJ3_checkIndex_8e157_9 p0 p1 else if p0 < p1 then some p0 else fJ3_checkIndex_8e157_9 p0 p1
theorem eJ3_checkIndex_8e157 {sc : Nat × (Nat → Int32)} {μ : zM} (p0 : Int32) (p1 : Int32) (w : Int32) (h : fJ3_checkIndex_8e157 p0 p1 = some w) : zR (zY0 sc) 1 0 0 mJ3_checkIndex_8e157 0 [(0, .int p0), (1, .int p1), (2, .ref (zFm (zY0 sc)))] [] μ (some (.int w), μ) := by
  unfold fJ3_checkIndex_8e157 at h
  refine kR.iload_n dJ3_checkIndex_8e157_0 0 rfl ?_
  refine kR.if_lt (tgt := 9) dJ3_checkIndex_8e157_1 (by decide) h (fun h => ?_) (fun h => ?_)
  · exact kJ3_checkIndex_8e157_9 _ _ _ h
  · refine kR.iload_n dJ3_checkIndex_8e157_4 0 rfl ?_
    refine kR.iload_n dJ3_checkIndex_8e157_5 1 rfl ?_
    refine kR.icmp_lt (tgt := 16) dJ3_checkIndex_8e157_6 (by decide) h (fun h => ?_) (fun h => ?_)
    · refine kR.iload_n dJ3_checkIndex_8e157_16 0 rfl ?_
      exact kR.iretO dJ3_checkIndex_8e157_17 (nzI rfl _) h
    · exact kJ3_checkIndex_8e157_9 _ _ _ h
theorem lJ3_checkIndex_8e157 {sc : Nat × (Nat → Int32)} {μ : zM} (p0 : Int32) (p1 : Int32) (w : Int32) (h : fJ3_checkIndex_8e157 p0 p1 = some w) : zC (zY0 sc) 1 0 0 mJ3_checkIndex_8e157 [.int p0, .int p1, .ref (zFm (zY0 sc))] μ (some (.int w), μ) := zC.of (by decide +kernel) (Nat.le_of_ble_eq_true rfl) ⟨_, rfl⟩ (eJ3_checkIndex_8e157 p0 p1 w h)
theorem dJ0_checkIndex_df160_0 : decode cJ0_checkIndex_df160 0 = .ok (.iload_n 0, 1) := by decide +kernel
theorem dJ0_checkIndex_df160_1 : decode cJ0_checkIndex_df160 1 = .ok (.iload_n 1, 1) := by decide +kernel
theorem dJ0_checkIndex_df160_2 : decode cJ0_checkIndex_df160 2 = .ok (.getstatic 1053, 3) := by decide +kernel
theorem dJ0_checkIndex_df160_5 : decode cJ0_checkIndex_df160 5 = .ok (.invokestatic 1059, 3) := by decide +kernel
theorem dJ0_checkIndex_df160_8 : decode cJ0_checkIndex_df160 8 = .ok (.pop, 1) := by decide +kernel
theorem dJ0_checkIndex_df160_9 : decode cJ0_checkIndex_df160 9 = .ok (.return_, 1) := by decide +kernel
def fJ0_checkIndex_df160 (p0 : Int32) (p1 : Int32) : Option Unit := bnr (fJ3_checkIndex_8e157 p0 p1) fun v1 => some ()
theorem eJ0_checkIndex_df160 {sc : Nat × (Nat → Int32)} {μ : zM} (p0 : Int32) (p1 : Int32) (w : Unit) (h : fJ0_checkIndex_df160 p0 p1 = some w) : zR (zY0 sc) 2 0 0 mJ0_checkIndex_df160 0 [(0, .int p0), (1, .int p1)] [] μ (none, μ) := by
  unfold fJ0_checkIndex_df160 at h
  refine kR.iload_n dJ0_checkIndex_df160_0 0 rfl ?_
  refine kR.iload_n dJ0_checkIndex_df160_1 1 rfl ?_
  refine zR.getFm dJ0_checkIndex_df160_2 (tb2 101 rfl rfl) ?_
  obtain ⟨v1, e2, h⟩ := bnr_some h
  refine kR.cSi [.int p0, .int p1, .ref (zFm (zY0 sc))] dJ0_checkIndex_df160_5 rfl (by decide) (Or.inl mwJ0_1059) rfl (Nat.le_of_ble_eq_true rfl) (lJ3_checkIndex_8e157 p0 p1 _ e2) ?_
  refine zR.pop dJ0_checkIndex_df160_8 rfl ?_
  exact kR.vretR dJ0_checkIndex_df160_9
theorem lJ0_checkIndex_df160 {sc : Nat × (Nat → Int32)} {μ : zM} (p0 : Int32) (p1 : Int32) (w : Unit) (h : fJ0_checkIndex_df160 p0 p1 = some w) : zC (zY0 sc) 2 0 0 mJ0_checkIndex_df160 [.int p0, .int p1] μ (none, μ) := zC.of (by decide +kernel) (Nat.le_of_ble_eq_true rfl) rfl (eJ0_checkIndex_df160 p0 p1 w h)
theorem dJ1_charAt_3b067_0 : decode cJ1_charAt_3b067 0 = .ok (.iload_n 1, 1) := by decide +kernel
theorem dJ1_charAt_3b067_1 : decode cJ1_charAt_3b067 1 = .ok (.aload_n 0, 1) := by decide +kernel
theorem dJ1_charAt_3b067_2 : decode cJ1_charAt_3b067 2 = .ok (.arraylength, 1) := by decide +kernel
theorem dJ1_charAt_3b067_3 : decode cJ1_charAt_3b067 3 = .ok (.invokestatic 9, 3) := by decide +kernel
theorem dJ1_charAt_3b067_6 : decode cJ1_charAt_3b067 6 = .ok (.aload_n 0, 1) := by decide +kernel
theorem dJ1_charAt_3b067_7 : decode cJ1_charAt_3b067 7 = .ok (.iload_n 1, 1) := by decide +kernel
theorem dJ1_charAt_3b067_8 : decode cJ1_charAt_3b067 8 = .ok (.baload, 1) := by decide +kernel
theorem dJ1_charAt_3b067_9 : decode cJ1_charAt_3b067 9 = .ok (.sipush 255, 3) := by decide +kernel
theorem dJ1_charAt_3b067_12 : decode cJ1_charAt_3b067 12 = .ok (.iand, 1) := by decide +kernel
theorem dJ1_charAt_3b067_13 : decode cJ1_charAt_3b067 13 = .ok (.i2c, 1) := by decide +kernel
theorem dJ1_charAt_3b067_14 : decode cJ1_charAt_3b067 14 = .ok (.ireturn, 1) := by decide +kernel
def fJ1_charAt_3b067 (i0 : Nat) (p1 : Int32) : Option Int32 := bnr (fJ0_checkIndex_df160 p1 (Int32.ofNat (zSl.getD i0 0))) fun v1 => aT i0 p1 fun v3 => some ((((v3 &&& 255) : Int32).toUInt32 % 65536).toInt32)
theorem eJ1_charAt_3b067 {sc : Nat × (Nat → Int32)} {μ : zM} (i0 : Nat) (hi0 : i0 < 2) (p1 : Int32) (w : Int32) (h : fJ1_charAt_3b067 i0 p1 = some w) : zR (zY0 sc) 3 0 0 mJ1_charAt_3b067 0 [(0, .ref (1010 + i0)), (1, .int p1)] [] μ (some (.int w), μ) := by
  unfold fJ1_charAt_3b067 at h
  refine kR.iload_n dJ1_charAt_3b067_0 1 rfl ?_
  refine kR.aload_n dJ1_charAt_3b067_1 0 rfl ?_
  refine zR.strN i0 (v := Int32.ofNat (zSl.getD i0 0)) dJ1_charAt_3b067_2 hi0 rfl ?_
  obtain ⟨v1, e2, h⟩ := bnr_some h
  refine kR.cSv [.int p1, .int (Int32.ofNat (zSl.getD i0 0))] dJ1_charAt_3b067_3 rfl (by decide) (Or.inl mwJ1_9) rfl (Nat.le_of_ble_eq_true rfl) (lJ0_checkIndex_df160 p1 (Int32.ofNat (zSl.getD i0 0)) _ e2) ?_
  refine kR.aload_n dJ1_charAt_3b067_6 0 rfl ?_
  refine kR.iload_n dJ1_charAt_3b067_7 1 rfl ?_
  refine kR.strB i0 dJ1_charAt_3b067_8 hi0 h (fun v3 h => ?_)
  refine zR.sipush (v := 255) dJ1_charAt_3b067_9 (by decide) ?_
  refine zR.iand dJ1_charAt_3b067_12 ?_
  refine zR.i2c dJ1_charAt_3b067_13 ?_
  exact kR.iretO dJ1_charAt_3b067_14 (nzC rfl (pk_nc _)) h
theorem lJ1_charAt_3b067 {sc : Nat × (Nat → Int32)} {μ : zM} (i0 : Nat) (hi0 : i0 < 2) (p1 : Int32) (w : Int32) (h : fJ1_charAt_3b067 i0 p1 = some w) : zC (zY0 sc) 3 0 0 mJ1_charAt_3b067 [.ref (1010 + i0), .int p1] μ (some (.int w), μ) := zC.of (by decide +kernel) (Nat.le_of_ble_eq_true rfl) ⟨_, rfl⟩ (eJ1_charAt_3b067 i0 hi0 p1 w h)
theorem dJ0_charAt_5068e_0 : decode cJ0_charAt_5068e 0 = .ok (.aload_n 0, 1) := by decide +kernel
theorem dJ0_charAt_5068e_1 : decode cJ0_charAt_5068e 1 = .ok (.invokevirtual 492, 3) := by decide +kernel
theorem dJ0_charAt_5068e_4 : decode cJ0_charAt_5068e 4 = .ok (.ifCond .eq 12, 3) := by decide +kernel
theorem dJ0_charAt_5068e_7 : decode cJ0_charAt_5068e 7 = .ok (.aload_n 0, 1) := by decide +kernel
theorem dJ0_charAt_5068e_8 : decode cJ0_charAt_5068e 8 = .ok (.getfield 9, 3) := by decide +kernel
theorem dJ0_charAt_5068e_11 : decode cJ0_charAt_5068e 11 = .ok (.iload_n 1, 1) := by decide +kernel
theorem dJ0_charAt_5068e_12 : decode cJ0_charAt_5068e 12 = .ok (.invokestatic 495, 3) := by decide +kernel
theorem dJ0_charAt_5068e_15 : decode cJ0_charAt_5068e 15 = .ok (.ireturn, 1) := by decide +kernel
theorem dJ0_charAt_5068e_16 : decode cJ0_charAt_5068e 16 = .ok (.aload_n 0, 1) := by decide +kernel
theorem dJ0_charAt_5068e_17 : decode cJ0_charAt_5068e 17 = .ok (.getfield 9, 3) := by decide +kernel
theorem dJ0_charAt_5068e_20 : decode cJ0_charAt_5068e 20 = .ok (.iload_n 1, 1) := by decide +kernel
theorem dJ0_charAt_5068e_21 : decode cJ0_charAt_5068e 21 = .ok (.invokestatic 498, 3) := by decide +kernel
theorem dJ0_charAt_5068e_24 : decode cJ0_charAt_5068e 24 = .ok (.ireturn, 1) := by decide +kernel
def fJ0_charAt_5068e (i0 : Nat) (p1 : Int32) : Option Int32 := if (fJ0_isLatin1_aae02 i0) = 0 then none else bnr (fJ1_charAt_3b067 i0 p1) fun v1 => gd (narrow .char (.int v1) = .int v1) (some v1)
theorem eJ0_charAt_5068e {sc : Nat × (Nat → Int32)} {μ : zM} (i0 : Nat) (hi0 : i0 < 2) (p1 : Int32) (w : Int32) (h : fJ0_charAt_5068e i0 p1 = some w) : zR (zY0 sc) 4 0 0 mJ0_charAt_5068e 0 [(0, .ref (1000 + i0)), (1, .int p1)] [] μ (some (.int w), μ) := by
  unfold fJ0_charAt_5068e at h
  refine kR.aload_n dJ0_charAt_5068e_0 0 rfl ?_
  refine kR.cTi i0 [] dJ0_charAt_5068e_1 rfl (by decide) mwJ0_492 hi0 rfl rfl (Nat.le_of_ble_eq_true rfl) (lJ0_isLatin1_aae02 i0 hi0) ?_
  refine kR.if_eq (tgt := 16) dJ0_charAt_5068e_4 (by decide) h (fun h => ?_) (fun h => ?_)
  · refine kR.aload_n dJ0_charAt_5068e_16 0 rfl ?_
    refine zR.strV i0 dJ0_charAt_5068e_17 hi0 (tb9 38 rfl rfl) ?_
    refine kR.iload_n dJ0_charAt_5068e_20 1 rfl ?_
    exact nomatch h
  · refine kR.aload_n dJ0_charAt_5068e_7 0 rfl ?_
    refine zR.strV i0 dJ0_charAt_5068e_8 hi0 (tb9 38 rfl rfl) ?_
    refine kR.iload_n dJ0_charAt_5068e_11 1 rfl ?_
    obtain ⟨v1, e2, h⟩ := bnr_some h
    refine kR.cSi [.ref (1010 + i0), .int p1] dJ0_charAt_5068e_12 rfl (by decide) (Or.inl mwJ0_495) rfl (Nat.le_of_ble_eq_true rfl) (lJ1_charAt_3b067 i0 hi0 p1 _ e2) ?_
    obtain ⟨gz, h⟩ := kR.guard h
    exact kR.iretO dJ0_charAt_5068e_15 (nzC rfl gz) h
theorem lJ0_charAt_5068e {sc : Nat × (Nat → Int32)} {μ : zM} (i0 : Nat) (hi0 : i0 < 2) (p1 : Int32) (w : Int32) (h : fJ0_charAt_5068e i0 p1 = some w) : zC (zY0 sc) 4 0 0 mJ0_charAt_5068e [.ref (1000 + i0), .int p1] μ (some (.int w), μ) := zC.of (by decide +kernel) (Nat.le_of_ble_eq_true rfl) ⟨_, rfl⟩ (eJ0_charAt_5068e i0 hi0 p1 w h)

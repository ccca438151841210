/-! MY OWN (by program): X9_addNumber, X10_refuse, X10_feed, X10_end, J7_fill_53178, X8_clear, X6_clear, X5_begin, X7_begin, X0_forget, X9_byteAt, X5_skipBlanks, X5_comesToStatement, X5_isLetter, X5_isDigit, X5_isSideBySide, J0_isLatin1_aae02, J0_coder_7d493, J0_length_8abf5, J1_canEncode_9a6ad, J9_max_7cf53, J9_min_7cf53, J1_indexOfChar_4cfef, J1_indexOf_4cfef, J0_indexOf_7cf53, J0_indexOf_0f7a4, X5_fail, X5_scanSign, X5_scanNumber, X6_find, X5_withLetter, X5_scanWord -/
theorem dX9_addNumber_0 : decode cX9_addNumber 0 = .ok (.bipush 24, 2) := by decide +kernel
theorem dX9_addNumber_2 : decode cX9_addNumber 2 = .ok (.istore_n 2, 1) := by decide +kernel
theorem dX9_addNumber_3 : decode cX9_addNumber 3 = .ok (.iload_n 2, 1) := by decide +kernel
theorem dX9_addNumber_4 : decode cX9_addNumber 4 = .ok (.ifCond .lt 44, 3) := by decide +kernel
theorem dX9_addNumber_7 : decode cX9_addNumber 7 = .ok (.aload_n 0, 1) := by decide +kernel
theorem dX9_addNumber_8 : decode cX9_addNumber 8 = .ok (.getfield 15, 3) := by decide +kernel
theorem dX9_addNumber_11 : decode cX9_addNumber 11 = .ok (.aload_n 0, 1) := by decide +kernel
theorem dX9_addNumber_12 : decode cX9_addNumber 12 = .ok (.getfield 9, 3) := by decide +kernel
theorem dX9_addNumber_15 : decode cX9_addNumber 15 = .ok (.arraylength, 1) := by decide +kernel
theorem dX9_addNumber_16 : decode cX9_addNumber 16 = .ok (.if_icmp .ge 26, 3) := by decide +kernel
theorem dX9_addNumber_19 : decode cX9_addNumber 19 = .ok (.aload_n 0, 1) := by decide +kernel
theorem dX9_addNumber_20 : decode cX9_addNumber 20 = .ok (.getfield 9, 3) := by decide +kernel
theorem dX9_addNumber_23 : decode cX9_addNumber 23 = .ok (.aload_n 0, 1) := by decide +kernel
theorem dX9_addNumber_24 : decode cX9_addNumber 24 = .ok (.getfield 15, 3) := by decide +kernel
theorem dX9_addNumber_27 : decode cX9_addNumber 27 = .ok (.iload_n 1, 1) := by decide +kernel
theorem dX9_addNumber_28 : decode cX9_addNumber 28 = .ok (.iload_n 2, 1) := by decide +kernel
theorem dX9_addNumber_29 : decode cX9_addNumber 29 = .ok (.ishr, 1) := by decide +kernel
theorem dX9_addNumber_30 : decode cX9_addNumber 30 = .ok (.i2b, 1) := by decide +kernel
theorem dX9_addNumber_31 : decode cX9_addNumber 31 = .ok (.bastore, 1) := by decide +kernel
theorem dX9_addNumber_32 : decode cX9_addNumber 32 = .ok (.aload_n 0, 1) := by decide +kernel
theorem dX9_addNumber_33 : decode cX9_addNumber 33 = .ok (.dup, 1) := by decide +kernel
theorem dX9_addNumber_34 : decode cX9_addNumber 34 = .ok (.getfield 15, 3) := by decide +kernel
theorem dX9_addNumber_37 : decode cX9_addNumber 37 = .ok (.iconst 1, 1) := by decide +kernel
theorem dX9_addNumber_38 : decode cX9_addNumber 38 = .ok (.iadd, 1) := by decide +kernel
theorem dX9_addNumber_39 : decode cX9_addNumber 39 = .ok (.putfield 15, 3) := by decide +kernel
theorem dX9_addNumber_42 : decode cX9_addNumber 42 = .ok (.iinc 2 (-8), 3) := by decide +kernel
theorem dX9_addNumber_45 : decode cX9_addNumber 45 = .ok (.goto (-42), 3) := by decide +kernel
theorem dX9_addNumber_48 : decode cX9_addNumber 48 = .ok (.return_, 1) := by decide +kernel
def fX9_addNumber_42 (r3 : Int32 → Int32 → zS → Option zS) (x1 : Int32) (x2 : Int32) (σ : zS) : Option zS := r3 x1 (x2 + (-8)) σ
theorem kX9_addNumber_42 {sc : Nat × (Nat → Int32)} (r3 : Int32 → Int32 → zS → Option zS) (hr3 : ∀ (x1 : Int32) (x2 : Int32) (σ : zS) (w : zS), r3 x1 x2 σ = some w → zR (zY0 sc) 1 0 0 mX9_addNumber 3 [(0, .ref 2), (1, .int x1), (2, .int x2)] [] (zE σ) (none, zE w)) (x1 : Int32) (x2 : Int32) (σ : zS) (w : zS) (h : fX9_addNumber_42 r3 x1 x2 σ = some w) : zR (zY0 sc) 1 0 0 mX9_addNumber 42 [(0, .ref 2), (1, .int x1), (2, .int x2)] [] (zE σ) (none, zE w) := by
  unfold fX9_addNumber_42 at h
  refine zR.iinc 2 (v := x2 + (-8)) (ls' := [(2, .int (x2 + (-8))), (0, .ref 2), (1, .int x1)]) dX9_addNumber_42 rfl rfl (by decide) rfl ?_
  refine zR.goto (tgt := 3) dX9_addNumber_45 (by decide) ?_
  refine zR.sub [1, 2, 0] rfl ?_
  exact hr3 _ _ _ _ h
def fX9_addNumber_3 : Nat → Int32 → Int32 → zS → Option zS
  | 0, _, _, _ => none
  | f + 1, x1, x2, σ => if x2 < 0 then some σ else if 1600 ≤ (iG σ 2 1) then fX9_addNumber_42 (fX9_addNumber_3 f) x1 x2 σ else wI σ 3 1600 (iG σ 2 1) (vp_nar .byte (((x1 >>> (x2 &&& 31)) : Int32).toInt8.toInt32)) fun σ1 => bnd (iS σ1 2 1 ((iG σ1 2 1) + 1)) fun σ2 => fX9_addNumber_42 (fX9_addNumber_3 f) x1 x2 σ2
theorem kX9_addNumber_3 {sc : Nat × (Nat → Int32)} : ∀ (fuel : Nat) (x1 : Int32) (x2 : Int32) (σ : zS) (w : zS) (h : fX9_addNumber_3 fuel x1 x2 σ = some w), zR (zY0 sc) 1 0 0 mX9_addNumber 3 [(0, .ref 2), (1, .int x1), (2, .int x2)] [] (zE σ) (none, zE w) := by
  intro fuel
  induction fuel with
  | zero => intro x1 x2 σ w h; exact nomatch h
  | succ f ih =>
    intro x1 x2 σ w h
    rw [fX9_addNumber_3] at h
    refine kR.iload_n dX9_addNumber_3 2 rfl ?_
    refine kR.if_lt (tgt := 48) dX9_addNumber_4 (by decide) h (fun h => ?_) (fun h => ?_)
    · exact kR.vret dX9_addNumber_48 h
    · refine kR.aload_n dX9_addNumber_7 0 rfl ?_
      refine kR.getI dX9_addNumber_8 flX9_15 zcf9 zp2 (Or.inl rfl) ?_
      refine kR.aload_n dX9_addNumber_11 0 rfl ?_
      refine kR.getR (v := 3) dX9_addNumber_12 flX9_9 zcf9 zp2 (Or.inr ⟨_, rfl⟩) rfl ?_
      refine zR.alen (v := 1600) dX9_addNumber_15 (Or.inr (Or.inr (Or.inl zp3))) rfl ?_
      refine kR.icmp_ge (tgt := 42) dX9_addNumber_16 (by decide) h (fun h => ?_) (fun h => ?_)
      · exact kX9_addNumber_42 (fX9_addNumber_3 f) ih _ _ _ _ h
      · refine kR.aload_n dX9_addNumber_19 0 rfl ?_
        refine kR.getR (v := 3) dX9_addNumber_20 flX9_9 zcf9 zp2 (Or.inr ⟨_, rfl⟩) rfl ?_
        refine kR.aload_n dX9_addNumber_23 0 rfl ?_
        refine kR.getI dX9_addNumber_24 flX9_15 zcf9 zp2 (Or.inl rfl) ?_
        refine kR.iload_n dX9_addNumber_27 1 rfl ?_
        refine kR.iload_n dX9_addNumber_28 2 rfl ?_
        refine zR.ishr dX9_addNumber_29 ?_
        refine zR.i2b dX9_addNumber_30 ?_
        refine kR.bast dX9_addNumber_31 zp3 rfl h (fun σ1 h => ?_)
        refine kR.aload_n dX9_addNumber_32 0 rfl ?_
        refine zR.dup dX9_addNumber_33 rfl ?_
        refine kR.getI dX9_addNumber_34 flX9_15 zcf9 zp2 (Or.inl rfl) ?_
        refine zR.iconst (v := 1) dX9_addNumber_37 (by decide) ?_
        refine zR.iadd dX9_addNumber_38 ?_
        refine kR.putI dX9_addNumber_39 fpX9_15 zcf9 zp2 rfl h (fun σ2 h => ?_)
        exact kX9_addNumber_42 (fX9_addNumber_3 f) ih _ _ _ _ h
def fX9_addNumber (p1 : Int32) (σ : zS) : Option zS := fX9_addNumber_3 zF p1 24 σ
theorem eX9_addNumber {sc : Nat × (Nat → Int32)} (p1 : Int32) (σ : zS) (w : zS) (h : fX9_addNumber p1 σ = some w) : zR (zY0 sc) 1 0 0 mX9_addNumber 0 [(0, .ref 2), (1, .int p1)] [] (zE σ) (none, zE w) := by
  unfold fX9_addNumber at h
  refine zR.bipush (v := 24) dX9_addNumber_0 (by decide) ?_
  refine zR.istore_n (i := 2) (ls' := [(2, .int 24), (0, .ref 2), (1, .int p1)]) dX9_addNumber_2 rfl (by decide) rfl ?_
  refine zR.sub [1, 2, 0] rfl ?_
  exact kX9_addNumber_3 zF _ _ _ _ h
theorem lX9_addNumber {sc : Nat × (Nat → Int32)} (p1 : Int32) (σ : zS) (w : zS) (h : fX9_addNumber p1 σ = some w) : zC (zY0 sc) 1 0 0 mX9_addNumber [.ref 2, .int p1] (zE σ) (none, zE w) := zC.of (by decide +kernel) (Nat.le_of_ble_eq_true rfl) rfl (eX9_addNumber p1 σ w h)
theorem dX10_refuse_0 : decode cX10_refuse 0 = .ok (.iload_n 1, 1) := by decide +kernel
theorem dX10_refuse_1 : decode cX10_refuse 1 = .ok (.ifCond .lt 22, 3) := by decide +kernel
theorem dX10_refuse_4 : decode cX10_refuse 4 = .ok (.iload_n 1, 1) := by decide +kernel
theorem dX10_refuse_5 : decode cX10_refuse 5 = .ok (.aload_n 0, 1) := by decide +kernel
theorem dX10_refuse_6 : decode cX10_refuse 6 = .ok (.getfield 65, 3) := by decide +kernel
theorem dX10_refuse_9 : decode cX10_refuse 9 = .ok (.arraylength, 1) := by decide +kernel
theorem dX10_refuse_10 : decode cX10_refuse 10 = .ok (.if_icmp .ge 13, 3) := by decide +kernel
theorem dX10_refuse_13 : decode cX10_refuse 13 = .ok (.aload_n 0, 1) := by decide +kernel
theorem dX10_refuse_14 : decode cX10_refuse 14 = .ok (.getfield 65, 3) := by decide +kernel
theorem dX10_refuse_17 : decode cX10_refuse 17 = .ok (.iload_n 1, 1) := by decide +kernel
theorem dX10_refuse_18 : decode cX10_refuse 18 = .ok (.dup2, 1) := by decide +kernel
theorem dX10_refuse_19 : decode cX10_refuse 19 = .ok (.iaload, 1) := by decide +kernel
theorem dX10_refuse_20 : decode cX10_refuse 20 = .ok (.iconst 1, 1) := by decide +kernel
theorem dX10_refuse_21 : decode cX10_refuse 21 = .ok (.iadd, 1) := by decide +kernel
theorem dX10_refuse_22 : decode cX10_refuse 22 = .ok (.iastore, 1) := by decide +kernel
theorem dX10_refuse_23 : decode cX10_refuse 23 = .ok (.iconst (-1), 1) := by decide +kernel
theorem dX10_refuse_24 : decode cX10_refuse 24 = .ok (.ireturn, 1) := by decide +kernel
def fX10_refuse (p1 : Int32) (σ : zS) : Option (Int32 × zS) := if p1 < 0 then some ((-1), σ) else if 5 ≤ p1 then some ((-1), σ) else aI σ 37 5 p1 fun v1 => wI σ 37 5 p1 (v1 + 1) fun σ2 => some ((-1), σ2)
theorem eX10_refuse {sc : Nat × (Nat → Int32)} (p1 : Int32) (σ : zS) (w : Int32 × zS) (h : fX10_refuse p1 σ = some w) : zR (zY0 sc) 1 0 0 mX10_refuse 0 [(0, .ref 1), (1, .int p1)] [] (zE σ) (some (.int w.1), zE w.2) := by
  unfold fX10_refuse at h
  refine kR.iload_n dX10_refuse_0 1 rfl ?_
  refine kR.if_lt (tgt := 23) dX10_refuse_1 (by decide) h (fun h => ?_) (fun h => ?_)
  · refine zR.iconst (v := (-1)) dX10_refuse_23 (by decide) ?_
    exact kR.iretW dX10_refuse_24 (nzI rfl _) h
  · refine kR.iload_n dX10_refuse_4 1 rfl ?_
    refine kR.aload_n dX10_refuse_5 0 rfl ?_
    refine kR.getR (v := 37) dX10_refuse_6 flX10_65 zcf10 zp1 (Or.inr ⟨_, rfl⟩) rfl ?_
    refine zR.alen (v := 5) dX10_refuse_9 (Or.inl zp37) rfl ?_
    refine kR.icmp_ge (tgt := 23) dX10_refuse_10 (by decide) h (fun h => ?_) (fun h => ?_)
    · refine zR.iconst (v := (-1)) dX10_refuse_23 (by decide) ?_
      exact kR.iretW dX10_refuse_24 (nzI rfl _) h
    · refine kR.aload_n dX10_refuse_13 0 rfl ?_
      refine kR.getR (v := 37) dX10_refuse_14 flX10_65 zcf10 zp1 (Or.inr ⟨_, rfl⟩) rfl ?_
      refine kR.iload_n dX10_refuse_17 1 rfl ?_
      refine zR.dup2 dX10_refuse_18 rfl rfl ?_
      refine kR.iald dX10_refuse_19 zp37 rfl h (fun v1 h => ?_)
      refine zR.iconst (v := 1) dX10_refuse_20 (by decide) ?_
      refine zR.iadd dX10_refuse_21 ?_
      refine kR.iast dX10_refuse_22 zp37 rfl h (fun σ2 h => ?_)
      refine zR.iconst (v := (-1)) dX10_refuse_23 (by decide) ?_
      exact kR.iretW dX10_refuse_24 (nzI rfl _) h
theorem lX10_refuse {sc : Nat × (Nat → Int32)} (p1 : Int32) (σ : zS) (w : Int32 × zS) (h : fX10_refuse p1 σ = some w) : zC (zY0 sc) 1 0 0 mX10_refuse [.ref 1, .int p1] (zE σ) (some (.int w.1), zE w.2) := zC.of (by decide +kernel) (Nat.le_of_ble_eq_true rfl) ⟨_, rfl⟩ (eX10_refuse p1 σ w h)
theorem dX10_feed_0 : decode cX10_feed 0 = .ok (.aload_n 0, 1) := by decide +kernel
theorem dX10_feed_1 : decode cX10_feed 1 = .ok (.getfield 12, 3) := by decide +kernel
theorem dX10_feed_4 : decode cX10_feed 4 = .ok (.getfield 86, 3) := by decide +kernel
theorem dX10_feed_7 : decode cX10_feed 7 = .ok (.bipush 20, 2) := by decide +kernel
theorem dX10_feed_9 : decode cX10_feed 9 = .ok (.iadd, 1) := by decide +kernel
theorem dX10_feed_10 : decode cX10_feed 10 = .ok (.sipush 1600, 3) := by decide +kernel
theorem dX10_feed_13 : decode cX10_feed 13 = .ok (.if_icmp .le 9, 3) := by decide +kernel
theorem dX10_feed_16 : decode cX10_feed 16 = .ok (.aload_n 0, 1) := by decide +kernel
theorem dX10_feed_17 : decode cX10_feed 17 = .ok (.iconst 0, 1) := by decide +kernel
theorem dX10_feed_18 : decode cX10_feed 18 = .ok (.invokevirtual 89, 3) := by decide +kernel
theorem dX10_feed_21 : decode cX10_feed 21 = .ok (.ireturn, 1) := by decide +kernel
theorem dX10_feed_22 : decode cX10_feed 22 = .ok (.aload_n 0, 1) := by decide +kernel
theorem dX10_feed_23 : decode cX10_feed 23 = .ok (.getfield 12, 3) := by decide +kernel
theorem dX10_feed_26 : decode cX10_feed 26 = .ok (.iload_n 1, 1) := by decide +kernel
theorem dX10_feed_27 : decode cX10_feed 27 = .ok (.invokevirtual 93, 3) := by decide +kernel
theorem dX10_feed_30 : decode cX10_feed 30 = .ok (.aload_n 0, 1) := by decide +kernel
theorem dX10_feed_31 : decode cX10_feed 31 = .ok (.getfield 12, 3) := by decide +kernel
theorem dX10_feed_34 : decode cX10_feed 34 = .ok (.iload_n 2, 1) := by decide +kernel
theorem dX10_feed_35 : decode cX10_feed 35 = .ok (.invokevirtual 93, 3) := by decide +kernel
theorem dX10_feed_38 : decode cX10_feed 38 = .ok (.aload_n 0, 1) := by decide +kernel
theorem dX10_feed_39 : decode cX10_feed 39 = .ok (.getfield 12, 3) := by decide +kernel
theorem dX10_feed_42 : decode cX10_feed 42 = .ok (.iload_n 3, 1) := by decide +kernel
theorem dX10_feed_43 : decode cX10_feed 43 = .ok (.invokevirtual 93, 3) := by decide +kernel
theorem dX10_feed_46 : decode cX10_feed 46 = .ok (.aload_n 0, 1) := by decide +kernel
theorem dX10_feed_47 : decode cX10_feed 47 = .ok (.getfield 12, 3) := by decide +kernel
theorem dX10_feed_50 : decode cX10_feed 50 = .ok (.iload 4, 2) := by decide +kernel
theorem dX10_feed_52 : decode cX10_feed 52 = .ok (.invokevirtual 93, 3) := by decide +kernel
theorem dX10_feed_55 : decode cX10_feed 55 = .ok (.aload_n 0, 1) := by decide +kernel
theorem dX10_feed_56 : decode cX10_feed 56 = .ok (.getfield 12, 3) := by decide +kernel
theorem dX10_feed_59 : decode cX10_feed 59 = .ok (.iload 5, 2) := by decide +kernel
theorem dX10_feed_61 : decode cX10_feed 61 = .ok (.invokevirtual 93, 3) := by decide +kernel
theorem dX10_feed_64 : decode cX10_feed 64 = .ok (.aload_n 0, 1) := by decide +kernel
theorem dX10_feed_65 : decode cX10_feed 65 = .ok (.getfield 12, 3) := by decide +kernel
theorem dX10_feed_68 : decode cX10_feed 68 = .ok (.getfield 86, 3) := by decide +kernel
theorem dX10_feed_71 : decode cX10_feed 71 = .ok (.ireturn, 1) := by decide +kernel
def fX10_feed (p1 : Int32) (p2 : Int32) (p3 : Int32) (p4 : Int32) (p5 : Int32) (σ : zS) : Option (Int32 × zS) := if ((iG σ 2 1) + 20) ≤ 1600 then bnr (fX9_addNumber p1 σ) fun σ1 => bnr (fX9_addNumber p2 σ1) fun σ3 => bnr (fX9_addNumber p3 σ3) fun σ5 => bnr (fX9_addNumber p4 σ5) fun σ7 => bnr (fX9_addNumber p5 σ7) fun σ9 => some (iG σ9 2 1, σ9) else bnc (fX10_refuse 0 σ) fun v13 σ11 => some (v13, σ11)
theorem eX10_feed {sc : Nat × (Nat → Int32)} (p1 : Int32) (p2 : Int32) (p3 : Int32) (p4 : Int32) (p5 : Int32) (σ : zS) (w : Int32 × zS) (h : fX10_feed p1 p2 p3 p4 p5 σ = some w) : zR (zY0 sc) 2 0 0 mX10_feed 0 [(0, .ref 1), (1, .int p1), (2, .int p2), (3, .int p3), (4, .int p4), (5, .int p5)] [] (zE σ) (some (.int w.1), zE w.2) := by
  unfold fX10_feed at h
  refine kR.aload_n dX10_feed_0 0 rfl ?_
  refine kR.getR (v := 2) dX10_feed_1 flX10_12 zcf10 zp1 (Or.inl ⟨_, rfl⟩) rfl ?_
  refine kR.getI dX10_feed_4 flX10_86 zcf9 zp2 (Or.inl rfl) ?_
  refine zR.bipush (v := 20) dX10_feed_7 (by decide) ?_
  refine zR.iadd dX10_feed_9 ?_
  refine zR.sipush (v := 1600) dX10_feed_10 (by decide) ?_
  refine kR.icmp_le (tgt := 22) dX10_feed_13 (by decide) h (fun h => ?_) (fun h => ?_)
  · refine kR.aload_n dX10_feed_22 0 rfl ?_
    refine kR.getR (v := 2) dX10_feed_23 flX10_12 zcf10 zp1 (Or.inl ⟨_, rfl⟩) rfl ?_
    refine kR.iload_n dX10_feed_26 1 rfl ?_
    obtain ⟨σ1, e2, h⟩ := bnr_some h
    refine kR.cVv [.int p1] dX10_feed_27 rfl (by decide) mwX10_93 zp2 (by decide) rfl rfl (Nat.le_of_ble_eq_true rfl) (lX9_addNumber p1 σ _ e2) ?_
    refine kR.aload_n dX10_feed_30 0 rfl ?_
    refine kR.getR (v := 2) dX10_feed_31 flX10_12 zcf10 zp1 (Or.inl ⟨_, rfl⟩) rfl ?_
    refine kR.iload_n dX10_feed_34 2 rfl ?_
    obtain ⟨σ3, e4, h⟩ := bnr_some h
    refine kR.cVv [.int p2] dX10_feed_35 rfl (by decide) mwX10_93 zp2 (by decide) rfl rfl (Nat.le_of_ble_eq_true rfl) (lX9_addNumber p2 σ1 _ e4) ?_
    refine kR.aload_n dX10_feed_38 0 rfl ?_
    refine kR.getR (v := 2) dX10_feed_39 flX10_12 zcf10 zp1 (Or.inl ⟨_, rfl⟩) rfl ?_
    refine kR.iload_n dX10_feed_42 3 rfl ?_
    obtain ⟨σ5, e6, h⟩ := bnr_some h
    refine kR.cVv [.int p3] dX10_feed_43 rfl (by decide) mwX10_93 zp2 (by decide) rfl rfl (Nat.le_of_ble_eq_true rfl) (lX9_addNumber p3 σ3 _ e6) ?_
    refine kR.aload_n dX10_feed_46 0 rfl ?_
    refine kR.getR (v := 2) dX10_feed_47 flX10_12 zcf10 zp1 (Or.inl ⟨_, rfl⟩) rfl ?_
    refine kR.iload dX10_feed_50 4 rfl ?_
    obtain ⟨σ7, e8, h⟩ := bnr_some h
    refine kR.cVv [.int p4] dX10_feed_52 rfl (by decide) mwX10_93 zp2 (by decide) rfl rfl (Nat.le_of_ble_eq_true rfl) (lX9_addNumber p4 σ5 _ e8) ?_
    refine kR.aload_n dX10_feed_55 0 rfl ?_
    refine kR.getR (v := 2) dX10_feed_56 flX10_12 zcf10 zp1 (Or.inl ⟨_, rfl⟩) rfl ?_
    refine kR.iload dX10_feed_59 5 rfl ?_
    obtain ⟨σ9, e10, h⟩ := bnr_some h
    refine kR.cVv [.int p5] dX10_feed_61 rfl (by decide) mwX10_93 zp2 (by decide) rfl rfl (Nat.le_of_ble_eq_true rfl) (lX9_addNumber p5 σ7 _ e10) ?_
    refine kR.aload_n dX10_feed_64 0 rfl ?_
    refine kR.getR (v := 2) dX10_feed_65 flX10_12 zcf10 zp1 (Or.inl ⟨_, rfl⟩) rfl ?_
    refine kR.getI dX10_feed_68 flX10_86 zcf9 zp2 (Or.inl rfl) ?_
    exact kR.iretW dX10_feed_71 (nzI rfl _) h
  · refine kR.aload_n dX10_feed_16 0 rfl ?_
    refine zR.iconst (v := 0) dX10_feed_17 (by decide) ?_
    obtain ⟨v13, σ11, e12, h⟩ := bnc_some h
    refine kR.cVi [.int 0] dX10_feed_18 rfl (by decide) mwX10_89 zp1 (by decide) rfl rfl (Nat.le_of_ble_eq_true rfl) (lX10_refuse 0 σ _ e12) ?_
    exact kR.iretW dX10_feed_21 (nzI rfl _) h
theorem lX10_feed {sc : Nat × (Nat → Int32)} (p1 : Int32) (p2 : Int32) (p3 : Int32) (p4 : Int32) (p5 : Int32) (σ : zS) (w : Int32 × zS) (h : fX10_feed p1 p2 p3 p4 p5 σ = some w) : zC (zY0 sc) 2 0 0 mX10_feed [.ref 1, .int p1, .int p2, .int p3, .int p4, .int p5] (zE σ) (some (.int w.1), zE w.2) := zC.of (by decide +kernel) (Nat.le_of_ble_eq_true rfl) ⟨_, rfl⟩ (eX10_feed p1 p2 p3 p4 p5 σ w h)
theorem dX10_end_0 : decode cX10_end 0 = .ok (.iload_n 1, 1) := by decide +kernel
theorem dX10_end_1 : decode cX10_end 1 = .ok (.ifCond .lt 14, 3) := by decide +kernel
theorem dX10_end_4 : decode cX10_end 4 = .ok (.iload_n 1, 1) := by decide +kernel
theorem dX10_end_5 : decode cX10_end 5 = .ok (.aload_n 0, 1) := by decide +kernel
theorem dX10_end_6 : decode cX10_end 6 = .ok (.getfield 12, 3) := by decide +kernel
theorem dX10_end_9 : decode cX10_end 9 = .ok (.getfield 86, 3) := by decide +kernel
theorem dX10_end_12 : decode cX10_end 12 = .ok (.if_icmp .le 11, 3) := by decide +kernel
theorem dX10_end_15 : decode cX10_end 15 = .ok (.aload_n 0, 1) := by decide +kernel
theorem dX10_end_16 : decode cX10_end 16 = .ok (.iconst 0, 1) := by decide +kernel
theorem dX10_end_17 : decode cX10_end 17 = .ok (.invokevirtual 89, 3) := by decide +kernel
theorem dX10_end_20 : decode cX10_end 20 = .ok (.pop, 1) := by decide +kernel
theorem dX10_end_21 : decode cX10_end 21 = .ok (.iconst 0, 1) := by decide +kernel
theorem dX10_end_22 : decode cX10_end 22 = .ok (.ireturn, 1) := by decide +kernel
theorem dX10_end_23 : decode cX10_end 23 = .ok (.aload_n 0, 1) := by decide +kernel
theorem dX10_end_24 : decode cX10_end 24 = .ok (.getfield 12, 3) := by decide +kernel
theorem dX10_end_27 : decode cX10_end 27 = .ok (.iload_n 1, 1) := by decide +kernel
theorem dX10_end_28 : decode cX10_end 28 = .ok (.putfield 86, 3) := by decide +kernel
theorem dX10_end_31 : decode cX10_end 31 = .ok (.iconst 1, 1) := by decide +kernel
theorem dX10_end_32 : decode cX10_end 32 = .ok (.ireturn, 1) := by decide +kernel
def fX10_end_15 (σ : zS) : Option (Int32 × zS) := bnc (fX10_refuse 0 σ) fun v3 σ1 => some (0, σ1)
theorem kX10_end_15 {sc : Nat × (Nat → Int32)} (σ : zS) (w : Int32 × zS) (h : fX10_end_15 σ = some w) : zR (zY0 sc) 2 0 0 mX10_end 15 [(0, .ref 1)] [] (zE σ) (some (.int w.1), zE w.2) := by
  unfold fX10_end_15 at h
  refine kR.aload_n dX10_end_15 0 rfl ?_
  refine zR.iconst (v := 0) dX10_end_16 (by decide) ?_
  obtain ⟨v3, σ1, e2, h⟩ := bnc_some h
  refine kR.cVi [.int 0] dX10_end_17 rfl (by decide) mwX10_89 zp1 (by decide) rfl rfl (Nat.le_of_ble_eq_true rfl) (lX10_refuse 0 σ _ e2) ?_
  refine zR.pop dX10_end_20 rfl ?_
  refine zR.iconst (v := 0) dX10_end_21 (by decide) ?_
  exact kR.iretW dX10_end_22 (nzZ rfl (Or.inl rfl)) h
def fX10_end (p1 : Int32) (σ : zS) : Option (Int32 × zS) := if p1 < 0 then fX10_end_15 σ else if p1 ≤ (iG σ 2 1) then bnd (iS σ 2 1 p1) fun σ4 => some (1, σ4) else fX10_end_15 σ
theorem eX10_end {sc : Nat × (Nat → Int32)} (p1 : Int32) (σ : zS) (w : Int32 × zS) (h : fX10_end p1 σ = some w) : zR (zY0 sc) 2 0 0 mX10_end 0 [(0, .ref 1), (1, .int p1)] [] (zE σ) (some (.int w.1), zE w.2) := by
  unfold fX10_end at h
  refine kR.iload_n dX10_end_0 1 rfl ?_
  refine kR.if_lt (tgt := 15) dX10_end_1 (by decide) h (fun h => ?_) (fun h => ?_)
  · refine zR.sub [0] rfl ?_
    exact kX10_end_15 _ _ h
  · refine kR.iload_n dX10_end_4 1 rfl ?_
    refine kR.aload_n dX10_end_5 0 rfl ?_
    refine kR.getR (v := 2) dX10_end_6 flX10_12 zcf10 zp1 (Or.inl ⟨_, rfl⟩) rfl ?_
    refine kR.getI dX10_end_9 flX10_86 zcf9 zp2 (Or.inl rfl) ?_
    refine kR.icmp_le (tgt := 23) dX10_end_12 (by decide) h (fun h => ?_) (fun h => ?_)
    · refine kR.aload_n dX10_end_23 0 rfl ?_
      refine kR.getR (v := 2) dX10_end_24 flX10_12 zcf10 zp1 (Or.inl ⟨_, rfl⟩) rfl ?_
      refine kR.iload_n dX10_end_27 1 rfl ?_
      refine kR.putI dX10_end_28 fpX10_86 zcf9 zp2 rfl h (fun σ4 h => ?_)
      refine zR.iconst (v := 1) dX10_end_31 (by decide) ?_
      exact kR.iretW dX10_end_32 (nzZ rfl (Or.inr rfl)) h
    · refine zR.sub [0] rfl ?_
      exact kX10_end_15 _ _ h
theorem lX10_end {sc : Nat × (Nat → Int32)} (p1 : Int32) (σ : zS) (w : Int32 × zS) (h : fX10_end p1 σ = some w) : zC (zY0 sc) 2 0 0 mX10_end [.ref 1, .int p1] (zE σ) (some (.int w.1), zE w.2) := zC.of (by decide +kernel) (Nat.le_of_ble_eq_true rfl) ⟨_, rfl⟩ (eX10_end p1 σ w h)
theorem dJ7_fill_53178_0 : decode cJ7_fill_53178 0 = .ok (.iconst 0, 1) := by decide +kernel
theorem dJ7_fill_53178_1 : decode cJ7_fill_53178 1 = .ok (.istore_n 2, 1) := by decide +kernel
theorem dJ7_fill_53178_2 : decode cJ7_fill_53178 2 = .ok (.aload_n 0, 1) := by decide +kernel
theorem dJ7_fill_53178_3 : decode cJ7_fill_53178 3 = .ok (.arraylength, 1) := by decide +kernel
theorem dJ7_fill_53178_4 : decode cJ7_fill_53178 4 = .ok (.istore_n 3, 1) := by decide +kernel
theorem dJ7_fill_53178_5 : decode cJ7_fill_53178 5 = .ok (.iload_n 2, 1) := by decide +kernel
theorem dJ7_fill_53178_6 : decode cJ7_fill_53178 6 = .ok (.iload_n 3, 1) := by decide +kernel
theorem dJ7_fill_53178_7 : decode cJ7_fill_53178 7 = .ok (.if_icmp .ge 13, 3) := by decide +kernel
theorem dJ7_fill_53178_10 : decode cJ7_fill_53178 10 = .ok (.aload_n 0, 1) := by decide +kernel
theorem dJ7_fill_53178_11 : decode cJ7_fill_53178 11 = .ok (.iload_n 2, 1) := by decide +kernel
theorem dJ7_fill_53178_12 : decode cJ7_fill_53178 12 = .ok (.iload_n 1, 1) := by decide +kernel
theorem dJ7_fill_53178_13 : decode cJ7_fill_53178 13 = .ok (.iastore, 1) := by decide +kernel
theorem dJ7_fill_53178_14 : decode cJ7_fill_53178 14 = .ok (.iinc 2 1, 3) := by decide +kernel
theorem dJ7_fill_53178_17 : decode cJ7_fill_53178 17 = .ok (.goto (-12), 3) := by decide +kernel
theorem dJ7_fill_53178_20 : decode cJ7_fill_53178 20 = .ok (.return_, 1) := by decide +kernel
def fJ7_fill_53178_5 (a0 : Nat) (n0 : Nat) : Nat → Int32 → Int32 → Int32 → zS → Option zS
  | 0, _, _, _, _ => none
  | f + 1, x1, x2, x3, σ => if x3 ≤ x2 then some σ else wI σ a0 n0 x2 x1 fun σ1 => fJ7_fill_53178_5 a0 n0 f x1 (x2 + 1) x3 σ1
theorem kJ7_fill_53178_5 {sc : Nat × (Nat → Int32)} (a0 : Nat) (n0 : Nat) (ha0 : ∀ σ, zAt (zY0 sc) (zE σ) a0 20) (hna0 : (zY0 sc).2.1 a0 = n0) (hma0 : n0 ≤ 2147483647) : ∀ (fuel : Nat) (x1 : Int32) (x2 : Int32) (x3 : Int32) (σ : zS) (w : zS) (h : fJ7_fill_53178_5 a0 n0 fuel x1 x2 x3 σ = some w), zR (zY0 sc) 1 0 0 mJ7_fill_53178 5 [(0, .ref a0), (1, .int x1), (2, .int x2), (3, .int x3)] [] (zE σ) (none, zE w) := by
  intro fuel
  induction fuel with
  | zero => intro x1 x2 x3 σ w h; exact nomatch h
  | succ f ih =>
    intro x1 x2 x3 σ w h
    rw [fJ7_fill_53178_5] at h
    refine kR.iload_n dJ7_fill_53178_5 2 rfl ?_
    refine kR.iload_n dJ7_fill_53178_6 3 rfl ?_
    refine kR.icmp_ge (tgt := 20) dJ7_fill_53178_7 (by decide) h (fun h => ?_) (fun h => ?_)
    · exact kR.vret dJ7_fill_53178_20 h
    · refine kR.aload_n dJ7_fill_53178_10 0 rfl ?_
      refine kR.iload_n dJ7_fill_53178_11 2 rfl ?_
      refine kR.iload_n dJ7_fill_53178_12 1 rfl ?_
      refine kR.iast dJ7_fill_53178_13 (ha0 _) hna0 h (fun σ1 h => ?_)
      refine zR.iinc 2 (v := x2 + 1) (ls' := [(2, .int (x2 + 1)), (0, .ref a0), (1, .int x1), (3, .int x3)]) dJ7_fill_53178_14 rfl rfl (by decide) rfl ?_
      refine zR.goto (tgt := 5) dJ7_fill_53178_17 (by decide) ?_
      refine zR.sub [1, 2, 0, 3] rfl ?_
      exact ih _ _ _ _ _ h
def fJ7_fill_53178 (a0 : Nat) (n0 : Nat) (p1 : Int32) (σ : zS) : Option zS := fJ7_fill_53178_5 a0 n0 zF p1 0 (Int32.ofNat n0) σ
theorem eJ7_fill_53178 {sc : Nat × (Nat → Int32)} (a0 : Nat) (n0 : Nat) (ha0 : ∀ σ, zAt (zY0 sc) (zE σ) a0 20) (hna0 : (zY0 sc).2.1 a0 = n0) (hma0 : n0 ≤ 2147483647) (p1 : Int32) (σ : zS) (w : zS) (h : fJ7_fill_53178 a0 n0 p1 σ = some w) : zR (zY0 sc) 1 0 0 mJ7_fill_53178 0 [(0, .ref a0), (1, .int p1)] [] (zE σ) (none, zE w) := by
  unfold fJ7_fill_53178 at h
  refine zR.iconst (v := 0) dJ7_fill_53178_0 (by decide) ?_
  refine zR.istore_n (i := 2) (ls' := [(2, .int 0), (0, .ref a0), (1, .int p1)]) dJ7_fill_53178_1 rfl (by decide) rfl ?_
  refine kR.aload_n dJ7_fill_53178_2 1 rfl ?_
  refine zR.alen (v := Int32.ofNat n0) dJ7_fill_53178_3 (Or.inl (ha0 _)) (by rw [hna0]) ?_
  refine zR.istore_n (i := 3) (ls' := [(3, .int (Int32.ofNat n0)), (2, .int 0), (0, .ref a0), (1, .int p1)]) dJ7_fill_53178_4 rfl (by decide) rfl ?_
  refine zR.sub [2, 3, 1, 0] rfl ?_
  exact kJ7_fill_53178_5 a0 n0 ha0 hna0 hma0 zF _ _ _ _ _ h
theorem lJ7_fill_53178 {sc : Nat × (Nat → Int32)} (a0 : Nat) (n0 : Nat) (ha0 : ∀ σ, zAt (zY0 sc) (zE σ) a0 20) (hna0 : (zY0 sc).2.1 a0 = n0) (hma0 : n0 ≤ 2147483647) (p1 : Int32) (σ : zS) (w : zS) (h : fJ7_fill_53178 a0 n0 p1 σ = some w) : zC (zY0 sc) 1 0 0 mJ7_fill_53178 [.ref a0, .int p1] (zE σ) (none, zE w) := zC.of (by decide +kernel) (Nat.le_of_ble_eq_true rfl) rfl (eJ7_fill_53178 a0 n0 ha0 hna0 hma0 p1 σ w h)
theorem dX8_clear_0 : decode cX8_clear 0 = .ok (.aload_n 0, 1) := by decide +kernel
theorem dX8_clear_1 : decode cX8_clear 1 = .ok (.iconst 0, 1) := by decide +kernel
theorem dX8_clear_2 : decode cX8_clear 2 = .ok (.putfield 22, 3) := by decide +kernel
theorem dX8_clear_5 : decode cX8_clear 5 = .ok (.aload_n 0, 1) := by decide +kernel
theorem dX8_clear_6 : decode cX8_clear 6 = .ok (.getfield 25, 3) := by decide +kernel
theorem dX8_clear_9 : decode cX8_clear 9 = .ok (.iconst 0, 1) := by decide +kernel
theorem dX8_clear_10 : decode cX8_clear 10 = .ok (.invokestatic 31, 3) := by decide +kernel
theorem dX8_clear_13 : decode cX8_clear 13 = .ok (.aload_n 0, 1) := by decide +kernel
theorem dX8_clear_14 : decode cX8_clear 14 = .ok (.getfield 28, 3) := by decide +kernel
theorem dX8_clear_17 : decode cX8_clear 17 = .ok (.iconst 0, 1) := by decide +kernel
theorem dX8_clear_18 : decode cX8_clear 18 = .ok (.invokestatic 31, 3) := by decide +kernel
theorem dX8_clear_21 : decode cX8_clear 21 = .ok (.return_, 1) := by decide +kernel
def fX8_clear (b0 : Bool) (σ : zS) : Option zS := bnd (iS σ (rp b0 + 11) 3 0) fun σ1 => bnr (fJ7_fill_53178 (rp b0 + 14) 2 0 σ1) fun σ2 => bnr (fJ7_fill_53178 (rp b0 + 15) 2 0 σ2) fun σ4 => some σ4
theorem eX8_clear {sc : Nat × (Nat → Int32)} (b0 : Bool) (σ : zS) (w : zS) (h : fX8_clear b0 σ = some w) : zR (zY0 sc) 2 0 0 mX8_clear 0 [(0, .ref (rp b0 + 11))] [] (zE σ) (none, zE w) := by
  unfold fX8_clear at h
  refine kR.aload_n dX8_clear_0 0 rfl ?_
  refine zR.iconst (v := 0) dX8_clear_1 (by decide) ?_
  refine kR.putI dX8_clear_2 fpX8_22 zcf8 (zq11 b0) rfl h (fun σ1 h => ?_)
  refine kR.aload_n dX8_clear_5 0 rfl ?_
  refine kR.getR (v := (rp b0 + 14)) dX8_clear_6 flX8_25 zcf8 (zq11 b0) (Or.inr ⟨_, rfl⟩) (zr11_4 _ b0) ?_
  refine zR.iconst (v := 0) dX8_clear_9 (by decide) ?_
  obtain ⟨σ2, e3, h⟩ := bnr_some h
  refine kR.cSv [.ref (rp b0 + 14), .int 0] dX8_clear_10 rfl (by decide) (Or.inl mwX8_31) rfl (Nat.le_of_ble_eq_true rfl) (lJ7_fill_53178 (rp b0 + 14) 2 (fun _ => (zq14 b0)) (zl14 b0) (Nat.le_of_ble_eq_true rfl) 0 σ1 _ e3) ?_
  refine kR.aload_n dX8_clear_13 0 rfl ?_
  refine kR.getR (v := (rp b0 + 15)) dX8_clear_14 flX8_28 zcf8 (zq11 b0) (Or.inr ⟨_, rfl⟩) (zr11_5 _ b0) ?_
  refine zR.iconst (v := 0) dX8_clear_17 (by decide) ?_
  obtain ⟨σ4, e5, h⟩ := bnr_some h
  refine kR.cSv [.ref (rp b0 + 15), .int 0] dX8_clear_18 rfl (by decide) (Or.inl mwX8_31) rfl (Nat.le_of_ble_eq_true rfl) (lJ7_fill_53178 (rp b0 + 15) 2 (fun _ => (zq15 b0)) (zl15 b0) (Nat.le_of_ble_eq_true rfl) 0 σ2 _ e5) ?_
  exact kR.vret dX8_clear_21 h
theorem lX8_clear {sc : Nat × (Nat → Int32)} (b0 : Bool) (σ : zS) (w : zS) (h : fX8_clear b0 σ = some w) : zC (zY0 sc) 2 0 0 mX8_clear [.ref (rp b0 + 11)] (zE σ) (none, zE w) := zC.of (by decide +kernel) (Nat.le_of_ble_eq_true rfl) rfl (eX8_clear b0 σ w h)
theorem dX6_clear_0 : decode cX6_clear 0 = .ok (.aload_n 0, 1) := by decide +kernel
theorem dX6_clear_1 : decode cX6_clear 1 = .ok (.iconst 0, 1) := by decide +kernel
theorem dX6_clear_2 : decode cX6_clear 2 = .ok (.putfield 9, 3) := by decide +kernel
theorem dX6_clear_5 : decode cX6_clear 5 = .ok (.aload_n 0, 1) := by decide +kernel
theorem dX6_clear_6 : decode cX6_clear 6 = .ok (.iconst 0, 1) := by decide +kernel
theorem dX6_clear_7 : decode cX6_clear 7 = .ok (.putfield 15, 3) := by decide +kernel
theorem dX6_clear_10 : decode cX6_clear 10 = .ok (.aload_n 0, 1) := by decide +kernel
theorem dX6_clear_11 : decode cX6_clear 11 = .ok (.iconst 0, 1) := by decide +kernel
theorem dX6_clear_12 : decode cX6_clear 12 = .ok (.putfield 18, 3) := by decide +kernel
theorem dX6_clear_15 : decode cX6_clear 15 = .ok (.aload_n 0, 1) := by decide +kernel
theorem dX6_clear_16 : decode cX6_clear 16 = .ok (.iconst 0, 1) := by decide +kernel
theorem dX6_clear_17 : decode cX6_clear 17 = .ok (.putfield 21, 3) := by decide +kernel
theorem dX6_clear_20 : decode cX6_clear 20 = .ok (.aload_n 0, 1) := by decide +kernel
theorem dX6_clear_21 : decode cX6_clear 21 = .ok (.iconst 0, 1) := by decide +kernel
theorem dX6_clear_22 : decode cX6_clear 22 = .ok (.putfield 24, 3) := by decide +kernel
theorem dX6_clear_25 : decode cX6_clear 25 = .ok (.aload_n 0, 1) := by decide +kernel
theorem dX6_clear_26 : decode cX6_clear 26 = .ok (.getfield 34, 3) := by decide +kernel
theorem dX6_clear_29 : decode cX6_clear 29 = .ok (.iconst 0, 1) := by decide +kernel
theorem dX6_clear_30 : decode cX6_clear 30 = .ok (.invokestatic 65, 3) := by decide +kernel
theorem dX6_clear_33 : decode cX6_clear 33 = .ok (.aload_n 0, 1) := by decide +kernel
theorem dX6_clear_34 : decode cX6_clear 34 = .ok (.getfield 52, 3) := by decide +kernel
theorem dX6_clear_37 : decode cX6_clear 37 = .ok (.bipush 60, 2) := by decide +kernel
theorem dX6_clear_39 : decode cX6_clear 39 = .ok (.invokestatic 65, 3) := by decide +kernel
theorem dX6_clear_42 : decode cX6_clear 42 = .ok (.aload_n 0, 1) := by decide +kernel
theorem dX6_clear_43 : decode cX6_clear 43 = .ok (.getfield 55, 3) := by decide +kernel
theorem dX6_clear_46 : decode cX6_clear 46 = .ok (.iconst 0, 1) := by decide +kernel
theorem dX6_clear_47 : decode cX6_clear 47 = .ok (.invokestatic 65, 3) := by decide +kernel
theorem dX6_clear_50 : decode cX6_clear 50 = .ok (.aload_n 0, 1) := by decide +kernel
theorem dX6_clear_51 : decode cX6_clear 51 = .ok (.getfield 61, 3) := by decide +kernel
theorem dX6_clear_54 : decode cX6_clear 54 = .ok (.invokevirtual 71, 3) := by decide +kernel
theorem dX6_clear_57 : decode cX6_clear 57 = .ok (.return_, 1) := by decide +kernel
def fX6_clear (b0 : Bool) (σ : zS) : Option zS := bnd (iS σ (rp b0 + 0) 0 0) fun σ1 => bnd (iS σ1 (rp b0 + 0) 1 0) fun σ2 => bnd (iS σ2 (rp b0 + 0) 2 0) fun σ3 => bnd (iS σ3 (rp b0 + 0) 3 0) fun σ4 => bnd (iS σ4 (rp b0 + 0) 4 0) fun σ5 => bnr (fJ7_fill_53178 (rp b0 + 3) 6 0 σ5) fun σ6 => bnr (fJ7_fill_53178 (rp b0 + 9) 6 60 σ6) fun σ8 => bnr (fJ7_fill_53178 (rp b0 + 10) 36 0 σ8) fun σ10 => bnr (fX8_clear b0 σ10) fun σ12 => some σ12
theorem eX6_clear {sc : Nat × (Nat → Int32)} (b0 : Bool) (σ : zS) (w : zS) (h : fX6_clear b0 σ = some w) : zR (zY0 sc) 3 0 0 mX6_clear 0 [(0, .ref (rp b0 + 0))] [] (zE σ) (none, zE w) := by
  unfold fX6_clear at h
  refine kR.aload_n dX6_clear_0 0 rfl ?_
  refine zR.iconst (v := 0) dX6_clear_1 (by decide) ?_
  refine kR.putI dX6_clear_2 fpX6_9 zcf6 (zq0 b0) rfl h (fun σ1 h => ?_)
  refine kR.aload_n dX6_clear_5 0 rfl ?_
  refine zR.iconst (v := 0) dX6_clear_6 (by decide) ?_
  refine kR.putI dX6_clear_7 fpX6_15 zcf6 (zq0 b0) rfl h (fun σ2 h => ?_)
  refine kR.aload_n dX6_clear_10 0 rfl ?_
  refine zR.iconst (v := 0) dX6_clear_11 (by decide) ?_
  refine kR.putI dX6_clear_12 fpX6_18 zcf6 (zq0 b0) rfl h (fun σ3 h => ?_)
  refine kR.aload_n dX6_clear_15 0 rfl ?_
  refine zR.iconst (v := 0) dX6_clear_16 (by decide) ?_
  refine kR.putI dX6_clear_17 fpX6_21 zcf6 (zq0 b0) rfl h (fun σ4 h => ?_)
  refine kR.aload_n dX6_clear_20 0 rfl ?_
  refine zR.iconst (v := 0) dX6_clear_21 (by decide) ?_
  refine kR.putI dX6_clear_22 fpX6_24 zcf6 (zq0 b0) rfl h (fun σ5 h => ?_)
  refine kR.aload_n dX6_clear_25 0 rfl ?_
  refine kR.getR (v := (rp b0 + 3)) dX6_clear_26 flX6_34 zcf6 (zq0 b0) (Or.inr ⟨_, rfl⟩) (zr0_7 _ b0) ?_
  refine zR.iconst (v := 0) dX6_clear_29 (by decide) ?_
  obtain ⟨σ6, e7, h⟩ := bnr_some h
  refine kR.cSv [.ref (rp b0 + 3), .int 0] dX6_clear_30 rfl (by decide) (Or.inl mwX6_65) rfl (Nat.le_of_ble_eq_true rfl) (lJ7_fill_53178 (rp b0 + 3) 6 (fun _ => (zq3 b0)) (zl3 b0) (Nat.le_of_ble_eq_true rfl) 0 σ5 _ e7) ?_
  refine kR.aload_n dX6_clear_33 0 rfl ?_
  refine kR.getR (v := (rp b0 + 9)) dX6_clear_34 flX6_52 zcf6 (zq0 b0) (Or.inr ⟨_, rfl⟩) (zr0_13 _ b0) ?_
  refine zR.bipush (v := 60) dX6_clear_37 (by decide) ?_
  obtain ⟨σ8, e9, h⟩ := bnr_some h
  refine kR.cSv [.ref (rp b0 + 9), .int 60] dX6_clear_39 rfl (by decide) (Or.inl mwX6_65) rfl (Nat.le_of_ble_eq_true rfl) (lJ7_fill_53178 (rp b0 + 9) 6 (fun _ => (zq9 b0)) (zl9 b0) (Nat.le_of_ble_eq_true rfl) 60 σ6 _ e9) ?_
  refine kR.aload_n dX6_clear_42 0 rfl ?_
  refine kR.getR (v := (rp b0 + 10)) dX6_clear_43 flX6_55 zcf6 (zq0 b0) (Or.inr ⟨_, rfl⟩) (zr0_14 _ b0) ?_
  refine zR.iconst (v := 0) dX6_clear_46 (by decide) ?_
  obtain ⟨σ10, e11, h⟩ := bnr_some h
  refine kR.cSv [.ref (rp b0 + 10), .int 0] dX6_clear_47 rfl (by decide) (Or.inl mwX6_65) rfl (Nat.le_of_ble_eq_true rfl) (lJ7_fill_53178 (rp b0 + 10) 36 (fun _ => (zq10 b0)) (zl10 b0) (Nat.le_of_ble_eq_true rfl) 0 σ8 _ e11) ?_
  refine kR.aload_n dX6_clear_50 0 rfl ?_
  refine kR.getR (v := (rp b0 + 11)) dX6_clear_51 flX6_61 zcf6 (zq0 b0) (Or.inl ⟨_, rfl⟩) (zr0_15 _ b0) ?_
  obtain ⟨σ12, e13, h⟩ := bnr_some h
  refine kR.cVv [] dX6_clear_54 rfl (by decide) mwX6_71 (zq11 b0) (by decide) rfl rfl (Nat.le_of_ble_eq_true rfl) (lX8_clear b0 σ10 _ e13) ?_
  exact kR.vret dX6_clear_57 h
theorem lX6_clear {sc : Nat × (Nat → Int32)} (b0 : Bool) (σ : zS) (w : zS) (h : fX6_clear b0 σ = some w) : zC (zY0 sc) 3 0 0 mX6_clear [.ref (rp b0 + 0)] (zE σ) (none, zE w) := zC.of (by decide +kernel) (Nat.le_of_ble_eq_true rfl) rfl (eX6_clear b0 σ w h)
theorem dX5_begin_0 : decode cX5_begin 0 = .ok (.aload_n 0, 1) := by decide +kernel
theorem dX5_begin_1 : decode cX5_begin 1 = .ok (.aload_n 1, 1) := by decide +kernel
theorem dX5_begin_2 : decode cX5_begin 2 = .ok (.putfield 44, 3) := by decide +kernel
theorem dX5_begin_5 : decode cX5_begin 5 = .ok (.aload_n 0, 1) := by decide +kernel
theorem dX5_begin_6 : decode cX5_begin 6 = .ok (.getfield 44, 3) := by decide +kernel
theorem dX5_begin_9 : decode cX5_begin 9 = .ok (.invokevirtual 64, 3) := by decide +kernel
theorem dX5_begin_12 : decode cX5_begin 12 = .ok (.aload_n 0, 1) := by decide +kernel
theorem dX5_begin_13 : decode cX5_begin 13 = .ok (.iconst 0, 1) := by decide +kernel
theorem dX5_begin_14 : decode cX5_begin 14 = .ok (.putfield 15, 3) := by decide +kernel
theorem dX5_begin_17 : decode cX5_begin 17 = .ok (.aload_n 0, 1) := by decide +kernel
theorem dX5_begin_18 : decode cX5_begin 18 = .ok (.iconst 0, 1) := by decide +kernel
theorem dX5_begin_19 : decode cX5_begin 19 = .ok (.putfield 34, 3) := by decide +kernel
theorem dX5_begin_22 : decode cX5_begin 22 = .ok (.aload_n 0, 1) := by decide +kernel
theorem dX5_begin_23 : decode cX5_begin 23 = .ok (.iconst (-1), 1) := by decide +kernel
theorem dX5_begin_24 : decode cX5_begin 24 = .ok (.putfield 37, 3) := by decide +kernel
theorem dX5_begin_27 : decode cX5_begin 27 = .ok (.return_, 1) := by decide +kernel
def fX5_begin (b1 : Bool) (σ : zS) : Option zS := bnd (qS σ (σ.2.2.1, σ.2.2.2.1, b1)) fun σ1 => bnr (fX6_clear σ1.2.2.2.2 σ1) fun σ2 => bnd (iS σ2 54 3 0) fun σ4 => bnd (iS σ4 54 9 0) fun σ5 => bnd (iS σ5 54 10 ((-1))) fun σ6 => some σ6
theorem eX5_begin {sc : Nat × (Nat → Int32)} (b1 : Bool) (σ : zS) (w : zS) (h : fX5_begin b1 σ = some w) : zR (zY0 sc) 4 0 0 mX5_begin 0 [(0, .ref 54), (1, .ref (rp b1 + 0))] [] (zE σ) (none, zE w) := by
  unfold fX5_begin at h
  refine kR.aload_n dX5_begin_0 0 rfl ?_
  refine kR.aload_n dX5_begin_1 1 rfl ?_
  refine kR.putQ (t := (σ.2.2.1, σ.2.2.2.1, b1)) dX5_begin_2 fpX5_44 zcf5 zp54 (Or.inl ⟨_, rfl⟩) (zq_set _ _ _ _ _ rfl (by show _ < 103; decide) (by show _ < 11; decide)) h (fun σ1 h => ?_)
  refine kR.aload_n dX5_begin_5 0 rfl ?_
  refine kR.getR (v := (rp σ1.2.2.2.2 + 0)) dX5_begin_6 flX5_44 zcf5 zp54 (Or.inl ⟨_, rfl⟩) rfl ?_
  obtain ⟨σ2, e3, h⟩ := bnr_some h
  refine kR.cVv [] dX5_begin_9 rfl (by decide) mwX5_64 (zq0 σ1.2.2.2.2) (by decide) rfl rfl (Nat.le_of_ble_eq_true rfl) (lX6_clear σ1.2.2.2.2 σ1 _ e3) ?_
  refine kR.aload_n dX5_begin_12 0 rfl ?_
  refine zR.iconst (v := 0) dX5_begin_13 (by decide) ?_
  refine kR.putI dX5_begin_14 fpX5_15 zcf5 zp54 rfl h (fun σ4 h => ?_)
  refine kR.aload_n dX5_begin_17 0 rfl ?_
  refine zR.iconst (v := 0) dX5_begin_18 (by decide) ?_
  refine kR.putI dX5_begin_19 fpX5_34 zcf5 zp54 rfl h (fun σ5 h => ?_)
  refine kR.aload_n dX5_begin_22 0 rfl ?_
  refine zR.iconst (v := (-1)) dX5_begin_23 (by decide) ?_
  refine kR.putI dX5_begin_24 fpX5_37 zcf5 zp54 rfl h (fun σ6 h => ?_)
  exact kR.vret dX5_begin_27 h
theorem lX5_begin {sc : Nat × (Nat → Int32)} (b1 : Bool) (σ : zS) (w : zS) (h : fX5_begin b1 σ = some w) : zC (zY0 sc) 4 0 0 mX5_begin [.ref 54, .ref (rp b1 + 0)] (zE σ) (none, zE w) := zC.of (by decide +kernel) (Nat.le_of_ble_eq_true rfl) rfl (eX5_begin b1 σ w h)
theorem dX7_begin_0 : decode cX7_begin 0 = .ok (.aload_n 0, 1) := by decide +kernel
theorem dX7_begin_1 : decode cX7_begin 1 = .ok (.getfield 11, 3) := by decide +kernel
theorem dX7_begin_4 : decode cX7_begin 4 = .ok (.iconst 0, 1) := by decide +kernel
theorem dX7_begin_5 : decode cX7_begin 5 = .ok (.iconst 0, 1) := by decide +kernel
theorem dX7_begin_6 : decode cX7_begin 6 = .ok (.iastore, 1) := by decide +kernel
theorem dX7_begin_7 : decode cX7_begin 7 = .ok (.aload_n 0, 1) := by decide +kernel
theorem dX7_begin_8 : decode cX7_begin 8 = .ok (.getfield 11, 3) := by decide +kernel
theorem dX7_begin_11 : decode cX7_begin 11 = .ok (.iconst 1, 1) := by decide +kernel
theorem dX7_begin_12 : decode cX7_begin 12 = .ok (.iconst 0, 1) := by decide +kernel
theorem dX7_begin_13 : decode cX7_begin 13 = .ok (.iastore, 1) := by decide +kernel
theorem dX7_begin_14 : decode cX7_begin 14 = .ok (.iconst 0, 1) := by decide +kernel
theorem dX7_begin_15 : decode cX7_begin 15 = .ok (.istore_n 2, 1) := by decide +kernel
theorem dX7_begin_16 : decode cX7_begin 16 = .ok (.iload_n 2, 1) := by decide +kernel
theorem dX7_begin_17 : decode cX7_begin 17 = .ok (.bipush 6, 2) := by decide +kernel
theorem dX7_begin_19 : decode cX7_begin 19 = .ok (.if_icmp .ge 49, 3) := by decide +kernel
theorem dX7_begin_22 : decode cX7_begin 22 = .ok (.aload_n 0, 1) := by decide +kernel
theorem dX7_begin_23 : decode cX7_begin 23 = .ok (.getfield 11, 3) := by decide +kernel
theorem dX7_begin_26 : decode cX7_begin 26 = .ok (.bipush 50, 2) := by decide +kernel
theorem dX7_begin_28 : decode cX7_begin 28 = .ok (.iload_n 2, 1) := by decide +kernel
theorem dX7_begin_29 : decode cX7_begin 29 = .ok (.iadd, 1) := by decide +kernel
theorem dX7_begin_30 : decode cX7_begin 30 = .ok (.aload_n 1, 1) := by decide +kernel
theorem dX7_begin_31 : decode cX7_begin 31 = .ok (.getfield 15, 3) := by decide +kernel
theorem dX7_begin_34 : decode cX7_begin 34 = .ok (.iload_n 2, 1) := by decide +kernel
theorem dX7_begin_35 : decode cX7_begin 35 = .ok (.iaload, 1) := by decide +kernel
theorem dX7_begin_36 : decode cX7_begin 36 = .ok (.iastore, 1) := by decide +kernel
theorem dX7_begin_37 : decode cX7_begin 37 = .ok (.aload_n 0, 1) := by decide +kernel
theorem dX7_begin_38 : decode cX7_begin 38 = .ok (.getfield 11, 3) := by decide +kernel
theorem dX7_begin_41 : decode cX7_begin 41 = .ok (.bipush 56, 2) := by decide +kernel
theorem dX7_begin_43 : decode cX7_begin 43 = .ok (.iload_n 2, 1) := by decide +kernel
theorem dX7_begin_44 : decode cX7_begin 44 = .ok (.iadd, 1) := by decide +kernel
theorem dX7_begin_45 : decode cX7_begin 45 = .ok (.aload_n 1, 1) := by decide +kernel
theorem dX7_begin_46 : decode cX7_begin 46 = .ok (.getfield 20, 3) := by decide +kernel
theorem dX7_begin_49 : decode cX7_begin 49 = .ok (.iload_n 2, 1) := by decide +kernel
theorem dX7_begin_50 : decode cX7_begin 50 = .ok (.iaload, 1) := by decide +kernel
theorem dX7_begin_51 : decode cX7_begin 51 = .ok (.iastore, 1) := by decide +kernel
theorem dX7_begin_52 : decode cX7_begin 52 = .ok (.aload_n 0, 1) := by decide +kernel
theorem dX7_begin_53 : decode cX7_begin 53 = .ok (.getfield 11, 3) := by decide +kernel
theorem dX7_begin_56 : decode cX7_begin 56 = .ok (.bipush 62, 2) := by decide +kernel
theorem dX7_begin_58 : decode cX7_begin 58 = .ok (.iload_n 2, 1) := by decide +kernel
theorem dX7_begin_59 : decode cX7_begin 59 = .ok (.iadd, 1) := by decide +kernel
theorem dX7_begin_60 : decode cX7_begin 60 = .ok (.iconst 0, 1) := by decide +kernel
theorem dX7_begin_61 : decode cX7_begin 61 = .ok (.iastore, 1) := by decide +kernel
theorem dX7_begin_62 : decode cX7_begin 62 = .ok (.iinc 2 1, 3) := by decide +kernel
theorem dX7_begin_65 : decode cX7_begin 65 = .ok (.goto (-49), 3) := by decide +kernel
theorem dX7_begin_68 : decode cX7_begin 68 = .ok (.aload_n 1, 1) := by decide +kernel
theorem dX7_begin_69 : decode cX7_begin 69 = .ok (.getfield 23, 3) := by decide +kernel
theorem dX7_begin_72 : decode cX7_begin 72 = .ok (.iconst 0, 1) := by decide +kernel
theorem dX7_begin_73 : decode cX7_begin 73 = .ok (.aload_n 0, 1) := by decide +kernel
theorem dX7_begin_74 : decode cX7_begin 74 = .ok (.getfield 11, 3) := by decide +kernel
theorem dX7_begin_77 : decode cX7_begin 77 = .ok (.bipush 68, 2) := by decide +kernel
theorem dX7_begin_79 : decode cX7_begin 79 = .ok (.bipush 36, 2) := by decide +kernel
theorem dX7_begin_81 : decode cX7_begin 81 = .ok (.invokestatic 26, 3) := by decide +kernel
theorem dX7_begin_84 : decode cX7_begin 84 = .ok (.return_, 1) := by decide +kernel
def fX7_begin_16 (b1 : Bool) : Nat → Int32 → zS → Option zS
  | 0, _, _ => none
  | f + 1, x2, σ => if 6 ≤ x2 then wC σ (rp b1 + 10) 5 36 104 0 68 36 fun σ3 => some σ3 else aI σ (rp b1 + 7) 6 x2 fun v4 => wI σ 5 104 (50 + x2) v4 fun σ5 => aI σ5 (rp b1 + 9) 6 x2 fun v6 => wI σ5 5 104 (56 + x2) v6 fun σ7 => wI σ7 5 104 (62 + x2) 0 fun σ8 => fX7_begin_16 b1 f (x2 + 1) σ8
theorem kX7_begin_16 {sc : Nat × (Nat → Int32)} (b1 : Bool) : ∀ (fuel : Nat) (x2 : Int32) (σ : zS) (w : zS) (h : fX7_begin_16 b1 fuel x2 σ = some w), zR (zY0 sc) 1 0 0 mX7_begin 16 [(0, .ref 4), (1, .ref (rp b1 + 0)), (2, .int x2)] [] (zE σ) (none, zE w) := by
  intro fuel
  induction fuel with
  | zero => intro x2 σ w h; exact nomatch h
  | succ f ih =>
    intro x2 σ w h
    rw [fX7_begin_16] at h
    refine kR.iload_n dX7_begin_16 2 rfl ?_
    refine zR.bipush (v := 6) dX7_begin_17 (by decide) ?_
    refine kR.icmp_ge (tgt := 68) dX7_begin_19 (by decide) h (fun h => ?_) (fun h => ?_)
    · refine kR.aload_n dX7_begin_68 1 rfl ?_
      refine kR.getR (v := (rp b1 + 10)) dX7_begin_69 flX7_23 zcf6 (zq0 b1) (Or.inr ⟨_, rfl⟩) (zr0_14 _ b1) ?_
      refine zR.iconst (v := 0) dX7_begin_72 (by decide) ?_
      refine kR.aload_n dX7_begin_73 0 rfl ?_
      refine kR.getR (v := 5) dX7_begin_74 flX7_11 zcf7 zp4 (Or.inr ⟨_, rfl⟩) rfl ?_
      refine zR.bipush (v := 68) dX7_begin_77 (by decide) ?_
      refine zR.bipush (v := 36) dX7_begin_79 (by decide) ?_
      refine kR.copy dX7_begin_81 (by decide) mcX7_26 (zq10 b1) zp5 (zl10 b1) rfl (Nat.le_of_ble_eq_true rfl) h (fun σ3 h => ?_)
      exact kR.vret dX7_begin_84 h
    · refine kR.aload_n dX7_begin_22 0 rfl ?_
      refine kR.getR (v := 5) dX7_begin_23 flX7_11 zcf7 zp4 (Or.inr ⟨_, rfl⟩) rfl ?_
      refine zR.bipush (v := 50) dX7_begin_26 (by decide) ?_
      refine kR.iload_n dX7_begin_28 2 rfl ?_
      refine zR.iadd dX7_begin_29 ?_
      refine kR.aload_n dX7_begin_30 1 rfl ?_
      refine kR.getR (v := (rp b1 + 7)) dX7_begin_31 flX7_15 zcf6 (zq0 b1) (Or.inr ⟨_, rfl⟩) (zr0_11 _ b1) ?_
      refine kR.iload_n dX7_begin_34 2 rfl ?_
      refine kR.iald dX7_begin_35 (zq7 b1) (zl7 b1) h (fun v4 h => ?_)
      refine kR.iast dX7_begin_36 zp5 rfl h (fun σ5 h => ?_)
      refine kR.aload_n dX7_begin_37 0 rfl ?_
      refine kR.getR (v := 5) dX7_begin_38 flX7_11 zcf7 zp4 (Or.inr ⟨_, rfl⟩) rfl ?_
      refine zR.bipush (v := 56) dX7_begin_41 (by decide) ?_
      refine kR.iload_n dX7_begin_43 2 rfl ?_
      refine zR.iadd dX7_begin_44 ?_
      refine kR.aload_n dX7_begin_45 1 rfl ?_
      refine kR.getR (v := (rp b1 + 9)) dX7_begin_46 flX7_20 zcf6 (zq0 b1) (Or.inr ⟨_, rfl⟩) (zr0_13 _ b1) ?_
      refine kR.iload_n dX7_begin_49 2 rfl ?_
      refine kR.iald dX7_begin_50 (zq9 b1) (zl9 b1) h (fun v6 h => ?_)
      refine kR.iast dX7_begin_51 zp5 rfl h (fun σ7 h => ?_)
      refine kR.aload_n dX7_begin_52 0 rfl ?_
      refine kR.getR (v := 5) dX7_begin_53 flX7_11 zcf7 zp4 (Or.inr ⟨_, rfl⟩) rfl ?_
      refine zR.bipush (v := 62) dX7_begin_56 (by decide) ?_
      refine kR.iload_n dX7_begin_58 2 rfl ?_
      refine zR.iadd dX7_begin_59 ?_
      refine zR.iconst (v := 0) dX7_begin_60 (by decide) ?_
      refine kR.iast dX7_begin_61 zp5 rfl h (fun σ8 h => ?_)
      refine zR.iinc 2 (v := x2 + 1) (ls' := [(2, .int (x2 + 1)), (0, .ref 4), (1, .ref (rp b1 + 0))]) dX7_begin_62 rfl rfl (by decide) rfl ?_
      refine zR.goto (tgt := 16) dX7_begin_65 (by decide) ?_
      refine zR.sub [1, 2, 0] rfl ?_
      exact ih _ _ _ h
def fX7_begin (b1 : Bool) (σ : zS) : Option zS := wI σ 5 104 0 0 fun σ1 => wI σ1 5 104 1 0 fun σ2 => fX7_begin_16 b1 zF 0 σ2
theorem eX7_begin {sc : Nat × (Nat → Int32)} (b1 : Bool) (σ : zS) (w : zS) (h : fX7_begin b1 σ = some w) : zR (zY0 sc) 1 0 0 mX7_begin 0 [(0, .ref 4), (1, .ref (rp b1 + 0))] [] (zE σ) (none, zE w) := by
  unfold fX7_begin at h
  refine kR.aload_n dX7_begin_0 0 rfl ?_
  refine kR.getR (v := 5) dX7_begin_1 flX7_11 zcf7 zp4 (Or.inr ⟨_, rfl⟩) rfl ?_
  refine zR.iconst (v := 0) dX7_begin_4 (by decide) ?_
  refine zR.iconst (v := 0) dX7_begin_5 (by decide) ?_
  refine kR.iast dX7_begin_6 zp5 rfl h (fun σ1 h => ?_)
  refine kR.aload_n dX7_begin_7 0 rfl ?_
  refine kR.getR (v := 5) dX7_begin_8 flX7_11 zcf7 zp4 (Or.inr ⟨_, rfl⟩) rfl ?_
  refine zR.iconst (v := 1) dX7_begin_11 (by decide) ?_
  refine zR.iconst (v := 0) dX7_begin_12 (by decide) ?_
  refine kR.iast dX7_begin_13 zp5 rfl h (fun σ2 h => ?_)
  refine zR.iconst (v := 0) dX7_begin_14 (by decide) ?_
  refine zR.istore_n (i := 2) (ls' := [(2, .int 0), (0, .ref 4), (1, .ref (rp b1 + 0))]) dX7_begin_15 rfl (by decide) rfl ?_
  refine zR.sub [1, 2, 0] rfl ?_
  exact kX7_begin_16 b1 zF _ _ _ h
theorem lX7_begin {sc : Nat × (Nat → Int32)} (b1 : Bool) (σ : zS) (w : zS) (h : fX7_begin b1 σ = some w) : zC (zY0 sc) 1 0 0 mX7_begin [.ref 4, .ref (rp b1 + 0)] (zE σ) (none, zE w) := zC.of (by decide +kernel) (Nat.le_of_ble_eq_true rfl) rfl (eX7_begin b1 σ w h)
theorem dX0_forget_0 : decode cX0_forget 0 = .ok (.aload_n 0, 1) := by decide +kernel
theorem dX0_forget_1 : decode cX0_forget 1 = .ok (.iconst (-1), 1) := by decide +kernel
theorem dX0_forget_2 : decode cX0_forget 2 = .ok (.putfield 21, 3) := by decide +kernel
theorem dX0_forget_5 : decode cX0_forget 5 = .ok (.aload_n 0, 1) := by decide +kernel
theorem dX0_forget_6 : decode cX0_forget 6 = .ok (.iconst (-1), 1) := by decide +kernel
theorem dX0_forget_7 : decode cX0_forget 7 = .ok (.putfield 41, 3) := by decide +kernel
theorem dX0_forget_10 : decode cX0_forget 10 = .ok (.return_, 1) := by decide +kernel
def fX0_forget (σ : zS) : Option zS := bnd (iS σ 27 4 ((-1))) fun σ1 => bnd (iS σ1 27 10 ((-1))) fun σ2 => some σ2
theorem eX0_forget {sc : Nat × (Nat → Int32)} (σ : zS) (w : zS) (h : fX0_forget σ = some w) : zR (zY0 sc) 1 0 0 mX0_forget 0 [(0, .ref 27)] [] (zE σ) (none, zE w) := by
  unfold fX0_forget at h
  refine kR.aload_n dX0_forget_0 0 rfl ?_
  refine zR.iconst (v := (-1)) dX0_forget_1 (by decide) ?_
  refine kR.putI dX0_forget_2 fpX0_21 zcf0 zp27 rfl h (fun σ1 h => ?_)
  refine kR.aload_n dX0_forget_5 0 rfl ?_
  refine zR.iconst (v := (-1)) dX0_forget_6 (by decide) ?_
  refine kR.putI dX0_forget_7 fpX0_41 zcf0 zp27 rfl h (fun σ2 h => ?_)
  exact kR.vret dX0_forget_10 h
theorem lX0_forget {sc : Nat × (Nat → Int32)} (σ : zS) (w : zS) (h : fX0_forget σ = some w) : zC (zY0 sc) 1 0 0 mX0_forget [.ref 27] (zE σ) (none, zE w) := zC.of (by decide +kernel) (Nat.le_of_ble_eq_true rfl) rfl (eX0_forget σ w h)
theorem dX9_byteAt_0 : decode cX9_byteAt 0 = .ok (.iload_n 1, 1) := by decide +kernel
theorem dX9_byteAt_1 : decode cX9_byteAt 1 = .ok (.ifCond .lt 24, 3) := by decide +kernel
theorem dX9_byteAt_4 : decode cX9_byteAt 4 = .ok (.iload_n 1, 1) := by decide +kernel
theorem dX9_byteAt_5 : decode cX9_byteAt 5 = .ok (.aload_n 0, 1) := by decide +kernel
theorem dX9_byteAt_6 : decode cX9_byteAt 6 = .ok (.getfield 15, 3) := by decide +kernel
theorem dX9_byteAt_9 : decode cX9_byteAt 9 = .ok (.if_icmp .ge 16, 3) := by decide +kernel
theorem dX9_byteAt_12 : decode cX9_byteAt 12 = .ok (.aload_n 0, 1) := by decide +kernel
theorem dX9_byteAt_13 : decode cX9_byteAt 13 = .ok (.getfield 9, 3) := by decide +kernel
theorem dX9_byteAt_16 : decode cX9_byteAt 16 = .ok (.iload_n 1, 1) := by decide +kernel
theorem dX9_byteAt_17 : decode cX9_byteAt 17 = .ok (.baload, 1) := by decide +kernel
theorem dX9_byteAt_18 : decode cX9_byteAt 18 = .ok (.sipush 255, 3) := by decide +kernel
theorem dX9_byteAt_21 : decode cX9_byteAt 21 = .ok (.iand, 1) := by decide +kernel
theorem dX9_byteAt_22 : decode cX9_byteAt 22 = .ok (.goto 4, 3) := by decide +kernel
theorem dX9_byteAt_25 : decode cX9_byteAt 25 = .ok (.iconst 0, 1) := by decide +kernel
theorem dX9_byteAt_26 : decode cX9_byteAt 26 = .ok (.ireturn, 1) := by decide +kernel
def fX9_byteAt (σ : zS) (p1 : Int32) : Option Int32 := if p1 < 0 then some 0 else if (iG σ 2 1) ≤ p1 then some 0 else aI σ 3 1600 p1 fun v1 => some (v1 &&& 255)
theorem eX9_byteAt {sc : Nat × (Nat → Int32)} (σ : zS) (p1 : Int32) (w : Int32) (h : fX9_byteAt σ p1 = some w) : zR (zY0 sc) 1 0 0 mX9_byteAt 0 [(0, .ref 2), (1, .int p1)] [] (zE σ) (some (.int w), zE σ) := by
  unfold fX9_byteAt at h
  refine kR.iload_n dX9_byteAt_0 1 rfl ?_
  refine kR.if_lt (tgt := 25) dX9_byteAt_1 (by decide) h (fun h => ?_) (fun h => ?_)
  · refine zR.iconst (v := 0) dX9_byteAt_25 (by decide) ?_
    exact kR.iretO dX9_byteAt_26 (nzI rfl _) h
  · refine kR.iload_n dX9_byteAt_4 1 rfl ?_
    refine kR.aload_n dX9_byteAt_5 0 rfl ?_
    refine kR.getI dX9_byteAt_6 flX9_15 zcf9 zp2 (Or.inl rfl) ?_
    refine kR.icmp_ge (tgt := 25) dX9_byteAt_9 (by decide) h (fun h => ?_) (fun h => ?_)
    · refine zR.iconst (v := 0) dX9_byteAt_25 (by decide) ?_
      exact kR.iretO dX9_byteAt_26 (nzI rfl _) h
    · refine kR.aload_n dX9_byteAt_12 0 rfl ?_
      refine kR.getR (v := 3) dX9_byteAt_13 flX9_9 zcf9 zp2 (Or.inr ⟨_, rfl⟩) rfl ?_
      refine kR.iload_n dX9_byteAt_16 1 rfl ?_
      refine kR.bald dX9_byteAt_17 zp3 rfl h (fun v1 h => ?_)
      refine zR.sipush (v := 255) dX9_byteAt_18 (by decide) ?_
      refine zR.iand dX9_byteAt_21 ?_
      refine zR.goto (tgt := 26) dX9_byteAt_22 (by decide) ?_
      exact kR.iretO dX9_byteAt_26 (nzI rfl _) h
theorem lX9_byteAt {sc : Nat × (Nat → Int32)} (σ : zS) (p1 : Int32) (w : Int32) (h : fX9_byteAt σ p1 = some w) : zC (zY0 sc) 1 0 0 mX9_byteAt [.ref 2, .int p1] (zE σ) (some (.int w), zE σ) := zC.of (by decide +kernel) (Nat.le_of_ble_eq_true rfl) ⟨_, rfl⟩ (eX9_byteAt σ p1 w h)
theorem dX5_skipBlanks_0 : decode cX5_skipBlanks 0 = .ok (.aload_n 0, 1) := by decide +kernel
theorem dX5_skipBlanks_1 : decode cX5_skipBlanks 1 = .ok (.getfield 15, 3) := by decide +kernel
theorem dX5_skipBlanks_4 : decode cX5_skipBlanks 4 = .ok (.aload_n 0, 1) := by decide +kernel
theorem dX5_skipBlanks_5 : decode cX5_skipBlanks 5 = .ok (.getfield 40, 3) := by decide +kernel
theorem dX5_skipBlanks_8 : decode cX5_skipBlanks 8 = .ok (.getfield 80, 3) := by decide +kernel
theorem dX5_skipBlanks_11 : decode cX5_skipBlanks 11 = .ok (.if_icmp .ge 48, 3) := by decide +kernel
theorem dX5_skipBlanks_14 : decode cX5_skipBlanks 14 = .ok (.aload_n 0, 1) := by decide +kernel
theorem dX5_skipBlanks_15 : decode cX5_skipBlanks 15 = .ok (.getfield 40, 3) := by decide +kernel
theorem dX5_skipBlanks_18 : decode cX5_skipBlanks 18 = .ok (.aload_n 0, 1) := by decide +kernel
theorem dX5_skipBlanks_19 : decode cX5_skipBlanks 19 = .ok (.getfield 15, 3) := by decide +kernel
theorem dX5_skipBlanks_22 : decode cX5_skipBlanks 22 = .ok (.invokevirtual 85, 3) := by decide +kernel
theorem dX5_skipBlanks_25 : decode cX5_skipBlanks 25 = .ok (.bipush 10, 2) := by decide +kernel
theorem dX5_skipBlanks_27 : decode cX5_skipBlanks 27 = .ok (.if_icmp .eq 19, 3) := by decide +kernel
theorem dX5_skipBlanks_30 : decode cX5_skipBlanks 30 = .ok (.aload_n 0, 1) := by decide +kernel
theorem dX5_skipBlanks_31 : decode cX5_skipBlanks 31 = .ok (.getfield 40, 3) := by decide +kernel
theorem dX5_skipBlanks_34 : decode cX5_skipBlanks 34 = .ok (.aload_n 0, 1) := by decide +kernel
theorem dX5_skipBlanks_35 : decode cX5_skipBlanks 35 = .ok (.getfield 15, 3) := by decide +kernel
theorem dX5_skipBlanks_38 : decode cX5_skipBlanks 38 = .ok (.invokevirtual 85, 3) := by decide +kernel
theorem dX5_skipBlanks_41 : decode cX5_skipBlanks 41 = .ok (.bipush 32, 2) := by decide +kernel
theorem dX5_skipBlanks_43 : decode cX5_skipBlanks 43 = .ok (.if_icmp .ne 16, 3) := by decide +kernel
theorem dX5_skipBlanks_46 : decode cX5_skipBlanks 46 = .ok (.aload_n 0, 1) := by decide +kernel
theorem dX5_skipBlanks_47 : decode cX5_skipBlanks 47 = .ok (.dup, 1) := by decide +kernel
theorem dX5_skipBlanks_48 : decode cX5_skipBlanks 48 = .ok (.getfield 15, 3) := by decide +kernel
theorem dX5_skipBlanks_51 : decode cX5_skipBlanks 51 = .ok (.iconst 1, 1) := by decide +kernel
theorem dX5_skipBlanks_52 : decode cX5_skipBlanks 52 = .ok (.iadd, 1) := by decide +kernel
theorem dX5_skipBlanks_53 : decode cX5_skipBlanks 53 = .ok (.putfield 15, 3) := by decide +kernel
theorem dX5_skipBlanks_56 : decode cX5_skipBlanks 56 = .ok (.goto (-56), 3) := by decide +kernel
theorem dX5_skipBlanks_59 : decode cX5_skipBlanks 59 = .ok (.return_, 1) := by decide +kernel
def fX5_skipBlanks_46 (r0 : zS → Option zS) (σ : zS) : Option zS := bnd (iS σ 54 3 ((iG σ 54 3) + 1)) fun σ3 => r0 σ3
theorem kX5_skipBlanks_46 {sc : Nat × (Nat → Int32)} (r0 : zS → Option zS) (hr0 : ∀ (σ : zS) (w : zS), r0 σ = some w → zR (zY0 sc) 2 0 0 mX5_skipBlanks 0 [(0, .ref 54)] [] (zE σ) (none, zE w)) (σ : zS) (w : zS) (h : fX5_skipBlanks_46 r0 σ = some w) : zR (zY0 sc) 2 0 0 mX5_skipBlanks 46 [(0, .ref 54)] [] (zE σ) (none, zE w) := by
  unfold fX5_skipBlanks_46 at h
  refine kR.aload_n dX5_skipBlanks_46 0 rfl ?_
  refine zR.dup dX5_skipBlanks_47 rfl ?_
  refine kR.getI dX5_skipBlanks_48 flX5_15 zcf5 zp54 (Or.inl rfl) ?_
  refine zR.iconst (v := 1) dX5_skipBlanks_51 (by decide) ?_
  refine zR.iadd dX5_skipBlanks_52 ?_
  refine kR.putI dX5_skipBlanks_53 fpX5_15 zcf5 zp54 rfl h (fun σ3 h => ?_)
  refine zR.goto (tgt := 0) dX5_skipBlanks_56 (by decide) ?_
  exact hr0 _ _ h
def fX5_skipBlanks_0 : Nat → zS → Option zS
  | 0, _ => none
  | f + 1, σ => if (iG σ 2 1) ≤ (iG σ 54 3) then some σ else bnr (fX9_byteAt σ (iG σ 54 3)) fun v1 => if v1 = 10 then fX5_skipBlanks_46 (fX5_skipBlanks_0 f) σ else bnr (fX9_byteAt σ (iG σ 54 3)) fun v4 => if v4 = 32 then fX5_skipBlanks_46 (fX5_skipBlanks_0 f) σ else some σ
theorem kX5_skipBlanks_0 {sc : Nat × (Nat → Int32)} : ∀ (fuel : Nat) (σ : zS) (w : zS) (h : fX5_skipBlanks_0 fuel σ = some w), zR (zY0 sc) 2 0 0 mX5_skipBlanks 0 [(0, .ref 54)] [] (zE σ) (none, zE w) := by
  intro fuel
  induction fuel with
  | zero => intro σ w h; exact nomatch h
  | succ f ih =>
    intro σ w h
    rw [fX5_skipBlanks_0] at h
    refine kR.aload_n dX5_skipBlanks_0 0 rfl ?_
    refine kR.getI dX5_skipBlanks_1 flX5_15 zcf5 zp54 (Or.inl rfl) ?_
    refine kR.aload_n dX5_skipBlanks_4 0 rfl ?_
    refine kR.getR (v := 2) dX5_skipBlanks_5 flX5_40 zcf5 zp54 (Or.inl ⟨_, rfl⟩) rfl ?_
    refine kR.getI dX5_skipBlanks_8 flX5_80 zcf9 zp2 (Or.inl rfl) ?_
    refine kR.icmp_ge (tgt := 59) dX5_skipBlanks_11 (by decide) h (fun h => ?_) (fun h => ?_)
    · exact kR.vret dX5_skipBlanks_59 h
    · refine kR.aload_n dX5_skipBlanks_14 0 rfl ?_
      refine kR.getR (v := 2) dX5_skipBlanks_15 flX5_40 zcf5 zp54 (Or.inl ⟨_, rfl⟩) rfl ?_
      refine kR.aload_n dX5_skipBlanks_18 0 rfl ?_
      refine kR.getI dX5_skipBlanks_19 flX5_15 zcf5 zp54 (Or.inl rfl) ?_
      obtain ⟨v1, e2, h⟩ := bnr_some h
      refine kR.cVi [.int (iG σ 54 3)] dX5_skipBlanks_22 rfl (by decide) mwX5_85 zp2 (by decide) rfl rfl (Nat.le_of_ble_eq_true rfl) (lX9_byteAt σ (iG σ 54 3) _ e2) ?_
      refine zR.bipush (v := 10) dX5_skipBlanks_25 (by decide) ?_
      refine kR.icmp_eq (tgt := 46) dX5_skipBlanks_27 (by decide) h (fun h => ?_) (fun h => ?_)
      · exact kX5_skipBlanks_46 (fX5_skipBlanks_0 f) ih _ _ h
      · refine kR.aload_n dX5_skipBlanks_30 0 rfl ?_
        refine kR.getR (v := 2) dX5_skipBlanks_31 flX5_40 zcf5 zp54 (Or.inl ⟨_, rfl⟩) rfl ?_
        refine kR.aload_n dX5_skipBlanks_34 0 rfl ?_
        refine kR.getI dX5_skipBlanks_35 flX5_15 zcf5 zp54 (Or.inl rfl) ?_
        obtain ⟨v4, e5, h⟩ := bnr_some h
        refine kR.cVi [.int (iG σ 54 3)] dX5_skipBlanks_38 rfl (by decide) mwX5_85 zp2 (by decide) rfl rfl (Nat.le_of_ble_eq_true rfl) (lX9_byteAt σ (iG σ 54 3) _ e5) ?_
        refine zR.bipush (v := 32) dX5_skipBlanks_41 (by decide) ?_
        refine kR.icmp_ne (tgt := 59) dX5_skipBlanks_43 (by decide) h (fun h => ?_) (fun h => ?_)
        · exact kR.vret dX5_skipBlanks_59 h
        · exact kX5_skipBlanks_46 (fX5_skipBlanks_0 f) ih _ _ h
def fX5_skipBlanks (σ : zS) : Option zS := fX5_skipBlanks_0 zF σ
theorem eX5_skipBlanks {sc : Nat × (Nat → Int32)} (σ : zS) (w : zS) (h : fX5_skipBlanks σ = some w) : zR (zY0 sc) 2 0 0 mX5_skipBlanks 0 [(0, .ref 54)] [] (zE σ) (none, zE w) := by
  unfold fX5_skipBlanks at h
  exact kX5_skipBlanks_0 zF _ _ h
theorem lX5_skipBlanks {sc : Nat × (Nat → Int32)} (σ : zS) (w : zS) (h : fX5_skipBlanks σ = some w) : zC (zY0 sc) 2 0 0 mX5_skipBlanks [.ref 54] (zE σ) (none, zE w) := zC.of (by decide +kernel) (Nat.le_of_ble_eq_true rfl) rfl (eX5_skipBlanks σ w h)
theorem dX5_comesToStatement_0 : decode cX5_comesToStatement 0 = .ok (.aload_n 0, 1) := by decide +kernel
theorem dX5_comesToStatement_1 : decode cX5_comesToStatement 1 = .ok (.invokevirtual 77, 3) := by decide +kernel
theorem dX5_comesToStatement_4 : decode cX5_comesToStatement 4 = .ok (.aload_n 0, 1) := by decide +kernel
theorem dX5_comesToStatement_5 : decode cX5_comesToStatement 5 = .ok (.getfield 34, 3) := by decide +kernel
theorem dX5_comesToStatement_8 : decode cX5_comesToStatement 8 = .ok (.ifCond .ne 21, 3) := by decide +kernel
theorem dX5_comesToStatement_11 : decode cX5_comesToStatement 11 = .ok (.aload_n 0, 1) := by decide +kernel
theorem dX5_comesToStatement_12 : decode cX5_comesToStatement 12 = .ok (.getfield 15, 3) := by decide +kernel
theorem dX5_comesToStatement_15 : decode cX5_comesToStatement 15 = .ok (.aload_n 0, 1) := by decide +kernel
theorem dX5_comesToStatement_16 : decode cX5_comesToStatement 16 = .ok (.getfield 40, 3) := by decide +kernel
theorem dX5_comesToStatement_19 : decode cX5_comesToStatement 19 = .ok (.getfield 80, 3) := by decide +kernel
theorem dX5_comesToStatement_22 : decode cX5_comesToStatement 22 = .ok (.if_icmp .ge 7, 3) := by decide +kernel
theorem dX5_comesToStatement_25 : decode cX5_comesToStatement 25 = .ok (.iconst 1, 1) := by decide +kernel
theorem dX5_comesToStatement_26 : decode cX5_comesToStatement 26 = .ok (.goto 4, 3) := by decide +kernel
theorem dX5_comesToStatement_29 : decode cX5_comesToStatement 29 = .ok (.iconst 0, 1) := by decide +kernel
theorem dX5_comesToStatement_30 : decode cX5_comesToStatement 30 = .ok (.ireturn, 1) := by decide +kernel
def fX5_comesToStatement (σ : zS) : Option (Int32 × zS) := bnr (fX5_skipBlanks σ) fun σ1 => if (iG σ1 54 9) = 0 then if (iG σ1 2 1) ≤ (iG σ1 54 3) then some (0, σ1) else some (1, σ1) else some (0, σ1)
theorem eX5_comesToStatement {sc : Nat × (Nat → Int32)} (σ : zS) (w : Int32 × zS) (h : fX5_comesToStatement σ = some w) : zR (zY0 sc) 3 0 0 mX5_comesToStatement 0 [(0, .ref 54)] [] (zE σ) (some (.int w.1), zE w.2) := by
  unfold fX5_comesToStatement at h
  refine kR.aload_n dX5_comesToStatement_0 0 rfl ?_
  obtain ⟨σ1, e2, h⟩ := bnr_some h
  refine kR.cVv [] dX5_comesToStatement_1 rfl (by decide) mwX5_77 zp54 (by decide) rfl rfl (Nat.le_of_ble_eq_true rfl) (lX5_skipBlanks σ _ e2) ?_
  refine kR.aload_n dX5_comesToStatement_4 0 rfl ?_
  refine kR.getI dX5_comesToStatement_5 flX5_34 zcf5 zp54 (Or.inl rfl) ?_
  refine kR.if_ne (tgt := 29) dX5_comesToStatement_8 (by decide) h (fun h => ?_) (fun h => ?_)
  · refine zR.iconst (v := 0) dX5_comesToStatement_29 (by decide) ?_
    exact kR.iretW dX5_comesToStatement_30 (nzZ rfl (Or.inl rfl)) h
  · refine kR.aload_n dX5_comesToStatement_11 0 rfl ?_
    refine kR.getI dX5_comesToStatement_12 flX5_15 zcf5 zp54 (Or.inl rfl) ?_
    refine kR.aload_n dX5_comesToStatement_15 0 rfl ?_
    refine kR.getR (v := 2) dX5_comesToStatement_16 flX5_40 zcf5 zp54 (Or.inl ⟨_, rfl⟩) rfl ?_
    refine kR.getI dX5_comesToStatement_19 flX5_80 zcf9 zp2 (Or.inl rfl) ?_
    refine kR.icmp_ge (tgt := 29) dX5_comesToStatement_22 (by decide) h (fun h => ?_) (fun h => ?_)
    · refine zR.iconst (v := 0) dX5_comesToStatement_29 (by decide) ?_
      exact kR.iretW dX5_comesToStatement_30 (nzZ rfl (Or.inl rfl)) h
    · refine zR.iconst (v := 1) dX5_comesToStatement_25 (by decide) ?_
      refine zR.goto (tgt := 30) dX5_comesToStatement_26 (by decide) ?_
      exact kR.iretW dX5_comesToStatement_30 (nzZ rfl (Or.inr rfl)) h
theorem lX5_comesToStatement {sc : Nat × (Nat → Int32)} (σ : zS) (w : Int32 × zS) (h : fX5_comesToStatement σ = some w) : zC (zY0 sc) 3 0 0 mX5_comesToStatement [.ref 54] (zE σ) (some (.int w.1), zE w.2) := zC.of (by decide +kernel) (Nat.le_of_ble_eq_true rfl) ⟨_, rfl⟩ (eX5_comesToStatement σ w h)
theorem dX5_isLetter_0 : decode cX5_isLetter 0 = .ok (.iload_n 0, 1) := by decide +kernel
theorem dX5_isLetter_1 : decode cX5_isLetter 1 = .ok (.bipush 97, 2) := by decide +kernel
theorem dX5_isLetter_3 : decode cX5_isLetter 3 = .ok (.if_icmp .lt 13, 3) := by decide +kernel
theorem dX5_isLetter_6 : decode cX5_isLetter 6 = .ok (.iload_n 0, 1) := by decide +kernel
theorem dX5_isLetter_7 : decode cX5_isLetter 7 = .ok (.bipush 122, 2) := by decide +kernel
theorem dX5_isLetter_9 : decode cX5_isLetter 9 = .ok (.if_icmp .gt 7, 3) := by decide +kernel
theorem dX5_isLetter_12 : decode cX5_isLetter 12 = .ok (.iconst 1, 1) := by decide +kernel
theorem dX5_isLetter_13 : decode cX5_isLetter 13 = .ok (.goto 4, 3) := by decide +kernel
theorem dX5_isLetter_16 : decode cX5_isLetter 16 = .ok (.iconst 0, 1) := by decide +kernel
theorem dX5_isLetter_17 : decode cX5_isLetter 17 = .ok (.ireturn, 1) := by decide +kernel
def fX5_isLetter (p0 : Int32) : Int32 := if p0 < 97 then 0 else if 122 < p0 then 0 else 1
theorem eX5_isLetter {sc : Nat × (Nat → Int32)} {μ : zM} (p0 : Int32) (w : Int32) (h : fX5_isLetter p0 = w) : zR (zY0 sc) 1 0 0 mX5_isLetter 0 [(0, .int p0)] [] μ (some (.int w), μ) := by
  unfold fX5_isLetter at h
  refine kR.iload_n dX5_isLetter_0 0 rfl ?_
  refine zR.bipush (v := 97) dX5_isLetter_1 (by decide) ?_
  refine kR.icmp_lt (tgt := 16) dX5_isLetter_3 (by decide) h (fun h => ?_) (fun h => ?_)
  · refine zR.iconst (v := 0) dX5_isLetter_16 (by decide) ?_
    exact kR.iret dX5_isLetter_17 (nzZ rfl (Or.inl rfl)) h
  · refine kR.iload_n dX5_isLetter_6 0 rfl ?_
    refine zR.bipush (v := 122) dX5_isLetter_7 (by decide) ?_
    refine kR.icmp_gt (tgt := 16) dX5_isLetter_9 (by decide) h (fun h => ?_) (fun h => ?_)
    · refine zR.iconst (v := 0) dX5_isLetter_16 (by decide) ?_
      exact kR.iret dX5_isLetter_17 (nzZ rfl (Or.inl rfl)) h
    · refine zR.iconst (v := 1) dX5_isLetter_12 (by decide) ?_
      refine zR.goto (tgt := 17) dX5_isLetter_13 (by decide) ?_
      exact kR.iret dX5_isLetter_17 (nzZ rfl (Or.inr rfl)) h
theorem lX5_isLetter {sc : Nat × (Nat → Int32)} {μ : zM} (p0 : Int32) : zC (zY0 sc) 1 0 0 mX5_isLetter [.int p0] μ (some (.int (fX5_isLetter p0)), μ) := zC.of (by decide +kernel) (Nat.le_of_ble_eq_true rfl) ⟨_, rfl⟩ (eX5_isLetter p0 _ rfl)
theorem dX5_isDigit_0 : decode cX5_isDigit 0 = .ok (.iload_n 0, 1) := by decide +kernel
theorem dX5_isDigit_1 : decode cX5_isDigit 1 = .ok (.bipush 48, 2) := by decide +kernel
theorem dX5_isDigit_3 : decode cX5_isDigit 3 = .ok (.if_icmp .lt 13, 3) := by decide +kernel
theorem dX5_isDigit_6 : decode cX5_isDigit 6 = .ok (.iload_n 0, 1) := by decide +kernel
theorem dX5_isDigit_7 : decode cX5_isDigit 7 = .ok (.bipush 57, 2) := by decide +kernel
theorem dX5_isDigit_9 : decode cX5_isDigit 9 = .ok (.if_icmp .gt 7, 3) := by decide +kernel
theorem dX5_isDigit_12 : decode cX5_isDigit 12 = .ok (.iconst 1, 1) := by decide +kernel
theorem dX5_isDigit_13 : decode cX5_isDigit 13 = .ok (.goto 4, 3) := by decide +kernel
theorem dX5_isDigit_16 : decode cX5_isDigit 16 = .ok (.iconst 0, 1) := by decide +kernel
theorem dX5_isDigit_17 : decode cX5_isDigit 17 = .ok (.ireturn, 1) := by decide +kernel
def fX5_isDigit (p0 : Int32) : Int32 := if p0 < 48 then 0 else if 57 < p0 then 0 else 1
theorem eX5_isDigit {sc : Nat × (Nat → Int32)} {μ : zM} (p0 : Int32) (w : Int32) (h : fX5_isDigit p0 = w) : zR (zY0 sc) 1 0 0 mX5_isDigit 0 [(0, .int p0)] [] μ (some (.int w), μ) := by
  unfold fX5_isDigit at h
  refine kR.iload_n dX5_isDigit_0 0 rfl ?_
  refine zR.bipush (v := 48) dX5_isDigit_1 (by decide) ?_
  refine kR.icmp_lt (tgt := 16) dX5_isDigit_3 (by decide) h (fun h => ?_) (fun h => ?_)
  · refine zR.iconst (v := 0) dX5_isDigit_16 (by decide) ?_
    exact kR.iret dX5_isDigit_17 (nzZ rfl (Or.inl rfl)) h
  · refine kR.iload_n dX5_isDigit_6 0 rfl ?_
    refine zR.bipush (v := 57) dX5_isDigit_7 (by decide) ?_
    refine kR.icmp_gt (tgt := 16) dX5_isDigit_9 (by decide) h (fun h => ?_) (fun h => ?_)
    · refine zR.iconst (v := 0) dX5_isDigit_16 (by decide) ?_
      exact kR.iret dX5_isDigit_17 (nzZ rfl (Or.inl rfl)) h
    · refine zR.iconst (v := 1) dX5_isDigit_12 (by decide) ?_
      refine zR.goto (tgt := 17) dX5_isDigit_13 (by decide) ?_
      exact kR.iret dX5_isDigit_17 (nzZ rfl (Or.inr rfl)) h
theorem lX5_isDigit {sc : Nat × (Nat → Int32)} {μ : zM} (p0 : Int32) : zC (zY0 sc) 1 0 0 mX5_isDigit [.int p0] μ (some (.int (fX5_isDigit p0)), μ) := zC.of (by decide +kernel) (Nat.le_of_ble_eq_true rfl) ⟨_, rfl⟩ (eX5_isDigit p0 _ rfl)
theorem dX5_isSideBySide_0 : decode cX5_isSideBySide 0 = .ok (.aload_n 0, 1) := by decide +kernel
theorem dX5_isSideBySide_1 : decode cX5_isSideBySide 1 = .ok (.getfield 40, 3) := by decide +kernel
theorem dX5_isSideBySide_4 : decode cX5_isSideBySide 4 = .ok (.aload_n 0, 1) := by decide +kernel
theorem dX5_isSideBySide_5 : decode cX5_isSideBySide 5 = .ok (.getfield 15, 3) := by decide +kernel
theorem dX5_isSideBySide_8 : decode cX5_isSideBySide 8 = .ok (.invokevirtual 85, 3) := by decide +kernel
theorem dX5_isSideBySide_11 : decode cX5_isSideBySide 11 = .ok (.istore_n 1, 1) := by decide +kernel
theorem dX5_isSideBySide_12 : decode cX5_isSideBySide 12 = .ok (.aload_n 0, 1) := by decide +kernel
theorem dX5_isSideBySide_13 : decode cX5_isSideBySide 13 = .ok (.getfield 22, 3) := by decide +kernel
theorem dX5_isSideBySide_16 : decode cX5_isSideBySide 16 = .ok (.iconst 2, 1) := by decide +kernel
theorem dX5_isSideBySide_17 : decode cX5_isSideBySide 17 = .ok (.if_icmp .eq 11, 3) := by decide +kernel
theorem dX5_isSideBySide_20 : decode cX5_isSideBySide 20 = .ok (.aload_n 0, 1) := by decide +kernel
theorem dX5_isSideBySide_21 : decode cX5_isSideBySide 21 = .ok (.getfield 22, 3) := by decide +kernel
theorem dX5_isSideBySide_24 : decode cX5_isSideBySide 24 = .ok (.iconst 3, 1) := by decide +kernel
theorem dX5_isSideBySide_25 : decode cX5_isSideBySide 25 = .ok (.if_icmp .ne 21, 3) := by decide +kernel
theorem dX5_isSideBySide_28 : decode cX5_isSideBySide 28 = .ok (.iload_n 1, 1) := by decide +kernel
theorem dX5_isSideBySide_29 : decode cX5_isSideBySide 29 = .ok (.invokestatic 89, 3) := by decide +kernel
theorem dX5_isSideBySide_32 : decode cX5_isSideBySide 32 = .ok (.ifCond .ne 10, 3) := by decide +kernel
theorem dX5_isSideBySide_35 : decode cX5_isSideBySide 35 = .ok (.iload_n 1, 1) := by decide +kernel
theorem dX5_isSideBySide_36 : decode cX5_isSideBySide 36 = .ok (.invokestatic 96, 3) := by decide +kernel
theorem dX5_isSideBySide_39 : decode cX5_isSideBySide 39 = .ok (.ifCond .eq 7, 3) := by decide +kernel
theorem dX5_isSideBySide_42 : decode cX5_isSideBySide 42 = .ok (.iconst 1, 1) := by decide +kernel
theorem dX5_isSideBySide_43 : decode cX5_isSideBySide 43 = .ok (.goto 4, 3) := by decide +kernel
theorem dX5_isSideBySide_46 : decode cX5_isSideBySide 46 = .ok (.iconst 0, 1) := by decide +kernel
theorem dX5_isSideBySide_47 : decode cX5_isSideBySide 47 = .ok (.ireturn, 1) := by decide +kernel
def fX5_isSideBySide_42 (σ : zS) : Option Int32 := some 1
theorem kX5_isSideBySide_42 {sc : Nat × (Nat → Int32)} (σ : zS) (w : Int32) (h : fX5_isSideBySide_42 σ = some w) : zR (zY0 sc) 2 0 0 mX5_isSideBySide 42 [] [] (zE σ) (some (.int w), zE σ) := by
  unfold fX5_isSideBySide_42 at h
  refine zR.iconst (v := 1) dX5_isSideBySide_42 (by decide) ?_
  refine zR.goto (tgt := 47) dX5_isSideBySide_43 (by decide) ?_
  exact kR.iretO dX5_isSideBySide_47 (nzZ rfl (Or.inr rfl)) h
def fX5_isSideBySide_28 (σ : zS) (x1 : Int32) : Option Int32 := if (fX5_isLetter x1) = 0 then if (fX5_isDigit x1) = 0 then some 0 else fX5_isSideBySide_42 σ else fX5_isSideBySide_42 σ
theorem kX5_isSideBySide_28 {sc : Nat × (Nat → Int32)} (σ : zS) (x1 : Int32) (w : Int32) (h : fX5_isSideBySide_28 σ x1 = some w) : zR (zY0 sc) 2 0 0 mX5_isSideBySide 28 [(1, .int x1)] [] (zE σ) (some (.int w), zE σ) := by
  unfold fX5_isSideBySide_28 at h
  refine kR.iload_n dX5_isSideBySide_28 0 rfl ?_
  refine kR.cSi [.int x1] dX5_isSideBySide_29 rfl (by decide) (Or.inl mwX5_89) rfl (Nat.le_of_ble_eq_true rfl) (lX5_isLetter x1) ?_
  refine kR.if_ne (tgt := 42) dX5_isSideBySide_32 (by decide) h (fun h => ?_) (fun h => ?_)
  · refine zR.sub [] rfl ?_
    exact kX5_isSideBySide_42 σ _ h
  · refine kR.iload_n dX5_isSideBySide_35 0 rfl ?_
    refine kR.cSi [.int x1] dX5_isSideBySide_36 rfl (by decide) (Or.inl mwX5_96) rfl (Nat.le_of_ble_eq_true rfl) (lX5_isDigit x1) ?_
    refine kR.if_eq (tgt := 46) dX5_isSideBySide_39 (by decide) h (fun h => ?_) (fun h => ?_)
    · refine zR.iconst (v := 0) dX5_isSideBySide_46 (by decide) ?_
      exact kR.iretO dX5_isSideBySide_47 (nzZ rfl (Or.inl rfl)) h
    · refine zR.sub [] rfl ?_
      exact kX5_isSideBySide_42 σ _ h
def fX5_isSideBySide (σ : zS) : Option Int32 := bnr (fX9_byteAt σ (iG σ 54 3)) fun v1 => if (iG σ 54 5) = 2 then fX5_isSideBySide_28 σ v1 else if (iG σ 54 5) = 3 then fX5_isSideBySide_28 σ v1 else some 0
theorem eX5_isSideBySide {sc : Nat × (Nat → Int32)} (σ : zS) (w : Int32) (h : fX5_isSideBySide σ = some w) : zR (zY0 sc) 2 0 0 mX5_isSideBySide 0 [(0, .ref 54)] [] (zE σ) (some (.int w), zE σ) := by
  unfold fX5_isSideBySide at h
  refine kR.aload_n dX5_isSideBySide_0 0 rfl ?_
  refine kR.getR (v := 2) dX5_isSideBySide_1 flX5_40 zcf5 zp54 (Or.inl ⟨_, rfl⟩) rfl ?_
  refine kR.aload_n dX5_isSideBySide_4 0 rfl ?_
  refine kR.getI dX5_isSideBySide_5 flX5_15 zcf5 zp54 (Or.inl rfl) ?_
  obtain ⟨v1, e2, h⟩ := bnr_some h
  refine kR.cVi [.int (iG σ 54 3)] dX5_isSideBySide_8 rfl (by decide) mwX5_85 zp2 (by decide) rfl rfl (Nat.le_of_ble_eq_true rfl) (lX9_byteAt σ (iG σ 54 3) _ e2) ?_
  refine zR.istore_n (i := 1) (ls' := [(1, .int v1), (0, .ref 54)]) dX5_isSideBySide_11 rfl (by decide) rfl ?_
  refine kR.aload_n dX5_isSideBySide_12 1 rfl ?_
  refine kR.getI dX5_isSideBySide_13 flX5_22 zcf5 zp54 (Or.inl rfl) ?_
  refine zR.iconst (v := 2) dX5_isSideBySide_16 (by decide) ?_
  refine kR.icmp_eq (tgt := 28) dX5_isSideBySide_17 (by decide) h (fun h => ?_) (fun h => ?_)
  · refine zR.sub [0] rfl ?_
    exact kX5_isSideBySide_28 σ _ _ h
  · refine kR.aload_n dX5_isSideBySide_20 1 rfl ?_
    refine kR.getI dX5_isSideBySide_21 flX5_22 zcf5 zp54 (Or.inl rfl) ?_
    refine zR.iconst (v := 3) dX5_isSideBySide_24 (by decide) ?_
    refine kR.icmp_ne (tgt := 46) dX5_isSideBySide_25 (by decide) h (fun h => ?_) (fun h => ?_)
    · refine zR.iconst (v := 0) dX5_isSideBySide_46 (by decide) ?_
      exact kR.iretO dX5_isSideBySide_47 (nzZ rfl (Or.inl rfl)) h
    · refine zR.sub [0] rfl ?_
      exact kX5_isSideBySide_28 σ _ _ h
theorem lX5_isSideBySide {sc : Nat × (Nat → Int32)} (σ : zS) (w : Int32) (h : fX5_isSideBySide σ = some w) : zC (zY0 sc) 2 0 0 mX5_isSideBySide [.ref 54] (zE σ) (some (.int w), zE σ) := zC.of (by decide +kernel) (Nat.le_of_ble_eq_true rfl) ⟨_, rfl⟩ (eX5_isSideBySide σ w h)
theorem dJ0_isLatin1_aae02_0 : decode cJ0_isLatin1_aae02 0 = .ok (.getstatic 38, 3) := by decide +kernel
theorem dJ0_isLatin1_aae02_3 : decode cJ0_isLatin1_aae02 3 = .ok (.ifCond .eq 14, 3) := by decide +kernel
theorem dJ0_isLatin1_aae02_6 : decode cJ0_isLatin1_aae02 6 = .ok (.aload_n 0, 1) := by decide +kernel
theorem dJ0_isLatin1_aae02_7 : decode cJ0_isLatin1_aae02 7 = .ok (.getfield 15, 3) := by decide +kernel
theorem dJ0_isLatin1_aae02_10 : decode cJ0_isLatin1_aae02 10 = .ok (.ifCond .ne 7, 3) := by decide +kernel
theorem dJ0_isLatin1_aae02_13 : decode cJ0_isLatin1_aae02 13 = .ok (.iconst 1, 1) := by decide +kernel
theorem dJ0_isLatin1_aae02_14 : decode cJ0_isLatin1_aae02 14 = .ok (.goto 4, 3) := by decide +kernel
theorem dJ0_isLatin1_aae02_17 : decode cJ0_isLatin1_aae02 17 = .ok (.iconst 0, 1) := by decide +kernel
theorem dJ0_isLatin1_aae02_18 : decode cJ0_isLatin1_aae02 18 = .ok (.ireturn, 1) := by decide +kernel
def fJ0_isLatin1_aae02 (i0 : Nat) : Int32 := 1
theorem eJ0_isLatin1_aae02 {sc : Nat × (Nat → Int32)} {μ : zM} (i0 : Nat) (hi0 : i0 < 2) (w : Int32) (h : fJ0_isLatin1_aae02 i0 = w) : zR (zY0 sc) 1 0 0 mJ0_isLatin1_aae02 0 [(0, .ref (1000 + i0))] [] μ (some (.int w), μ) := by
  unfold fJ0_isLatin1_aae02 at h
  refine zR.getZ dJ0_isLatin1_aae02_0 (tb2 85 rfl rfl) ?_
  refine zR.if_eq (tgt := 17) dJ0_isLatin1_aae02_3 (by decide) (fun z => absurd z (by decide)) (fun _ => ?_)
  refine kR.aload_n dJ0_isLatin1_aae02_6 0 rfl ?_
  refine zR.strC i0 dJ0_isLatin1_aae02_7 hi0 (tb9 39 rfl rfl) ?_
  refine zR.if_ne (tgt := 17) dJ0_isLatin1_aae02_10 (by decide) (fun z => absurd z (by decide)) (fun _ => ?_)
  refine zR.iconst (v := 1) dJ0_isLatin1_aae02_13 (by decide) ?_
  refine zR.goto (tgt := 18) dJ0_isLatin1_aae02_14 (by decide) ?_
  exact kR.iret dJ0_isLatin1_aae02_18 (nzZ rfl (Or.inr rfl)) h
theorem lJ0_isLatin1_aae02 {sc : Nat × (Nat → Int32)} {μ : zM} (i0 : Nat) (hi0 : i0 < 2) : zC (zY0 sc) 1 0 0 mJ0_isLatin1_aae02 [.ref (1000 + i0)] μ (some (.int (fJ0_isLatin1_aae02 i0)), μ) := zC.of (by decide +kernel) (Nat.le_of_ble_eq_true rfl) ⟨_, rfl⟩ (eJ0_isLatin1_aae02 i0 hi0 _ rfl)
theorem dJ0_coder_7d493_0 : decode cJ0_coder_7d493 0 = .ok (.getstatic 38, 3) := by decide +kernel
theorem dJ0_coder_7d493_3 : decode cJ0_coder_7d493 3 = .ok (.ifCond .eq 10, 3) := by decide +kernel
theorem dJ0_coder_7d493_6 : decode cJ0_coder_7d493 6 = .ok (.aload_n 0, 1) := by decide +kernel
theorem dJ0_coder_7d493_7 : decode cJ0_coder_7d493 7 = .ok (.getfield 15, 3) := by decide +kernel
theorem dJ0_coder_7d493_10 : decode cJ0_coder_7d493 10 = .ok (.goto 4, 3) := by decide +kernel
theorem dJ0_coder_7d493_13 : decode cJ0_coder_7d493 13 = .ok (.iconst 1, 1) := by decide +kernel
theorem dJ0_coder_7d493_14 : decode cJ0_coder_7d493 14 = .ok (.ireturn, 1) := by decide +kernel
def fJ0_coder_7d493 (i0 : Nat) : Int32 := 0
theorem eJ0_coder_7d493 {sc : Nat × (Nat → Int32)} {μ : zM} (i0 : Nat) (hi0 : i0 < 2) (w : Int32) (h : fJ0_coder_7d493 i0 = w) : zR (zY0 sc) 1 0 0 mJ0_coder_7d493 0 [(0, .ref (1000 + i0))] [] μ (some (.int w), μ) := by
  unfold fJ0_coder_7d493 at h
  refine zR.getZ dJ0_coder_7d493_0 (tb2 85 rfl rfl) ?_
  refine zR.if_eq (tgt := 13) dJ0_coder_7d493_3 (by decide) (fun z => absurd z (by decide)) (fun _ => ?_)
  refine kR.aload_n dJ0_coder_7d493_6 0 rfl ?_
  refine zR.strC i0 dJ0_coder_7d493_7 hi0 (tb9 39 rfl rfl) ?_
  refine zR.goto (tgt := 14) dJ0_coder_7d493_10 (by decide) ?_
  exact kR.iret dJ0_coder_7d493_14 (fun ty x h1 h2 => by cases h1; cases h2; rfl) h
theorem lJ0_coder_7d493 {sc : Nat × (Nat → Int32)} {μ : zM} (i0 : Nat) (hi0 : i0 < 2) : zC (zY0 sc) 1 0 0 mJ0_coder_7d493 [.ref (1000 + i0)] μ (some (.int (fJ0_coder_7d493 i0)), μ) := zC.of (by decide +kernel) (Nat.le_of_ble_eq_true rfl) ⟨_, rfl⟩ (eJ0_coder_7d493 i0 hi0 _ rfl)
theorem dJ0_length_8abf5_0 : decode cJ0_length_8abf5 0 = .ok (.aload_n 0, 1) := by decide +kernel
theorem dJ0_length_8abf5_1 : decode cJ0_length_8abf5 1 = .ok (.getfield 9, 3) := by decide +kernel
theorem dJ0_length_8abf5_4 : decode cJ0_length_8abf5 4 = .ok (.arraylength, 1) := by decide +kernel
theorem dJ0_length_8abf5_5 : decode cJ0_length_8abf5 5 = .ok (.aload_n 0, 1) := by decide +kernel
theorem dJ0_length_8abf5_6 : decode cJ0_length_8abf5 6 = .ok (.invokevirtual 335, 3) := by decide +kernel
theorem dJ0_length_8abf5_9 : decode cJ0_length_8abf5 9 = .ok (.ishr, 1) := by decide +kernel
theorem dJ0_length_8abf5_10 : decode cJ0_length_8abf5 10 = .ok (.ireturn, 1) := by decide +kernel
def fJ0_length_8abf5 (i0 : Nat) : Int32 := (Int32.ofNat (zSl.getD i0 0)) >>> ((fJ0_coder_7d493 i0) &&& 31)
theorem eJ0_length_8abf5 {sc : Nat × (Nat → Int32)} {μ : zM} (i0 : Nat) (hi0 : i0 < 2) (w : Int32) (h : fJ0_length_8abf5 i0 = w) : zR (zY0 sc) 2 0 0 mJ0_length_8abf5 0 [(0, .ref (1000 + i0))] [] μ (some (.int w), μ) := by
  unfold fJ0_length_8abf5 at h
  refine kR.aload_n dJ0_length_8abf5_0 0 rfl ?_
  refine zR.strV i0 dJ0_length_8abf5_1 hi0 (tb9 38 rfl rfl) ?_
  refine zR.strN i0 (v := Int32.ofNat (zSl.getD i0 0)) dJ0_length_8abf5_4 hi0 rfl ?_
  refine kR.aload_n dJ0_length_8abf5_5 0 rfl ?_
  refine kR.cTi i0 [] dJ0_length_8abf5_6 rfl (by decide) mwJ0_335 hi0 rfl rfl (Nat.le_of_ble_eq_true rfl) (lJ0_coder_7d493 i0 hi0) ?_
  refine zR.ishr dJ0_length_8abf5_9 ?_
  exact kR.iret dJ0_length_8abf5_10 (nzI rfl _) h
theorem lJ0_length_8abf5 {sc : Nat × (Nat → Int32)} {μ : zM} (i0 : Nat) (hi0 : i0 < 2) : zC (zY0 sc) 2 0 0 mJ0_length_8abf5 [.ref (1000 + i0)] μ (some (.int (fJ0_length_8abf5 i0)), μ) := zC.of (by decide +kernel) (Nat.le_of_ble_eq_true rfl) ⟨_, rfl⟩ (eJ0_length_8abf5 i0 hi0 _ rfl)
theorem dJ1_canEncode_9a6ad_0 : decode cJ1_canEncode_9a6ad 0 = .ok (.iload_n 0, 1) := by decide +kernel
theorem dJ1_canEncode_9a6ad_1 : decode cJ1_canEncode_9a6ad 1 = .ok (.ifCond .lt 14, 3) := by decide +kernel
theorem dJ1_canEncode_9a6ad_4 : decode cJ1_canEncode_9a6ad 4 = .ok (.iload_n 0, 1) := by decide +kernel
theorem dJ1_canEncode_9a6ad_5 : decode cJ1_canEncode_9a6ad 5 = .ok (.sipush 255, 3) := by decide +kernel
theorem dJ1_canEncode_9a6ad_8 : decode cJ1_canEncode_9a6ad 8 = .ok (.if_icmp .gt 7, 3) := by decide +kernel
theorem dJ1_canEncode_9a6ad_11 : decode cJ1_canEncode_9a6ad 11 = .ok (.iconst 1, 1) := by decide +kernel
theorem dJ1_canEncode_9a6ad_12 : decode cJ1_canEncode_9a6ad 12 = .ok (.goto 4, 3) := by decide +kernel
theorem dJ1_canEncode_9a6ad_15 : decode cJ1_canEncode_9a6ad 15 = .ok (.iconst 0, 1) := by decide +kernel
theorem dJ1_canEncode_9a6ad_16 : decode cJ1_canEncode_9a6ad 16 = .ok (.ireturn, 1) := by decide +kernel
def fJ1_canEncode_9a6ad (p0 : Int32) : Int32 := if p0 < 0 then 0 else if 255 < p0 then 0 else 1
theorem eJ1_canEncode_9a6ad {sc : Nat × (Nat → Int32)} {μ : zM} (p0 : Int32) (w : Int32) (h : fJ1_canEncode_9a6ad p0 = w) : zR (zY0 sc) 1 0 0 mJ1_canEncode_9a6ad 0 [(0, .int p0)] [] μ (some (.int w), μ) := by
  unfold fJ1_canEncode_9a6ad at h
  refine kR.iload_n dJ1_canEncode_9a6ad_0 0 rfl ?_
  refine kR.if_lt (tgt := 15) dJ1_canEncode_9a6ad_1 (by decide) h (fun h => ?_) (fun h => ?_)
  · refine zR.iconst (v := 0) dJ1_canEncode_9a6ad_15 (by decide) ?_
    exact kR.iret dJ1_canEncode_9a6ad_16 (nzZ rfl (Or.inl rfl)) h
  · refine kR.iload_n dJ1_canEncode_9a6ad_4 0 rfl ?_
    refine zR.sipush (v := 255) dJ1_canEncode_9a6ad_5 (by decide) ?_
    refine kR.icmp_gt (tgt := 15) dJ1_canEncode_9a6ad_8 (by decide) h (fun h => ?_) (fun h => ?_)
    · refine zR.iconst (v := 0) dJ1_canEncode_9a6ad_15 (by decide) ?_
      exact kR.iret dJ1_canEncode_9a6ad_16 (nzZ rfl (Or.inl rfl)) h
    · refine zR.iconst (v := 1) dJ1_canEncode_9a6ad_11 (by decide) ?_
      refine zR.goto (tgt := 16) dJ1_canEncode_9a6ad_12 (by decide) ?_
      exact kR.iret dJ1_canEncode_9a6ad_16 (nzZ rfl (Or.inr rfl)) h
theorem lJ1_canEncode_9a6ad {sc : Nat × (Nat → Int32)} {μ : zM} (p0 : Int32) : zC (zY0 sc) 1 0 0 mJ1_canEncode_9a6ad [.int p0] μ (some (.int (fJ1_canEncode_9a6ad p0)), μ) := zC.of (by decide +kernel) (Nat.le_of_ble_eq_true rfl) ⟨_, rfl⟩ (eJ1_canEncode_9a6ad p0 _ rfl)
theorem dJ9_max_7cf53_0 : decode cJ9_max_7cf53 0 = .ok (.iload_n 0, 1) := by decide +kernel
theorem dJ9_max_7cf53_1 : decode cJ9_max_7cf53 1 = .ok (.iload_n 1, 1) := by decide +kernel
theorem dJ9_max_7cf53_2 : decode cJ9_max_7cf53 2 = .ok (.if_icmp .lt 7, 3) := by decide +kernel
theorem dJ9_max_7cf53_5 : decode cJ9_max_7cf53 5 = .ok (.iload_n 0, 1) := by decide +kernel
theorem dJ9_max_7cf53_6 : decode cJ9_max_7cf53 6 = .ok (.goto 4, 3) := by decide +kernel
theorem dJ9_max_7cf53_9 : decode cJ9_max_7cf53 9 = .ok (.iload_n 1, 1) := by decide +kernel
theorem dJ9_max_7cf53_10 : decode cJ9_max_7cf53 10 = .ok (.ireturn, 1) := by decide +kernel
def fJ9_max_7cf53 (p0 : Int32) (p1 : Int32) : Int32 := if p0 < p1 then p1 else p0
theorem eJ9_max_7cf53 {sc : Nat × (Nat → Int32)} {μ : zM} (p0 : Int32) (p1 : Int32) (w : Int32) (h : fJ9_max_7cf53 p0 p1 = w) : zR (zY0 sc) 1 0 0 mJ9_max_7cf53 0 [(0, .int p0), (1, .int p1)] [] μ (some (.int w), μ) := by
  unfold fJ9_max_7cf53 at h
  refine kR.iload_n dJ9_max_7cf53_0 0 rfl ?_
  refine kR.iload_n dJ9_max_7cf53_1 1 rfl ?_
  refine kR.icmp_lt (tgt := 9) dJ9_max_7cf53_2 (by decide) h (fun h => ?_) (fun h => ?_)
  · refine kR.iload_n dJ9_max_7cf53_9 1 rfl ?_
    exact kR.iret dJ9_max_7cf53_10 (nzI rfl _) h
  · refine kR.iload_n dJ9_max_7cf53_5 0 rfl ?_
    refine zR.goto (tgt := 10) dJ9_max_7cf53_6 (by decide) ?_
    exact kR.iret dJ9_max_7cf53_10 (nzI rfl _) h
theorem lJ9_max_7cf53 {sc : Nat × (Nat → Int32)} {μ : zM} (p0 : Int32) (p1 : Int32) : zC (zY0 sc) 1 0 0 mJ9_max_7cf53 [.int p0, .int p1] μ (some (.int (fJ9_max_7cf53 p0 p1)), μ) := zC.of (by decide +kernel) (Nat.le_of_ble_eq_true rfl) ⟨_, rfl⟩ (eJ9_max_7cf53 p0 p1 _ rfl)
theorem dJ9_min_7cf53_0 : decode cJ9_min_7cf53 0 = .ok (.iload_n 0, 1) := by decide +kernel
theorem dJ9_min_7cf53_1 : decode cJ9_min_7cf53 1 = .ok (.iload_n 1, 1) := by decide +kernel
theorem dJ9_min_7cf53_2 : decode cJ9_min_7cf53 2 = .ok (.if_icmp .gt 7, 3) := by decide +kernel
theorem dJ9_min_7cf53_5 : decode cJ9_min_7cf53 5 = .ok (.iload_n 0, 1) := by decide +kernel
theorem dJ9_min_7cf53_6 : decode cJ9_min_7cf53 6 = .ok (.goto 4, 3) := by decide +kernel
theorem dJ9_min_7cf53_9 : decode cJ9_min_7cf53 9 = .ok (.iload_n 1, 1) := by decide +kernel
theorem dJ9_min_7cf53_10 : decode cJ9_min_7cf53 10 = .ok (.ireturn, 1) := by decide +kernel
def fJ9_min_7cf53 (p0 : Int32) (p1 : Int32) : Int32 := if p1 < p0 then p1 else p0
theorem eJ9_min_7cf53 {sc : Nat × (Nat → Int32)} {μ : zM} (p0 : Int32) (p1 : Int32) (w : Int32) (h : fJ9_min_7cf53 p0 p1 = w) : zR (zY0 sc) 1 0 0 mJ9_min_7cf53 0 [(0, .int p0), (1, .int p1)] [] μ (some (.int w), μ) := by
  unfold fJ9_min_7cf53 at h
  refine kR.iload_n dJ9_min_7cf53_0 0 rfl ?_
  refine kR.iload_n dJ9_min_7cf53_1 1 rfl ?_
  refine kR.icmp_gt (tgt := 9) dJ9_min_7cf53_2 (by decide) h (fun h => ?_) (fun h => ?_)
  · refine kR.iload_n dJ9_min_7cf53_9 1 rfl ?_
    exact kR.iret dJ9_min_7cf53_10 (nzI rfl _) h
  · refine kR.iload_n dJ9_min_7cf53_5 0 rfl ?_
    refine zR.goto (tgt := 10) dJ9_min_7cf53_6 (by decide) ?_
    exact kR.iret dJ9_min_7cf53_10 (nzI rfl _) h
theorem lJ9_min_7cf53 {sc : Nat × (Nat → Int32)} {μ : zM} (p0 : Int32) (p1 : Int32) : zC (zY0 sc) 1 0 0 mJ9_min_7cf53 [.int p0, .int p1] μ (some (.int (fJ9_min_7cf53 p0 p1)), μ) := zC.of (by decide +kernel) (Nat.le_of_ble_eq_true rfl) ⟨_, rfl⟩ (eJ9_min_7cf53 p0 p1 _ rfl)
theorem dJ1_indexOfChar_4cfef_0 : decode cJ1_indexOfChar_4cfef 0 = .ok (.iload_n 1, 1) := by decide +kernel
theorem dJ1_indexOfChar_4cfef_1 : decode cJ1_indexOfChar_4cfef 1 = .ok (.i2b, 1) := by decide +kernel
theorem dJ1_indexOfChar_4cfef_2 : decode cJ1_indexOfChar_4cfef 2 = .ok (.istore 4, 2) := by decide +kernel
theorem dJ1_indexOfChar_4cfef_4 : decode cJ1_indexOfChar_4cfef 4 = .ok (.iload_n 2, 1) := by decide +kernel
theorem dJ1_indexOfChar_4cfef_5 : decode cJ1_indexOfChar_4cfef 5 = .ok (.istore 5, 2) := by decide +kernel
theorem dJ1_indexOfChar_4cfef_7 : decode cJ1_indexOfChar_4cfef 7 = .ok (.iload 5, 2) := by decide +kernel
theorem dJ1_indexOfChar_4cfef_9 : decode cJ1_indexOfChar_4cfef 9 = .ok (.iload_n 3, 1) := by decide +kernel
theorem dJ1_indexOfChar_4cfef_10 : decode cJ1_indexOfChar_4cfef 10 = .ok (.if_icmp .ge 21, 3) := by decide +kernel
theorem dJ1_indexOfChar_4cfef_13 : decode cJ1_indexOfChar_4cfef 13 = .ok (.aload_n 0, 1) := by decide +kernel
theorem dJ1_indexOfChar_4cfef_14 : decode cJ1_indexOfChar_4cfef 14 = .ok (.iload 5, 2) := by decide +kernel
theorem dJ1_indexOfChar_4cfef_16 : decode cJ1_indexOfChar_4cfef 16 = .ok (.baload, 1) := by decide +kernel
theorem dJ1_indexOfChar_4cfef_17 : decode cJ1_indexOfChar_4cfef 17 = .ok (.iload 4, 2) := by decide +kernel
theorem dJ1_indexOfChar_4cfef_19 : decode cJ1_indexOfChar_4cfef 19 = .ok (.if_icmp .ne 6, 3) := by decide +kernel
theorem dJ1_indexOfChar_4cfef_22 : decode cJ1_indexOfChar_4cfef 22 = .ok (.iload 5, 2) := by decide +kernel
theorem dJ1_indexOfChar_4cfef_24 : decode cJ1_indexOfChar_4cfef 24 = .ok (.ireturn, 1) := by decide +kernel
theorem dJ1_indexOfChar_4cfef_25 : decode cJ1_indexOfChar_4cfef 25 = .ok (.iinc 5 1, 3) := by decide +kernel
theorem dJ1_indexOfChar_4cfef_28 : decode cJ1_indexOfChar_4cfef 28 = .ok (.goto (-21), 3) := by decide +kernel
theorem dJ1_indexOfChar_4cfef_31 : decode cJ1_indexOfChar_4cfef 31 = .ok (.iconst (-1), 1) := by decide +kernel
theorem dJ1_indexOfChar_4cfef_32 : decode cJ1_indexOfChar_4cfef 32 = .ok (.ireturn, 1) := by decide +kernel
def fJ1_indexOfChar_4cfef_7 (i0 : Nat) : Nat → Int32 → Int32 → Int32 → Option Int32
  | 0, _, _, _ => none
  | f + 1, x3, x4, x5 => if x3 ≤ x5 then some ((-1)) else aT i0 x5 fun v1 => if v1 = x4 then some x5 else fJ1_indexOfChar_4cfef_7 i0 f x3 x4 (x5 + 1)
theorem kJ1_indexOfChar_4cfef_7 {sc : Nat × (Nat → Int32)} {μ : zM} (i0 : Nat) (hi0 : i0 < 2) : ∀ (fuel : Nat) (x3 : Int32) (x4 : Int32) (x5 : Int32) (w : Int32) (h : fJ1_indexOfChar_4cfef_7 i0 fuel x3 x4 x5 = some w), zR (zY0 sc) 1 0 0 mJ1_indexOfChar_4cfef 7 [(0, .ref (1010 + i0)), (3, .int x3), (4, .int x4), (5, .int x5)] [] μ (some (.int w), μ) := by
  intro fuel
  induction fuel with
  | zero => intro x3 x4 x5 w h; exact nomatch h
  | succ f ih =>
    intro x3 x4 x5 w h
    rw [fJ1_indexOfChar_4cfef_7] at h
    refine kR.iload dJ1_indexOfChar_4cfef_7 3 rfl ?_
    refine kR.iload_n dJ1_indexOfChar_4cfef_9 1 rfl ?_
    refine kR.icmp_ge (tgt := 31) dJ1_indexOfChar_4cfef_10 (by decide) h (fun h => ?_) (fun h => ?_)
    · refine zR.iconst (v := (-1)) dJ1_indexOfChar_4cfef_31 (by decide) ?_
      exact kR.iretO dJ1_indexOfChar_4cfef_32 (nzI rfl _) h
    · refine kR.aload_n dJ1_indexOfChar_4cfef_13 0 rfl ?_
      refine kR.iload dJ1_indexOfChar_4cfef_14 3 rfl ?_
      refine kR.strB i0 dJ1_indexOfChar_4cfef_16 hi0 h (fun v1 h => ?_)
      refine kR.iload dJ1_indexOfChar_4cfef_17 2 rfl ?_
      refine kR.icmp_ne (tgt := 25) dJ1_indexOfChar_4cfef_19 (by decide) h (fun h => ?_) (fun h => ?_)
      · refine zR.iinc 3 (v := x5 + 1) (ls' := [(5, .int (x5 + 1)), (0, .ref (1010 + i0)), (3, .int x3), (4, .int x4)]) dJ1_indexOfChar_4cfef_25 rfl rfl (by decide) rfl ?_
        refine zR.goto (tgt := 7) dJ1_indexOfChar_4cfef_28 (by decide) ?_
        refine zR.sub [1, 2, 3, 0] rfl ?_
        exact ih _ _ _ _ h
      · refine kR.iload dJ1_indexOfChar_4cfef_22 3 rfl ?_
        exact kR.iretO dJ1_indexOfChar_4cfef_24 (nzI rfl _) h
def fJ1_indexOfChar_4cfef (i0 : Nat) (p1 : Int32) (p2 : Int32) (p3 : Int32) : Option Int32 := fJ1_indexOfChar_4cfef_7 i0 zF p3 (((p1) : Int32).toInt8.toInt32) p2
theorem eJ1_indexOfChar_4cfef {sc : Nat × (Nat → Int32)} {μ : zM} (i0 : Nat) (hi0 : i0 < 2) (p1 : Int32) (p2 : Int32) (p3 : Int32) (w : Int32) (h : fJ1_indexOfChar_4cfef i0 p1 p2 p3 = some w) : zR (zY0 sc) 1 0 0 mJ1_indexOfChar_4cfef 0 [(0, .ref (1010 + i0)), (1, .int p1), (2, .int p2), (3, .int p3)] [] μ (some (.int w), μ) := by
  unfold fJ1_indexOfChar_4cfef at h
  refine kR.iload_n dJ1_indexOfChar_4cfef_0 1 rfl ?_
  refine zR.i2b dJ1_indexOfChar_4cfef_1 ?_
  refine zR.istore (i := 4) (ls' := [(4, .int (((p1) : Int32).toInt8.toInt32)), (0, .ref (1010 + i0)), (1, .int p1), (2, .int p2), (3, .int p3)]) dJ1_indexOfChar_4cfef_2 (by decide) rfl ?_
  refine kR.iload_n dJ1_indexOfChar_4cfef_4 3 rfl ?_
  refine zR.istore (i := 5) (ls' := [(5, .int p2), (4, .int (((p1) : Int32).toInt8.toInt32)), (0, .ref (1010 + i0)), (1, .int p1), (2, .int p2), (3, .int p3)]) dJ1_indexOfChar_4cfef_5 (by decide) rfl ?_
  refine zR.sub [2, 5, 1, 0] rfl ?_
  exact kJ1_indexOfChar_4cfef_7 i0 hi0 zF _ _ _ _ h
theorem lJ1_indexOfChar_4cfef {sc : Nat × (Nat → Int32)} {μ : zM} (i0 : Nat) (hi0 : i0 < 2) (p1 : Int32) (p2 : Int32) (p3 : Int32) (w : Int32) (h : fJ1_indexOfChar_4cfef i0 p1 p2 p3 = some w) : zC (zY0 sc) 1 0 0 mJ1_indexOfChar_4cfef [.ref (1010 + i0), .int p1, .int p2, .int p3] μ (some (.int w), μ) := zC.of (by decide +kernel) (Nat.le_of_ble_eq_true rfl) ⟨_, rfl⟩ (eJ1_indexOfChar_4cfef i0 hi0 p1 p2 p3 w h)
theorem dJ1_indexOf_4cfef_0 : decode cJ1_indexOf_4cfef 0 = .ok (.iload_n 1, 1) := by decide +kernel
theorem dJ1_indexOf_4cfef_1 : decode cJ1_indexOf_4cfef 1 = .ok (.invokestatic 88, 3) := by decide +kernel
theorem dJ1_indexOf_4cfef_4 : decode cJ1_indexOf_4cfef 4 = .ok (.ifCond .ne 5, 3) := by decide +kernel
theorem dJ1_indexOf_4cfef_7 : decode cJ1_indexOf_4cfef 7 = .ok (.iconst (-1), 1) := by decide +kernel
theorem dJ1_indexOf_4cfef_8 : decode cJ1_indexOf_4cfef 8 = .ok (.ireturn, 1) := by decide +kernel
theorem dJ1_indexOf_4cfef_9 : decode cJ1_indexOf_4cfef 9 = .ok (.iload_n 2, 1) := by decide +kernel
theorem dJ1_indexOf_4cfef_10 : decode cJ1_indexOf_4cfef 10 = .ok (.iconst 0, 1) := by decide +kernel
theorem dJ1_indexOf_4cfef_11 : decode cJ1_indexOf_4cfef 11 = .ok (.invokestatic 92, 3) := by decide +kernel
theorem dJ1_indexOf_4cfef_14 : decode cJ1_indexOf_4cfef 14 = .ok (.istore_n 2, 1) := by decide +kernel
theorem dJ1_indexOf_4cfef_15 : decode cJ1_indexOf_4cfef 15 = .ok (.iload_n 3, 1) := by decide +kernel
theorem dJ1_indexOf_4cfef_16 : decode cJ1_indexOf_4cfef 16 = .ok (.aload_n 0, 1) := by decide +kernel
theorem dJ1_indexOf_4cfef_17 : decode cJ1_indexOf_4cfef 17 = .ok (.arraylength, 1) := by decide +kernel
theorem dJ1_indexOf_4cfef_18 : decode cJ1_indexOf_4cfef 18 = .ok (.invokestatic 38, 3) := by decide +kernel
theorem dJ1_indexOf_4cfef_21 : decode cJ1_indexOf_4cfef 21 = .ok (.istore_n 3, 1) := by decide +kernel
theorem dJ1_indexOf_4cfef_22 : decode cJ1_indexOf_4cfef 22 = .ok (.iload_n 2, 1) := by decide +kernel
theorem dJ1_indexOf_4cfef_23 : decode cJ1_indexOf_4cfef 23 = .ok (.iload_n 3, 1) := by decide +kernel
theorem dJ1_indexOf_4cfef_24 : decode cJ1_indexOf_4cfef 24 = .ok (.if_icmp .lt 5, 3) := by decide +kernel
theorem dJ1_indexOf_4cfef_27 : decode cJ1_indexOf_4cfef 27 = .ok (.iconst (-1), 1) := by decide +kernel
theorem dJ1_indexOf_4cfef_28 : decode cJ1_indexOf_4cfef 28 = .ok (.ireturn, 1) := by decide +kernel
theorem dJ1_indexOf_4cfef_29 : decode cJ1_indexOf_4cfef 29 = .ok (.aload_n 0, 1) := by decide +kernel
theorem dJ1_indexOf_4cfef_30 : decode cJ1_indexOf_4cfef 30 = .ok (.iload_n 1, 1) := by decide +kernel
theorem dJ1_indexOf_4cfef_31 : decode cJ1_indexOf_4cfef 31 = .ok (.iload_n 2, 1) := by decide +kernel
theorem dJ1_indexOf_4cfef_32 : decode cJ1_indexOf_4cfef 32 = .ok (.iload_n 3, 1) := by decide +kernel
theorem dJ1_indexOf_4cfef_33 : decode cJ1_indexOf_4cfef 33 = .ok (.invokestatic 95, 3) := by decide +kernel
theorem dJ1_indexOf_4cfef_36 : decode cJ1_indexOf_4cfef 36 = .ok (.ireturn, 1) := by decide +kernel
def fJ1_indexOf_4cfef (i0 : Nat) (p1 : Int32) (p2 : Int32) (p3 : Int32) : Option Int32 := if (fJ1_canEncode_9a6ad p1) = 0 then some ((-1)) else if (fJ9_max_7cf53 p2 0) < (fJ9_min_7cf53 p3 (Int32.ofNat (zSl.getD i0 0))) then bnr (fJ1_indexOfChar_4cfef i0 p1 (fJ9_max_7cf53 p2 0) (fJ9_min_7cf53 p3 (Int32.ofNat (zSl.getD i0 0)))) fun v1 => some v1 else some ((-1))
theorem eJ1_indexOf_4cfef {sc : Nat × (Nat → Int32)} {μ : zM} (i0 : Nat) (hi0 : i0 < 2) (p1 : Int32) (p2 : Int32) (p3 : Int32) (w : Int32) (h : fJ1_indexOf_4cfef i0 p1 p2 p3 = some w) : zR (zY0 sc) 2 0 0 mJ1_indexOf_4cfef 0 [(0, .ref (1010 + i0)), (1, .int p1), (2, .int p2), (3, .int p3)] [] μ (some (.int w), μ) := by
  unfold fJ1_indexOf_4cfef at h
  refine kR.iload_n dJ1_indexOf_4cfef_0 1 rfl ?_
  refine kR.cSi [.int p1] dJ1_indexOf_4cfef_1 rfl (by decide) (Or.inl mwJ1_88) rfl (Nat.le_of_ble_eq_true rfl) (lJ1_canEncode_9a6ad p1) ?_
  refine kR.if_ne (tgt := 9) dJ1_indexOf_4cfef_4 (by decide) h (fun h => ?_) (fun h => ?_)
  · refine kR.iload_n dJ1_indexOf_4cfef_9 2 rfl ?_
    refine zR.iconst (v := 0) dJ1_indexOf_4cfef_10 (by decide) ?_
    refine kR.cSi [.int p2, .int 0] dJ1_indexOf_4cfef_11 rfl (by decide) (Or.inl mwJ1_92) rfl (Nat.le_of_ble_eq_true rfl) (lJ9_max_7cf53 p2 0) ?_
    refine zR.istore_n (i := 2) (ls' := [(2, .int (fJ9_max_7cf53 p2 0)), (0, .ref (1010 + i0)), (1, .int p1), (3, .int p3)]) dJ1_indexOf_4cfef_14 rfl (by decide) rfl ?_
    refine kR.iload_n dJ1_indexOf_4cfef_15 3 rfl ?_
    refine kR.aload_n dJ1_indexOf_4cfef_16 1 rfl ?_
    refine zR.strN i0 (v := Int32.ofNat (zSl.getD i0 0)) dJ1_indexOf_4cfef_17 hi0 rfl ?_
    refine kR.cSi [.int p3, .int (Int32.ofNat (zSl.getD i0 0))] dJ1_indexOf_4cfef_18 rfl (by decide) (Or.inl mwJ1_38) rfl (Nat.le_of_ble_eq_true rfl) (lJ9_min_7cf53 p3 (Int32.ofNat (zSl.getD i0 0))) ?_
    refine zR.istore_n (i := 3) (ls' := [(3, .int (fJ9_min_7cf53 p3 (Int32.ofNat (zSl.getD i0 0)))), (2, .int (fJ9_max_7cf53 p2 0)), (0, .ref (1010 + i0)), (1, .int p1)]) dJ1_indexOf_4cfef_21 rfl (by decide) rfl ?_
    refine kR.iload_n dJ1_indexOf_4cfef_22 1 rfl ?_
    refine kR.iload_n dJ1_indexOf_4cfef_23 0 rfl ?_
    refine kR.icmp_lt (tgt := 29) dJ1_indexOf_4cfef_24 (by decide) h (fun h => ?_) (fun h => ?_)
    · refine kR.aload_n dJ1_indexOf_4cfef_29 2 rfl ?_
      refine kR.iload_n dJ1_indexOf_4cfef_30 3 rfl ?_
      refine kR.iload_n dJ1_indexOf_4cfef_31 1 rfl ?_
      refine kR.iload_n dJ1_indexOf_4cfef_32 0 rfl ?_
      obtain ⟨v1, e2, h⟩ := bnr_some h
      refine kR.cSi [.ref (1010 + i0), .int p1, .int (fJ9_max_7cf53 p2 0), .int (fJ9_min_7cf53 p3 (Int32.ofNat (zSl.getD i0 0)))] dJ1_indexOf_4cfef_33 rfl (by decide) (Or.inl mwJ1_95) rfl (Nat.le_of_ble_eq_true rfl) (lJ1_indexOfChar_4cfef i0 hi0 p1 (fJ9_max_7cf53 p2 0) (fJ9_min_7cf53 p3 (Int32.ofNat (zSl.getD i0 0))) _ e2) ?_
      exact kR.iretO dJ1_indexOf_4cfef_36 (nzI rfl _) h
    · refine zR.iconst (v := (-1)) dJ1_indexOf_4cfef_27 (by decide) ?_
      exact kR.iretO dJ1_indexOf_4cfef_28 (nzI rfl _) h
  · refine zR.iconst (v := (-1)) dJ1_indexOf_4cfef_7 (by decide) ?_
    exact kR.iretO dJ1_indexOf_4cfef_8 (nzI rfl _) h
theorem lJ1_indexOf_4cfef {sc : Nat × (Nat → Int32)} {μ : zM} (i0 : Nat) (hi0 : i0 < 2) (p1 : Int32) (p2 : Int32) (p3 : Int32) (w : Int32) (h : fJ1_indexOf_4cfef i0 p1 p2 p3 = some w) : zC (zY0 sc) 2 0 0 mJ1_indexOf_4cfef [.ref (1010 + i0), .int p1, .int p2, .int p3] μ (some (.int w), μ) := zC.of (by decide +kernel) (Nat.le_of_ble_eq_true rfl) ⟨_, rfl⟩ (eJ1_indexOf_4cfef i0 hi0 p1 p2 p3 w h)
theorem dJ0_indexOf_7cf53_0 : decode cJ0_indexOf_7cf53 0 = .ok (.aload_n 0, 1) := by decide +kernel
theorem dJ0_indexOf_7cf53_1 : decode cJ0_indexOf_7cf53 1 = .ok (.invokevirtual 492, 3) := by decide +kernel
theorem dJ0_indexOf_7cf53_4 : decode cJ0_indexOf_7cf53 4 = .ok (.ifCond .eq 19, 3) := by decide +kernel
theorem dJ0_indexOf_7cf53_7 : decode cJ0_indexOf_7cf53 7 = .ok (.aload_n 0, 1) := by decide +kernel
theorem dJ0_indexOf_7cf53_8 : decode cJ0_indexOf_7cf53 8 = .ok (.getfield 9, 3) := by decide +kernel
theorem dJ0_indexOf_7cf53_11 : decode cJ0_indexOf_7cf53 11 = .ok (.iload_n 1, 1) := by decide +kernel
theorem dJ0_indexOf_7cf53_12 : decode cJ0_indexOf_7cf53 12 = .ok (.iload_n 2, 1) := by decide +kernel
theorem dJ0_indexOf_7cf53_13 : decode cJ0_indexOf_7cf53 13 = .ok (.aload_n 0, 1) := by decide +kernel
theorem dJ0_indexOf_7cf53_14 : decode cJ0_indexOf_7cf53 14 = .ok (.invokevirtual 505, 3) := by decide +kernel
theorem dJ0_indexOf_7cf53_17 : decode cJ0_indexOf_7cf53 17 = .ok (.invokestatic 637, 3) := by decide +kernel
theorem dJ0_indexOf_7cf53_20 : decode cJ0_indexOf_7cf53 20 = .ok (.goto 16, 3) := by decide +kernel
theorem dJ0_indexOf_7cf53_23 : decode cJ0_indexOf_7cf53 23 = .ok (.aload_n 0, 1) := by decide +kernel
theorem dJ0_indexOf_7cf53_24 : decode cJ0_indexOf_7cf53 24 = .ok (.getfield 9, 3) := by decide +kernel
theorem dJ0_indexOf_7cf53_27 : decode cJ0_indexOf_7cf53 27 = .ok (.iload_n 1, 1) := by decide +kernel
theorem dJ0_indexOf_7cf53_28 : decode cJ0_indexOf_7cf53 28 = .ok (.iload_n 2, 1) := by decide +kernel
theorem dJ0_indexOf_7cf53_29 : decode cJ0_indexOf_7cf53 29 = .ok (.aload_n 0, 1) := by decide +kernel
theorem dJ0_indexOf_7cf53_30 : decode cJ0_indexOf_7cf53 30 = .ok (.invokevirtual 505, 3) := by decide +kernel
theorem dJ0_indexOf_7cf53_33 : decode cJ0_indexOf_7cf53 33 = .ok (.invokestatic 640, 3) := by decide +kernel
theorem dJ0_indexOf_7cf53_36 : decode cJ0_indexOf_7cf53 36 = .ok (.ireturn, 1) := by decide +kernel
def fJ0_indexOf_7cf53 (i0 : Nat) (p1 : Int32) (p2 : Int32) : Option Int32 := if (fJ0_isLatin1_aae02 i0) = 0 then none else bnr (fJ1_indexOf_4cfef i0 p1 p2 (fJ0_length_8abf5 i0)) fun v1 => some v1
theorem eJ0_indexOf_7cf53 {sc : Nat × (Nat → Int32)} {μ : zM} (i0 : Nat) (hi0 : i0 < 2) (p1 : Int32) (p2 : Int32) (w : Int32) (h : fJ0_indexOf_7cf53 i0 p1 p2 = some w) : zR (zY0 sc) 3 0 0 mJ0_indexOf_7cf53 0 [(0, .ref (1000 + i0)), (1, .int p1), (2, .int p2)] [] μ (some (.int w), μ) := by
  unfold fJ0_indexOf_7cf53 at h
  refine kR.aload_n dJ0_indexOf_7cf53_0 0 rfl ?_
  refine kR.cTi i0 [] dJ0_indexOf_7cf53_1 rfl (by decide) mwJ0_492 hi0 rfl rfl (Nat.le_of_ble_eq_true rfl) (lJ0_isLatin1_aae02 i0 hi0) ?_
  refine kR.if_eq (tgt := 23) dJ0_indexOf_7cf53_4 (by decide) h (fun h => ?_) (fun h => ?_)
  · refine kR.aload_n dJ0_indexOf_7cf53_23 0 rfl ?_
    refine zR.strV i0 dJ0_indexOf_7cf53_24 hi0 (tb9 38 rfl rfl) ?_
    refine kR.iload_n dJ0_indexOf_7cf53_27 1 rfl ?_
    refine kR.iload_n dJ0_indexOf_7cf53_28 2 rfl ?_
    refine kR.aload_n dJ0_indexOf_7cf53_29 0 rfl ?_
    refine kR.cTi i0 [] dJ0_indexOf_7cf53_30 rfl (by decide) mwJ0_505 hi0 rfl rfl (Nat.le_of_ble_eq_true rfl) (lJ0_length_8abf5 i0 hi0) ?_
    exact nomatch h
  · refine kR.aload_n dJ0_indexOf_7cf53_7 0 rfl ?_
    refine zR.strV i0 dJ0_indexOf_7cf53_8 hi0 (tb9 38 rfl rfl) ?_
    refine kR.iload_n dJ0_indexOf_7cf53_11 1 rfl ?_
    refine kR.iload_n dJ0_indexOf_7cf53_12 2 rfl ?_
    refine kR.aload_n dJ0_indexOf_7cf53_13 0 rfl ?_
    refine kR.cTi i0 [] dJ0_indexOf_7cf53_14 rfl (by decide) mwJ0_505 hi0 rfl rfl (Nat.le_of_ble_eq_true rfl) (lJ0_length_8abf5 i0 hi0) ?_
    obtain ⟨v1, e2, h⟩ := bnr_some h
    refine kR.cSi [.ref (1010 + i0), .int p1, .int p2, .int (fJ0_length_8abf5 i0)] dJ0_indexOf_7cf53_17 rfl (by decide) (Or.inl mwJ0_637) rfl (Nat.le_of_ble_eq_true rfl) (lJ1_indexOf_4cfef i0 hi0 p1 p2 (fJ0_length_8abf5 i0) _ e2) ?_
    refine zR.goto (tgt := 36) dJ0_indexOf_7cf53_20 (by decide) ?_
    exact kR.iretO dJ0_indexOf_7cf53_36 (nzI rfl _) h
theorem lJ0_indexOf_7cf53 {sc : Nat × (Nat → Int32)} {μ : zM} (i0 : Nat) (hi0 : i0 < 2) (p1 : Int32) (p2 : Int32) (w : Int32) (h : fJ0_indexOf_7cf53 i0 p1 p2 = some w) : zC (zY0 sc) 3 0 0 mJ0_indexOf_7cf53 [.ref (1000 + i0), .int p1, .int p2] μ (some (.int w), μ) := zC.of (by decide +kernel) (Nat.le_of_ble_eq_true rfl) ⟨_, rfl⟩ (eJ0_indexOf_7cf53 i0 hi0 p1 p2 w h)
theorem dJ0_indexOf_0f7a4_0 : decode cJ0_indexOf_0f7a4 0 = .ok (.aload_n 0, 1) := by decide +kernel
theorem dJ0_indexOf_0f7a4_1 : decode cJ0_indexOf_0f7a4 1 = .ok (.iload_n 1, 1) := by decide +kernel
theorem dJ0_indexOf_0f7a4_2 : decode cJ0_indexOf_0f7a4 2 = .ok (.iconst 0, 1) := by decide +kernel
theorem dJ0_indexOf_0f7a4_3 : decode cJ0_indexOf_0f7a4 3 = .ok (.invokevirtual 633, 3) := by decide +kernel
theorem dJ0_indexOf_0f7a4_6 : decode cJ0_indexOf_0f7a4 6 = .ok (.ireturn, 1) := by decide +kernel
def fJ0_indexOf_0f7a4 (i0 : Nat) (p1 : Int32) : Option Int32 := bnr (fJ0_indexOf_7cf53 i0 p1 0) fun v1 => some v1
theorem eJ0_indexOf_0f7a4 {sc : Nat × (Nat → Int32)} {μ : zM} (i0 : Nat) (hi0 : i0 < 2) (p1 : Int32) (w : Int32) (h : fJ0_indexOf_0f7a4 i0 p1 = some w) : zR (zY0 sc) 4 0 0 mJ0_indexOf_0f7a4 0 [(0, .ref (1000 + i0)), (1, .int p1)] [] μ (some (.int w), μ) := by
  unfold fJ0_indexOf_0f7a4 at h
  refine kR.aload_n dJ0_indexOf_0f7a4_0 0 rfl ?_
  refine kR.iload_n dJ0_indexOf_0f7a4_1 1 rfl ?_
  refine zR.iconst (v := 0) dJ0_indexOf_0f7a4_2 (by decide) ?_
  obtain ⟨v1, e2, h⟩ := bnr_some h
  refine kR.cTi i0 [.int p1, .int 0] dJ0_indexOf_0f7a4_3 rfl (by decide) mwJ0_633 hi0 rfl rfl (Nat.le_of_ble_eq_true rfl) (lJ0_indexOf_7cf53 i0 hi0 p1 0 _ e2) ?_
  exact kR.iretO dJ0_indexOf_0f7a4_6 (nzI rfl _) h
theorem lJ0_indexOf_0f7a4 {sc : Nat × (Nat → Int32)} {μ : zM} (i0 : Nat) (hi0 : i0 < 2) (p1 : Int32) (w : Int32) (h : fJ0_indexOf_0f7a4 i0 p1 = some w) : zC (zY0 sc) 4 0 0 mJ0_indexOf_0f7a4 [.ref (1000 + i0), .int p1] μ (some (.int w), μ) := zC.of (by decide +kernel) (Nat.le_of_ble_eq_true rfl) ⟨_, rfl⟩ (eJ0_indexOf_0f7a4 i0 hi0 p1 w h)
theorem dX5_fail_0 : decode cX5_fail 0 = .ok (.aload_n 0, 1) := by decide +kernel
theorem dX5_fail_1 : decode cX5_fail 1 = .ok (.getfield 34, 3) := by decide +kernel
theorem dX5_fail_4 : decode cX5_fail 4 = .ok (.ifCond .ne 13, 3) := by decide +kernel
theorem dX5_fail_7 : decode cX5_fail 7 = .ok (.aload_n 0, 1) := by decide +kernel
theorem dX5_fail_8 : decode cX5_fail 8 = .ok (.iload_n 1, 1) := by decide +kernel
theorem dX5_fail_9 : decode cX5_fail 9 = .ok (.putfield 34, 3) := by decide +kernel
theorem dX5_fail_12 : decode cX5_fail 12 = .ok (.aload_n 0, 1) := by decide +kernel
theorem dX5_fail_13 : decode cX5_fail 13 = .ok (.iload_n 2, 1) := by decide +kernel
theorem dX5_fail_14 : decode cX5_fail 14 = .ok (.putfield 37, 3) := by decide +kernel
theorem dX5_fail_17 : decode cX5_fail 17 = .ok (.aload_n 0, 1) := by decide +kernel
theorem dX5_fail_18 : decode cX5_fail 18 = .ok (.iconst 4, 1) := by decide +kernel
theorem dX5_fail_19 : decode cX5_fail 19 = .ok (.putfield 22, 3) := by decide +kernel
theorem dX5_fail_22 : decode cX5_fail 22 = .ok (.aload_n 0, 1) := by decide +kernel
theorem dX5_fail_23 : decode cX5_fail 23 = .ok (.iconst (-1), 1) := by decide +kernel
theorem dX5_fail_24 : decode cX5_fail 24 = .ok (.putfield 25, 3) := by decide +kernel
theorem dX5_fail_27 : decode cX5_fail 27 = .ok (.return_, 1) := by decide +kernel
def fX5_fail_17 (σ : zS) : Option zS := bnd (iS σ 54 5 4) fun σ1 => bnd (iS σ1 54 6 ((-1))) fun σ2 => some σ2
theorem kX5_fail_17 {sc : Nat × (Nat → Int32)} (σ : zS) (w : zS) (h : fX5_fail_17 σ = some w) : zR (zY0 sc) 1 0 0 mX5_fail 17 [(0, .ref 54)] [] (zE σ) (none, zE w) := by
  unfold fX5_fail_17 at h
  refine kR.aload_n dX5_fail_17 0 rfl ?_
  refine zR.iconst (v := 4) dX5_fail_18 (by decide) ?_
  refine kR.putI dX5_fail_19 fpX5_22 zcf5 zp54 rfl h (fun σ1 h => ?_)
  refine kR.aload_n dX5_fail_22 0 rfl ?_
  refine zR.iconst (v := (-1)) dX5_fail_23 (by decide) ?_
  refine kR.putI dX5_fail_24 fpX5_25 zcf5 zp54 rfl h (fun σ2 h => ?_)
  exact kR.vret dX5_fail_27 h
def fX5_fail (p1 : Int32) (p2 : Int32) (σ : zS) : Option zS := if (iG σ 54 9) = 0 then bnd (iS σ 54 9 p1) fun σ3 => bnd (iS σ3 54 10 p2) fun σ4 => fX5_fail_17 σ4 else fX5_fail_17 σ
theorem eX5_fail {sc : Nat × (Nat → Int32)} (p1 : Int32) (p2 : Int32) (σ : zS) (w : zS) (h : fX5_fail p1 p2 σ = some w) : zR (zY0 sc) 1 0 0 mX5_fail 0 [(0, .ref 54), (1, .int p1), (2, .int p2)] [] (zE σ) (none, zE w) := by
  unfold fX5_fail at h
  refine kR.aload_n dX5_fail_0 0 rfl ?_
  refine kR.getI dX5_fail_1 flX5_34 zcf5 zp54 (Or.inl rfl) ?_
  refine kR.if_ne (tgt := 17) dX5_fail_4 (by decide) h (fun h => ?_) (fun h => ?_)
  · refine zR.sub [0] rfl ?_
    exact kX5_fail_17 _ _ h
  · refine kR.aload_n dX5_fail_7 0 rfl ?_
    refine kR.iload_n dX5_fail_8 1 rfl ?_
    refine kR.putI dX5_fail_9 fpX5_34 zcf5 zp54 rfl h (fun σ3 h => ?_)
    refine kR.aload_n dX5_fail_12 0 rfl ?_
    refine kR.iload_n dX5_fail_13 2 rfl ?_
    refine kR.putI dX5_fail_14 fpX5_37 zcf5 zp54 rfl h (fun σ4 h => ?_)
    refine zR.sub [0] rfl ?_
    exact kX5_fail_17 _ _ h
theorem lX5_fail {sc : Nat × (Nat → Int32)} (p1 : Int32) (p2 : Int32) (σ : zS) (w : zS) (h : fX5_fail p1 p2 σ = some w) : zC (zY0 sc) 1 0 0 mX5_fail [.ref 54, .int p1, .int p2] (zE σ) (none, zE w) := zC.of (by decide +kernel) (Nat.le_of_ble_eq_true rfl) rfl (eX5_fail p1 p2 σ w h)
theorem dX5_scanSign_0 : decode cX5_scanSign 0 = .ok (.aload_n 0, 1) := by decide +kernel
theorem dX5_scanSign_1 : decode cX5_scanSign 1 = .ok (.getfield 40, 3) := by decide +kernel
theorem dX5_scanSign_4 : decode cX5_scanSign 4 = .ok (.aload_n 0, 1) := by decide +kernel
theorem dX5_scanSign_5 : decode cX5_scanSign 5 = .ok (.getfield 15, 3) := by decide +kernel
theorem dX5_scanSign_8 : decode cX5_scanSign 8 = .ok (.invokevirtual 85, 3) := by decide +kernel
theorem dX5_scanSign_11 : decode cX5_scanSign 11 = .ok (.istore_n 1, 1) := by decide +kernel
theorem dX5_scanSign_12 : decode cX5_scanSign 12 = .ok (.ldc 109, 2) := by decide +kernel
theorem dX5_scanSign_14 : decode cX5_scanSign 14 = .ok (.iload_n 1, 1) := by decide +kernel
theorem dX5_scanSign_15 : decode cX5_scanSign 15 = .ok (.i2c, 1) := by decide +kernel
theorem dX5_scanSign_16 : decode cX5_scanSign 16 = .ok (.invokevirtual 111, 3) := by decide +kernel
theorem dX5_scanSign_19 : decode cX5_scanSign 19 = .ok (.ifCond .ge 13, 3) := by decide +kernel
theorem dX5_scanSign_22 : decode cX5_scanSign 22 = .ok (.aload_n 0, 1) := by decide +kernel
theorem dX5_scanSign_23 : decode cX5_scanSign 23 = .ok (.iconst 1, 1) := by decide +kernel
theorem dX5_scanSign_24 : decode cX5_scanSign 24 = .ok (.aload_n 0, 1) := by decide +kernel
theorem dX5_scanSign_25 : decode cX5_scanSign 25 = .ok (.getfield 15, 3) := by decide +kernel
theorem dX5_scanSign_28 : decode cX5_scanSign 28 = .ok (.invokevirtual 73, 3) := by decide +kernel
theorem dX5_scanSign_31 : decode cX5_scanSign 31 = .ok (.return_, 1) := by decide +kernel
theorem dX5_scanSign_32 : decode cX5_scanSign 32 = .ok (.aload_n 0, 1) := by decide +kernel
theorem dX5_scanSign_33 : decode cX5_scanSign 33 = .ok (.iload_n 1, 1) := by decide +kernel
theorem dX5_scanSign_34 : decode cX5_scanSign 34 = .ok (.putfield 22, 3) := by decide +kernel
theorem dX5_scanSign_37 : decode cX5_scanSign 37 = .ok (.aload_n 0, 1) := by decide +kernel
theorem dX5_scanSign_38 : decode cX5_scanSign 38 = .ok (.dup, 1) := by decide +kernel
theorem dX5_scanSign_39 : decode cX5_scanSign 39 = .ok (.getfield 15, 3) := by decide +kernel
theorem dX5_scanSign_42 : decode cX5_scanSign 42 = .ok (.iconst 1, 1) := by decide +kernel
theorem dX5_scanSign_43 : decode cX5_scanSign 43 = .ok (.iadd, 1) := by decide +kernel
theorem dX5_scanSign_44 : decode cX5_scanSign 44 = .ok (.putfield 15, 3) := by decide +kernel
theorem dX5_scanSign_47 : decode cX5_scanSign 47 = .ok (.return_, 1) := by decide +kernel
def fX5_scanSign (σ : zS) : Option zS := bnr (fX9_byteAt σ (iG σ 54 3)) fun v1 => bnr (fJ0_indexOf_0f7a4 1 ((((v1) : Int32).toUInt32 % 65536).toInt32)) fun v3 => if 0 ≤ v3 then bnd (iS σ 54 5 v1) fun σ5 => bnd (iS σ5 54 3 ((iG σ5 54 3) + 1)) fun σ6 => some σ6 else bnr (fX5_fail 1 (iG σ 54 3) σ) fun σ7 => some σ7
theorem eX5_scanSign {sc : Nat × (Nat → Int32)} (σ : zS) (w : zS) (h : fX5_scanSign σ = some w) : zR (zY0 sc) 5 0 0 mX5_scanSign 0 [(0, .ref 54)] [] (zE σ) (none, zE w) := by
  unfold fX5_scanSign at h
  refine kR.aload_n dX5_scanSign_0 0 rfl ?_
  refine kR.getR (v := 2) dX5_scanSign_1 flX5_40 zcf5 zp54 (Or.inl ⟨_, rfl⟩) rfl ?_
  refine kR.aload_n dX5_scanSign_4 0 rfl ?_
  refine kR.getI dX5_scanSign_5 flX5_15 zcf5 zp54 (Or.inl rfl) ?_
  obtain ⟨v1, e2, h⟩ := bnr_some h
  refine kR.cVi [.int (iG σ 54 3)] dX5_scanSign_8 rfl (by decide) mwX5_85 zp2 (by decide) rfl rfl (Nat.le_of_ble_eq_true rfl) (lX9_byteAt σ (iG σ 54 3) _ e2) ?_
  refine zR.istore_n (i := 1) (ls' := [(1, .int v1), (0, .ref 54)]) dX5_scanSign_11 rfl (by decide) rfl ?_
  refine zR.ldcS 1 dX5_scanSign_12 ⟨rfl, by decide⟩ ?_
  refine kR.iload_n dX5_scanSign_14 0 rfl ?_
  refine zR.i2c dX5_scanSign_15 ?_
  obtain ⟨v3, e4, h⟩ := bnr_some h
  refine kR.cTi 1 [.int ((((v1) : Int32).toUInt32 % 65536).toInt32)] dX5_scanSign_16 rfl (by decide) mwX5_111 (by decide) rfl rfl (Nat.le_of_ble_eq_true rfl) (lJ0_indexOf_0f7a4 1 (by decide) ((((v1) : Int32).toUInt32 % 65536).toInt32) _ e4) ?_
  refine kR.if_ge (tgt := 32) dX5_scanSign_19 (by decide) h (fun h => ?_) (fun h => ?_)
  · refine kR.aload_n dX5_scanSign_32 1 rfl ?_
    refine kR.iload_n dX5_scanSign_33 0 rfl ?_
    refine kR.putI dX5_scanSign_34 fpX5_22 zcf5 zp54 rfl h (fun σ5 h => ?_)
    refine kR.aload_n dX5_scanSign_37 1 rfl ?_
    refine zR.dup dX5_scanSign_38 rfl ?_
    refine kR.getI dX5_scanSign_39 flX5_15 zcf5 zp54 (Or.inl rfl) ?_
    refine zR.iconst (v := 1) dX5_scanSign_42 (by decide) ?_
    refine zR.iadd dX5_scanSign_43 ?_
    refine kR.putI dX5_scanSign_44 fpX5_15 zcf5 zp54 rfl h (fun σ6 h => ?_)
    exact kR.vret dX5_scanSign_47 h
  · refine kR.aload_n dX5_scanSign_22 1 rfl ?_
    refine zR.iconst (v := 1) dX5_scanSign_23 (by decide) ?_
    refine kR.aload_n dX5_scanSign_24 1 rfl ?_
    refine kR.getI dX5_scanSign_25 flX5_15 zcf5 zp54 (Or.inl rfl) ?_
    obtain ⟨σ7, e8, h⟩ := bnr_some h
    refine kR.cVv [.int 1, .int (iG σ 54 3)] dX5_scanSign_28 rfl (by decide) mwX5_73 zp54 (by decide) rfl rfl (Nat.le_of_ble_eq_true rfl) (lX5_fail 1 (iG σ 54 3) σ _ e8) ?_
    exact kR.vret dX5_scanSign_31 h
theorem lX5_scanSign {sc : Nat × (Nat → Int32)} (σ : zS) (w : zS) (h : fX5_scanSign σ = some w) : zC (zY0 sc) 5 0 0 mX5_scanSign [.ref 54] (zE σ) (none, zE w) := zC.of (by decide +kernel) (Nat.le_of_ble_eq_true rfl) rfl (eX5_scanSign σ w h)
theorem dX5_scanNumber_0 : decode cX5_scanNumber 0 = .ok (.aload_n 0, 1) := by decide +kernel
theorem dX5_scanNumber_1 : decode cX5_scanNumber 1 = .ok (.iconst 3, 1) := by decide +kernel
theorem dX5_scanNumber_2 : decode cX5_scanNumber 2 = .ok (.putfield 22, 3) := by decide +kernel
theorem dX5_scanNumber_5 : decode cX5_scanNumber 5 = .ok (.aload_n 0, 1) := by decide +kernel
theorem dX5_scanNumber_6 : decode cX5_scanNumber 6 = .ok (.iconst 0, 1) := by decide +kernel
theorem dX5_scanNumber_7 : decode cX5_scanNumber 7 = .ok (.putfield 31, 3) := by decide +kernel
theorem dX5_scanNumber_10 : decode cX5_scanNumber 10 = .ok (.aload_n 0, 1) := by decide +kernel
theorem dX5_scanNumber_11 : decode cX5_scanNumber 11 = .ok (.getfield 15, 3) := by decide +kernel
theorem dX5_scanNumber_14 : decode cX5_scanNumber 14 = .ok (.aload_n 0, 1) := by decide +kernel
theorem dX5_scanNumber_15 : decode cX5_scanNumber 15 = .ok (.getfield 40, 3) := by decide +kernel
theorem dX5_scanNumber_18 : decode cX5_scanNumber 18 = .ok (.getfield 80, 3) := by decide +kernel
theorem dX5_scanNumber_21 : decode cX5_scanNumber 21 = .ok (.if_icmp .ge 82, 3) := by decide +kernel
theorem dX5_scanNumber_24 : decode cX5_scanNumber 24 = .ok (.aload_n 0, 1) := by decide +kernel
theorem dX5_scanNumber_25 : decode cX5_scanNumber 25 = .ok (.getfield 40, 3) := by decide +kernel
theorem dX5_scanNumber_28 : decode cX5_scanNumber 28 = .ok (.aload_n 0, 1) := by decide +kernel
theorem dX5_scanNumber_29 : decode cX5_scanNumber 29 = .ok (.getfield 15, 3) := by decide +kernel
theorem dX5_scanNumber_32 : decode cX5_scanNumber 32 = .ok (.invokevirtual 85, 3) := by decide +kernel
theorem dX5_scanNumber_35 : decode cX5_scanNumber 35 = .ok (.invokestatic 96, 3) := by decide +kernel
theorem dX5_scanNumber_38 : decode cX5_scanNumber 38 = .ok (.ifCond .eq 65, 3) := by decide +kernel
theorem dX5_scanNumber_41 : decode cX5_scanNumber 41 = .ok (.aload_n 0, 1) := by decide +kernel
theorem dX5_scanNumber_42 : decode cX5_scanNumber 42 = .ok (.getfield 15, 3) := by decide +kernel
theorem dX5_scanNumber_45 : decode cX5_scanNumber 45 = .ok (.aload_n 0, 1) := by decide +kernel
theorem dX5_scanNumber_46 : decode cX5_scanNumber 46 = .ok (.getfield 19, 3) := by decide +kernel
theorem dX5_scanNumber_49 : decode cX5_scanNumber 49 = .ok (.isub, 1) := by decide +kernel
theorem dX5_scanNumber_50 : decode cX5_scanNumber 50 = .ok (.iconst 4, 1) := by decide +kernel
theorem dX5_scanNumber_51 : decode cX5_scanNumber 51 = .ok (.if_icmp .ne 13, 3) := by decide +kernel
theorem dX5_scanNumber_54 : decode cX5_scanNumber 54 = .ok (.aload_n 0, 1) := by decide +kernel
theorem dX5_scanNumber_55 : decode cX5_scanNumber 55 = .ok (.iconst 1, 1) := by decide +kernel
theorem dX5_scanNumber_56 : decode cX5_scanNumber 56 = .ok (.aload_n 0, 1) := by decide +kernel
theorem dX5_scanNumber_57 : decode cX5_scanNumber 57 = .ok (.getfield 15, 3) := by decide +kernel
theorem dX5_scanNumber_60 : decode cX5_scanNumber 60 = .ok (.invokevirtual 73, 3) := by decide +kernel
theorem dX5_scanNumber_63 : decode cX5_scanNumber 63 = .ok (.return_, 1) := by decide +kernel
theorem dX5_scanNumber_64 : decode cX5_scanNumber 64 = .ok (.aload_n 0, 1) := by decide +kernel
theorem dX5_scanNumber_65 : decode cX5_scanNumber 65 = .ok (.bipush 10, 2) := by decide +kernel
theorem dX5_scanNumber_67 : decode cX5_scanNumber 67 = .ok (.aload_n 0, 1) := by decide +kernel
theorem dX5_scanNumber_68 : decode cX5_scanNumber 68 = .ok (.getfield 31, 3) := by decide +kernel
theorem dX5_scanNumber_71 : decode cX5_scanNumber 71 = .ok (.imul, 1) := by decide +kernel
theorem dX5_scanNumber_72 : decode cX5_scanNumber 72 = .ok (.aload_n 0, 1) := by decide +kernel
theorem dX5_scanNumber_73 : decode cX5_scanNumber 73 = .ok (.getfield 40, 3) := by decide +kernel
theorem dX5_scanNumber_76 : decode cX5_scanNumber 76 = .ok (.aload_n 0, 1) := by decide +kernel
theorem dX5_scanNumber_77 : decode cX5_scanNumber 77 = .ok (.getfield 15, 3) := by decide +kernel
theorem dX5_scanNumber_80 : decode cX5_scanNumber 80 = .ok (.invokevirtual 85, 3) := by decide +kernel
theorem dX5_scanNumber_83 : decode cX5_scanNumber 83 = .ok (.iadd, 1) := by decide +kernel
theorem dX5_scanNumber_84 : decode cX5_scanNumber 84 = .ok (.bipush 48, 2) := by decide +kernel
theorem dX5_scanNumber_86 : decode cX5_scanNumber 86 = .ok (.isub, 1) := by decide +kernel
theorem dX5_scanNumber_87 : decode cX5_scanNumber 87 = .ok (.putfield 31, 3) := by decide +kernel
theorem dX5_scanNumber_90 : decode cX5_scanNumber 90 = .ok (.aload_n 0, 1) := by decide +kernel
theorem dX5_scanNumber_91 : decode cX5_scanNumber 91 = .ok (.dup, 1) := by decide +kernel
theorem dX5_scanNumber_92 : decode cX5_scanNumber 92 = .ok (.getfield 15, 3) := by decide +kernel
theorem dX5_scanNumber_95 : decode cX5_scanNumber 95 = .ok (.iconst 1, 1) := by decide +kernel
theorem dX5_scanNumber_96 : decode cX5_scanNumber 96 = .ok (.iadd, 1) := by decide +kernel
theorem dX5_scanNumber_97 : decode cX5_scanNumber 97 = .ok (.putfield 15, 3) := by decide +kernel
theorem dX5_scanNumber_100 : decode cX5_scanNumber 100 = .ok (.goto (-90), 3) := by decide +kernel
theorem dX5_scanNumber_103 : decode cX5_scanNumber 103 = .ok (.return_, 1) := by decide +kernel
def fX5_scanNumber_10 : Nat → zS → Option zS
  | 0, _ => none
  | f + 1, σ => if (iG σ 2 1) ≤ (iG σ 54 3) then some σ else bnr (fX9_byteAt σ (iG σ 54 3)) fun v3 => if (fX5_isDigit v3) = 0 then some σ else if ((iG σ 54 3) - (iG σ 54 4)) = 4 then bnr (fX5_fail 1 (iG σ 54 3) σ) fun σ9 => some σ9 else bnr (fX9_byteAt σ (iG σ 54 3)) fun v5 => bnd (iS σ 54 8 (((10 * (iG σ 54 8)) + v5) - 48)) fun σ7 => bnd (iS σ7 54 3 ((iG σ7 54 3) + 1)) fun σ8 => fX5_scanNumber_10 f σ8
theorem kX5_scanNumber_10 {sc : Nat × (Nat → Int32)} : ∀ (fuel : Nat) (σ : zS) (w : zS) (h : fX5_scanNumber_10 fuel σ = some w), zR (zY0 sc) 2 0 0 mX5_scanNumber 10 [(0, .ref 54)] [] (zE σ) (none, zE w) := by
  intro fuel
  induction fuel with
  | zero => intro σ w h; exact nomatch h
  | succ f ih =>
    intro σ w h
    rw [fX5_scanNumber_10] at h
    refine kR.aload_n dX5_scanNumber_10 0 rfl ?_
    refine kR.getI dX5_scanNumber_11 flX5_15 zcf5 zp54 (Or.inl rfl) ?_
    refine kR.aload_n dX5_scanNumber_14 0 rfl ?_
    refine kR.getR (v := 2) dX5_scanNumber_15 flX5_40 zcf5 zp54 (Or.inl ⟨_, rfl⟩) rfl ?_
    refine kR.getI dX5_scanNumber_18 flX5_80 zcf9 zp2 (Or.inl rfl) ?_
    refine kR.icmp_ge (tgt := 103) dX5_scanNumber_21 (by decide) h (fun h => ?_) (fun h => ?_)
    · exact kR.vret dX5_scanNumber_103 h
    · refine kR.aload_n dX5_scanNumber_24 0 rfl ?_
      refine kR.getR (v := 2) dX5_scanNumber_25 flX5_40 zcf5 zp54 (Or.inl ⟨_, rfl⟩) rfl ?_
      refine kR.aload_n dX5_scanNumber_28 0 rfl ?_
      refine kR.getI dX5_scanNumber_29 flX5_15 zcf5 zp54 (Or.inl rfl) ?_
      obtain ⟨v3, e4, h⟩ := bnr_some h
      refine kR.cVi [.int (iG σ 54 3)] dX5_scanNumber_32 rfl (by decide) mwX5_85 zp2 (by decide) rfl rfl (Nat.le_of_ble_eq_true rfl) (lX9_byteAt σ (iG σ 54 3) _ e4) ?_
      refine kR.cSi [.int v3] dX5_scanNumber_35 rfl (by decide) (Or.inl mwX5_96) rfl (Nat.le_of_ble_eq_true rfl) (lX5_isDigit v3) ?_
      refine kR.if_eq (tgt := 103) dX5_scanNumber_38 (by decide) h (fun h => ?_) (fun h => ?_)
      · exact kR.vret dX5_scanNumber_103 h
      · refine kR.aload_n dX5_scanNumber_41 0 rfl ?_
        refine kR.getI dX5_scanNumber_42 flX5_15 zcf5 zp54 (Or.inl rfl) ?_
        refine kR.aload_n dX5_scanNumber_45 0 rfl ?_
        refine kR.getI dX5_scanNumber_46 flX5_19 zcf5 zp54 (Or.inl rfl) ?_
        refine zR.isub dX5_scanNumber_49 ?_
        refine zR.iconst (v := 4) dX5_scanNumber_50 (by decide) ?_
        refine kR.icmp_ne (tgt := 64) dX5_scanNumber_51 (by decide) h (fun h => ?_) (fun h => ?_)
        · refine kR.aload_n dX5_scanNumber_64 0 rfl ?_
          refine zR.bipush (v := 10) dX5_scanNumber_65 (by decide) ?_
          refine kR.aload_n dX5_scanNumber_67 0 rfl ?_
          refine kR.getI dX5_scanNumber_68 flX5_31 zcf5 zp54 (Or.inl rfl) ?_
          refine zR.imul dX5_scanNumber_71 ?_
          refine kR.aload_n dX5_scanNumber_72 0 rfl ?_
          refine kR.getR (v := 2) dX5_scanNumber_73 flX5_40 zcf5 zp54 (Or.inl ⟨_, rfl⟩) rfl ?_
          refine kR.aload_n dX5_scanNumber_76 0 rfl ?_
          refine kR.getI dX5_scanNumber_77 flX5_15 zcf5 zp54 (Or.inl rfl) ?_
          obtain ⟨v5, e6, h⟩ := bnr_some h
          refine kR.cVi [.int (iG σ 54 3)] dX5_scanNumber_80 rfl (by decide) mwX5_85 zp2 (by decide) rfl rfl (Nat.le_of_ble_eq_true rfl) (lX9_byteAt σ (iG σ 54 3) _ e6) ?_
          refine zR.iadd dX5_scanNumber_83 ?_
          refine zR.bipush (v := 48) dX5_scanNumber_84 (by decide) ?_
          refine zR.isub dX5_scanNumber_86 ?_
          refine kR.putI dX5_scanNumber_87 fpX5_31 zcf5 zp54 rfl h (fun σ7 h => ?_)
          refine kR.aload_n dX5_scanNumber_90 0 rfl ?_
          refine zR.dup dX5_scanNumber_91 rfl ?_
          refine kR.getI dX5_scanNumber_92 flX5_15 zcf5 zp54 (Or.inl rfl) ?_
          refine zR.iconst (v := 1) dX5_scanNumber_95 (by decide) ?_
          refine zR.iadd dX5_scanNumber_96 ?_
          refine kR.putI dX5_scanNumber_97 fpX5_15 zcf5 zp54 rfl h (fun σ8 h => ?_)
          refine zR.goto (tgt := 10) dX5_scanNumber_100 (by decide) ?_
          exact ih _ _ h
        · refine kR.aload_n dX5_scanNumber_54 0 rfl ?_
          refine zR.iconst (v := 1) dX5_scanNumber_55 (by decide) ?_
          refine kR.aload_n dX5_scanNumber_56 0 rfl ?_
          refine kR.getI dX5_scanNumber_57 flX5_15 zcf5 zp54 (Or.inl rfl) ?_
          obtain ⟨σ9, e10, h⟩ := bnr_some h
          refine kR.cVv [.int 1, .int (iG σ 54 3)] dX5_scanNumber_60 rfl (by decide) mwX5_73 zp54 (by decide) rfl rfl (Nat.le_of_ble_eq_true rfl) (lX5_fail 1 (iG σ 54 3) σ _ e10) ?_
          exact kR.vret dX5_scanNumber_63 h
def fX5_scanNumber (σ : zS) : Option zS := bnd (iS σ 54 5 3) fun σ1 => bnd (iS σ1 54 8 0) fun σ2 => fX5_scanNumber_10 zF σ2
theorem eX5_scanNumber {sc : Nat × (Nat → Int32)} (σ : zS) (w : zS) (h : fX5_scanNumber σ = some w) : zR (zY0 sc) 2 0 0 mX5_scanNumber 0 [(0, .ref 54)] [] (zE σ) (none, zE w) := by
  unfold fX5_scanNumber at h
  refine kR.aload_n dX5_scanNumber_0 0 rfl ?_
  refine zR.iconst (v := 3) dX5_scanNumber_1 (by decide) ?_
  refine kR.putI dX5_scanNumber_2 fpX5_22 zcf5 zp54 rfl h (fun σ1 h => ?_)
  refine kR.aload_n dX5_scanNumber_5 0 rfl ?_
  refine zR.iconst (v := 0) dX5_scanNumber_6 (by decide) ?_
  refine kR.putI dX5_scanNumber_7 fpX5_31 zcf5 zp54 rfl h (fun σ2 h => ?_)
  exact kX5_scanNumber_10 zF _ _ h
theorem lX5_scanNumber {sc : Nat × (Nat → Int32)} (σ : zS) (w : zS) (h : fX5_scanNumber σ = some w) : zC (zY0 sc) 2 0 0 mX5_scanNumber [.ref 54] (zE σ) (none, zE w) := zC.of (by decide +kernel) (Nat.le_of_ble_eq_true rfl) rfl (eX5_scanNumber σ w h)
theorem dX6_find_0 : decode cX6_find 0 = .ok (.iconst 0, 1) := by decide +kernel
theorem dX6_find_1 : decode cX6_find 1 = .ok (.istore_n 3, 1) := by decide +kernel
theorem dX6_find_2 : decode cX6_find 2 = .ok (.iload_n 3, 1) := by decide +kernel
theorem dX6_find_3 : decode cX6_find 3 = .ok (.iload_n 1, 1) := by decide +kernel
theorem dX6_find_4 : decode cX6_find 4 = .ok (.if_icmp .ge 24, 3) := by decide +kernel
theorem dX6_find_7 : decode cX6_find 7 = .ok (.iload_n 3, 1) := by decide +kernel
theorem dX6_find_8 : decode cX6_find 8 = .ok (.aload_n 0, 1) := by decide +kernel
theorem dX6_find_9 : decode cX6_find 9 = .ok (.arraylength, 1) := by decide +kernel
theorem dX6_find_10 : decode cX6_find 10 = .ok (.if_icmp .ge 18, 3) := by decide +kernel
theorem dX6_find_13 : decode cX6_find 13 = .ok (.aload_n 0, 1) := by decide +kernel
theorem dX6_find_14 : decode cX6_find 14 = .ok (.iload_n 3, 1) := by decide +kernel
theorem dX6_find_15 : decode cX6_find 15 = .ok (.iaload, 1) := by decide +kernel
theorem dX6_find_16 : decode cX6_find 16 = .ok (.iload_n 2, 1) := by decide +kernel
theorem dX6_find_17 : decode cX6_find 17 = .ok (.if_icmp .ne 5, 3) := by decide +kernel
theorem dX6_find_20 : decode cX6_find 20 = .ok (.iload_n 3, 1) := by decide +kernel
theorem dX6_find_21 : decode cX6_find 21 = .ok (.ireturn, 1) := by decide +kernel
theorem dX6_find_22 : decode cX6_find 22 = .ok (.iinc 3 1, 3) := by decide +kernel
theorem dX6_find_25 : decode cX6_find 25 = .ok (.goto (-23), 3) := by decide +kernel
theorem dX6_find_28 : decode cX6_find 28 = .ok (.iconst (-1), 1) := by decide +kernel
theorem dX6_find_29 : decode cX6_find 29 = .ok (.ireturn, 1) := by decide +kernel
def fX6_find_2 (a0 : Nat) (n0 : Nat) (σ : zS) : Nat → Int32 → Int32 → Int32 → Option Int32
  | 0, _, _, _ => none
  | f + 1, x1, x2, x3 => if x1 ≤ x3 then some ((-1)) else if (Int32.ofNat n0) ≤ x3 then some ((-1)) else aI σ a0 n0 x3 fun v1 => if v1 = x2 then some x3 else fX6_find_2 a0 n0 σ f x1 x2 (x3 + 1)
theorem kX6_find_2 {sc : Nat × (Nat → Int32)} (a0 : Nat) (n0 : Nat) (σ : zS) (ha0 : ∀ σ, zAt (zY0 sc) (zE σ) a0 20) (hna0 : (zY0 sc).2.1 a0 = n0) (hma0 : n0 ≤ 2147483647) : ∀ (fuel : Nat) (x1 : Int32) (x2 : Int32) (x3 : Int32) (w : Int32) (h : fX6_find_2 a0 n0 σ fuel x1 x2 x3 = some w), zR (zY0 sc) 1 0 0 mX6_find 2 [(0, .ref a0), (1, .int x1), (2, .int x2), (3, .int x3)] [] (zE σ) (some (.int w), zE σ) := by
  intro fuel
  induction fuel with
  | zero => intro x1 x2 x3 w h; exact nomatch h
  | succ f ih =>
    intro x1 x2 x3 w h
    rw [fX6_find_2] at h
    refine kR.iload_n dX6_find_2 3 rfl ?_
    refine kR.iload_n dX6_find_3 1 rfl ?_
    refine kR.icmp_ge (tgt := 28) dX6_find_4 (by decide) h (fun h => ?_) (fun h => ?_)
    · refine zR.iconst (v := (-1)) dX6_find_28 (by decide) ?_
      exact kR.iretO dX6_find_29 (nzI rfl _) h
    · refine kR.iload_n dX6_find_7 3 rfl ?_
      refine kR.aload_n dX6_find_8 0 rfl ?_
      refine zR.alen (v := Int32.ofNat n0) dX6_find_9 (Or.inl (ha0 _)) (by rw [hna0]) ?_
      refine kR.icmp_ge (tgt := 28) dX6_find_10 (by decide) h (fun h => ?_) (fun h => ?_)
      · refine zR.iconst (v := (-1)) dX6_find_28 (by decide) ?_
        exact kR.iretO dX6_find_29 (nzI rfl _) h
      · refine kR.aload_n dX6_find_13 0 rfl ?_
        refine kR.iload_n dX6_find_14 3 rfl ?_
        refine kR.iald dX6_find_15 (ha0 _) hna0 h (fun v1 h => ?_)
        refine kR.iload_n dX6_find_16 2 rfl ?_
        refine kR.icmp_ne (tgt := 22) dX6_find_17 (by decide) h (fun h => ?_) (fun h => ?_)
        · refine zR.iinc 3 (v := x3 + 1) (ls' := [(3, .int (x3 + 1)), (0, .ref a0), (1, .int x1), (2, .int x2)]) dX6_find_22 rfl rfl (by decide) rfl ?_
          refine zR.goto (tgt := 2) dX6_find_25 (by decide) ?_
          refine zR.sub [1, 2, 3, 0] rfl ?_
          exact ih _ _ _ _ h
        · refine kR.iload_n dX6_find_20 3 rfl ?_
          exact kR.iretO dX6_find_21 (nzI rfl _) h
def fX6_find (a0 : Nat) (n0 : Nat) (σ : zS) (p1 : Int32) (p2 : Int32) : Option Int32 := fX6_find_2 a0 n0 σ zF p1 p2 0
theorem eX6_find {sc : Nat × (Nat → Int32)} (a0 : Nat) (n0 : Nat) (σ : zS) (ha0 : ∀ σ, zAt (zY0 sc) (zE σ) a0 20) (hna0 : (zY0 sc).2.1 a0 = n0) (hma0 : n0 ≤ 2147483647) (p1 : Int32) (p2 : Int32) (w : Int32) (h : fX6_find a0 n0 σ p1 p2 = some w) : zR (zY0 sc) 1 0 0 mX6_find 0 [(0, .ref a0), (1, .int p1), (2, .int p2)] [] (zE σ) (some (.int w), zE σ) := by
  unfold fX6_find at h
  refine zR.iconst (v := 0) dX6_find_0 (by decide) ?_
  refine zR.istore_n (i := 3) (ls' := [(3, .int 0), (0, .ref a0), (1, .int p1), (2, .int p2)]) dX6_find_1 rfl (by decide) rfl ?_
  refine zR.sub [1, 2, 3, 0] rfl ?_
  exact kX6_find_2 a0 n0 σ ha0 hna0 hma0 zF _ _ _ _ h
theorem lX6_find {sc : Nat × (Nat → Int32)} (a0 : Nat) (n0 : Nat) (σ : zS) (ha0 : ∀ σ, zAt (zY0 sc) (zE σ) a0 20) (hna0 : (zY0 sc).2.1 a0 = n0) (hma0 : n0 ≤ 2147483647) (p1 : Int32) (p2 : Int32) (w : Int32) (h : fX6_find a0 n0 σ p1 p2 = some w) : zC (zY0 sc) 1 0 0 mX6_find [.ref a0, .int p1, .int p2] (zE σ) (some (.int w), zE σ) := zC.of (by decide +kernel) (Nat.le_of_ble_eq_true rfl) ⟨_, rfl⟩ (eX6_find a0 n0 σ ha0 hna0 hma0 p1 p2 w h)
theorem dX5_withLetter_0 : decode cX5_withLetter 0 = .ok (.iload_n 0, 1) := by decide +kernel
theorem dX5_withLetter_1 : decode cX5_withLetter 1 = .ok (.iload_n 2, 1) := by decide +kernel
theorem dX5_withLetter_2 : decode cX5_withLetter 2 = .ok (.bipush 97, 2) := by decide +kernel
theorem dX5_withLetter_4 : decode cX5_withLetter 4 = .ok (.isub, 1) := by decide +kernel
theorem dX5_withLetter_5 : decode cX5_withLetter 5 = .ok (.iconst 1, 1) := by decide +kernel
theorem dX5_withLetter_6 : decode cX5_withLetter 6 = .ok (.iadd, 1) := by decide +kernel
theorem dX5_withLetter_7 : decode cX5_withLetter 7 = .ok (.iconst 5, 1) := by decide +kernel
theorem dX5_withLetter_8 : decode cX5_withLetter 8 = .ok (.iconst 5, 1) := by decide +kernel
theorem dX5_withLetter_9 : decode cX5_withLetter 9 = .ok (.iload_n 1, 1) := by decide +kernel
theorem dX5_withLetter_10 : decode cX5_withLetter 10 = .ok (.isub, 1) := by decide +kernel
theorem dX5_withLetter_11 : decode cX5_withLetter 11 = .ok (.imul, 1) := by decide +kernel
theorem dX5_withLetter_12 : decode cX5_withLetter 12 = .ok (.ishl, 1) := by decide +kernel
theorem dX5_withLetter_13 : decode cX5_withLetter 13 = .ok (.ior, 1) := by decide +kernel
theorem dX5_withLetter_14 : decode cX5_withLetter 14 = .ok (.ireturn, 1) := by decide +kernel
def fX5_withLetter (p0 : Int32) (p1 : Int32) (p2 : Int32) : Int32 := p0 ||| (((p2 - 97) + 1) <<< ((5 * (5 - p1)) &&& 31))
theorem eX5_withLetter {sc : Nat × (Nat → Int32)} {μ : zM} (p0 : Int32) (p1 : Int32) (p2 : Int32) (w : Int32) (h : fX5_withLetter p0 p1 p2 = w) : zR (zY0 sc) 1 0 0 mX5_withLetter 0 [(0, .int p0), (1, .int p1), (2, .int p2)] [] μ (some (.int w), μ) := by
  unfold fX5_withLetter at h
  refine kR.iload_n dX5_withLetter_0 0 rfl ?_
  refine kR.iload_n dX5_withLetter_1 2 rfl ?_
  refine zR.bipush (v := 97) dX5_withLetter_2 (by decide) ?_
  refine zR.isub dX5_withLetter_4 ?_
  refine zR.iconst (v := 1) dX5_withLetter_5 (by decide) ?_
  refine zR.iadd dX5_withLetter_6 ?_
  refine zR.iconst (v := 5) dX5_withLetter_7 (by decide) ?_
  refine zR.iconst (v := 5) dX5_withLetter_8 (by decide) ?_
  refine kR.iload_n dX5_withLetter_9 1 rfl ?_
  refine zR.isub dX5_withLetter_10 ?_
  refine zR.imul dX5_withLetter_11 ?_
  refine zR.ishl dX5_withLetter_12 ?_
  refine zR.ior dX5_withLetter_13 ?_
  exact kR.iret dX5_withLetter_14 (nzI rfl _) h
theorem lX5_withLetter {sc : Nat × (Nat → Int32)} {μ : zM} (p0 : Int32) (p1 : Int32) (p2 : Int32) : zC (zY0 sc) 1 0 0 mX5_withLetter [.int p0, .int p1, .int p2] μ (some (.int (fX5_withLetter p0 p1 p2)), μ) := zC.of (by decide +kernel) (Nat.le_of_ble_eq_true rfl) ⟨_, rfl⟩ (eX5_withLetter p0 p1 p2 _ rfl)
theorem dX5_scanWord_0 : decode cX5_scanWord 0 = .ok (.aload_n 0, 1) := by decide +kernel
theorem dX5_scanWord_1 : decode cX5_scanWord 1 = .ok (.iconst 2, 1) := by decide +kernel
theorem dX5_scanWord_2 : decode cX5_scanWord 2 = .ok (.putfield 22, 3) := by decide +kernel
theorem dX5_scanWord_5 : decode cX5_scanWord 5 = .ok (.aload_n 0, 1) := by decide +kernel
theorem dX5_scanWord_6 : decode cX5_scanWord 6 = .ok (.iconst 0, 1) := by decide +kernel
theorem dX5_scanWord_7 : decode cX5_scanWord 7 = .ok (.putfield 28, 3) := by decide +kernel
theorem dX5_scanWord_10 : decode cX5_scanWord 10 = .ok (.aload_n 0, 1) := by decide +kernel
theorem dX5_scanWord_11 : decode cX5_scanWord 11 = .ok (.getfield 15, 3) := by decide +kernel
theorem dX5_scanWord_14 : decode cX5_scanWord 14 = .ok (.aload_n 0, 1) := by decide +kernel
theorem dX5_scanWord_15 : decode cX5_scanWord 15 = .ok (.getfield 40, 3) := by decide +kernel
theorem dX5_scanWord_18 : decode cX5_scanWord 18 = .ok (.getfield 80, 3) := by decide +kernel
theorem dX5_scanWord_21 : decode cX5_scanWord 21 = .ok (.if_icmp .ge 88, 3) := by decide +kernel
theorem dX5_scanWord_24 : decode cX5_scanWord 24 = .ok (.aload_n 0, 1) := by decide +kernel
theorem dX5_scanWord_25 : decode cX5_scanWord 25 = .ok (.getfield 40, 3) := by decide +kernel
theorem dX5_scanWord_28 : decode cX5_scanWord 28 = .ok (.aload_n 0, 1) := by decide +kernel
theorem dX5_scanWord_29 : decode cX5_scanWord 29 = .ok (.getfield 15, 3) := by decide +kernel
theorem dX5_scanWord_32 : decode cX5_scanWord 32 = .ok (.invokevirtual 85, 3) := by decide +kernel
theorem dX5_scanWord_35 : decode cX5_scanWord 35 = .ok (.invokestatic 89, 3) := by decide +kernel
theorem dX5_scanWord_38 : decode cX5_scanWord 38 = .ok (.ifCond .eq 71, 3) := by decide +kernel
theorem dX5_scanWord_41 : decode cX5_scanWord 41 = .ok (.aload_n 0, 1) := by decide +kernel
theorem dX5_scanWord_42 : decode cX5_scanWord 42 = .ok (.getfield 15, 3) := by decide +kernel
theorem dX5_scanWord_45 : decode cX5_scanWord 45 = .ok (.aload_n 0, 1) := by decide +kernel
theorem dX5_scanWord_46 : decode cX5_scanWord 46 = .ok (.getfield 19, 3) := by decide +kernel
theorem dX5_scanWord_49 : decode cX5_scanWord 49 = .ok (.isub, 1) := by decide +kernel
theorem dX5_scanWord_50 : decode cX5_scanWord 50 = .ok (.bipush 6, 2) := by decide +kernel
theorem dX5_scanWord_52 : decode cX5_scanWord 52 = .ok (.if_icmp .ne 13, 3) := by decide +kernel
theorem dX5_scanWord_55 : decode cX5_scanWord 55 = .ok (.aload_n 0, 1) := by decide +kernel
theorem dX5_scanWord_56 : decode cX5_scanWord 56 = .ok (.iconst 1, 1) := by decide +kernel
theorem dX5_scanWord_57 : decode cX5_scanWord 57 = .ok (.aload_n 0, 1) := by decide +kernel
theorem dX5_scanWord_58 : decode cX5_scanWord 58 = .ok (.getfield 15, 3) := by decide +kernel
theorem dX5_scanWord_61 : decode cX5_scanWord 61 = .ok (.invokevirtual 73, 3) := by decide +kernel
theorem dX5_scanWord_64 : decode cX5_scanWord 64 = .ok (.return_, 1) := by decide +kernel
theorem dX5_scanWord_65 : decode cX5_scanWord 65 = .ok (.aload_n 0, 1) := by decide +kernel
theorem dX5_scanWord_66 : decode cX5_scanWord 66 = .ok (.aload_n 0, 1) := by decide +kernel
theorem dX5_scanWord_67 : decode cX5_scanWord 67 = .ok (.getfield 28, 3) := by decide +kernel
theorem dX5_scanWord_70 : decode cX5_scanWord 70 = .ok (.aload_n 0, 1) := by decide +kernel
theorem dX5_scanWord_71 : decode cX5_scanWord 71 = .ok (.getfield 15, 3) := by decide +kernel
theorem dX5_scanWord_74 : decode cX5_scanWord 74 = .ok (.aload_n 0, 1) := by decide +kernel
theorem dX5_scanWord_75 : decode cX5_scanWord 75 = .ok (.getfield 19, 3) := by decide +kernel
theorem dX5_scanWord_78 : decode cX5_scanWord 78 = .ok (.isub, 1) := by decide +kernel
theorem dX5_scanWord_79 : decode cX5_scanWord 79 = .ok (.aload_n 0, 1) := by decide +kernel
theorem dX5_scanWord_80 : decode cX5_scanWord 80 = .ok (.getfield 40, 3) := by decide +kernel
theorem dX5_scanWord_83 : decode cX5_scanWord 83 = .ok (.aload_n 0, 1) := by decide +kernel
theorem dX5_scanWord_84 : decode cX5_scanWord 84 = .ok (.getfield 15, 3) := by decide +kernel
theorem dX5_scanWord_87 : decode cX5_scanWord 87 = .ok (.invokevirtual 85, 3) := by decide +kernel
theorem dX5_scanWord_90 : decode cX5_scanWord 90 = .ok (.invokestatic 60, 3) := by decide +kernel
theorem dX5_scanWord_93 : decode cX5_scanWord 93 = .ok (.putfield 28, 3) := by decide +kernel
theorem dX5_scanWord_96 : decode cX5_scanWord 96 = .ok (.aload_n 0, 1) := by decide +kernel
theorem dX5_scanWord_97 : decode cX5_scanWord 97 = .ok (.dup, 1) := by decide +kernel
theorem dX5_scanWord_98 : decode cX5_scanWord 98 = .ok (.getfield 15, 3) := by decide +kernel
theorem dX5_scanWord_101 : decode cX5_scanWord 101 = .ok (.iconst 1, 1) := by decide +kernel
theorem dX5_scanWord_102 : decode cX5_scanWord 102 = .ok (.iadd, 1) := by decide +kernel
theorem dX5_scanWord_103 : decode cX5_scanWord 103 = .ok (.putfield 15, 3) := by decide +kernel
theorem dX5_scanWord_106 : decode cX5_scanWord 106 = .ok (.goto (-96), 3) := by decide +kernel
theorem dX5_scanWord_109 : decode cX5_scanWord 109 = .ok (.aload_n 0, 1) := by decide +kernel
theorem dX5_scanWord_110 : decode cX5_scanWord 110 = .ok (.aload_n 0, 1) := by decide +kernel
theorem dX5_scanWord_111 : decode cX5_scanWord 111 = .ok (.getfield 11, 3) := by decide +kernel
theorem dX5_scanWord_114 : decode cX5_scanWord 114 = .ok (.bipush 25, 2) := by decide +kernel
theorem dX5_scanWord_116 : decode cX5_scanWord 116 = .ok (.aload_n 0, 1) := by decide +kernel
theorem dX5_scanWord_117 : decode cX5_scanWord 117 = .ok (.getfield 28, 3) := by decide +kernel
theorem dX5_scanWord_120 : decode cX5_scanWord 120 = .ok (.invokestatic 105, 3) := by decide +kernel
theorem dX5_scanWord_123 : decode cX5_scanWord 123 = .ok (.putfield 25, 3) := by decide +kernel
theorem dX5_scanWord_126 : decode cX5_scanWord 126 = .ok (.return_, 1) := by decide +kernel
def fX5_scanWord_109 (σ : zS) : Option zS := bnr (fX6_find 55 25 σ 25 (iG σ 54 7)) fun v3 => bnd (iS σ 54 6 v3) fun σ5 => some σ5
theorem kX5_scanWord_109 {sc : Nat × (Nat → Int32)} (σ : zS) (w : zS) (h : fX5_scanWord_109 σ = some w) : zR (zY0 sc) 2 0 0 mX5_scanWord 109 [(0, .ref 54)] [] (zE σ) (none, zE w) := by
  unfold fX5_scanWord_109 at h
  refine kR.aload_n dX5_scanWord_109 0 rfl ?_
  refine kR.aload_n dX5_scanWord_110 0 rfl ?_
  refine kR.getR (v := 55) dX5_scanWord_111 flX5_11 zcf5 zp54 (Or.inr ⟨_, rfl⟩) rfl ?_
  refine zR.bipush (v := 25) dX5_scanWord_114 (by decide) ?_
  refine kR.aload_n dX5_scanWord_116 0 rfl ?_
  refine kR.getI dX5_scanWord_117 flX5_28 zcf5 zp54 (Or.inl rfl) ?_
  obtain ⟨v3, e4, h⟩ := bnr_some h
  refine kR.cSi [.ref 55, .int 25, .int (iG σ 54 7)] dX5_scanWord_120 rfl (by decide) (Or.inl mwX5_105) rfl (Nat.le_of_ble_eq_true rfl) (lX6_find 55 25 σ (fun _ => zp55) rfl (Nat.le_of_ble_eq_true rfl) 25 (iG σ 54 7) _ e4) ?_
  refine kR.putI dX5_scanWord_123 fpX5_25 zcf5 zp54 rfl h (fun σ5 h => ?_)
  exact kR.vret dX5_scanWord_126 h
def fX5_scanWord_10 : Nat → zS → Option zS
  | 0, _ => none
  | f + 1, σ => if (iG σ 2 1) ≤ (iG σ 54 3) then fX5_scanWord_109 σ else bnr (fX9_byteAt σ (iG σ 54 3)) fun v6 => if (fX5_isLetter v6) = 0 then fX5_scanWord_109 σ else if ((iG σ 54 3) - (iG σ 54 4)) = 6 then bnr (fX5_fail 1 (iG σ 54 3) σ) fun σ12 => some σ12 else bnr (fX9_byteAt σ (iG σ 54 3)) fun v8 => bnd (iS σ 54 7 (fX5_withLetter (iG σ 54 7) ((iG σ 54 3) - (iG σ 54 4)) v8)) fun σ10 => bnd (iS σ10 54 3 ((iG σ10 54 3) + 1)) fun σ11 => fX5_scanWord_10 f σ11
theorem kX5_scanWord_10 {sc : Nat × (Nat → Int32)} : ∀ (fuel : Nat) (σ : zS) (w : zS) (h : fX5_scanWord_10 fuel σ = some w), zR (zY0 sc) 2 0 0 mX5_scanWord 10 [(0, .ref 54)] [] (zE σ) (none, zE w) := by
  intro fuel
  induction fuel with
  | zero => intro σ w h; exact nomatch h
  | succ f ih =>
    intro σ w h
    rw [fX5_scanWord_10] at h
    refine kR.aload_n dX5_scanWord_10 0 rfl ?_
    refine kR.getI dX5_scanWord_11 flX5_15 zcf5 zp54 (Or.inl rfl) ?_
    refine kR.aload_n dX5_scanWord_14 0 rfl ?_
    refine kR.getR (v := 2) dX5_scanWord_15 flX5_40 zcf5 zp54 (Or.inl ⟨_, rfl⟩) rfl ?_
    refine kR.getI dX5_scanWord_18 flX5_80 zcf9 zp2 (Or.inl rfl) ?_
    refine kR.icmp_ge (tgt := 109) dX5_scanWord_21 (by decide) h (fun h => ?_) (fun h => ?_)
    · exact kX5_scanWord_109 _ _ h
    · refine kR.aload_n dX5_scanWord_24 0 rfl ?_
      refine kR.getR (v := 2) dX5_scanWord_25 flX5_40 zcf5 zp54 (Or.inl ⟨_, rfl⟩) rfl ?_
      refine kR.aload_n dX5_scanWord_28 0 rfl ?_
      refine kR.getI dX5_scanWord_29 flX5_15 zcf5 zp54 (Or.inl rfl) ?_
      obtain ⟨v6, e7, h⟩ := bnr_some h
      refine kR.cVi [.int (iG σ 54 3)] dX5_scanWord_32 rfl (by decide) mwX5_85 zp2 (by decide) rfl rfl (Nat.le_of_ble_eq_true rfl) (lX9_byteAt σ (iG σ 54 3) _ e7) ?_
      refine kR.cSi [.int v6] dX5_scanWord_35 rfl (by decide) (Or.inl mwX5_89) rfl (Nat.le_of_ble_eq_true rfl) (lX5_isLetter v6) ?_
      refine kR.if_eq (tgt := 109) dX5_scanWord_38 (by decide) h (fun h => ?_) (fun h => ?_)
      · exact kX5_scanWord_109 _ _ h
      · refine kR.aload_n dX5_scanWord_41 0 rfl ?_
        refine kR.getI dX5_scanWord_42 flX5_15 zcf5 zp54 (Or.inl rfl) ?_
        refine kR.aload_n dX5_scanWord_45 0 rfl ?_
        refine kR.getI dX5_scanWord_46 flX5_19 zcf5 zp54 (Or.inl rfl) ?_
        refine zR.isub dX5_scanWord_49 ?_
        refine zR.bipush (v := 6) dX5_scanWord_50 (by decide) ?_
        refine kR.icmp_ne (tgt := 65) dX5_scanWord_52 (by decide) h (fun h => ?_) (fun h => ?_)
        · refine kR.aload_n dX5_scanWord_65 0 rfl ?_
          refine kR.aload_n dX5_scanWord_66 0 rfl ?_
          refine kR.getI dX5_scanWord_67 flX5_28 zcf5 zp54 (Or.inl rfl) ?_
          refine kR.aload_n dX5_scanWord_70 0 rfl ?_
          refine kR.getI dX5_scanWord_71 flX5_15 zcf5 zp54 (Or.inl rfl) ?_
          refine kR.aload_n dX5_scanWord_74 0 rfl ?_
          refine kR.getI dX5_scanWord_75 flX5_19 zcf5 zp54 (Or.inl rfl) ?_
          refine zR.isub dX5_scanWord_78 ?_
          refine kR.aload_n dX5_scanWord_79 0 rfl ?_
          refine kR.getR (v := 2) dX5_scanWord_80 flX5_40 zcf5 zp54 (Or.inl ⟨_, rfl⟩) rfl ?_
          refine kR.aload_n dX5_scanWord_83 0 rfl ?_
          refine kR.getI dX5_scanWord_84 flX5_15 zcf5 zp54 (Or.inl rfl) ?_
          obtain ⟨v8, e9, h⟩ := bnr_some h
          refine kR.cVi [.int (iG σ 54 3)] dX5_scanWord_87 rfl (by decide) mwX5_85 zp2 (by decide) rfl rfl (Nat.le_of_ble_eq_true rfl) (lX9_byteAt σ (iG σ 54 3) _ e9) ?_
          refine kR.cSi [.int (iG σ 54 7), .int ((iG σ 54 3) - (iG σ 54 4)), .int v8] dX5_scanWord_90 rfl (by decide) (Or.inl mwX5_60) rfl (Nat.le_of_ble_eq_true rfl) (lX5_withLetter (iG σ 54 7) ((iG σ 54 3) - (iG σ 54 4)) v8) ?_
          refine kR.putI dX5_scanWord_93 fpX5_28 zcf5 zp54 rfl h (fun σ10 h => ?_)
          refine kR.aload_n dX5_scanWord_96 0 rfl ?_
          refine zR.dup dX5_scanWord_97 rfl ?_
          refine kR.getI dX5_scanWord_98 flX5_15 zcf5 zp54 (Or.inl rfl) ?_
          refine zR.iconst (v := 1) dX5_scanWord_101 (by decide) ?_
          refine zR.iadd dX5_scanWord_102 ?_
          refine kR.putI dX5_scanWord_103 fpX5_15 zcf5 zp54 rfl h (fun σ11 h => ?_)
          refine zR.goto (tgt := 10) dX5_scanWord_106 (by decide) ?_
          exact ih _ _ h
        · refine kR.aload_n dX5_scanWord_55 0 rfl ?_
          refine zR.iconst (v := 1) dX5_scanWord_56 (by decide) ?_
          refine kR.aload_n dX5_scanWord_57 0 rfl ?_
          refine kR.getI dX5_scanWord_58 flX5_15 zcf5 zp54 (Or.inl rfl) ?_
          obtain ⟨σ12, e13, h⟩ := bnr_some h
          refine kR.cVv [.int 1, .int (iG σ 54 3)] dX5_scanWord_61 rfl (by decide) mwX5_73 zp54 (by decide) rfl rfl (Nat.le_of_ble_eq_true rfl) (lX5_fail 1 (iG σ 54 3) σ _ e13) ?_
          exact kR.vret dX5_scanWord_64 h
def fX5_scanWord (σ : zS) : Option zS := bnd (iS σ 54 5 2) fun σ1 => bnd (iS σ1 54 7 0) fun σ2 => fX5_scanWord_10 zF σ2
theorem eX5_scanWord {sc : Nat × (Nat → Int32)} (σ : zS) (w : zS) (h : fX5_scanWord σ = some w) : zR (zY0 sc) 2 0 0 mX5_scanWord 0 [(0, .ref 54)] [] (zE σ) (none, zE w) := by
  unfold fX5_scanWord at h
  refine kR.aload_n dX5_scanWord_0 0 rfl ?_
  refine zR.iconst (v := 2) dX5_scanWord_1 (by decide) ?_
  refine kR.putI dX5_scanWord_2 fpX5_22 zcf5 zp54 rfl h (fun σ1 h => ?_)
  refine kR.aload_n dX5_scanWord_5 0 rfl ?_
  refine zR.iconst (v := 0) dX5_scanWord_6 (by decide) ?_
  refine kR.putI dX5_scanWord_7 fpX5_28 zcf5 zp54 rfl h (fun σ2 h => ?_)
  exact kX5_scanWord_10 zF _ _ h
theorem lX5_scanWord {sc : Nat × (Nat → Int32)} (σ : zS) (w : zS) (h : fX5_scanWord σ = some w) : zC (zY0 sc) 2 0 0 mX5_scanWord [.ref 54] (zE σ) (none, zE w) := zC.of (by decide +kernel) (Nat.le_of_ble_eq_true rfl) rfl (eX5_scanWord σ w h)

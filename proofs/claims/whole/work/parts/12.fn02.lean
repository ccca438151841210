/-! MY OWN (by program): X8_add, X5_isOpened, X5_takeSign, X8_landHere, X5_factOf, GX5_readBoth, X5_readTold, X5_readStatement -/
theorem dX8_add_0 : decode cX8_add 0 = .ok (.aload_n 0, 1) := by decide +kernel
theorem dX8_add_1 : decode cX8_add 1 = .ok (.getfield 22, 3) := by decide +kernel
theorem dX8_add_4 : decode cX8_add 4 = .ok (.aload_n 0, 1) := by decide +kernel
theorem dX8_add_5 : decode cX8_add 5 = .ok (.getfield 9, 3) := by decide +kernel
theorem dX8_add_8 : decode cX8_add 8 = .ok (.arraylength, 1) := by decide +kernel
theorem dX8_add_9 : decode cX8_add 9 = .ok (.if_icmp .ge 28, 3) := by decide +kernel
theorem dX8_add_12 : decode cX8_add 12 = .ok (.aload_n 0, 1) := by decide +kernel
theorem dX8_add_13 : decode cX8_add 13 = .ok (.getfield 9, 3) := by decide +kernel
theorem dX8_add_16 : decode cX8_add 16 = .ok (.aload_n 0, 1) := by decide +kernel
theorem dX8_add_17 : decode cX8_add 17 = .ok (.getfield 22, 3) := by decide +kernel
theorem dX8_add_20 : decode cX8_add 20 = .ok (.iload_n 2, 1) := by decide +kernel
theorem dX8_add_21 : decode cX8_add 21 = .ok (.bipush 64, 2) := by decide +kernel
theorem dX8_add_23 : decode cX8_add 23 = .ok (.imul, 1) := by decide +kernel
theorem dX8_add_24 : decode cX8_add 24 = .ok (.iload_n 1, 1) := by decide +kernel
theorem dX8_add_25 : decode cX8_add 25 = .ok (.iadd, 1) := by decide +kernel
theorem dX8_add_26 : decode cX8_add 26 = .ok (.iastore, 1) := by decide +kernel
theorem dX8_add_27 : decode cX8_add 27 = .ok (.aload_n 0, 1) := by decide +kernel
theorem dX8_add_28 : decode cX8_add 28 = .ok (.dup, 1) := by decide +kernel
theorem dX8_add_29 : decode cX8_add 29 = .ok (.getfield 22, 3) := by decide +kernel
theorem dX8_add_32 : decode cX8_add 32 = .ok (.iconst 1, 1) := by decide +kernel
theorem dX8_add_33 : decode cX8_add 33 = .ok (.iadd, 1) := by decide +kernel
theorem dX8_add_34 : decode cX8_add 34 = .ok (.putfield 22, 3) := by decide +kernel
theorem dX8_add_37 : decode cX8_add 37 = .ok (.aload_n 0, 1) := by decide +kernel
theorem dX8_add_38 : decode cX8_add 38 = .ok (.getfield 22, 3) := by decide +kernel
theorem dX8_add_41 : decode cX8_add 41 = .ok (.iconst 1, 1) := by decide +kernel
theorem dX8_add_42 : decode cX8_add 42 = .ok (.isub, 1) := by decide +kernel
theorem dX8_add_43 : decode cX8_add 43 = .ok (.ireturn, 1) := by decide +kernel
def fX8_add_37 (b0 : Bool) (σ : zS) : Option (Int32 × zS) := some ((iG σ (rp b0 + 11) 3) - 1, σ)
theorem kX8_add_37 {sc : Nat × (Nat → Int32)} (b0 : Bool) (σ : zS) (w : Int32 × zS) (h : fX8_add_37 b0 σ = some w) : zR (zY0 sc) 1 0 0 mX8_add 37 [(0, .ref (rp b0 + 11))] [] (zE σ) (some (.int w.1), zE w.2) := by
  unfold fX8_add_37 at h
  refine kR.aload_n dX8_add_37 0 rfl ?_
  refine kR.getI dX8_add_38 flX8_22 zcf8 (zq11 b0) (Or.inl rfl) ?_
  refine zR.iconst (v := 1) dX8_add_41 (by decide) ?_
  refine zR.isub dX8_add_42 ?_
  exact kR.iretW dX8_add_43 (nzI rfl _) h
def fX8_add (b0 : Bool) (p1 : Int32) (p2 : Int32) (σ : zS) : Option (Int32 × zS) := if 1600 ≤ (iG σ (rp b0 + 11) 3) then fX8_add_37 b0 σ else wI σ (rp b0 + 12) 1600 (iG σ (rp b0 + 11) 3) ((p2 * 64) + p1) fun σ1 => bnd (iS σ1 (rp b0 + 11) 3 ((iG σ1 (rp b0 + 11) 3) + 1)) fun σ2 => fX8_add_37 b0 σ2
theorem eX8_add {sc : Nat × (Nat → Int32)} (b0 : Bool) (p1 : Int32) (p2 : Int32) (σ : zS) (w : Int32 × zS) (h : fX8_add b0 p1 p2 σ = some w) : zR (zY0 sc) 1 0 0 mX8_add 0 [(0, .ref (rp b0 + 11)), (1, .int p1), (2, .int p2)] [] (zE σ) (some (.int w.1), zE w.2) := by
  unfold fX8_add at h
  refine kR.aload_n dX8_add_0 0 rfl ?_
  refine kR.getI dX8_add_1 flX8_22 zcf8 (zq11 b0) (Or.inl rfl) ?_
  refine kR.aload_n dX8_add_4 0 rfl ?_
  refine kR.getR (v := (rp b0 + 12)) dX8_add_5 flX8_9 zcf8 (zq11 b0) (Or.inr ⟨_, rfl⟩) (zr11_0 _ b0) ?_
  refine zR.alen (v := 1600) dX8_add_8 (Or.inl (zq12 b0)) (by rw [(zl12 b0)]; rfl) ?_
  refine kR.icmp_ge (tgt := 37) dX8_add_9 (by decide) h (fun h => ?_) (fun h => ?_)
  · refine zR.sub [0] rfl ?_
    exact kX8_add_37 b0 _ _ h
  · refine kR.aload_n dX8_add_12 0 rfl ?_
    refine kR.getR (v := (rp b0 + 12)) dX8_add_13 flX8_9 zcf8 (zq11 b0) (Or.inr ⟨_, rfl⟩) (zr11_0 _ b0) ?_
    refine kR.aload_n dX8_add_16 0 rfl ?_
    refine kR.getI dX8_add_17 flX8_22 zcf8 (zq11 b0) (Or.inl rfl) ?_
    refine kR.iload_n dX8_add_20 2 rfl ?_
    refine zR.bipush (v := 64) dX8_add_21 (by decide) ?_
    refine zR.imul dX8_add_23 ?_
    refine kR.iload_n dX8_add_24 1 rfl ?_
    refine zR.iadd dX8_add_25 ?_
    refine kR.iast dX8_add_26 (zq12 b0) (zl12 b0) h (fun σ1 h => ?_)
    refine kR.aload_n dX8_add_27 0 rfl ?_
    refine zR.dup dX8_add_28 rfl ?_
    refine kR.getI dX8_add_29 flX8_22 zcf8 (zq11 b0) (Or.inl rfl) ?_
    refine zR.iconst (v := 1) dX8_add_32 (by decide) ?_
    refine zR.iadd dX8_add_33 ?_
    refine kR.putI dX8_add_34 fpX8_22 zcf8 (zq11 b0) rfl h (fun σ2 h => ?_)
    refine zR.sub [0] rfl ?_
    exact kX8_add_37 b0 _ _ h
theorem lX8_add {sc : Nat × (Nat → Int32)} (b0 : Bool) (p1 : Int32) (p2 : Int32) (σ : zS) (w : Int32 × zS) (h : fX8_add b0 p1 p2 σ = some w) : zC (zY0 sc) 1 0 0 mX8_add [.ref (rp b0 + 11), .int p1, .int p2] (zE σ) (some (.int w.1), zE w.2) := zC.of (by decide +kernel) (Nat.le_of_ble_eq_true rfl) ⟨_, rfl⟩ (eX8_add b0 p1 p2 σ w h)
theorem dX5_isOpened_0 : decode cX5_isOpened 0 = .ok (.aload_n 0, 1) := by decide +kernel
theorem dX5_isOpened_1 : decode cX5_isOpened 1 = .ok (.getfield 22, 3) := by decide +kernel
theorem dX5_isOpened_4 : decode cX5_isOpened 4 = .ok (.iload_n 1, 1) := by decide +kernel
theorem dX5_isOpened_5 : decode cX5_isOpened 5 = .ok (.if_icmp .eq 14, 3) := by decide +kernel
theorem dX5_isOpened_8 : decode cX5_isOpened 8 = .ok (.aload_n 0, 1) := by decide +kernel
theorem dX5_isOpened_9 : decode cX5_isOpened 9 = .ok (.iconst 1, 1) := by decide +kernel
theorem dX5_isOpened_10 : decode cX5_isOpened 10 = .ok (.aload_n 0, 1) := by decide +kernel
theorem dX5_isOpened_11 : decode cX5_isOpened 11 = .ok (.getfield 19, 3) := by decide +kernel
theorem dX5_isOpened_14 : decode cX5_isOpened 14 = .ok (.invokevirtual 73, 3) := by decide +kernel
theorem dX5_isOpened_17 : decode cX5_isOpened 17 = .ok (.iconst 0, 1) := by decide +kernel
theorem dX5_isOpened_18 : decode cX5_isOpened 18 = .ok (.ireturn, 1) := by decide +kernel
theorem dX5_isOpened_19 : decode cX5_isOpened 19 = .ok (.iload_n 2, 1) := by decide +kernel
theorem dX5_isOpened_20 : decode cX5_isOpened 20 = .ok (.bipush 7, 2) := by decide +kernel
theorem dX5_isOpened_22 : decode cX5_isOpened 22 = .ok (.if_icmp .lt 14, 3) := by decide +kernel
theorem dX5_isOpened_25 : decode cX5_isOpened 25 = .ok (.aload_n 0, 1) := by decide +kernel
theorem dX5_isOpened_26 : decode cX5_isOpened 26 = .ok (.iconst 5, 1) := by decide +kernel
theorem dX5_isOpened_27 : decode cX5_isOpened 27 = .ok (.aload_n 0, 1) := by decide +kernel
theorem dX5_isOpened_28 : decode cX5_isOpened 28 = .ok (.getfield 19, 3) := by decide +kernel
theorem dX5_isOpened_31 : decode cX5_isOpened 31 = .ok (.invokevirtual 73, 3) := by decide +kernel
theorem dX5_isOpened_34 : decode cX5_isOpened 34 = .ok (.iconst 0, 1) := by decide +kernel
theorem dX5_isOpened_35 : decode cX5_isOpened 35 = .ok (.ireturn, 1) := by decide +kernel
theorem dX5_isOpened_36 : decode cX5_isOpened 36 = .ok (.aload_n 0, 1) := by decide +kernel
theorem dX5_isOpened_37 : decode cX5_isOpened 37 = .ok (.invokevirtual 114, 3) := by decide +kernel
theorem dX5_isOpened_40 : decode cX5_isOpened 40 = .ok (.iconst 1, 1) := by decide +kernel
theorem dX5_isOpened_41 : decode cX5_isOpened 41 = .ok (.ireturn, 1) := by decide +kernel
def fX5_isOpened (p1 : Int32) (p2 : Int32) (σ : zS) : Option (Int32 × zS) := if (iG σ 54 5) = p1 then if p2 < 7 then bnr (fX5_advance σ) fun σ1 => some (1, σ1) else bnr (fX5_fail 5 (iG σ 54 4) σ) fun σ3 => some (0, σ3) else bnr (fX5_fail 1 (iG σ 54 4) σ) fun σ5 => some (0, σ5)
theorem eX5_isOpened {sc : Nat × (Nat → Int32)} (p1 : Int32) (p2 : Int32) (σ : zS) (w : Int32 × zS) (h : fX5_isOpened p1 p2 σ = some w) : zR (zY0 sc) 7 0 0 mX5_isOpened 0 [(0, .ref 54), (1, .int p1), (2, .int p2)] [] (zE σ) (some (.int w.1), zE w.2) := by
  unfold fX5_isOpened at h
  refine kR.aload_n dX5_isOpened_0 0 rfl ?_
  refine kR.getI dX5_isOpened_1 flX5_22 zcf5 zp54 (Or.inl rfl) ?_
  refine kR.iload_n dX5_isOpened_4 1 rfl ?_
  refine kR.icmp_eq (tgt := 19) dX5_isOpened_5 (by decide) h (fun h => ?_) (fun h => ?_)
  · refine kR.iload_n dX5_isOpened_19 2 rfl ?_
    refine zR.bipush (v := 7) dX5_isOpened_20 (by decide) ?_
    refine kR.icmp_lt (tgt := 36) dX5_isOpened_22 (by decide) h (fun h => ?_) (fun h => ?_)
    · refine kR.aload_n dX5_isOpened_36 0 rfl ?_
      obtain ⟨σ1, e2, h⟩ := bnr_some h
      refine kR.cVv [] dX5_isOpened_37 rfl (by decide) mwX5_114 zp54 (by decide) rfl rfl (Nat.le_of_ble_eq_true rfl) (lX5_advance σ _ e2) ?_
      refine zR.iconst (v := 1) dX5_isOpened_40 (by decide) ?_
      exact kR.iretW dX5_isOpened_41 (nzZ rfl (Or.inr rfl)) h
    · refine kR.aload_n dX5_isOpened_25 0 rfl ?_
      refine zR.iconst (v := 5) dX5_isOpened_26 (by decide) ?_
      refine kR.aload_n dX5_isOpened_27 0 rfl ?_
      refine kR.getI dX5_isOpened_28 flX5_19 zcf5 zp54 (Or.inl rfl) ?_
      obtain ⟨σ3, e4, h⟩ := bnr_some h
      refine kR.cVv [.int 5, .int (iG σ 54 4)] dX5_isOpened_31 rfl (by decide) mwX5_73 zp54 (by decide) rfl rfl (Nat.le_of_ble_eq_true rfl) (lX5_fail 5 (iG σ 54 4) σ _ e4) ?_
      refine zR.iconst (v := 0) dX5_isOpened_34 (by decide) ?_
      exact kR.iretW dX5_isOpened_35 (nzZ rfl (Or.inl rfl)) h
  · refine kR.aload_n dX5_isOpened_8 0 rfl ?_
    refine zR.iconst (v := 1) dX5_isOpened_9 (by decide) ?_
    refine kR.aload_n dX5_isOpened_10 0 rfl ?_
    refine kR.getI dX5_isOpened_11 flX5_19 zcf5 zp54 (Or.inl rfl) ?_
    obtain ⟨σ5, e6, h⟩ := bnr_some h
    refine kR.cVv [.int 1, .int (iG σ 54 4)] dX5_isOpened_14 rfl (by decide) mwX5_73 zp54 (by decide) rfl rfl (Nat.le_of_ble_eq_true rfl) (lX5_fail 1 (iG σ 54 4) σ _ e6) ?_
    refine zR.iconst (v := 0) dX5_isOpened_17 (by decide) ?_
    exact kR.iretW dX5_isOpened_18 (nzZ rfl (Or.inl rfl)) h
theorem lX5_isOpened {sc : Nat × (Nat → Int32)} (p1 : Int32) (p2 : Int32) (σ : zS) (w : Int32 × zS) (h : fX5_isOpened p1 p2 σ = some w) : zC (zY0 sc) 7 0 0 mX5_isOpened [.ref 54, .int p1, .int p2] (zE σ) (some (.int w.1), zE w.2) := zC.of (by decide +kernel) (Nat.le_of_ble_eq_true rfl) ⟨_, rfl⟩ (eX5_isOpened p1 p2 σ w h)
theorem dX5_takeSign_0 : decode cX5_takeSign 0 = .ok (.aload_n 0, 1) := by decide +kernel
theorem dX5_takeSign_1 : decode cX5_takeSign 1 = .ok (.getfield 22, 3) := by decide +kernel
theorem dX5_takeSign_4 : decode cX5_takeSign 4 = .ok (.iload_n 1, 1) := by decide +kernel
theorem dX5_takeSign_5 : decode cX5_takeSign 5 = .ok (.if_icmp .ne 10, 3) := by decide +kernel
theorem dX5_takeSign_8 : decode cX5_takeSign 8 = .ok (.aload_n 0, 1) := by decide +kernel
theorem dX5_takeSign_9 : decode cX5_takeSign 9 = .ok (.invokevirtual 114, 3) := by decide +kernel
theorem dX5_takeSign_12 : decode cX5_takeSign 12 = .ok (.goto 12, 3) := by decide +kernel
theorem dX5_takeSign_15 : decode cX5_takeSign 15 = .ok (.aload_n 0, 1) := by decide +kernel
theorem dX5_takeSign_16 : decode cX5_takeSign 16 = .ok (.iconst 1, 1) := by decide +kernel
theorem dX5_takeSign_17 : decode cX5_takeSign 17 = .ok (.aload_n 0, 1) := by decide +kernel
theorem dX5_takeSign_18 : decode cX5_takeSign 18 = .ok (.getfield 19, 3) := by decide +kernel
theorem dX5_takeSign_21 : decode cX5_takeSign 21 = .ok (.invokevirtual 73, 3) := by decide +kernel
theorem dX5_takeSign_24 : decode cX5_takeSign 24 = .ok (.return_, 1) := by decide +kernel
def fX5_takeSign (p1 : Int32) (σ : zS) : Option zS := if (iG σ 54 5) = p1 then bnr (fX5_advance σ) fun σ3 => some σ3 else bnr (fX5_fail 1 (iG σ 54 4) σ) fun σ1 => some σ1
theorem eX5_takeSign {sc : Nat × (Nat → Int32)} (p1 : Int32) (σ : zS) (w : zS) (h : fX5_takeSign p1 σ = some w) : zR (zY0 sc) 7 0 0 mX5_takeSign 0 [(0, .ref 54), (1, .int p1)] [] (zE σ) (none, zE w) := by
  unfold fX5_takeSign at h
  refine kR.aload_n dX5_takeSign_0 0 rfl ?_
  refine kR.getI dX5_takeSign_1 flX5_22 zcf5 zp54 (Or.inl rfl) ?_
  refine kR.iload_n dX5_takeSign_4 1 rfl ?_
  refine kR.icmp_ne (tgt := 15) dX5_takeSign_5 (by decide) h (fun h => ?_) (fun h => ?_)
  · refine kR.aload_n dX5_takeSign_15 0 rfl ?_
    refine zR.iconst (v := 1) dX5_takeSign_16 (by decide) ?_
    refine kR.aload_n dX5_takeSign_17 0 rfl ?_
    refine kR.getI dX5_takeSign_18 flX5_19 zcf5 zp54 (Or.inl rfl) ?_
    obtain ⟨σ1, e2, h⟩ := bnr_some h
    refine kR.cVv [.int 1, .int (iG σ 54 4)] dX5_takeSign_21 rfl (by decide) mwX5_73 zp54 (by decide) rfl rfl (Nat.le_of_ble_eq_true rfl) (lX5_fail 1 (iG σ 54 4) σ _ e2) ?_
    exact kR.vret dX5_takeSign_24 h
  · refine kR.aload_n dX5_takeSign_8 0 rfl ?_
    obtain ⟨σ3, e4, h⟩ := bnr_some h
    refine kR.cVv [] dX5_takeSign_9 rfl (by decide) mwX5_114 zp54 (by decide) rfl rfl (Nat.le_of_ble_eq_true rfl) (lX5_advance σ _ e4) ?_
    refine zR.goto (tgt := 24) dX5_takeSign_12 (by decide) ?_
    exact kR.vret dX5_takeSign_24 h
theorem lX5_takeSign {sc : Nat × (Nat → Int32)} (p1 : Int32) (σ : zS) (w : zS) (h : fX5_takeSign p1 σ = some w) : zC (zY0 sc) 7 0 0 mX5_takeSign [.ref 54, .int p1] (zE σ) (none, zE w) := zC.of (by decide +kernel) (Nat.le_of_ble_eq_true rfl) rfl (eX5_takeSign p1 σ w h)
theorem dX8_landHere_0 : decode cX8_landHere 0 = .ok (.iload_n 1, 1) := by decide +kernel
theorem dX8_landHere_1 : decode cX8_landHere 1 = .ok (.ifCond .lt 34, 3) := by decide +kernel
theorem dX8_landHere_4 : decode cX8_landHere 4 = .ok (.iload_n 1, 1) := by decide +kernel
theorem dX8_landHere_5 : decode cX8_landHere 5 = .ok (.aload_n 0, 1) := by decide +kernel
theorem dX8_landHere_6 : decode cX8_landHere 6 = .ok (.getfield 22, 3) := by decide +kernel
theorem dX8_landHere_9 : decode cX8_landHere 9 = .ok (.if_icmp .ge 26, 3) := by decide +kernel
theorem dX8_landHere_12 : decode cX8_landHere 12 = .ok (.aload_n 0, 1) := by decide +kernel
theorem dX8_landHere_13 : decode cX8_landHere 13 = .ok (.getfield 9, 3) := by decide +kernel
theorem dX8_landHere_16 : decode cX8_landHere 16 = .ok (.iload_n 1, 1) := by decide +kernel
theorem dX8_landHere_17 : decode cX8_landHere 17 = .ok (.aload_n 0, 1) := by decide +kernel
theorem dX8_landHere_18 : decode cX8_landHere 18 = .ok (.getfield 22, 3) := by decide +kernel
theorem dX8_landHere_21 : decode cX8_landHere 21 = .ok (.bipush 64, 2) := by decide +kernel
theorem dX8_landHere_23 : decode cX8_landHere 23 = .ok (.imul, 1) := by decide +kernel
theorem dX8_landHere_24 : decode cX8_landHere 24 = .ok (.aload_n 0, 1) := by decide +kernel
theorem dX8_landHere_25 : decode cX8_landHere 25 = .ok (.getfield 9, 3) := by decide +kernel
theorem dX8_landHere_28 : decode cX8_landHere 28 = .ok (.iload_n 1, 1) := by decide +kernel
theorem dX8_landHere_29 : decode cX8_landHere 29 = .ok (.iaload, 1) := by decide +kernel
theorem dX8_landHere_30 : decode cX8_landHere 30 = .ok (.bipush 64, 2) := by decide +kernel
theorem dX8_landHere_32 : decode cX8_landHere 32 = .ok (.irem, 1) := by decide +kernel
theorem dX8_landHere_33 : decode cX8_landHere 33 = .ok (.iadd, 1) := by decide +kernel
theorem dX8_landHere_34 : decode cX8_landHere 34 = .ok (.iastore, 1) := by decide +kernel
theorem dX8_landHere_35 : decode cX8_landHere 35 = .ok (.return_, 1) := by decide +kernel
def fX8_landHere (b0 : Bool) (p1 : Int32) (σ : zS) : Option zS := if p1 < 0 then some σ else if (iG σ (rp b0 + 11) 3) ≤ p1 then some σ else aI σ (rp b0 + 12) 1600 p1 fun v1 => wI σ (rp b0 + 12) 1600 p1 (((iG σ (rp b0 + 11) 3) * 64) + (v1 - v1 / 64 * 64)) fun σ2 => some σ2
theorem eX8_landHere {sc : Nat × (Nat → Int32)} (b0 : Bool) (p1 : Int32) (σ : zS) (w : zS) (h : fX8_landHere b0 p1 σ = some w) : zR (zY0 sc) 1 0 0 mX8_landHere 0 [(0, .ref (rp b0 + 11)), (1, .int p1)] [] (zE σ) (none, zE w) := by
  unfold fX8_landHere at h
  refine kR.iload_n dX8_landHere_0 1 rfl ?_
  refine kR.if_lt (tgt := 35) dX8_landHere_1 (by decide) h (fun h => ?_) (fun h => ?_)
  · exact kR.vret dX8_landHere_35 h
  · refine kR.iload_n dX8_landHere_4 1 rfl ?_
    refine kR.aload_n dX8_landHere_5 0 rfl ?_
    refine kR.getI dX8_landHere_6 flX8_22 zcf8 (zq11 b0) (Or.inl rfl) ?_
    refine kR.icmp_ge (tgt := 35) dX8_landHere_9 (by decide) h (fun h => ?_) (fun h => ?_)
    · exact kR.vret dX8_landHere_35 h
    · refine kR.aload_n dX8_landHere_12 0 rfl ?_
      refine kR.getR (v := (rp b0 + 12)) dX8_landHere_13 flX8_9 zcf8 (zq11 b0) (Or.inr ⟨_, rfl⟩) (zr11_0 _ b0) ?_
      refine kR.iload_n dX8_landHere_16 1 rfl ?_
      refine kR.aload_n dX8_landHere_17 0 rfl ?_
      refine kR.getI dX8_landHere_18 flX8_22 zcf8 (zq11 b0) (Or.inl rfl) ?_
      refine zR.bipush (v := 64) dX8_landHere_21 (by decide) ?_
      refine zR.imul dX8_landHere_23 ?_
      refine kR.aload_n dX8_landHere_24 0 rfl ?_
      refine kR.getR (v := (rp b0 + 12)) dX8_landHere_25 flX8_9 zcf8 (zq11 b0) (Or.inr ⟨_, rfl⟩) (zr11_0 _ b0) ?_
      refine kR.iload_n dX8_landHere_28 1 rfl ?_
      refine kR.iald dX8_landHere_29 (zq12 b0) (zl12 b0) h (fun v1 h => ?_)
      refine zR.bipush (v := 64) dX8_landHere_30 (by decide) ?_
      refine zR.irem dX8_landHere_32 (by decide) ?_
      refine zR.iadd dX8_landHere_33 ?_
      refine kR.iast dX8_landHere_34 (zq12 b0) (zl12 b0) h (fun σ2 h => ?_)
      exact kR.vret dX8_landHere_35 h
theorem lX8_landHere {sc : Nat × (Nat → Int32)} (b0 : Bool) (p1 : Int32) (σ : zS) (w : zS) (h : fX8_landHere b0 p1 σ = some w) : zC (zY0 sc) 1 0 0 mX8_landHere [.ref (rp b0 + 11), .int p1] (zE σ) (none, zE w) := zC.of (by decide +kernel) (Nat.le_of_ble_eq_true rfl) rfl (eX8_landHere b0 p1 σ w h)
theorem dX5_factOf_0 : decode cX5_factOf 0 = .ok (.iload_n 0, 1) := by decide +kernel
theorem dX5_factOf_1 : decode cX5_factOf 1 = .ok (.bipush 13, 2) := by decide +kernel
theorem dX5_factOf_3 : decode cX5_factOf 3 = .ok (.if_icmp .lt 16, 3) := by decide +kernel
theorem dX5_factOf_6 : decode cX5_factOf 6 = .ok (.iload_n 0, 1) := by decide +kernel
theorem dX5_factOf_7 : decode cX5_factOf 7 = .ok (.bipush 17, 2) := by decide +kernel
theorem dX5_factOf_9 : decode cX5_factOf 9 = .ok (.if_icmp .gt 10, 3) := by decide +kernel
theorem dX5_factOf_12 : decode cX5_factOf 12 = .ok (.iconst 0, 1) := by decide +kernel
theorem dX5_factOf_13 : decode cX5_factOf 13 = .ok (.iload_n 0, 1) := by decide +kernel
theorem dX5_factOf_14 : decode cX5_factOf 14 = .ok (.iadd, 1) := by decide +kernel
theorem dX5_factOf_15 : decode cX5_factOf 15 = .ok (.bipush 13, 2) := by decide +kernel
theorem dX5_factOf_17 : decode cX5_factOf 17 = .ok (.isub, 1) := by decide +kernel
theorem dX5_factOf_18 : decode cX5_factOf 18 = .ok (.ireturn, 1) := by decide +kernel
theorem dX5_factOf_19 : decode cX5_factOf 19 = .ok (.iload_n 0, 1) := by decide +kernel
theorem dX5_factOf_20 : decode cX5_factOf 20 = .ok (.iconst 5, 1) := by decide +kernel
theorem dX5_factOf_21 : decode cX5_factOf 21 = .ok (.if_icmp .ne 5, 3) := by decide +kernel
theorem dX5_factOf_24 : decode cX5_factOf 24 = .ok (.iconst 5, 1) := by decide +kernel
theorem dX5_factOf_25 : decode cX5_factOf 25 = .ok (.ireturn, 1) := by decide +kernel
theorem dX5_factOf_26 : decode cX5_factOf 26 = .ok (.iload_n 0, 1) := by decide +kernel
theorem dX5_factOf_27 : decode cX5_factOf 27 = .ok (.iconst 1, 1) := by decide +kernel
theorem dX5_factOf_28 : decode cX5_factOf 28 = .ok (.if_icmp .ne 8, 3) := by decide +kernel
theorem dX5_factOf_31 : decode cX5_factOf 31 = .ok (.bipush 6, 2) := by decide +kernel
theorem dX5_factOf_33 : decode cX5_factOf 33 = .ok (.goto 4, 3) := by decide +kernel
theorem dX5_factOf_36 : decode cX5_factOf 36 = .ok (.iconst (-1), 1) := by decide +kernel
theorem dX5_factOf_37 : decode cX5_factOf 37 = .ok (.ireturn, 1) := by decide +kernel
def fX5_factOf_19 (x0 : Int32) : Int32 := if x0 = 5 then 5 else if x0 = 1 then 6 else (-1)
theorem kX5_factOf_19 {sc : Nat × (Nat → Int32)} {μ : zM} (x0 : Int32) (w : Int32) (h : fX5_factOf_19 x0 = w) : zR (zY0 sc) 1 0 0 mX5_factOf 19 [(0, .int x0)] [] μ (some (.int w), μ) := by
  unfold fX5_factOf_19 at h
  refine kR.iload_n dX5_factOf_19 0 rfl ?_
  refine zR.iconst (v := 5) dX5_factOf_20 (by decide) ?_
  refine kR.icmp_ne (tgt := 26) dX5_factOf_21 (by decide) h (fun h => ?_) (fun h => ?_)
  · refine kR.iload_n dX5_factOf_26 0 rfl ?_
    refine zR.iconst (v := 1) dX5_factOf_27 (by decide) ?_
    refine kR.icmp_ne (tgt := 36) dX5_factOf_28 (by decide) h (fun h => ?_) (fun h => ?_)
    · refine zR.iconst (v := (-1)) dX5_factOf_36 (by decide) ?_
      exact kR.iret dX5_factOf_37 (nzI rfl _) h
    · refine zR.bipush (v := 6) dX5_factOf_31 (by decide) ?_
      refine zR.goto (tgt := 37) dX5_factOf_33 (by decide) ?_
      exact kR.iret dX5_factOf_37 (nzI rfl _) h
  · refine zR.iconst (v := 5) dX5_factOf_24 (by decide) ?_
    exact kR.iret dX5_factOf_25 (nzI rfl _) h
def fX5_factOf (p0 : Int32) : Int32 := if p0 < 13 then fX5_factOf_19 p0 else if 17 < p0 then fX5_factOf_19 p0 else (0 + p0) - 13
theorem eX5_factOf {sc : Nat × (Nat → Int32)} {μ : zM} (p0 : Int32) (w : Int32) (h : fX5_factOf p0 = w) : zR (zY0 sc) 1 0 0 mX5_factOf 0 [(0, .int p0)] [] μ (some (.int w), μ) := by
  unfold fX5_factOf at h
  refine kR.iload_n dX5_factOf_0 0 rfl ?_
  refine zR.bipush (v := 13) dX5_factOf_1 (by decide) ?_
  refine kR.icmp_lt (tgt := 19) dX5_factOf_3 (by decide) h (fun h => ?_) (fun h => ?_)
  · exact kX5_factOf_19 _ _ h
  · refine kR.iload_n dX5_factOf_6 0 rfl ?_
    refine zR.bipush (v := 17) dX5_factOf_7 (by decide) ?_
    refine kR.icmp_gt (tgt := 19) dX5_factOf_9 (by decide) h (fun h => ?_) (fun h => ?_)
    · exact kX5_factOf_19 _ _ h
    · refine zR.iconst (v := 0) dX5_factOf_12 (by decide) ?_
      refine kR.iload_n dX5_factOf_13 0 rfl ?_
      refine zR.iadd dX5_factOf_14 ?_
      refine zR.bipush (v := 13) dX5_factOf_15 (by decide) ?_
      refine zR.isub dX5_factOf_17 ?_
      exact kR.iret dX5_factOf_18 (nzI rfl _) h
theorem lX5_factOf {sc : Nat × (Nat → Int32)} {μ : zM} (p0 : Int32) : zC (zY0 sc) 1 0 0 mX5_factOf [.int p0] μ (some (.int (fX5_factOf p0)), μ) := zC.of (by decide +kernel) (Nat.le_of_ble_eq_true rfl) ⟨_, rfl⟩ (eX5_factOf p0 _ rfl)
abbrev TGX5_readBoth : Type := (Int32 → zS → Option zS) × (Int32 → zS → Option zS) × (Int32 → zS → Option zS) × (Int32 → zS → Option zS) × (Int32 → zS → Option zS) × (Int32 → Int32 → zS → Option zS) × (Int32 → zS → Option zS) × (Int32 → zS → Option zS) × (Int32 → zS → Option zS) × (Int32 → zS → Option zS)
def DDGX5_readBoth : Nat := 8
def okGX5_readBoth (sc : Nat × (Nat → Int32)) (n : Nat) (g : TGX5_readBoth) : Prop := (∀ (p1 : Int32) (σ : zS) (w : zS), g.1 p1 σ = some w → zC (zY0 sc) (DDGX5_readBoth + n) 0 0 mX5_readBoth [.ref 54, .int p1] (zE σ) (none, zE w)) ∧ (∀ (p1 : Int32) (σ : zS) (w : zS), g.2.1 p1 σ = some w → zC (zY0 sc) (DDGX5_readBoth + n) 0 0 mX5_readCompared [.ref 54, .int p1] (zE σ) (none, zE w)) ∧ (∀ (p1 : Int32) (σ : zS) (w : zS), g.2.2.1 p1 σ = some w → zC (zY0 sc) (DDGX5_readBoth + n) 0 0 mX5_readFact [.ref 54, .int p1] (zE σ) (none, zE w)) ∧ (∀ (p1 : Int32) (σ : zS) (w : zS), g.2.2.2.1 p1 σ = some w → zC (zY0 sc) (DDGX5_readBoth + n) 0 0 mX5_readIf [.ref 54, .int p1] (zE σ) (none, zE w)) ∧ (∀ (p1 : Int32) (σ : zS) (w : zS), g.2.2.2.2.1 p1 σ = some w → zC (zY0 sc) (DDGX5_readBoth + n) 0 0 mX5_readNot [.ref 54, .int p1] (zE σ) (none, zE w)) ∧ (∀ (p1 : Int32) (p2 : Int32) (σ : zS) (w : zS), g.2.2.2.2.2.1 p1 p2 σ = some w → zC (zY0 sc) (DDGX5_readBoth + n) 0 0 mX5_readPair [.ref 54, .int p1, .int p2] (zE σ) (none, zE w)) ∧ (∀ (p1 : Int32) (σ : zS) (w : zS), g.2.2.2.2.2.2.1 p1 σ = some w → zC (zY0 sc) (DDGX5_readBoth + n) 0 0 mX5_readPart [.ref 54, .int p1] (zE σ) (none, zE w)) ∧ (∀ (p1 : Int32) (σ : zS) (w : zS), g.2.2.2.2.2.2.2.1 p1 σ = some w → zC (zY0 sc) (DDGX5_readBoth + n) 0 0 mX5_readProduct [.ref 54, .int p1] (zE σ) (none, zE w)) ∧ (∀ (p1 : Int32) (σ : zS) (w : zS), g.2.2.2.2.2.2.2.2.1 p1 σ = some w → zC (zY0 sc) (DDGX5_readBoth + n) 0 0 mX5_readSum [.ref 54, .int p1] (zE σ) (none, zE w)) ∧ (∀ (p1 : Int32) (σ : zS) (w : zS), g.2.2.2.2.2.2.2.2.2 p1 σ = some w → zC (zY0 sc) (DDGX5_readBoth + n) 0 0 mX5_readTest [.ref 54, .int p1] (zE σ) (none, zE w))
theorem dX5_readBoth_0 : decode cX5_readBoth 0 = .ok (.aload_n 0, 1) := by decide +kernel
theorem dX5_readBoth_1 : decode cX5_readBoth 1 = .ok (.iload_n 1, 1) := by decide +kernel
theorem dX5_readBoth_2 : decode cX5_readBoth 2 = .ok (.invokevirtual 278, 3) := by decide +kernel
theorem dX5_readBoth_5 : decode cX5_readBoth 5 = .ok (.iconst 0, 1) := by decide +kernel
theorem dX5_readBoth_6 : decode cX5_readBoth 6 = .ok (.istore_n 2, 1) := by decide +kernel
theorem dX5_readBoth_7 : decode cX5_readBoth 7 = .ok (.iload_n 2, 1) := by decide +kernel
theorem dX5_readBoth_8 : decode cX5_readBoth 8 = .ok (.sipush 1600, 3) := by decide +kernel
theorem dX5_readBoth_11 : decode cX5_readBoth 11 = .ok (.if_icmp .ge 41, 3) := by decide +kernel
theorem dX5_readBoth_14 : decode cX5_readBoth 14 = .ok (.aload_n 0, 1) := by decide +kernel
theorem dX5_readBoth_15 : decode cX5_readBoth 15 = .ok (.getfield 25, 3) := by decide +kernel
theorem dX5_readBoth_18 : decode cX5_readBoth 18 = .ok (.bipush 20, 2) := by decide +kernel
theorem dX5_readBoth_20 : decode cX5_readBoth 20 = .ok (.if_icmp .ne 32, 3) := by decide +kernel
theorem dX5_readBoth_23 : decode cX5_readBoth 23 = .ok (.aload_n 0, 1) := by decide +kernel
theorem dX5_readBoth_24 : decode cX5_readBoth 24 = .ok (.invokevirtual 114, 3) := by decide +kernel
theorem dX5_readBoth_27 : decode cX5_readBoth 27 = .ok (.aload_n 0, 1) := by decide +kernel
theorem dX5_readBoth_28 : decode cX5_readBoth 28 = .ok (.iload_n 1, 1) := by decide +kernel
theorem dX5_readBoth_29 : decode cX5_readBoth 29 = .ok (.invokevirtual 278, 3) := by decide +kernel
theorem dX5_readBoth_32 : decode cX5_readBoth 32 = .ok (.aload_n 0, 1) := by decide +kernel
theorem dX5_readBoth_33 : decode cX5_readBoth 33 = .ok (.getfield 44, 3) := by decide +kernel
theorem dX5_readBoth_36 : decode cX5_readBoth 36 = .ok (.getfield 228, 3) := by decide +kernel
theorem dX5_readBoth_39 : decode cX5_readBoth 39 = .ok (.bipush 6, 2) := by decide +kernel
theorem dX5_readBoth_41 : decode cX5_readBoth 41 = .ok (.iconst 0, 1) := by decide +kernel
theorem dX5_readBoth_42 : decode cX5_readBoth 42 = .ok (.invokevirtual 248, 3) := by decide +kernel
theorem dX5_readBoth_45 : decode cX5_readBoth 45 = .ok (.pop, 1) := by decide +kernel
theorem dX5_readBoth_46 : decode cX5_readBoth 46 = .ok (.iinc 2 1, 3) := by decide +kernel
theorem dX5_readBoth_49 : decode cX5_readBoth 49 = .ok (.goto (-42), 3) := by decide +kernel
theorem dX5_readBoth_52 : decode cX5_readBoth 52 = .ok (.return_, 1) := by decide +kernel
def fX5_readBoth'_7 (g : TGX5_readBoth) : Nat → Int32 → Int32 → zS → Option zS
  | 0, _, _, _ => none
  | f + 1, x1, x2, σ => if 1600 ≤ x2 then some σ else if (iG σ 54 6) = 20 then bnr (fX5_advance σ) fun σ3 => bnr (g.2.2.1 x1 σ3) fun σ5 => bnc (fX8_add σ5.2.2.2.2 6 0 σ5) fun v9 σ7 => fX5_readBoth'_7 g f x1 (x2 + 1) σ7 else some σ
theorem kX5_readBoth_7 {sc : Nat × (Nat → Int32)} (g : TGX5_readBoth) {n : Nat} (hg : okGX5_readBoth sc n g) : ∀ (fuel : Nat) (x1 : Int32) (x2 : Int32) (σ : zS) (w : zS) (h : fX5_readBoth'_7 g fuel x1 x2 σ = some w), zR (zY0 sc) (DDGX5_readBoth + n + 1) 0 0 mX5_readBoth 7 [(0, .ref 54), (1, .int x1), (2, .int x2)] [] (zE σ) (none, zE w) := by
  intro fuel
  induction fuel with
  | zero => intro x1 x2 σ w h; exact nomatch h
  | succ f ih =>
    intro x1 x2 σ w h
    rw [fX5_readBoth'_7] at h
    refine kR.iload_n dX5_readBoth_7 2 rfl ?_
    refine zR.sipush (v := 1600) dX5_readBoth_8 (by decide) ?_
    refine kR.icmp_ge (tgt := 52) dX5_readBoth_11 (by decide) h (fun h => ?_) (fun h => ?_)
    · exact kR.vret dX5_readBoth_52 h
    · refine kR.aload_n dX5_readBoth_14 0 rfl ?_
      refine kR.getI dX5_readBoth_15 flX5_25 zcf5 zp54 (Or.inl rfl) ?_
      refine zR.bipush (v := 20) dX5_readBoth_18 (by decide) ?_
      refine kR.icmp_ne (tgt := 52) dX5_readBoth_20 (by decide) h (fun h => ?_) (fun h => ?_)
      · exact kR.vret dX5_readBoth_52 h
      · refine kR.aload_n dX5_readBoth_23 0 rfl ?_
        obtain ⟨σ3, e4, h⟩ := bnr_some h
        refine kR.cVv [] dX5_readBoth_24 rfl (by unfold DDGX5_readBoth; omega) mwX5_114 zp54 (by decide) rfl rfl (Nat.le_of_ble_eq_true rfl) (lX5_advance σ _ e4) ?_
        refine kR.aload_n dX5_readBoth_27 0 rfl ?_
        refine kR.iload_n dX5_readBoth_28 1 rfl ?_
        obtain ⟨σ5, e6, h⟩ := bnr_some h
        refine kR.cVv [.int x1] dX5_readBoth_29 rfl (Nat.le_refl _) mwX5_278 zp54 (by decide) rfl rfl (Nat.le_of_ble_eq_true rfl) (hg.2.2.1 x1 σ3 _ e6) ?_
        refine kR.aload_n dX5_readBoth_32 0 rfl ?_
        refine kR.getR (v := (rp σ5.2.2.2.2 + 0)) dX5_readBoth_33 flX5_44 zcf5 zp54 (Or.inl ⟨_, rfl⟩) rfl ?_
        refine kR.getR (v := (rp σ5.2.2.2.2 + 11)) dX5_readBoth_36 flX5_228 zcf6 (zq0 σ5.2.2.2.2) (Or.inl ⟨_, rfl⟩) (zr0_15 _ σ5.2.2.2.2) ?_
        refine zR.bipush (v := 6) dX5_readBoth_39 (by decide) ?_
        refine zR.iconst (v := 0) dX5_readBoth_41 (by decide) ?_
        obtain ⟨v9, σ7, e8, h⟩ := bnc_some h
        refine kR.cVi [.int 6, .int 0] dX5_readBoth_42 rfl (by unfold DDGX5_readBoth; omega) mwX5_248 (zq11 σ5.2.2.2.2) (by decide) rfl rfl (Nat.le_of_ble_eq_true rfl) (lX8_add σ5.2.2.2.2 6 0 σ5 _ e8) ?_
        refine zR.pop dX5_readBoth_45 rfl ?_
        refine zR.iinc 2 (v := x2 + 1) (ls' := [(2, .int (x2 + 1)), (0, .ref 54), (1, .int x1)]) dX5_readBoth_46 rfl rfl (by decide) rfl ?_
        refine zR.goto (tgt := 7) dX5_readBoth_49 (by decide) ?_
        refine zR.sub [1, 2, 0] rfl ?_
        exact ih _ _ _ _ h
def fX5_readBoth' (g : TGX5_readBoth) (p1 : Int32) (σ : zS) : Option zS := bnr (g.2.2.1 p1 σ) fun σ1 => fX5_readBoth'_7 g zF p1 0 σ1
theorem eX5_readBoth {sc : Nat × (Nat → Int32)} (g : TGX5_readBoth) {n : Nat} (hg : okGX5_readBoth sc n g) (p1 : Int32) (σ : zS) (w : zS) (h : fX5_readBoth' g p1 σ = some w) : zR (zY0 sc) (DDGX5_readBoth + n + 1) 0 0 mX5_readBoth 0 [(0, .ref 54), (1, .int p1)] [] (zE σ) (none, zE w) := by
  unfold fX5_readBoth' at h
  refine kR.aload_n dX5_readBoth_0 0 rfl ?_
  refine kR.iload_n dX5_readBoth_1 1 rfl ?_
  obtain ⟨σ1, e2, h⟩ := bnr_some h
  refine kR.cVv [.int p1] dX5_readBoth_2 rfl (Nat.le_refl _) mwX5_278 zp54 (by decide) rfl rfl (Nat.le_of_ble_eq_true rfl) (hg.2.2.1 p1 σ _ e2) ?_
  refine zR.iconst (v := 0) dX5_readBoth_5 (by decide) ?_
  refine zR.istore_n (i := 2) (ls' := [(2, .int 0), (0, .ref 54), (1, .int p1)]) dX5_readBoth_6 rfl (by decide) rfl ?_
  refine zR.sub [1, 2, 0] rfl ?_
  exact kX5_readBoth_7 g hg zF _ _ _ _ h
theorem lX5_readBoth' {sc : Nat × (Nat → Int32)} (g : TGX5_readBoth) {n : Nat} (hg : okGX5_readBoth sc n g) (p1 : Int32) (σ : zS) (w : zS) (h : fX5_readBoth' g p1 σ = some w) : zC (zY0 sc) (DDGX5_readBoth + n + 1) 0 0 mX5_readBoth [.ref 54, .int p1] (zE σ) (none, zE w) := zC.of (by decide +kernel) (Nat.le_of_ble_eq_true rfl) rfl (eX5_readBoth g hg p1 σ w h)
theorem dX5_readCompared_0 : decode cX5_readCompared 0 = .ok (.aload_n 0, 1) := by decide +kernel
theorem dX5_readCompared_1 : decode cX5_readCompared 1 = .ok (.iload_n 1, 1) := by decide +kernel
theorem dX5_readCompared_2 : decode cX5_readCompared 2 = .ok (.invokevirtual 239, 3) := by decide +kernel
theorem dX5_readCompared_5 : decode cX5_readCompared 5 = .ok (.aload_n 0, 1) := by decide +kernel
theorem dX5_readCompared_6 : decode cX5_readCompared 6 = .ok (.getfield 22, 3) := by decide +kernel
theorem dX5_readCompared_9 : decode cX5_readCompared 9 = .ok (.istore_n 2, 1) := by decide +kernel
theorem dX5_readCompared_10 : decode cX5_readCompared 10 = .ok (.iload_n 2, 1) := by decide +kernel
theorem dX5_readCompared_11 : decode cX5_readCompared 11 = .ok (.bipush 60, 2) := by decide +kernel
theorem dX5_readCompared_13 : decode cX5_readCompared 13 = .ok (.if_icmp .eq 25, 3) := by decide +kernel
theorem dX5_readCompared_16 : decode cX5_readCompared 16 = .ok (.iload_n 2, 1) := by decide +kernel
theorem dX5_readCompared_17 : decode cX5_readCompared 17 = .ok (.bipush 62, 2) := by decide +kernel
theorem dX5_readCompared_19 : decode cX5_readCompared 19 = .ok (.if_icmp .eq 19, 3) := by decide +kernel
theorem dX5_readCompared_22 : decode cX5_readCompared 22 = .ok (.iload_n 2, 1) := by decide +kernel
theorem dX5_readCompared_23 : decode cX5_readCompared 23 = .ok (.bipush 61, 2) := by decide +kernel
theorem dX5_readCompared_25 : decode cX5_readCompared 25 = .ok (.if_icmp .eq 13, 3) := by decide +kernel
theorem dX5_readCompared_28 : decode cX5_readCompared 28 = .ok (.aload_n 0, 1) := by decide +kernel
theorem dX5_readCompared_29 : decode cX5_readCompared 29 = .ok (.iconst 1, 1) := by decide +kernel
theorem dX5_readCompared_30 : decode cX5_readCompared 30 = .ok (.aload_n 0, 1) := by decide +kernel
theorem dX5_readCompared_31 : decode cX5_readCompared 31 = .ok (.getfield 19, 3) := by decide +kernel
theorem dX5_readCompared_34 : decode cX5_readCompared 34 = .ok (.invokevirtual 73, 3) := by decide +kernel
theorem dX5_readCompared_37 : decode cX5_readCompared 37 = .ok (.return_, 1) := by decide +kernel
theorem dX5_readCompared_38 : decode cX5_readCompared 38 = .ok (.aload_n 0, 1) := by decide +kernel
theorem dX5_readCompared_39 : decode cX5_readCompared 39 = .ok (.invokevirtual 114, 3) := by decide +kernel
theorem dX5_readCompared_42 : decode cX5_readCompared 42 = .ok (.aload_n 0, 1) := by decide +kernel
theorem dX5_readCompared_43 : decode cX5_readCompared 43 = .ok (.iload_n 1, 1) := by decide +kernel
theorem dX5_readCompared_44 : decode cX5_readCompared 44 = .ok (.invokevirtual 239, 3) := by decide +kernel
theorem dX5_readCompared_47 : decode cX5_readCompared 47 = .ok (.aload_n 0, 1) := by decide +kernel
theorem dX5_readCompared_48 : decode cX5_readCompared 48 = .ok (.getfield 44, 3) := by decide +kernel
theorem dX5_readCompared_51 : decode cX5_readCompared 51 = .ok (.getfield 228, 3) := by decide +kernel
theorem dX5_readCompared_54 : decode cX5_readCompared 54 = .ok (.iload_n 2, 1) := by decide +kernel
theorem dX5_readCompared_55 : decode cX5_readCompared 55 = .ok (.iconst 0, 1) := by decide +kernel
theorem dX5_readCompared_56 : decode cX5_readCompared 56 = .ok (.invokevirtual 248, 3) := by decide +kernel
theorem dX5_readCompared_59 : decode cX5_readCompared 59 = .ok (.pop, 1) := by decide +kernel
theorem dX5_readCompared_60 : decode cX5_readCompared 60 = .ok (.return_, 1) := by decide +kernel
def fX5_readCompared'_38 (g : TGX5_readBoth) (x1 : Int32) (x2 : Int32) (σ : zS) : Option zS := bnr (fX5_advance σ) fun σ3 => bnr (g.2.2.2.2.2.2.2.2.1 x1 σ3) fun σ5 => bnc (fX8_add σ5.2.2.2.2 x2 0 σ5) fun v9 σ7 => some σ7
theorem kX5_readCompared_38 {sc : Nat × (Nat → Int32)} (g : TGX5_readBoth) {n : Nat} (hg : okGX5_readBoth sc n g) (x1 : Int32) (x2 : Int32) (σ : zS) (w : zS) (h : fX5_readCompared'_38 g x1 x2 σ = some w) : zR (zY0 sc) (DDGX5_readBoth + n + 1) 0 0 mX5_readCompared 38 [(0, .ref 54), (1, .int x1), (2, .int x2)] [] (zE σ) (none, zE w) := by
  unfold fX5_readCompared'_38 at h
  refine kR.aload_n dX5_readCompared_38 0 rfl ?_
  obtain ⟨σ3, e4, h⟩ := bnr_some h
  refine kR.cVv [] dX5_readCompared_39 rfl (by unfold DDGX5_readBoth; omega) mwX5_114 zp54 (by decide) rfl rfl (Nat.le_of_ble_eq_true rfl) (lX5_advance σ _ e4) ?_
  refine kR.aload_n dX5_readCompared_42 0 rfl ?_
  refine kR.iload_n dX5_readCompared_43 1 rfl ?_
  obtain ⟨σ5, e6, h⟩ := bnr_some h
  refine kR.cVv [.int x1] dX5_readCompared_44 rfl (Nat.le_refl _) mwX5_239 zp54 (by decide) rfl rfl (Nat.le_of_ble_eq_true rfl) (hg.2.2.2.2.2.2.2.2.1 x1 σ3 _ e6) ?_
  refine kR.aload_n dX5_readCompared_47 0 rfl ?_
  refine kR.getR (v := (rp σ5.2.2.2.2 + 0)) dX5_readCompared_48 flX5_44 zcf5 zp54 (Or.inl ⟨_, rfl⟩) rfl ?_
  refine kR.getR (v := (rp σ5.2.2.2.2 + 11)) dX5_readCompared_51 flX5_228 zcf6 (zq0 σ5.2.2.2.2) (Or.inl ⟨_, rfl⟩) (zr0_15 _ σ5.2.2.2.2) ?_
  refine kR.iload_n dX5_readCompared_54 2 rfl ?_
  refine zR.iconst (v := 0) dX5_readCompared_55 (by decide) ?_
  obtain ⟨v9, σ7, e8, h⟩ := bnc_some h
  refine kR.cVi [.int x2, .int 0] dX5_readCompared_56 rfl (by unfold DDGX5_readBoth; omega) mwX5_248 (zq11 σ5.2.2.2.2) (by decide) rfl rfl (Nat.le_of_ble_eq_true rfl) (lX8_add σ5.2.2.2.2 x2 0 σ5 _ e8) ?_
  refine zR.pop dX5_readCompared_59 rfl ?_
  exact kR.vret dX5_readCompared_60 h
def fX5_readCompared' (g : TGX5_readBoth) (p1 : Int32) (σ : zS) : Option zS := bnr (g.2.2.2.2.2.2.2.2.1 p1 σ) fun σ1 => if (iG σ1 54 5) = 60 then fX5_readCompared'_38 g p1 (iG σ1 54 5) σ1 else if (iG σ1 54 5) = 62 then fX5_readCompared'_38 g p1 (iG σ1 54 5) σ1 else if (iG σ1 54 5) = 61 then fX5_readCompared'_38 g p1 (iG σ1 54 5) σ1 else bnr (fX5_fail 1 (iG σ1 54 4) σ1) fun σ10 => some σ10
theorem eX5_readCompared {sc : Nat × (Nat → Int32)} (g : TGX5_readBoth) {n : Nat} (hg : okGX5_readBoth sc n g) (p1 : Int32) (σ : zS) (w : zS) (h : fX5_readCompared' g p1 σ = some w) : zR (zY0 sc) (DDGX5_readBoth + n + 1) 0 0 mX5_readCompared 0 [(0, .ref 54), (1, .int p1)] [] (zE σ) (none, zE w) := by
  unfold fX5_readCompared' at h
  refine kR.aload_n dX5_readCompared_0 0 rfl ?_
  refine kR.iload_n dX5_readCompared_1 1 rfl ?_
  obtain ⟨σ1, e2, h⟩ := bnr_some h
  refine kR.cVv [.int p1] dX5_readCompared_2 rfl (Nat.le_refl _) mwX5_239 zp54 (by decide) rfl rfl (Nat.le_of_ble_eq_true rfl) (hg.2.2.2.2.2.2.2.2.1 p1 σ _ e2) ?_
  refine kR.aload_n dX5_readCompared_5 0 rfl ?_
  refine kR.getI dX5_readCompared_6 flX5_22 zcf5 zp54 (Or.inl rfl) ?_
  refine zR.istore_n (i := 2) (ls' := [(2, .int (iG σ1 54 5)), (0, .ref 54), (1, .int p1)]) dX5_readCompared_9 rfl (by decide) rfl ?_
  refine kR.iload_n dX5_readCompared_10 0 rfl ?_
  refine zR.bipush (v := 60) dX5_readCompared_11 (by decide) ?_
  refine kR.icmp_eq (tgt := 38) dX5_readCompared_13 (by decide) h (fun h => ?_) (fun h => ?_)
  · refine zR.sub [1, 2, 0] rfl ?_
    exact kX5_readCompared_38 g hg _ _ _ _ h
  · refine kR.iload_n dX5_readCompared_16 0 rfl ?_
    refine zR.bipush (v := 62) dX5_readCompared_17 (by decide) ?_
    refine kR.icmp_eq (tgt := 38) dX5_readCompared_19 (by decide) h (fun h => ?_) (fun h => ?_)
    · refine zR.sub [1, 2, 0] rfl ?_
      exact kX5_readCompared_38 g hg _ _ _ _ h
    · refine kR.iload_n dX5_readCompared_22 0 rfl ?_
      refine zR.bipush (v := 61) dX5_readCompared_23 (by decide) ?_
      refine kR.icmp_eq (tgt := 38) dX5_readCompared_25 (by decide) h (fun h => ?_) (fun h => ?_)
      · refine zR.sub [1, 2, 0] rfl ?_
        exact kX5_readCompared_38 g hg _ _ _ _ h
      · refine kR.aload_n dX5_readCompared_28 1 rfl ?_
        refine zR.iconst (v := 1) dX5_readCompared_29 (by decide) ?_
        refine kR.aload_n dX5_readCompared_30 1 rfl ?_
        refine kR.getI dX5_readCompared_31 flX5_19 zcf5 zp54 (Or.inl rfl) ?_
        obtain ⟨σ10, e11, h⟩ := bnr_some h
        refine kR.cVv [.int 1, .int (iG σ1 54 4)] dX5_readCompared_34 rfl (by unfold DDGX5_readBoth; omega) mwX5_73 zp54 (by decide) rfl rfl (Nat.le_of_ble_eq_true rfl) (lX5_fail 1 (iG σ1 54 4) σ1 _ e11) ?_
        exact kR.vret dX5_readCompared_37 h
theorem lX5_readCompared' {sc : Nat × (Nat → Int32)} (g : TGX5_readBoth) {n : Nat} (hg : okGX5_readBoth sc n g) (p1 : Int32) (σ : zS) (w : zS) (h : fX5_readCompared' g p1 σ = some w) : zC (zY0 sc) (DDGX5_readBoth + n + 1) 0 0 mX5_readCompared [.ref 54, .int p1] (zE σ) (none, zE w) := zC.of (by decide +kernel) (Nat.le_of_ble_eq_true rfl) rfl (eX5_readCompared g hg p1 σ w h)
theorem dX5_readFact_0 : decode cX5_readFact 0 = .ok (.aload_n 0, 1) := by decide +kernel
theorem dX5_readFact_1 : decode cX5_readFact 1 = .ok (.getfield 25, 3) := by decide +kernel
theorem dX5_readFact_4 : decode cX5_readFact 4 = .ok (.bipush 21, 2) := by decide +kernel
theorem dX5_readFact_6 : decode cX5_readFact 6 = .ok (.if_icmp .ne 11, 3) := by decide +kernel
theorem dX5_readFact_9 : decode cX5_readFact 9 = .ok (.aload_n 0, 1) := by decide +kernel
theorem dX5_readFact_10 : decode cX5_readFact 10 = .ok (.iload_n 1, 1) := by decide +kernel
theorem dX5_readFact_11 : decode cX5_readFact 11 = .ok (.invokevirtual 281, 3) := by decide +kernel
theorem dX5_readFact_14 : decode cX5_readFact 14 = .ok (.goto 72, 3) := by decide +kernel
theorem dX5_readFact_17 : decode cX5_readFact 17 = .ok (.aload_n 0, 1) := by decide +kernel
theorem dX5_readFact_18 : decode cX5_readFact 18 = .ok (.getfield 22, 3) := by decide +kernel
theorem dX5_readFact_21 : decode cX5_readFact 21 = .ok (.bipush 91, 2) := by decide +kernel
theorem dX5_readFact_23 : decode cX5_readFact 23 = .ok (.if_icmp .ne 29, 3) := by decide +kernel
theorem dX5_readFact_26 : decode cX5_readFact 26 = .ok (.aload_n 0, 1) := by decide +kernel
theorem dX5_readFact_27 : decode cX5_readFact 27 = .ok (.bipush 91, 2) := by decide +kernel
theorem dX5_readFact_29 : decode cX5_readFact 29 = .ok (.iload_n 1, 1) := by decide +kernel
theorem dX5_readFact_30 : decode cX5_readFact 30 = .ok (.invokevirtual 257, 3) := by decide +kernel
theorem dX5_readFact_33 : decode cX5_readFact 33 = .ok (.ifCond .eq 53, 3) := by decide +kernel
theorem dX5_readFact_36 : decode cX5_readFact 36 = .ok (.aload_n 0, 1) := by decide +kernel
theorem dX5_readFact_37 : decode cX5_readFact 37 = .ok (.iload_n 1, 1) := by decide +kernel
theorem dX5_readFact_38 : decode cX5_readFact 38 = .ok (.iconst 1, 1) := by decide +kernel
theorem dX5_readFact_39 : decode cX5_readFact 39 = .ok (.iadd, 1) := by decide +kernel
theorem dX5_readFact_40 : decode cX5_readFact 40 = .ok (.invokevirtual 269, 3) := by decide +kernel
theorem dX5_readFact_43 : decode cX5_readFact 43 = .ok (.aload_n 0, 1) := by decide +kernel
theorem dX5_readFact_44 : decode cX5_readFact 44 = .ok (.bipush 93, 2) := by decide +kernel
theorem dX5_readFact_46 : decode cX5_readFact 46 = .ok (.invokevirtual 260, 3) := by decide +kernel
theorem dX5_readFact_49 : decode cX5_readFact 49 = .ok (.goto 37, 3) := by decide +kernel
theorem dX5_readFact_52 : decode cX5_readFact 52 = .ok (.aload_n 0, 1) := by decide +kernel
theorem dX5_readFact_53 : decode cX5_readFact 53 = .ok (.getfield 25, 3) := by decide +kernel
theorem dX5_readFact_56 : decode cX5_readFact 56 = .ok (.bipush 22, 2) := by decide +kernel
theorem dX5_readFact_58 : decode cX5_readFact 58 = .ok (.if_icmp .ne 23, 3) := by decide +kernel
theorem dX5_readFact_61 : decode cX5_readFact 61 = .ok (.aload_n 0, 1) := by decide +kernel
theorem dX5_readFact_62 : decode cX5_readFact 62 = .ok (.getfield 44, 3) := by decide +kernel
theorem dX5_readFact_65 : decode cX5_readFact 65 = .ok (.getfield 228, 3) := by decide +kernel
theorem dX5_readFact_68 : decode cX5_readFact 68 = .ok (.iconst 1, 1) := by decide +kernel
theorem dX5_readFact_69 : decode cX5_readFact 69 = .ok (.iconst 1, 1) := by decide +kernel
theorem dX5_readFact_70 : decode cX5_readFact 70 = .ok (.invokevirtual 248, 3) := by decide +kernel
theorem dX5_readFact_73 : decode cX5_readFact 73 = .ok (.pop, 1) := by decide +kernel
theorem dX5_readFact_74 : decode cX5_readFact 74 = .ok (.aload_n 0, 1) := by decide +kernel
theorem dX5_readFact_75 : decode cX5_readFact 75 = .ok (.invokevirtual 114, 3) := by decide +kernel
theorem dX5_readFact_78 : decode cX5_readFact 78 = .ok (.goto 8, 3) := by decide +kernel
theorem dX5_readFact_81 : decode cX5_readFact 81 = .ok (.aload_n 0, 1) := by decide +kernel
theorem dX5_readFact_82 : decode cX5_readFact 82 = .ok (.iload_n 1, 1) := by decide +kernel
theorem dX5_readFact_83 : decode cX5_readFact 83 = .ok (.invokevirtual 284, 3) := by decide +kernel
theorem dX5_readFact_86 : decode cX5_readFact 86 = .ok (.return_, 1) := by decide +kernel
def fX5_readFact' (g : TGX5_readBoth) (p1 : Int32) (σ : zS) : Option zS := if (iG σ 54 6) = 21 then bnr (g.2.2.2.2.1 p1 σ) fun σ15 => some σ15 else if (iG σ 54 5) = 91 then bnc (fX5_isOpened 91 p1 σ) fun v10 σ8 => if v10 = 0 then some σ8 else bnr (g.2.2.2.2.2.2.2.2.2 (p1 + 1) σ8) fun σ11 => bnr (fX5_takeSign 93 σ11) fun σ13 => some σ13 else if (iG σ 54 6) = 22 then bnc (fX8_add σ.2.2.2.2 1 1 σ) fun v5 σ3 => bnr (fX5_advance σ3) fun σ6 => some σ6 else bnr (g.2.1 p1 σ) fun σ1 => some σ1
theorem eX5_readFact {sc : Nat × (Nat → Int32)} (g : TGX5_readBoth) {n : Nat} (hg : okGX5_readBoth sc n g) (p1 : Int32) (σ : zS) (w : zS) (h : fX5_readFact' g p1 σ = some w) : zR (zY0 sc) (DDGX5_readBoth + n + 1) 0 0 mX5_readFact 0 [(0, .ref 54), (1, .int p1)] [] (zE σ) (none, zE w) := by
  unfold fX5_readFact' at h
  refine kR.aload_n dX5_readFact_0 0 rfl ?_
  refine kR.getI dX5_readFact_1 flX5_25 zcf5 zp54 (Or.inl rfl) ?_
  refine zR.bipush (v := 21) dX5_readFact_4 (by decide) ?_
  refine kR.icmp_ne (tgt := 17) dX5_readFact_6 (by decide) h (fun h => ?_) (fun h => ?_)
  · refine kR.aload_n dX5_readFact_17 0 rfl ?_
    refine kR.getI dX5_readFact_18 flX5_22 zcf5 zp54 (Or.inl rfl) ?_
    refine zR.bipush (v := 91) dX5_readFact_21 (by decide) ?_
    refine kR.icmp_ne (tgt := 52) dX5_readFact_23 (by decide) h (fun h => ?_) (fun h => ?_)
    · refine kR.aload_n dX5_readFact_52 0 rfl ?_
      refine kR.getI dX5_readFact_53 flX5_25 zcf5 zp54 (Or.inl rfl) ?_
      refine zR.bipush (v := 22) dX5_readFact_56 (by decide) ?_
      refine kR.icmp_ne (tgt := 81) dX5_readFact_58 (by decide) h (fun h => ?_) (fun h => ?_)
      · refine kR.aload_n dX5_readFact_81 0 rfl ?_
        refine kR.iload_n dX5_readFact_82 1 rfl ?_
        obtain ⟨σ1, e2, h⟩ := bnr_some h
        refine kR.cVv [.int p1] dX5_readFact_83 rfl (Nat.le_refl _) mwX5_284 zp54 (by decide) rfl rfl (Nat.le_of_ble_eq_true rfl) (hg.2.1 p1 σ _ e2) ?_
        exact kR.vret dX5_readFact_86 h
      · refine kR.aload_n dX5_readFact_61 0 rfl ?_
        refine kR.getR (v := (rp σ.2.2.2.2 + 0)) dX5_readFact_62 flX5_44 zcf5 zp54 (Or.inl ⟨_, rfl⟩) rfl ?_
        refine kR.getR (v := (rp σ.2.2.2.2 + 11)) dX5_readFact_65 flX5_228 zcf6 (zq0 σ.2.2.2.2) (Or.inl ⟨_, rfl⟩) (zr0_15 _ σ.2.2.2.2) ?_
        refine zR.iconst (v := 1) dX5_readFact_68 (by decide) ?_
        refine zR.iconst (v := 1) dX5_readFact_69 (by decide) ?_
        obtain ⟨v5, σ3, e4, h⟩ := bnc_some h
        refine kR.cVi [.int 1, .int 1] dX5_readFact_70 rfl (by unfold DDGX5_readBoth; omega) mwX5_248 (zq11 σ.2.2.2.2) (by decide) rfl rfl (Nat.le_of_ble_eq_true rfl) (lX8_add σ.2.2.2.2 1 1 σ _ e4) ?_
        refine zR.pop dX5_readFact_73 rfl ?_
        refine kR.aload_n dX5_readFact_74 0 rfl ?_
        obtain ⟨σ6, e7, h⟩ := bnr_some h
        refine kR.cVv [] dX5_readFact_75 rfl (by unfold DDGX5_readBoth; omega) mwX5_114 zp54 (by decide) rfl rfl (Nat.le_of_ble_eq_true rfl) (lX5_advance σ3 _ e7) ?_
        refine zR.goto (tgt := 86) dX5_readFact_78 (by decide) ?_
        exact kR.vret dX5_readFact_86 h
    · refine kR.aload_n dX5_readFact_26 0 rfl ?_
      refine zR.bipush (v := 91) dX5_readFact_27 (by decide) ?_
      refine kR.iload_n dX5_readFact_29 1 rfl ?_
      obtain ⟨v10, σ8, e9, h⟩ := bnc_some h
      refine kR.cVi [.int 91, .int p1] dX5_readFact_30 rfl (by unfold DDGX5_readBoth; omega) mwX5_257 zp54 (by decide) rfl rfl (Nat.le_of_ble_eq_true rfl) (lX5_isOpened 91 p1 σ _ e9) ?_
      refine kR.if_eq (tgt := 86) dX5_readFact_33 (by decide) h (fun h => ?_) (fun h => ?_)
      · exact kR.vret dX5_readFact_86 h
      · refine kR.aload_n dX5_readFact_36 0 rfl ?_
        refine kR.iload_n dX5_readFact_37 1 rfl ?_
        refine zR.iconst (v := 1) dX5_readFact_38 (by decide) ?_
        refine zR.iadd dX5_readFact_39 ?_
        obtain ⟨σ11, e12, h⟩ := bnr_some h
        refine kR.cVv [.int (p1 + 1)] dX5_readFact_40 rfl (Nat.le_refl _) mwX5_269 zp54 (by decide) rfl rfl (Nat.le_of_ble_eq_true rfl) (hg.2.2.2.2.2.2.2.2.2 (p1 + 1) σ8 _ e12) ?_
        refine kR.aload_n dX5_readFact_43 0 rfl ?_
        refine zR.bipush (v := 93) dX5_readFact_44 (by decide) ?_
        obtain ⟨σ13, e14, h⟩ := bnr_some h
        refine kR.cVv [.int 93] dX5_readFact_46 rfl (by unfold DDGX5_readBoth; omega) mwX5_260 zp54 (by decide) rfl rfl (Nat.le_of_ble_eq_true rfl) (lX5_takeSign 93 σ11 _ e14) ?_
        refine zR.goto (tgt := 86) dX5_readFact_49 (by decide) ?_
        exact kR.vret dX5_readFact_86 h
  · refine kR.aload_n dX5_readFact_9 0 rfl ?_
    refine kR.iload_n dX5_readFact_10 1 rfl ?_
    obtain ⟨σ15, e16, h⟩ := bnr_some h
    refine kR.cVv [.int p1] dX5_readFact_11 rfl (Nat.le_refl _) mwX5_281 zp54 (by decide) rfl rfl (Nat.le_of_ble_eq_true rfl) (hg.2.2.2.2.1 p1 σ _ e16) ?_
    refine zR.goto (tgt := 86) dX5_readFact_14 (by decide) ?_
    exact kR.vret dX5_readFact_86 h
theorem lX5_readFact' {sc : Nat × (Nat → Int32)} (g : TGX5_readBoth) {n : Nat} (hg : okGX5_readBoth sc n g) (p1 : Int32) (σ : zS) (w : zS) (h : fX5_readFact' g p1 σ = some w) : zC (zY0 sc) (DDGX5_readBoth + n + 1) 0 0 mX5_readFact [.ref 54, .int p1] (zE σ) (none, zE w) := zC.of (by decide +kernel) (Nat.le_of_ble_eq_true rfl) rfl (eX5_readFact g hg p1 σ w h)
theorem dX5_readIf_0 : decode cX5_readIf 0 = .ok (.aload_n 0, 1) := by decide +kernel
theorem dX5_readIf_1 : decode cX5_readIf 1 = .ok (.invokevirtual 114, 3) := by decide +kernel
theorem dX5_readIf_4 : decode cX5_readIf 4 = .ok (.aload_n 0, 1) := by decide +kernel
theorem dX5_readIf_5 : decode cX5_readIf 5 = .ok (.bipush 40, 2) := by decide +kernel
theorem dX5_readIf_7 : decode cX5_readIf 7 = .ok (.iload_n 1, 1) := by decide +kernel
theorem dX5_readIf_8 : decode cX5_readIf 8 = .ok (.invokevirtual 257, 3) := by decide +kernel
theorem dX5_readIf_11 : decode cX5_readIf 11 = .ok (.ifCond .ne 4, 3) := by decide +kernel
theorem dX5_readIf_14 : decode cX5_readIf 14 = .ok (.return_, 1) := by decide +kernel
theorem dX5_readIf_15 : decode cX5_readIf 15 = .ok (.aload_n 0, 1) := by decide +kernel
theorem dX5_readIf_16 : decode cX5_readIf 16 = .ok (.iload_n 1, 1) := by decide +kernel
theorem dX5_readIf_17 : decode cX5_readIf 17 = .ok (.iconst 1, 1) := by decide +kernel
theorem dX5_readIf_18 : decode cX5_readIf 18 = .ok (.iadd, 1) := by decide +kernel
theorem dX5_readIf_19 : decode cX5_readIf 19 = .ok (.invokevirtual 269, 3) := by decide +kernel
theorem dX5_readIf_22 : decode cX5_readIf 22 = .ok (.aload_n 0, 1) := by decide +kernel
theorem dX5_readIf_23 : decode cX5_readIf 23 = .ok (.bipush 44, 2) := by decide +kernel
theorem dX5_readIf_25 : decode cX5_readIf 25 = .ok (.invokevirtual 260, 3) := by decide +kernel
theorem dX5_readIf_28 : decode cX5_readIf 28 = .ok (.aload_n 0, 1) := by decide +kernel
theorem dX5_readIf_29 : decode cX5_readIf 29 = .ok (.getfield 44, 3) := by decide +kernel
theorem dX5_readIf_32 : decode cX5_readIf 32 = .ok (.getfield 228, 3) := by decide +kernel
theorem dX5_readIf_35 : decode cX5_readIf 35 = .ok (.iconst 3, 1) := by decide +kernel
theorem dX5_readIf_36 : decode cX5_readIf 36 = .ok (.iconst 0, 1) := by decide +kernel
theorem dX5_readIf_37 : decode cX5_readIf 37 = .ok (.invokevirtual 248, 3) := by decide +kernel
theorem dX5_readIf_40 : decode cX5_readIf 40 = .ok (.istore_n 2, 1) := by decide +kernel
theorem dX5_readIf_41 : decode cX5_readIf 41 = .ok (.aload_n 0, 1) := by decide +kernel
theorem dX5_readIf_42 : decode cX5_readIf 42 = .ok (.iload_n 1, 1) := by decide +kernel
theorem dX5_readIf_43 : decode cX5_readIf 43 = .ok (.iconst 1, 1) := by decide +kernel
theorem dX5_readIf_44 : decode cX5_readIf 44 = .ok (.iadd, 1) := by decide +kernel
theorem dX5_readIf_45 : decode cX5_readIf 45 = .ok (.invokevirtual 239, 3) := by decide +kernel
theorem dX5_readIf_48 : decode cX5_readIf 48 = .ok (.aload_n 0, 1) := by decide +kernel
theorem dX5_readIf_49 : decode cX5_readIf 49 = .ok (.bipush 44, 2) := by decide +kernel
theorem dX5_readIf_51 : decode cX5_readIf 51 = .ok (.invokevirtual 260, 3) := by decide +kernel
theorem dX5_readIf_54 : decode cX5_readIf 54 = .ok (.aload_n 0, 1) := by decide +kernel
theorem dX5_readIf_55 : decode cX5_readIf 55 = .ok (.getfield 44, 3) := by decide +kernel
theorem dX5_readIf_58 : decode cX5_readIf 58 = .ok (.getfield 228, 3) := by decide +kernel
theorem dX5_readIf_61 : decode cX5_readIf 61 = .ok (.iconst 4, 1) := by decide +kernel
theorem dX5_readIf_62 : decode cX5_readIf 62 = .ok (.iconst 0, 1) := by decide +kernel
theorem dX5_readIf_63 : decode cX5_readIf 63 = .ok (.invokevirtual 248, 3) := by decide +kernel
theorem dX5_readIf_66 : decode cX5_readIf 66 = .ok (.istore_n 3, 1) := by decide +kernel
theorem dX5_readIf_67 : decode cX5_readIf 67 = .ok (.aload_n 0, 1) := by decide +kernel
theorem dX5_readIf_68 : decode cX5_readIf 68 = .ok (.getfield 44, 3) := by decide +kernel
theorem dX5_readIf_71 : decode cX5_readIf 71 = .ok (.getfield 228, 3) := by decide +kernel
theorem dX5_readIf_74 : decode cX5_readIf 74 = .ok (.iload_n 2, 1) := by decide +kernel
theorem dX5_readIf_75 : decode cX5_readIf 75 = .ok (.invokevirtual 272, 3) := by decide +kernel
theorem dX5_readIf_78 : decode cX5_readIf 78 = .ok (.aload_n 0, 1) := by decide +kernel
theorem dX5_readIf_79 : decode cX5_readIf 79 = .ok (.iload_n 1, 1) := by decide +kernel
theorem dX5_readIf_80 : decode cX5_readIf 80 = .ok (.iconst 1, 1) := by decide +kernel
theorem dX5_readIf_81 : decode cX5_readIf 81 = .ok (.iadd, 1) := by decide +kernel
theorem dX5_readIf_82 : decode cX5_readIf 82 = .ok (.invokevirtual 239, 3) := by decide +kernel
theorem dX5_readIf_85 : decode cX5_readIf 85 = .ok (.aload_n 0, 1) := by decide +kernel
theorem dX5_readIf_86 : decode cX5_readIf 86 = .ok (.bipush 41, 2) := by decide +kernel
theorem dX5_readIf_88 : decode cX5_readIf 88 = .ok (.invokevirtual 260, 3) := by decide +kernel
theorem dX5_readIf_91 : decode cX5_readIf 91 = .ok (.aload_n 0, 1) := by decide +kernel
theorem dX5_readIf_92 : decode cX5_readIf 92 = .ok (.getfield 44, 3) := by decide +kernel
theorem dX5_readIf_95 : decode cX5_readIf 95 = .ok (.getfield 228, 3) := by decide +kernel
theorem dX5_readIf_98 : decode cX5_readIf 98 = .ok (.iload_n 3, 1) := by decide +kernel
theorem dX5_readIf_99 : decode cX5_readIf 99 = .ok (.invokevirtual 272, 3) := by decide +kernel
theorem dX5_readIf_102 : decode cX5_readIf 102 = .ok (.return_, 1) := by decide +kernel
def fX5_readIf' (g : TGX5_readBoth) (p1 : Int32) (σ : zS) : Option zS := bnr (fX5_advance σ) fun σ1 => bnc (fX5_isOpened 40 p1 σ1) fun v5 σ3 => if v5 = 0 then some σ3 else bnr (g.2.2.2.2.2.2.2.2.2 (p1 + 1) σ3) fun σ6 => bnr (fX5_takeSign 44 σ6) fun σ8 => bnc (fX8_add σ8.2.2.2.2 3 0 σ8) fun v12 σ10 => bnr (g.2.2.2.2.2.2.2.2.1 (p1 + 1) σ10) fun σ13 => bnr (fX5_takeSign 44 σ13) fun σ15 => bnc (fX8_add σ15.2.2.2.2 4 0 σ15) fun v19 σ17 => bnr (fX8_landHere σ17.2.2.2.2 v12 σ17) fun σ20 => bnr (g.2.2.2.2.2.2.2.2.1 (p1 + 1) σ20) fun σ22 => bnr (fX5_takeSign 41 σ22) fun σ24 => bnr (fX8_landHere σ24.2.2.2.2 v19 σ24) fun σ26 => some σ26
theorem eX5_readIf {sc : Nat × (Nat → Int32)} (g : TGX5_readBoth) {n : Nat} (hg : okGX5_readBoth sc n g) (p1 : Int32) (σ : zS) (w : zS) (h : fX5_readIf' g p1 σ = some w) : zR (zY0 sc) (DDGX5_readBoth + n + 1) 0 0 mX5_readIf 0 [(0, .ref 54), (1, .int p1)] [] (zE σ) (none, zE w) := by
  unfold fX5_readIf' at h
  refine kR.aload_n dX5_readIf_0 0 rfl ?_
  obtain ⟨σ1, e2, h⟩ := bnr_some h
  refine kR.cVv [] dX5_readIf_1 rfl (by unfold DDGX5_readBoth; omega) mwX5_114 zp54 (by decide) rfl rfl (Nat.le_of_ble_eq_true rfl) (lX5_advance σ _ e2) ?_
  refine kR.aload_n dX5_readIf_4 0 rfl ?_
  refine zR.bipush (v := 40) dX5_readIf_5 (by decide) ?_
  refine kR.iload_n dX5_readIf_7 1 rfl ?_
  obtain ⟨v5, σ3, e4, h⟩ := bnc_some h
  refine kR.cVi [.int 40, .int p1] dX5_readIf_8 rfl (by unfold DDGX5_readBoth; omega) mwX5_257 zp54 (by decide) rfl rfl (Nat.le_of_ble_eq_true rfl) (lX5_isOpened 40 p1 σ1 _ e4) ?_
  refine kR.if_ne (tgt := 15) dX5_readIf_11 (by decide) h (fun h => ?_) (fun h => ?_)
  · refine kR.aload_n dX5_readIf_15 0 rfl ?_
    refine kR.iload_n dX5_readIf_16 1 rfl ?_
    refine zR.iconst (v := 1) dX5_readIf_17 (by decide) ?_
    refine zR.iadd dX5_readIf_18 ?_
    obtain ⟨σ6, e7, h⟩ := bnr_some h
    refine kR.cVv [.int (p1 + 1)] dX5_readIf_19 rfl (Nat.le_refl _) mwX5_269 zp54 (by decide) rfl rfl (Nat.le_of_ble_eq_true rfl) (hg.2.2.2.2.2.2.2.2.2 (p1 + 1) σ3 _ e7) ?_
    refine kR.aload_n dX5_readIf_22 0 rfl ?_
    refine zR.bipush (v := 44) dX5_readIf_23 (by decide) ?_
    obtain ⟨σ8, e9, h⟩ := bnr_some h
    refine kR.cVv [.int 44] dX5_readIf_25 rfl (by unfold DDGX5_readBoth; omega) mwX5_260 zp54 (by decide) rfl rfl (Nat.le_of_ble_eq_true rfl) (lX5_takeSign 44 σ6 _ e9) ?_
    refine kR.aload_n dX5_readIf_28 0 rfl ?_
    refine kR.getR (v := (rp σ8.2.2.2.2 + 0)) dX5_readIf_29 flX5_44 zcf5 zp54 (Or.inl ⟨_, rfl⟩) rfl ?_
    refine kR.getR (v := (rp σ8.2.2.2.2 + 11)) dX5_readIf_32 flX5_228 zcf6 (zq0 σ8.2.2.2.2) (Or.inl ⟨_, rfl⟩) (zr0_15 _ σ8.2.2.2.2) ?_
    refine zR.iconst (v := 3) dX5_readIf_35 (by decide) ?_
    refine zR.iconst (v := 0) dX5_readIf_36 (by decide) ?_
    obtain ⟨v12, σ10, e11, h⟩ := bnc_some h
    refine kR.cVi [.int 3, .int 0] dX5_readIf_37 rfl (by unfold DDGX5_readBoth; omega) mwX5_248 (zq11 σ8.2.2.2.2) (by decide) rfl rfl (Nat.le_of_ble_eq_true rfl) (lX8_add σ8.2.2.2.2 3 0 σ8 _ e11) ?_
    refine zR.istore_n (i := 2) (ls' := [(2, .int v12), (0, .ref 54), (1, .int p1)]) dX5_readIf_40 rfl (by decide) rfl ?_
    refine kR.aload_n dX5_readIf_41 1 rfl ?_
    refine kR.iload_n dX5_readIf_42 2 rfl ?_
    refine zR.iconst (v := 1) dX5_readIf_43 (by decide) ?_
    refine zR.iadd dX5_readIf_44 ?_
    obtain ⟨σ13, e14, h⟩ := bnr_some h
    refine kR.cVv [.int (p1 + 1)] dX5_readIf_45 rfl (Nat.le_refl _) mwX5_239 zp54 (by decide) rfl rfl (Nat.le_of_ble_eq_true rfl) (hg.2.2.2.2.2.2.2.2.1 (p1 + 1) σ10 _ e14) ?_
    refine kR.aload_n dX5_readIf_48 1 rfl ?_
    refine zR.bipush (v := 44) dX5_readIf_49 (by decide) ?_
    obtain ⟨σ15, e16, h⟩ := bnr_some h
    refine kR.cVv [.int 44] dX5_readIf_51 rfl (by unfold DDGX5_readBoth; omega) mwX5_260 zp54 (by decide) rfl rfl (Nat.le_of_ble_eq_true rfl) (lX5_takeSign 44 σ13 _ e16) ?_
    refine kR.aload_n dX5_readIf_54 1 rfl ?_
    refine kR.getR (v := (rp σ15.2.2.2.2 + 0)) dX5_readIf_55 flX5_44 zcf5 zp54 (Or.inl ⟨_, rfl⟩) rfl ?_
    refine kR.getR (v := (rp σ15.2.2.2.2 + 11)) dX5_readIf_58 flX5_228 zcf6 (zq0 σ15.2.2.2.2) (Or.inl ⟨_, rfl⟩) (zr0_15 _ σ15.2.2.2.2) ?_
    refine zR.iconst (v := 4) dX5_readIf_61 (by decide) ?_
    refine zR.iconst (v := 0) dX5_readIf_62 (by decide) ?_
    obtain ⟨v19, σ17, e18, h⟩ := bnc_some h
    refine kR.cVi [.int 4, .int 0] dX5_readIf_63 rfl (by unfold DDGX5_readBoth; omega) mwX5_248 (zq11 σ15.2.2.2.2) (by decide) rfl rfl (Nat.le_of_ble_eq_true rfl) (lX8_add σ15.2.2.2.2 4 0 σ15 _ e18) ?_
    refine zR.istore_n (i := 3) (ls' := [(3, .int v19), (2, .int v12), (0, .ref 54), (1, .int p1)]) dX5_readIf_66 rfl (by decide) rfl ?_
    refine kR.aload_n dX5_readIf_67 2 rfl ?_
    refine kR.getR (v := (rp σ17.2.2.2.2 + 0)) dX5_readIf_68 flX5_44 zcf5 zp54 (Or.inl ⟨_, rfl⟩) rfl ?_
    refine kR.getR (v := (rp σ17.2.2.2.2 + 11)) dX5_readIf_71 flX5_228 zcf6 (zq0 σ17.2.2.2.2) (Or.inl ⟨_, rfl⟩) (zr0_15 _ σ17.2.2.2.2) ?_
    refine kR.iload_n dX5_readIf_74 1 rfl ?_
    obtain ⟨σ20, e21, h⟩ := bnr_some h
    refine kR.cVv [.int v12] dX5_readIf_75 rfl (by unfold DDGX5_readBoth; omega) mwX5_272 (zq11 σ17.2.2.2.2) (by decide) rfl rfl (Nat.le_of_ble_eq_true rfl) (lX8_landHere σ17.2.2.2.2 v12 σ17 _ e21) ?_
    refine kR.aload_n dX5_readIf_78 2 rfl ?_
    refine kR.iload_n dX5_readIf_79 3 rfl ?_
    refine zR.iconst (v := 1) dX5_readIf_80 (by decide) ?_
    refine zR.iadd dX5_readIf_81 ?_
    obtain ⟨σ22, e23, h⟩ := bnr_some h
    refine kR.cVv [.int (p1 + 1)] dX5_readIf_82 rfl (Nat.le_refl _) mwX5_239 zp54 (by decide) rfl rfl (Nat.le_of_ble_eq_true rfl) (hg.2.2.2.2.2.2.2.2.1 (p1 + 1) σ20 _ e23) ?_
    refine kR.aload_n dX5_readIf_85 2 rfl ?_
    refine zR.bipush (v := 41) dX5_readIf_86 (by decide) ?_
    obtain ⟨σ24, e25, h⟩ := bnr_some h
    refine kR.cVv [.int 41] dX5_readIf_88 rfl (by unfold DDGX5_readBoth; omega) mwX5_260 zp54 (by decide) rfl rfl (Nat.le_of_ble_eq_true rfl) (lX5_takeSign 41 σ22 _ e25) ?_
    refine kR.aload_n dX5_readIf_91 2 rfl ?_
    refine kR.getR (v := (rp σ24.2.2.2.2 + 0)) dX5_readIf_92 flX5_44 zcf5 zp54 (Or.inl ⟨_, rfl⟩) rfl ?_
    refine kR.getR (v := (rp σ24.2.2.2.2 + 11)) dX5_readIf_95 flX5_228 zcf6 (zq0 σ24.2.2.2.2) (Or.inl ⟨_, rfl⟩) (zr0_15 _ σ24.2.2.2.2) ?_
    refine kR.iload_n dX5_readIf_98 0 rfl ?_
    obtain ⟨σ26, e27, h⟩ := bnr_some h
    refine kR.cVv [.int v19] dX5_readIf_99 rfl (by unfold DDGX5_readBoth; omega) mwX5_272 (zq11 σ24.2.2.2.2) (by decide) rfl rfl (Nat.le_of_ble_eq_true rfl) (lX8_landHere σ24.2.2.2.2 v19 σ24 _ e27) ?_
    exact kR.vret dX5_readIf_102 h
  · exact kR.vret dX5_readIf_14 h
theorem lX5_readIf' {sc : Nat × (Nat → Int32)} (g : TGX5_readBoth) {n : Nat} (hg : okGX5_readBoth sc n g) (p1 : Int32) (σ : zS) (w : zS) (h : fX5_readIf' g p1 σ = some w) : zC (zY0 sc) (DDGX5_readBoth + n + 1) 0 0 mX5_readIf [.ref 54, .int p1] (zE σ) (none, zE w) := zC.of (by decide +kernel) (Nat.le_of_ble_eq_true rfl) rfl (eX5_readIf g hg p1 σ w h)
theorem dX5_readNot_0 : decode cX5_readNot 0 = .ok (.iload_n 1, 1) := by decide +kernel
theorem dX5_readNot_1 : decode cX5_readNot 1 = .ok (.bipush 7, 2) := by decide +kernel
theorem dX5_readNot_3 : decode cX5_readNot 3 = .ok (.if_icmp .lt 13, 3) := by decide +kernel
theorem dX5_readNot_6 : decode cX5_readNot 6 = .ok (.aload_n 0, 1) := by decide +kernel
theorem dX5_readNot_7 : decode cX5_readNot 7 = .ok (.iconst 5, 1) := by decide +kernel
theorem dX5_readNot_8 : decode cX5_readNot 8 = .ok (.aload_n 0, 1) := by decide +kernel
theorem dX5_readNot_9 : decode cX5_readNot 9 = .ok (.getfield 19, 3) := by decide +kernel
theorem dX5_readNot_12 : decode cX5_readNot 12 = .ok (.invokevirtual 73, 3) := by decide +kernel
theorem dX5_readNot_15 : decode cX5_readNot 15 = .ok (.return_, 1) := by decide +kernel
theorem dX5_readNot_16 : decode cX5_readNot 16 = .ok (.aload_n 0, 1) := by decide +kernel
theorem dX5_readNot_17 : decode cX5_readNot 17 = .ok (.invokevirtual 114, 3) := by decide +kernel
theorem dX5_readNot_20 : decode cX5_readNot 20 = .ok (.aload_n 0, 1) := by decide +kernel
theorem dX5_readNot_21 : decode cX5_readNot 21 = .ok (.iload_n 1, 1) := by decide +kernel
theorem dX5_readNot_22 : decode cX5_readNot 22 = .ok (.iconst 1, 1) := by decide +kernel
theorem dX5_readNot_23 : decode cX5_readNot 23 = .ok (.iadd, 1) := by decide +kernel
theorem dX5_readNot_24 : decode cX5_readNot 24 = .ok (.invokevirtual 278, 3) := by decide +kernel
theorem dX5_readNot_27 : decode cX5_readNot 27 = .ok (.aload_n 0, 1) := by decide +kernel
theorem dX5_readNot_28 : decode cX5_readNot 28 = .ok (.getfield 44, 3) := by decide +kernel
theorem dX5_readNot_31 : decode cX5_readNot 31 = .ok (.getfield 228, 3) := by decide +kernel
theorem dX5_readNot_34 : decode cX5_readNot 34 = .ok (.iconst 5, 1) := by decide +kernel
theorem dX5_readNot_35 : decode cX5_readNot 35 = .ok (.iconst 0, 1) := by decide +kernel
theorem dX5_readNot_36 : decode cX5_readNot 36 = .ok (.invokevirtual 248, 3) := by decide +kernel
theorem dX5_readNot_39 : decode cX5_readNot 39 = .ok (.pop, 1) := by decide +kernel
theorem dX5_readNot_40 : decode cX5_readNot 40 = .ok (.return_, 1) := by decide +kernel
def fX5_readNot' (g : TGX5_readBoth) (p1 : Int32) (σ : zS) : Option zS := if p1 < 7 then bnr (fX5_advance σ) fun σ1 => bnr (g.2.2.1 (p1 + 1) σ1) fun σ3 => bnc (fX8_add σ3.2.2.2.2 5 0 σ3) fun v7 σ5 => some σ5 else bnr (fX5_fail 5 (iG σ 54 4) σ) fun σ8 => some σ8
theorem eX5_readNot {sc : Nat × (Nat → Int32)} (g : TGX5_readBoth) {n : Nat} (hg : okGX5_readBoth sc n g) (p1 : Int32) (σ : zS) (w : zS) (h : fX5_readNot' g p1 σ = some w) : zR (zY0 sc) (DDGX5_readBoth + n + 1) 0 0 mX5_readNot 0 [(0, .ref 54), (1, .int p1)] [] (zE σ) (none, zE w) := by
  unfold fX5_readNot' at h
  refine kR.iload_n dX5_readNot_0 1 rfl ?_
  refine zR.bipush (v := 7) dX5_readNot_1 (by decide) ?_
  refine kR.icmp_lt (tgt := 16) dX5_readNot_3 (by decide) h (fun h => ?_) (fun h => ?_)
  · refine kR.aload_n dX5_readNot_16 0 rfl ?_
    obtain ⟨σ1, e2, h⟩ := bnr_some h
    refine kR.cVv [] dX5_readNot_17 rfl (by unfold DDGX5_readBoth; omega) mwX5_114 zp54 (by decide) rfl rfl (Nat.le_of_ble_eq_true rfl) (lX5_advance σ _ e2) ?_
    refine kR.aload_n dX5_readNot_20 0 rfl ?_
    refine kR.iload_n dX5_readNot_21 1 rfl ?_
    refine zR.iconst (v := 1) dX5_readNot_22 (by decide) ?_
    refine zR.iadd dX5_readNot_23 ?_
    obtain ⟨σ3, e4, h⟩ := bnr_some h
    refine kR.cVv [.int (p1 + 1)] dX5_readNot_24 rfl (Nat.le_refl _) mwX5_278 zp54 (by decide) rfl rfl (Nat.le_of_ble_eq_true rfl) (hg.2.2.1 (p1 + 1) σ1 _ e4) ?_
    refine kR.aload_n dX5_readNot_27 0 rfl ?_
    refine kR.getR (v := (rp σ3.2.2.2.2 + 0)) dX5_readNot_28 flX5_44 zcf5 zp54 (Or.inl ⟨_, rfl⟩) rfl ?_
    refine kR.getR (v := (rp σ3.2.2.2.2 + 11)) dX5_readNot_31 flX5_228 zcf6 (zq0 σ3.2.2.2.2) (Or.inl ⟨_, rfl⟩) (zr0_15 _ σ3.2.2.2.2) ?_
    refine zR.iconst (v := 5) dX5_readNot_34 (by decide) ?_
    refine zR.iconst (v := 0) dX5_readNot_35 (by decide) ?_
    obtain ⟨v7, σ5, e6, h⟩ := bnc_some h
    refine kR.cVi [.int 5, .int 0] dX5_readNot_36 rfl (by unfold DDGX5_readBoth; omega) mwX5_248 (zq11 σ3.2.2.2.2) (by decide) rfl rfl (Nat.le_of_ble_eq_true rfl) (lX8_add σ3.2.2.2.2 5 0 σ3 _ e6) ?_
    refine zR.pop dX5_readNot_39 rfl ?_
    exact kR.vret dX5_readNot_40 h
  · refine kR.aload_n dX5_readNot_6 0 rfl ?_
    refine zR.iconst (v := 5) dX5_readNot_7 (by decide) ?_
    refine kR.aload_n dX5_readNot_8 0 rfl ?_
    refine kR.getI dX5_readNot_9 flX5_19 zcf5 zp54 (Or.inl rfl) ?_
    obtain ⟨σ8, e9, h⟩ := bnr_some h
    refine kR.cVv [.int 5, .int (iG σ 54 4)] dX5_readNot_12 rfl (by unfold DDGX5_readBoth; omega) mwX5_73 zp54 (by decide) rfl rfl (Nat.le_of_ble_eq_true rfl) (lX5_fail 5 (iG σ 54 4) σ _ e9) ?_
    exact kR.vret dX5_readNot_15 h
theorem lX5_readNot' {sc : Nat × (Nat → Int32)} (g : TGX5_readBoth) {n : Nat} (hg : okGX5_readBoth sc n g) (p1 : Int32) (σ : zS) (w : zS) (h : fX5_readNot' g p1 σ = some w) : zC (zY0 sc) (DDGX5_readBoth + n + 1) 0 0 mX5_readNot [.ref 54, .int p1] (zE σ) (none, zE w) := zC.of (by decide +kernel) (Nat.le_of_ble_eq_true rfl) rfl (eX5_readNot g hg p1 σ w h)
theorem dX5_readPair_0 : decode cX5_readPair 0 = .ok (.aload_n 0, 1) := by decide +kernel
theorem dX5_readPair_1 : decode cX5_readPair 1 = .ok (.invokevirtual 114, 3) := by decide +kernel
theorem dX5_readPair_4 : decode cX5_readPair 4 = .ok (.aload_n 0, 1) := by decide +kernel
theorem dX5_readPair_5 : decode cX5_readPair 5 = .ok (.bipush 40, 2) := by decide +kernel
theorem dX5_readPair_7 : decode cX5_readPair 7 = .ok (.iload_n 2, 1) := by decide +kernel
theorem dX5_readPair_8 : decode cX5_readPair 8 = .ok (.invokevirtual 257, 3) := by decide +kernel
theorem dX5_readPair_11 : decode cX5_readPair 11 = .ok (.ifCond .ne 4, 3) := by decide +kernel
theorem dX5_readPair_14 : decode cX5_readPair 14 = .ok (.return_, 1) := by decide +kernel
theorem dX5_readPair_15 : decode cX5_readPair 15 = .ok (.aload_n 0, 1) := by decide +kernel
theorem dX5_readPair_16 : decode cX5_readPair 16 = .ok (.iload_n 2, 1) := by decide +kernel
theorem dX5_readPair_17 : decode cX5_readPair 17 = .ok (.iconst 1, 1) := by decide +kernel
theorem dX5_readPair_18 : decode cX5_readPair 18 = .ok (.iadd, 1) := by decide +kernel
theorem dX5_readPair_19 : decode cX5_readPair 19 = .ok (.invokevirtual 239, 3) := by decide +kernel
theorem dX5_readPair_22 : decode cX5_readPair 22 = .ok (.aload_n 0, 1) := by decide +kernel
theorem dX5_readPair_23 : decode cX5_readPair 23 = .ok (.bipush 44, 2) := by decide +kernel
theorem dX5_readPair_25 : decode cX5_readPair 25 = .ok (.invokevirtual 260, 3) := by decide +kernel
theorem dX5_readPair_28 : decode cX5_readPair 28 = .ok (.aload_n 0, 1) := by decide +kernel
theorem dX5_readPair_29 : decode cX5_readPair 29 = .ok (.iload_n 2, 1) := by decide +kernel
theorem dX5_readPair_30 : decode cX5_readPair 30 = .ok (.iconst 1, 1) := by decide +kernel
theorem dX5_readPair_31 : decode cX5_readPair 31 = .ok (.iadd, 1) := by decide +kernel
theorem dX5_readPair_32 : decode cX5_readPair 32 = .ok (.invokevirtual 239, 3) := by decide +kernel
theorem dX5_readPair_35 : decode cX5_readPair 35 = .ok (.aload_n 0, 1) := by decide +kernel
theorem dX5_readPair_36 : decode cX5_readPair 36 = .ok (.bipush 41, 2) := by decide +kernel
theorem dX5_readPair_38 : decode cX5_readPair 38 = .ok (.invokevirtual 260, 3) := by decide +kernel
theorem dX5_readPair_41 : decode cX5_readPair 41 = .ok (.aload_n 0, 1) := by decide +kernel
theorem dX5_readPair_42 : decode cX5_readPair 42 = .ok (.getfield 44, 3) := by decide +kernel
theorem dX5_readPair_45 : decode cX5_readPair 45 = .ok (.getfield 228, 3) := by decide +kernel
theorem dX5_readPair_48 : decode cX5_readPair 48 = .ok (.iload_n 1, 1) := by decide +kernel
theorem dX5_readPair_49 : decode cX5_readPair 49 = .ok (.iconst 0, 1) := by decide +kernel
theorem dX5_readPair_50 : decode cX5_readPair 50 = .ok (.invokevirtual 248, 3) := by decide +kernel
theorem dX5_readPair_53 : decode cX5_readPair 53 = .ok (.pop, 1) := by decide +kernel
theorem dX5_readPair_54 : decode cX5_readPair 54 = .ok (.return_, 1) := by decide +kernel
def fX5_readPair' (g : TGX5_readBoth) (p1 : Int32) (p2 : Int32) (σ : zS) : Option zS := bnr (fX5_advance σ) fun σ1 => bnc (fX5_isOpened 40 p2 σ1) fun v5 σ3 => if v5 = 0 then some σ3 else bnr (g.2.2.2.2.2.2.2.2.1 (p2 + 1) σ3) fun σ6 => bnr (fX5_takeSign 44 σ6) fun σ8 => bnr (g.2.2.2.2.2.2.2.2.1 (p2 + 1) σ8) fun σ10 => bnr (fX5_takeSign 41 σ10) fun σ12 => bnc (fX8_add σ12.2.2.2.2 p1 0 σ12) fun v16 σ14 => some σ14
theorem eX5_readPair {sc : Nat × (Nat → Int32)} (g : TGX5_readBoth) {n : Nat} (hg : okGX5_readBoth sc n g) (p1 : Int32) (p2 : Int32) (σ : zS) (w : zS) (h : fX5_readPair' g p1 p2 σ = some w) : zR (zY0 sc) (DDGX5_readBoth + n + 1) 0 0 mX5_readPair 0 [(0, .ref 54), (1, .int p1), (2, .int p2)] [] (zE σ) (none, zE w) := by
  unfold fX5_readPair' at h
  refine kR.aload_n dX5_readPair_0 0 rfl ?_
  obtain ⟨σ1, e2, h⟩ := bnr_some h
  refine kR.cVv [] dX5_readPair_1 rfl (by unfold DDGX5_readBoth; omega) mwX5_114 zp54 (by decide) rfl rfl (Nat.le_of_ble_eq_true rfl) (lX5_advance σ _ e2) ?_
  refine kR.aload_n dX5_readPair_4 0 rfl ?_
  refine zR.bipush (v := 40) dX5_readPair_5 (by decide) ?_
  refine kR.iload_n dX5_readPair_7 2 rfl ?_
  obtain ⟨v5, σ3, e4, h⟩ := bnc_some h
  refine kR.cVi [.int 40, .int p2] dX5_readPair_8 rfl (by unfold DDGX5_readBoth; omega) mwX5_257 zp54 (by decide) rfl rfl (Nat.le_of_ble_eq_true rfl) (lX5_isOpened 40 p2 σ1 _ e4) ?_
  refine kR.if_ne (tgt := 15) dX5_readPair_11 (by decide) h (fun h => ?_) (fun h => ?_)
  · refine kR.aload_n dX5_readPair_15 0 rfl ?_
    refine kR.iload_n dX5_readPair_16 2 rfl ?_
    refine zR.iconst (v := 1) dX5_readPair_17 (by decide) ?_
    refine zR.iadd dX5_readPair_18 ?_
    obtain ⟨σ6, e7, h⟩ := bnr_some h
    refine kR.cVv [.int (p2 + 1)] dX5_readPair_19 rfl (Nat.le_refl _) mwX5_239 zp54 (by decide) rfl rfl (Nat.le_of_ble_eq_true rfl) (hg.2.2.2.2.2.2.2.2.1 (p2 + 1) σ3 _ e7) ?_
    refine kR.aload_n dX5_readPair_22 0 rfl ?_
    refine zR.bipush (v := 44) dX5_readPair_23 (by decide) ?_
    obtain ⟨σ8, e9, h⟩ := bnr_some h
    refine kR.cVv [.int 44] dX5_readPair_25 rfl (by unfold DDGX5_readBoth; omega) mwX5_260 zp54 (by decide) rfl rfl (Nat.le_of_ble_eq_true rfl) (lX5_takeSign 44 σ6 _ e9) ?_
    refine kR.aload_n dX5_readPair_28 0 rfl ?_
    refine kR.iload_n dX5_readPair_29 2 rfl ?_
    refine zR.iconst (v := 1) dX5_readPair_30 (by decide) ?_
    refine zR.iadd dX5_readPair_31 ?_
    obtain ⟨σ10, e11, h⟩ := bnr_some h
    refine kR.cVv [.int (p2 + 1)] dX5_readPair_32 rfl (Nat.le_refl _) mwX5_239 zp54 (by decide) rfl rfl (Nat.le_of_ble_eq_true rfl) (hg.2.2.2.2.2.2.2.2.1 (p2 + 1) σ8 _ e11) ?_
    refine kR.aload_n dX5_readPair_35 0 rfl ?_
    refine zR.bipush (v := 41) dX5_readPair_36 (by decide) ?_
    obtain ⟨σ12, e13, h⟩ := bnr_some h
    refine kR.cVv [.int 41] dX5_readPair_38 rfl (by unfold DDGX5_readBoth; omega) mwX5_260 zp54 (by decide) rfl rfl (Nat.le_of_ble_eq_true rfl) (lX5_takeSign 41 σ10 _ e13) ?_
    refine kR.aload_n dX5_readPair_41 0 rfl ?_
    refine kR.getR (v := (rp σ12.2.2.2.2 + 0)) dX5_readPair_42 flX5_44 zcf5 zp54 (Or.inl ⟨_, rfl⟩) rfl ?_
    refine kR.getR (v := (rp σ12.2.2.2.2 + 11)) dX5_readPair_45 flX5_228 zcf6 (zq0 σ12.2.2.2.2) (Or.inl ⟨_, rfl⟩) (zr0_15 _ σ12.2.2.2.2) ?_
    refine kR.iload_n dX5_readPair_48 1 rfl ?_
    refine zR.iconst (v := 0) dX5_readPair_49 (by decide) ?_
    obtain ⟨v16, σ14, e15, h⟩ := bnc_some h
    refine kR.cVi [.int p1, .int 0] dX5_readPair_50 rfl (by unfold DDGX5_readBoth; omega) mwX5_248 (zq11 σ12.2.2.2.2) (by decide) rfl rfl (Nat.le_of_ble_eq_true rfl) (lX8_add σ12.2.2.2.2 p1 0 σ12 _ e15) ?_
    refine zR.pop dX5_readPair_53 rfl ?_
    exact kR.vret dX5_readPair_54 h
  · exact kR.vret dX5_readPair_14 h
theorem lX5_readPair' {sc : Nat × (Nat → Int32)} (g : TGX5_readBoth) {n : Nat} (hg : okGX5_readBoth sc n g) (p1 : Int32) (p2 : Int32) (σ : zS) (w : zS) (h : fX5_readPair' g p1 p2 σ = some w) : zC (zY0 sc) (DDGX5_readBoth + n + 1) 0 0 mX5_readPair [.ref 54, .int p1, .int p2] (zE σ) (none, zE w) := zC.of (by decide +kernel) (Nat.le_of_ble_eq_true rfl) rfl (eX5_readPair g hg p1 p2 σ w h)
theorem dX5_readPart_0 : decode cX5_readPart 0 = .ok (.aload_n 0, 1) := by decide +kernel
theorem dX5_readPart_1 : decode cX5_readPart 1 = .ok (.getfield 22, 3) := by decide +kernel
theorem dX5_readPart_4 : decode cX5_readPart 4 = .ok (.iconst 3, 1) := by decide +kernel
theorem dX5_readPart_5 : decode cX5_readPart 5 = .ok (.if_icmp .ne 26, 3) := by decide +kernel
theorem dX5_readPart_8 : decode cX5_readPart 8 = .ok (.aload_n 0, 1) := by decide +kernel
theorem dX5_readPart_9 : decode cX5_readPart 9 = .ok (.getfield 44, 3) := by decide +kernel
theorem dX5_readPart_12 : decode cX5_readPart 12 = .ok (.getfield 228, 3) := by decide +kernel
theorem dX5_readPart_15 : decode cX5_readPart 15 = .ok (.iconst 1, 1) := by decide +kernel
theorem dX5_readPart_16 : decode cX5_readPart 16 = .ok (.aload_n 0, 1) := by decide +kernel
theorem dX5_readPart_17 : decode cX5_readPart 17 = .ok (.getfield 31, 3) := by decide +kernel
theorem dX5_readPart_20 : decode cX5_readPart 20 = .ok (.invokevirtual 248, 3) := by decide +kernel
theorem dX5_readPart_23 : decode cX5_readPart 23 = .ok (.pop, 1) := by decide +kernel
theorem dX5_readPart_24 : decode cX5_readPart 24 = .ok (.aload_n 0, 1) := by decide +kernel
theorem dX5_readPart_25 : decode cX5_readPart 25 = .ok (.invokevirtual 114, 3) := by decide +kernel
theorem dX5_readPart_28 : decode cX5_readPart 28 = .ok (.goto 139, 3) := by decide +kernel
theorem dX5_readPart_31 : decode cX5_readPart 31 = .ok (.aload_n 0, 1) := by decide +kernel
theorem dX5_readPart_32 : decode cX5_readPart 32 = .ok (.getfield 25, 3) := by decide +kernel
theorem dX5_readPart_35 : decode cX5_readPart 35 = .ok (.invokestatic 254, 3) := by decide +kernel
theorem dX5_readPart_38 : decode cX5_readPart 38 = .ok (.iconst (-1), 1) := by decide +kernel
theorem dX5_readPart_39 : decode cX5_readPart 39 = .ok (.if_icmp .eq 29, 3) := by decide +kernel
theorem dX5_readPart_42 : decode cX5_readPart 42 = .ok (.aload_n 0, 1) := by decide +kernel
theorem dX5_readPart_43 : decode cX5_readPart 43 = .ok (.getfield 44, 3) := by decide +kernel
theorem dX5_readPart_46 : decode cX5_readPart 46 = .ok (.getfield 228, 3) := by decide +kernel
theorem dX5_readPart_49 : decode cX5_readPart 49 = .ok (.iconst 2, 1) := by decide +kernel
theorem dX5_readPart_50 : decode cX5_readPart 50 = .ok (.aload_n 0, 1) := by decide +kernel
theorem dX5_readPart_51 : decode cX5_readPart 51 = .ok (.getfield 25, 3) := by decide +kernel
theorem dX5_readPart_54 : decode cX5_readPart 54 = .ok (.invokestatic 254, 3) := by decide +kernel
theorem dX5_readPart_57 : decode cX5_readPart 57 = .ok (.invokevirtual 248, 3) := by decide +kernel
theorem dX5_readPart_60 : decode cX5_readPart 60 = .ok (.pop, 1) := by decide +kernel
theorem dX5_readPart_61 : decode cX5_readPart 61 = .ok (.aload_n 0, 1) := by decide +kernel
theorem dX5_readPart_62 : decode cX5_readPart 62 = .ok (.invokevirtual 114, 3) := by decide +kernel
theorem dX5_readPart_65 : decode cX5_readPart 65 = .ok (.goto 102, 3) := by decide +kernel
theorem dX5_readPart_68 : decode cX5_readPart 68 = .ok (.aload_n 0, 1) := by decide +kernel
theorem dX5_readPart_69 : decode cX5_readPart 69 = .ok (.getfield 22, 3) := by decide +kernel
theorem dX5_readPart_72 : decode cX5_readPart 72 = .ok (.bipush 40, 2) := by decide +kernel
theorem dX5_readPart_74 : decode cX5_readPart 74 = .ok (.if_icmp .ne 29, 3) := by decide +kernel
theorem dX5_readPart_77 : decode cX5_readPart 77 = .ok (.aload_n 0, 1) := by decide +kernel
theorem dX5_readPart_78 : decode cX5_readPart 78 = .ok (.bipush 40, 2) := by decide +kernel
theorem dX5_readPart_80 : decode cX5_readPart 80 = .ok (.iload_n 1, 1) := by decide +kernel
theorem dX5_readPart_81 : decode cX5_readPart 81 = .ok (.invokevirtual 257, 3) := by decide +kernel
theorem dX5_readPart_84 : decode cX5_readPart 84 = .ok (.ifCond .eq 83, 3) := by decide +kernel
theorem dX5_readPart_87 : decode cX5_readPart 87 = .ok (.aload_n 0, 1) := by decide +kernel
theorem dX5_readPart_88 : decode cX5_readPart 88 = .ok (.iload_n 1, 1) := by decide +kernel
theorem dX5_readPart_89 : decode cX5_readPart 89 = .ok (.iconst 1, 1) := by decide +kernel
theorem dX5_readPart_90 : decode cX5_readPart 90 = .ok (.iadd, 1) := by decide +kernel
theorem dX5_readPart_91 : decode cX5_readPart 91 = .ok (.invokevirtual 239, 3) := by decide +kernel
theorem dX5_readPart_94 : decode cX5_readPart 94 = .ok (.aload_n 0, 1) := by decide +kernel
theorem dX5_readPart_95 : decode cX5_readPart 95 = .ok (.bipush 41, 2) := by decide +kernel
theorem dX5_readPart_97 : decode cX5_readPart 97 = .ok (.invokevirtual 260, 3) := by decide +kernel
theorem dX5_readPart_100 : decode cX5_readPart 100 = .ok (.goto 67, 3) := by decide +kernel
theorem dX5_readPart_103 : decode cX5_readPart 103 = .ok (.aload_n 0, 1) := by decide +kernel
theorem dX5_readPart_104 : decode cX5_readPart 104 = .ok (.getfield 25, 3) := by decide +kernel
theorem dX5_readPart_107 : decode cX5_readPart 107 = .ok (.bipush 18, 2) := by decide +kernel
theorem dX5_readPart_109 : decode cX5_readPart 109 = .ok (.if_icmp .ne 11, 3) := by decide +kernel
theorem dX5_readPart_112 : decode cX5_readPart 112 = .ok (.aload_n 0, 1) := by decide +kernel
theorem dX5_readPart_113 : decode cX5_readPart 113 = .ok (.iload_n 1, 1) := by decide +kernel
theorem dX5_readPart_114 : decode cX5_readPart 114 = .ok (.invokevirtual 263, 3) := by decide +kernel
theorem dX5_readPart_117 : decode cX5_readPart 117 = .ok (.goto 50, 3) := by decide +kernel
theorem dX5_readPart_120 : decode cX5_readPart 120 = .ok (.aload_n 0, 1) := by decide +kernel
theorem dX5_readPart_121 : decode cX5_readPart 121 = .ok (.getfield 25, 3) := by decide +kernel
theorem dX5_readPart_124 : decode cX5_readPart 124 = .ok (.bipush 23, 2) := by decide +kernel
theorem dX5_readPart_126 : decode cX5_readPart 126 = .ok (.if_icmp .ne 13, 3) := by decide +kernel
theorem dX5_readPart_129 : decode cX5_readPart 129 = .ok (.aload_n 0, 1) := by decide +kernel
theorem dX5_readPart_130 : decode cX5_readPart 130 = .ok (.bipush 8, 2) := by decide +kernel
theorem dX5_readPart_132 : decode cX5_readPart 132 = .ok (.iload_n 1, 1) := by decide +kernel
theorem dX5_readPart_133 : decode cX5_readPart 133 = .ok (.invokevirtual 266, 3) := by decide +kernel
theorem dX5_readPart_136 : decode cX5_readPart 136 = .ok (.goto 31, 3) := by decide +kernel
theorem dX5_readPart_139 : decode cX5_readPart 139 = .ok (.aload_n 0, 1) := by decide +kernel
theorem dX5_readPart_140 : decode cX5_readPart 140 = .ok (.getfield 25, 3) := by decide +kernel
theorem dX5_readPart_143 : decode cX5_readPart 143 = .ok (.bipush 24, 2) := by decide +kernel
theorem dX5_readPart_145 : decode cX5_readPart 145 = .ok (.if_icmp .ne 13, 3) := by decide +kernel
theorem dX5_readPart_148 : decode cX5_readPart 148 = .ok (.aload_n 0, 1) := by decide +kernel
theorem dX5_readPart_149 : decode cX5_readPart 149 = .ok (.bipush 9, 2) := by decide +kernel
theorem dX5_readPart_151 : decode cX5_readPart 151 = .ok (.iload_n 1, 1) := by decide +kernel
theorem dX5_readPart_152 : decode cX5_readPart 152 = .ok (.invokevirtual 266, 3) := by decide +kernel
theorem dX5_readPart_155 : decode cX5_readPart 155 = .ok (.goto 12, 3) := by decide +kernel
theorem dX5_readPart_158 : decode cX5_readPart 158 = .ok (.aload_n 0, 1) := by decide +kernel
theorem dX5_readPart_159 : decode cX5_readPart 159 = .ok (.iconst 1, 1) := by decide +kernel
theorem dX5_readPart_160 : decode cX5_readPart 160 = .ok (.aload_n 0, 1) := by decide +kernel
theorem dX5_readPart_161 : decode cX5_readPart 161 = .ok (.getfield 19, 3) := by decide +kernel
theorem dX5_readPart_164 : decode cX5_readPart 164 = .ok (.invokevirtual 73, 3) := by decide +kernel
theorem dX5_readPart_167 : decode cX5_readPart 167 = .ok (.return_, 1) := by decide +kernel
def fX5_readPart' (g : TGX5_readBoth) (p1 : Int32) (σ : zS) : Option zS := if (iG σ 54 5) = 3 then bnc (fX8_add σ.2.2.2.2 1 (iG σ 54 8) σ) fun v23 σ21 => bnr (fX5_advance σ21) fun σ24 => some σ24 else if (fX5_factOf (iG σ 54 6)) = ((-1)) then if (iG σ 54 5) = 40 then bnc (fX5_isOpened 40 p1 σ) fun v11 σ9 => if v11 = 0 then some σ9 else bnr (g.2.2.2.2.2.2.2.2.1 (p1 + 1) σ9) fun σ12 => bnr (fX5_takeSign 41 σ12) fun σ14 => some σ14 else if (iG σ 54 6) = 18 then bnr (g.2.2.2.1 p1 σ) fun σ7 => some σ7 else if (iG σ 54 6) = 23 then bnr (g.2.2.2.2.2.1 8 p1 σ) fun σ5 => some σ5 else if (iG σ 54 6) = 24 then bnr (g.2.2.2.2.2.1 9 p1 σ) fun σ3 => some σ3 else bnr (fX5_fail 1 (iG σ 54 4) σ) fun σ1 => some σ1 else bnc (fX8_add σ.2.2.2.2 2 (fX5_factOf (iG σ 54 6)) σ) fun v18 σ16 => bnr (fX5_advance σ16) fun σ19 => some σ19
theorem eX5_readPart {sc : Nat × (Nat → Int32)} (g : TGX5_readBoth) {n : Nat} (hg : okGX5_readBoth sc n g) (p1 : Int32) (σ : zS) (w : zS) (h : fX5_readPart' g p1 σ = some w) : zR (zY0 sc) (DDGX5_readBoth + n + 1) 0 0 mX5_readPart 0 [(0, .ref 54), (1, .int p1)] [] (zE σ) (none, zE w) := by
  unfold fX5_readPart' at h
  refine kR.aload_n dX5_readPart_0 0 rfl ?_
  refine kR.getI dX5_readPart_1 flX5_22 zcf5 zp54 (Or.inl rfl) ?_
  refine zR.iconst (v := 3) dX5_readPart_4 (by decide) ?_
  refine kR.icmp_ne (tgt := 31) dX5_readPart_5 (by decide) h (fun h => ?_) (fun h => ?_)
  · refine kR.aload_n dX5_readPart_31 0 rfl ?_
    refine kR.getI dX5_readPart_32 flX5_25 zcf5 zp54 (Or.inl rfl) ?_
    refine kR.cSi [.int (iG σ 54 6)] dX5_readPart_35 rfl (by unfold DDGX5_readBoth; omega) (Or.inl mwX5_254) rfl (Nat.le_of_ble_eq_true rfl) (lX5_factOf (iG σ 54 6)) ?_
    refine zR.iconst (v := (-1)) dX5_readPart_38 (by decide) ?_
    refine kR.icmp_eq (tgt := 68) dX5_readPart_39 (by decide) h (fun h => ?_) (fun h => ?_)
    · refine kR.aload_n dX5_readPart_68 0 rfl ?_
      refine kR.getI dX5_readPart_69 flX5_22 zcf5 zp54 (Or.inl rfl) ?_
      refine zR.bipush (v := 40) dX5_readPart_72 (by decide) ?_
      refine kR.icmp_ne (tgt := 103) dX5_readPart_74 (by decide) h (fun h => ?_) (fun h => ?_)
      · refine kR.aload_n dX5_readPart_103 0 rfl ?_
        refine kR.getI dX5_readPart_104 flX5_25 zcf5 zp54 (Or.inl rfl) ?_
        refine zR.bipush (v := 18) dX5_readPart_107 (by decide) ?_
        refine kR.icmp_ne (tgt := 120) dX5_readPart_109 (by decide) h (fun h => ?_) (fun h => ?_)
        · refine kR.aload_n dX5_readPart_120 0 rfl ?_
          refine kR.getI dX5_readPart_121 flX5_25 zcf5 zp54 (Or.inl rfl) ?_
          refine zR.bipush (v := 23) dX5_readPart_124 (by decide) ?_
          refine kR.icmp_ne (tgt := 139) dX5_readPart_126 (by decide) h (fun h => ?_) (fun h => ?_)
          · refine kR.aload_n dX5_readPart_139 0 rfl ?_
            refine kR.getI dX5_readPart_140 flX5_25 zcf5 zp54 (Or.inl rfl) ?_
            refine zR.bipush (v := 24) dX5_readPart_143 (by decide) ?_
            refine kR.icmp_ne (tgt := 158) dX5_readPart_145 (by decide) h (fun h => ?_) (fun h => ?_)
            · refine kR.aload_n dX5_readPart_158 0 rfl ?_
              refine zR.iconst (v := 1) dX5_readPart_159 (by decide) ?_
              refine kR.aload_n dX5_readPart_160 0 rfl ?_
              refine kR.getI dX5_readPart_161 flX5_19 zcf5 zp54 (Or.inl rfl) ?_
              obtain ⟨σ1, e2, h⟩ := bnr_some h
              refine kR.cVv [.int 1, .int (iG σ 54 4)] dX5_readPart_164 rfl (by unfold DDGX5_readBoth; omega) mwX5_73 zp54 (by decide) rfl rfl (Nat.le_of_ble_eq_true rfl) (lX5_fail 1 (iG σ 54 4) σ _ e2) ?_
              exact kR.vret dX5_readPart_167 h
            · refine kR.aload_n dX5_readPart_148 0 rfl ?_
              refine zR.bipush (v := 9) dX5_readPart_149 (by decide) ?_
              refine kR.iload_n dX5_readPart_151 1 rfl ?_
              obtain ⟨σ3, e4, h⟩ := bnr_some h
              refine kR.cVv [.int 9, .int p1] dX5_readPart_152 rfl (Nat.le_refl _) mwX5_266 zp54 (by decide) rfl rfl (Nat.le_of_ble_eq_true rfl) (hg.2.2.2.2.2.1 9 p1 σ _ e4) ?_
              refine zR.goto (tgt := 167) dX5_readPart_155 (by decide) ?_
              exact kR.vret dX5_readPart_167 h
          · refine kR.aload_n dX5_readPart_129 0 rfl ?_
            refine zR.bipush (v := 8) dX5_readPart_130 (by decide) ?_
            refine kR.iload_n dX5_readPart_132 1 rfl ?_
            obtain ⟨σ5, e6, h⟩ := bnr_some h
            refine kR.cVv [.int 8, .int p1] dX5_readPart_133 rfl (Nat.le_refl _) mwX5_266 zp54 (by decide) rfl rfl (Nat.le_of_ble_eq_true rfl) (hg.2.2.2.2.2.1 8 p1 σ _ e6) ?_
            refine zR.goto (tgt := 167) dX5_readPart_136 (by decide) ?_
            exact kR.vret dX5_readPart_167 h
        · refine kR.aload_n dX5_readPart_112 0 rfl ?_
          refine kR.iload_n dX5_readPart_113 1 rfl ?_
          obtain ⟨σ7, e8, h⟩ := bnr_some h
          refine kR.cVv [.int p1] dX5_readPart_114 rfl (Nat.le_refl _) mwX5_263 zp54 (by decide) rfl rfl (Nat.le_of_ble_eq_true rfl) (hg.2.2.2.1 p1 σ _ e8) ?_
          refine zR.goto (tgt := 167) dX5_readPart_117 (by decide) ?_
          exact kR.vret dX5_readPart_167 h
      · refine kR.aload_n dX5_readPart_77 0 rfl ?_
        refine zR.bipush (v := 40) dX5_readPart_78 (by decide) ?_
        refine kR.iload_n dX5_readPart_80 1 rfl ?_
        obtain ⟨v11, σ9, e10, h⟩ := bnc_some h
        refine kR.cVi [.int 40, .int p1] dX5_readPart_81 rfl (by unfold DDGX5_readBoth; omega) mwX5_257 zp54 (by decide) rfl rfl (Nat.le_of_ble_eq_true rfl) (lX5_isOpened 40 p1 σ _ e10) ?_
        refine kR.if_eq (tgt := 167) dX5_readPart_84 (by decide) h (fun h => ?_) (fun h => ?_)
        · exact kR.vret dX5_readPart_167 h
        · refine kR.aload_n dX5_readPart_87 0 rfl ?_
          refine kR.iload_n dX5_readPart_88 1 rfl ?_
          refine zR.iconst (v := 1) dX5_readPart_89 (by decide) ?_
          refine zR.iadd dX5_readPart_90 ?_
          obtain ⟨σ12, e13, h⟩ := bnr_some h
          refine kR.cVv [.int (p1 + 1)] dX5_readPart_91 rfl (Nat.le_refl _) mwX5_239 zp54 (by decide) rfl rfl (Nat.le_of_ble_eq_true rfl) (hg.2.2.2.2.2.2.2.2.1 (p1 + 1) σ9 _ e13) ?_
          refine kR.aload_n dX5_readPart_94 0 rfl ?_
          refine zR.bipush (v := 41) dX5_readPart_95 (by decide) ?_
          obtain ⟨σ14, e15, h⟩ := bnr_some h
          refine kR.cVv [.int 41] dX5_readPart_97 rfl (by unfold DDGX5_readBoth; omega) mwX5_260 zp54 (by decide) rfl rfl (Nat.le_of_ble_eq_true rfl) (lX5_takeSign 41 σ12 _ e15) ?_
          refine zR.goto (tgt := 167) dX5_readPart_100 (by decide) ?_
          exact kR.vret dX5_readPart_167 h
    · refine kR.aload_n dX5_readPart_42 0 rfl ?_
      refine kR.getR (v := (rp σ.2.2.2.2 + 0)) dX5_readPart_43 flX5_44 zcf5 zp54 (Or.inl ⟨_, rfl⟩) rfl ?_
      refine kR.getR (v := (rp σ.2.2.2.2 + 11)) dX5_readPart_46 flX5_228 zcf6 (zq0 σ.2.2.2.2) (Or.inl ⟨_, rfl⟩) (zr0_15 _ σ.2.2.2.2) ?_
      refine zR.iconst (v := 2) dX5_readPart_49 (by decide) ?_
      refine kR.aload_n dX5_readPart_50 0 rfl ?_
      refine kR.getI dX5_readPart_51 flX5_25 zcf5 zp54 (Or.inl rfl) ?_
      refine kR.cSi [.int (iG σ 54 6)] dX5_readPart_54 rfl (by unfold DDGX5_readBoth; omega) (Or.inl mwX5_254) rfl (Nat.le_of_ble_eq_true rfl) (lX5_factOf (iG σ 54 6)) ?_
      obtain ⟨v18, σ16, e17, h⟩ := bnc_some h
      refine kR.cVi [.int 2, .int (fX5_factOf (iG σ 54 6))] dX5_readPart_57 rfl (by unfold DDGX5_readBoth; omega) mwX5_248 (zq11 σ.2.2.2.2) (by decide) rfl rfl (Nat.le_of_ble_eq_true rfl) (lX8_add σ.2.2.2.2 2 (fX5_factOf (iG σ 54 6)) σ _ e17) ?_
      refine zR.pop dX5_readPart_60 rfl ?_
      refine kR.aload_n dX5_readPart_61 0 rfl ?_
      obtain ⟨σ19, e20, h⟩ := bnr_some h
      refine kR.cVv [] dX5_readPart_62 rfl (by unfold DDGX5_readBoth; omega) mwX5_114 zp54 (by decide) rfl rfl (Nat.le_of_ble_eq_true rfl) (lX5_advance σ16 _ e20) ?_
      refine zR.goto (tgt := 167) dX5_readPart_65 (by decide) ?_
      exact kR.vret dX5_readPart_167 h
  · refine kR.aload_n dX5_readPart_8 0 rfl ?_
    refine kR.getR (v := (rp σ.2.2.2.2 + 0)) dX5_readPart_9 flX5_44 zcf5 zp54 (Or.inl ⟨_, rfl⟩) rfl ?_
    refine kR.getR (v := (rp σ.2.2.2.2 + 11)) dX5_readPart_12 flX5_228 zcf6 (zq0 σ.2.2.2.2) (Or.inl ⟨_, rfl⟩) (zr0_15 _ σ.2.2.2.2) ?_
    refine zR.iconst (v := 1) dX5_readPart_15 (by decide) ?_
    refine kR.aload_n dX5_readPart_16 0 rfl ?_
    refine kR.getI dX5_readPart_17 flX5_31 zcf5 zp54 (Or.inl rfl) ?_
    obtain ⟨v23, σ21, e22, h⟩ := bnc_some h
    refine kR.cVi [.int 1, .int (iG σ 54 8)] dX5_readPart_20 rfl (by unfold DDGX5_readBoth; omega) mwX5_248 (zq11 σ.2.2.2.2) (by decide) rfl rfl (Nat.le_of_ble_eq_true rfl) (lX8_add σ.2.2.2.2 1 (iG σ 54 8) σ _ e22) ?_
    refine zR.pop dX5_readPart_23 rfl ?_
    refine kR.aload_n dX5_readPart_24 0 rfl ?_
    obtain ⟨σ24, e25, h⟩ := bnr_some h
    refine kR.cVv [] dX5_readPart_25 rfl (by unfold DDGX5_readBoth; omega) mwX5_114 zp54 (by decide) rfl rfl (Nat.le_of_ble_eq_true rfl) (lX5_advance σ21 _ e25) ?_
    refine zR.goto (tgt := 167) dX5_readPart_28 (by decide) ?_
    exact kR.vret dX5_readPart_167 h
theorem lX5_readPart' {sc : Nat × (Nat → Int32)} (g : TGX5_readBoth) {n : Nat} (hg : okGX5_readBoth sc n g) (p1 : Int32) (σ : zS) (w : zS) (h : fX5_readPart' g p1 σ = some w) : zC (zY0 sc) (DDGX5_readBoth + n + 1) 0 0 mX5_readPart [.ref 54, .int p1] (zE σ) (none, zE w) := zC.of (by decide +kernel) (Nat.le_of_ble_eq_true rfl) rfl (eX5_readPart g hg p1 σ w h)
theorem dX5_readProduct_0 : decode cX5_readProduct 0 = .ok (.aload_n 0, 1) := by decide +kernel
theorem dX5_readProduct_1 : decode cX5_readProduct 1 = .ok (.iload_n 1, 1) := by decide +kernel
theorem dX5_readProduct_2 : decode cX5_readProduct 2 = .ok (.invokevirtual 251, 3) := by decide +kernel
theorem dX5_readProduct_5 : decode cX5_readProduct 5 = .ok (.iconst 0, 1) := by decide +kernel
theorem dX5_readProduct_6 : decode cX5_readProduct 6 = .ok (.istore_n 2, 1) := by decide +kernel
theorem dX5_readProduct_7 : decode cX5_readProduct 7 = .ok (.iload_n 2, 1) := by decide +kernel
theorem dX5_readProduct_8 : decode cX5_readProduct 8 = .ok (.sipush 1600, 3) := by decide +kernel
theorem dX5_readProduct_11 : decode cX5_readProduct 11 = .ok (.if_icmp .ge 63, 3) := by decide +kernel
theorem dX5_readProduct_14 : decode cX5_readProduct 14 = .ok (.aload_n 0, 1) := by decide +kernel
theorem dX5_readProduct_15 : decode cX5_readProduct 15 = .ok (.getfield 22, 3) := by decide +kernel
theorem dX5_readProduct_18 : decode cX5_readProduct 18 = .ok (.bipush 42, 2) := by decide +kernel
theorem dX5_readProduct_20 : decode cX5_readProduct 20 = .ok (.if_icmp .eq 21, 3) := by decide +kernel
theorem dX5_readProduct_23 : decode cX5_readProduct 23 = .ok (.aload_n 0, 1) := by decide +kernel
theorem dX5_readProduct_24 : decode cX5_readProduct 24 = .ok (.getfield 22, 3) := by decide +kernel
theorem dX5_readProduct_27 : decode cX5_readProduct 27 = .ok (.bipush 47, 2) := by decide +kernel
theorem dX5_readProduct_29 : decode cX5_readProduct 29 = .ok (.if_icmp .eq 12, 3) := by decide +kernel
theorem dX5_readProduct_32 : decode cX5_readProduct 32 = .ok (.aload_n 0, 1) := by decide +kernel
theorem dX5_readProduct_33 : decode cX5_readProduct 33 = .ok (.getfield 22, 3) := by decide +kernel
theorem dX5_readProduct_36 : decode cX5_readProduct 36 = .ok (.bipush 37, 2) := by decide +kernel
theorem dX5_readProduct_38 : decode cX5_readProduct 38 = .ok (.if_icmp .ne 36, 3) := by decide +kernel
theorem dX5_readProduct_41 : decode cX5_readProduct 41 = .ok (.aload_n 0, 1) := by decide +kernel
theorem dX5_readProduct_42 : decode cX5_readProduct 42 = .ok (.getfield 22, 3) := by decide +kernel
theorem dX5_readProduct_45 : decode cX5_readProduct 45 = .ok (.istore_n 3, 1) := by decide +kernel
theorem dX5_readProduct_46 : decode cX5_readProduct 46 = .ok (.aload_n 0, 1) := by decide +kernel
theorem dX5_readProduct_47 : decode cX5_readProduct 47 = .ok (.invokevirtual 114, 3) := by decide +kernel
theorem dX5_readProduct_50 : decode cX5_readProduct 50 = .ok (.aload_n 0, 1) := by decide +kernel
theorem dX5_readProduct_51 : decode cX5_readProduct 51 = .ok (.iload_n 1, 1) := by decide +kernel
theorem dX5_readProduct_52 : decode cX5_readProduct 52 = .ok (.invokevirtual 251, 3) := by decide +kernel
theorem dX5_readProduct_55 : decode cX5_readProduct 55 = .ok (.aload_n 0, 1) := by decide +kernel
theorem dX5_readProduct_56 : decode cX5_readProduct 56 = .ok (.getfield 44, 3) := by decide +kernel
theorem dX5_readProduct_59 : decode cX5_readProduct 59 = .ok (.getfield 228, 3) := by decide +kernel
theorem dX5_readProduct_62 : decode cX5_readProduct 62 = .ok (.iload_n 3, 1) := by decide +kernel
theorem dX5_readProduct_63 : decode cX5_readProduct 63 = .ok (.iconst 0, 1) := by decide +kernel
theorem dX5_readProduct_64 : decode cX5_readProduct 64 = .ok (.invokevirtual 248, 3) := by decide +kernel
theorem dX5_readProduct_67 : decode cX5_readProduct 67 = .ok (.pop, 1) := by decide +kernel
theorem dX5_readProduct_68 : decode cX5_readProduct 68 = .ok (.iinc 2 1, 3) := by decide +kernel
theorem dX5_readProduct_71 : decode cX5_readProduct 71 = .ok (.goto (-64), 3) := by decide +kernel
theorem dX5_readProduct_74 : decode cX5_readProduct 74 = .ok (.return_, 1) := by decide +kernel
def fX5_readProduct'_41 (g : TGX5_readBoth) (r7 : Int32 → Int32 → zS → Option zS) (x1 : Int32) (x2 : Int32) (σ : zS) : Option zS := bnr (fX5_advance σ) fun σ3 => bnr (g.2.2.2.2.2.2.1 x1 σ3) fun σ5 => bnc (fX8_add σ5.2.2.2.2 (iG σ 54 5) 0 σ5) fun v9 σ7 => r7 x1 (x2 + 1) σ7
theorem kX5_readProduct_41 {sc : Nat × (Nat → Int32)} (g : TGX5_readBoth) {n : Nat} (hg : okGX5_readBoth sc n g) (r7 : Int32 → Int32 → zS → Option zS) (hr7 : ∀ (x1 : Int32) (x2 : Int32) (σ : zS) (w : zS), r7 x1 x2 σ = some w → zR (zY0 sc) (DDGX5_readBoth + n + 1) 0 0 mX5_readProduct 7 [(0, .ref 54), (1, .int x1), (2, .int x2)] [] (zE σ) (none, zE w)) (x1 : Int32) (x2 : Int32) (σ : zS) (w : zS) (h : fX5_readProduct'_41 g r7 x1 x2 σ = some w) : zR (zY0 sc) (DDGX5_readBoth + n + 1) 0 0 mX5_readProduct 41 [(0, .ref 54), (1, .int x1), (2, .int x2)] [] (zE σ) (none, zE w) := by
  unfold fX5_readProduct'_41 at h
  refine kR.aload_n dX5_readProduct_41 0 rfl ?_
  refine kR.getI dX5_readProduct_42 flX5_22 zcf5 zp54 (Or.inl rfl) ?_
  refine zR.istore_n (i := 3) (ls' := [(3, .int (iG σ 54 5)), (0, .ref 54), (1, .int x1), (2, .int x2)]) dX5_readProduct_45 rfl (by decide) rfl ?_
  refine kR.aload_n dX5_readProduct_46 1 rfl ?_
  obtain ⟨σ3, e4, h⟩ := bnr_some h
  refine kR.cVv [] dX5_readProduct_47 rfl (by unfold DDGX5_readBoth; omega) mwX5_114 zp54 (by decide) rfl rfl (Nat.le_of_ble_eq_true rfl) (lX5_advance σ _ e4) ?_
  refine kR.aload_n dX5_readProduct_50 1 rfl ?_
  refine kR.iload_n dX5_readProduct_51 2 rfl ?_
  obtain ⟨σ5, e6, h⟩ := bnr_some h
  refine kR.cVv [.int x1] dX5_readProduct_52 rfl (Nat.le_refl _) mwX5_251 zp54 (by decide) rfl rfl (Nat.le_of_ble_eq_true rfl) (hg.2.2.2.2.2.2.1 x1 σ3 _ e6) ?_
  refine kR.aload_n dX5_readProduct_55 1 rfl ?_
  refine kR.getR (v := (rp σ5.2.2.2.2 + 0)) dX5_readProduct_56 flX5_44 zcf5 zp54 (Or.inl ⟨_, rfl⟩) rfl ?_
  refine kR.getR (v := (rp σ5.2.2.2.2 + 11)) dX5_readProduct_59 flX5_228 zcf6 (zq0 σ5.2.2.2.2) (Or.inl ⟨_, rfl⟩) (zr0_15 _ σ5.2.2.2.2) ?_
  refine kR.iload_n dX5_readProduct_62 0 rfl ?_
  refine zR.iconst (v := 0) dX5_readProduct_63 (by decide) ?_
  obtain ⟨v9, σ7, e8, h⟩ := bnc_some h
  refine kR.cVi [.int (iG σ 54 5), .int 0] dX5_readProduct_64 rfl (by unfold DDGX5_readBoth; omega) mwX5_248 (zq11 σ5.2.2.2.2) (by decide) rfl rfl (Nat.le_of_ble_eq_true rfl) (lX8_add σ5.2.2.2.2 (iG σ 54 5) 0 σ5 _ e8) ?_
  refine zR.pop dX5_readProduct_67 rfl ?_
  refine zR.iinc 3 (v := x2 + 1) (ls' := [(2, .int (x2 + 1)), (3, .int (iG σ 54 5)), (0, .ref 54), (1, .int x1)]) dX5_readProduct_68 rfl rfl (by decide) rfl ?_
  refine zR.goto (tgt := 7) dX5_readProduct_71 (by decide) ?_
  refine zR.sub [2, 3, 0] rfl ?_
  exact hr7 _ _ _ _ h
def fX5_readProduct'_7 (g : TGX5_readBoth) : Nat → Int32 → Int32 → zS → Option zS
  | 0, _, _, _ => none
  | f + 1, x1, x2, σ => if 1600 ≤ x2 then some σ else if (iG σ 54 5) = 42 then fX5_readProduct'_41 g (fX5_readProduct'_7 g f) x1 x2 σ else if (iG σ 54 5) = 47 then fX5_readProduct'_41 g (fX5_readProduct'_7 g f) x1 x2 σ else if (iG σ 54 5) = 37 then fX5_readProduct'_41 g (fX5_readProduct'_7 g f) x1 x2 σ else some σ
theorem kX5_readProduct_7 {sc : Nat × (Nat → Int32)} (g : TGX5_readBoth) {n : Nat} (hg : okGX5_readBoth sc n g) : ∀ (fuel : Nat) (x1 : Int32) (x2 : Int32) (σ : zS) (w : zS) (h : fX5_readProduct'_7 g fuel x1 x2 σ = some w), zR (zY0 sc) (DDGX5_readBoth + n + 1) 0 0 mX5_readProduct 7 [(0, .ref 54), (1, .int x1), (2, .int x2)] [] (zE σ) (none, zE w) := by
  intro fuel
  induction fuel with
  | zero => intro x1 x2 σ w h; exact nomatch h
  | succ f ih =>
    intro x1 x2 σ w h
    rw [fX5_readProduct'_7] at h
    refine kR.iload_n dX5_readProduct_7 2 rfl ?_
    refine zR.sipush (v := 1600) dX5_readProduct_8 (by decide) ?_
    refine kR.icmp_ge (tgt := 74) dX5_readProduct_11 (by decide) h (fun h => ?_) (fun h => ?_)
    · exact kR.vret dX5_readProduct_74 h
    · refine kR.aload_n dX5_readProduct_14 0 rfl ?_
      refine kR.getI dX5_readProduct_15 flX5_22 zcf5 zp54 (Or.inl rfl) ?_
      refine zR.bipush (v := 42) dX5_readProduct_18 (by decide) ?_
      refine kR.icmp_eq (tgt := 41) dX5_readProduct_20 (by decide) h (fun h => ?_) (fun h => ?_)
      · exact kX5_readProduct_41 g hg (fX5_readProduct'_7 g f) ih _ _ _ _ h
      · refine kR.aload_n dX5_readProduct_23 0 rfl ?_
        refine kR.getI dX5_readProduct_24 flX5_22 zcf5 zp54 (Or.inl rfl) ?_
        refine zR.bipush (v := 47) dX5_readProduct_27 (by decide) ?_
        refine kR.icmp_eq (tgt := 41) dX5_readProduct_29 (by decide) h (fun h => ?_) (fun h => ?_)
        · exact kX5_readProduct_41 g hg (fX5_readProduct'_7 g f) ih _ _ _ _ h
        · refine kR.aload_n dX5_readProduct_32 0 rfl ?_
          refine kR.getI dX5_readProduct_33 flX5_22 zcf5 zp54 (Or.inl rfl) ?_
          refine zR.bipush (v := 37) dX5_readProduct_36 (by decide) ?_
          refine kR.icmp_ne (tgt := 74) dX5_readProduct_38 (by decide) h (fun h => ?_) (fun h => ?_)
          · exact kR.vret dX5_readProduct_74 h
          · exact kX5_readProduct_41 g hg (fX5_readProduct'_7 g f) ih _ _ _ _ h
def fX5_readProduct' (g : TGX5_readBoth) (p1 : Int32) (σ : zS) : Option zS := bnr (g.2.2.2.2.2.2.1 p1 σ) fun σ1 => fX5_readProduct'_7 g zF p1 0 σ1
theorem eX5_readProduct {sc : Nat × (Nat → Int32)} (g : TGX5_readBoth) {n : Nat} (hg : okGX5_readBoth sc n g) (p1 : Int32) (σ : zS) (w : zS) (h : fX5_readProduct' g p1 σ = some w) : zR (zY0 sc) (DDGX5_readBoth + n + 1) 0 0 mX5_readProduct 0 [(0, .ref 54), (1, .int p1)] [] (zE σ) (none, zE w) := by
  unfold fX5_readProduct' at h
  refine kR.aload_n dX5_readProduct_0 0 rfl ?_
  refine kR.iload_n dX5_readProduct_1 1 rfl ?_
  obtain ⟨σ1, e2, h⟩ := bnr_some h
  refine kR.cVv [.int p1] dX5_readProduct_2 rfl (Nat.le_refl _) mwX5_251 zp54 (by decide) rfl rfl (Nat.le_of_ble_eq_true rfl) (hg.2.2.2.2.2.2.1 p1 σ _ e2) ?_
  refine zR.iconst (v := 0) dX5_readProduct_5 (by decide) ?_
  refine zR.istore_n (i := 2) (ls' := [(2, .int 0), (0, .ref 54), (1, .int p1)]) dX5_readProduct_6 rfl (by decide) rfl ?_
  refine zR.sub [1, 2, 0] rfl ?_
  exact kX5_readProduct_7 g hg zF _ _ _ _ h
theorem lX5_readProduct' {sc : Nat × (Nat → Int32)} (g : TGX5_readBoth) {n : Nat} (hg : okGX5_readBoth sc n g) (p1 : Int32) (σ : zS) (w : zS) (h : fX5_readProduct' g p1 σ = some w) : zC (zY0 sc) (DDGX5_readBoth + n + 1) 0 0 mX5_readProduct [.ref 54, .int p1] (zE σ) (none, zE w) := zC.of (by decide +kernel) (Nat.le_of_ble_eq_true rfl) rfl (eX5_readProduct g hg p1 σ w h)
theorem dX5_readSum_0 : decode cX5_readSum 0 = .ok (.aload_n 0, 1) := by decide +kernel
theorem dX5_readSum_1 : decode cX5_readSum 1 = .ok (.iload_n 1, 1) := by decide +kernel
theorem dX5_readSum_2 : decode cX5_readSum 2 = .ok (.invokevirtual 245, 3) := by decide +kernel
theorem dX5_readSum_5 : decode cX5_readSum 5 = .ok (.iconst 0, 1) := by decide +kernel
theorem dX5_readSum_6 : decode cX5_readSum 6 = .ok (.istore_n 2, 1) := by decide +kernel
theorem dX5_readSum_7 : decode cX5_readSum 7 = .ok (.iload_n 2, 1) := by decide +kernel
theorem dX5_readSum_8 : decode cX5_readSum 8 = .ok (.sipush 1600, 3) := by decide +kernel
theorem dX5_readSum_11 : decode cX5_readSum 11 = .ok (.if_icmp .ge 54, 3) := by decide +kernel
theorem dX5_readSum_14 : decode cX5_readSum 14 = .ok (.aload_n 0, 1) := by decide +kernel
theorem dX5_readSum_15 : decode cX5_readSum 15 = .ok (.getfield 22, 3) := by decide +kernel
theorem dX5_readSum_18 : decode cX5_readSum 18 = .ok (.bipush 43, 2) := by decide +kernel
theorem dX5_readSum_20 : decode cX5_readSum 20 = .ok (.if_icmp .eq 12, 3) := by decide +kernel
theorem dX5_readSum_23 : decode cX5_readSum 23 = .ok (.aload_n 0, 1) := by decide +kernel
theorem dX5_readSum_24 : decode cX5_readSum 24 = .ok (.getfield 22, 3) := by decide +kernel
theorem dX5_readSum_27 : decode cX5_readSum 27 = .ok (.bipush 45, 2) := by decide +kernel
theorem dX5_readSum_29 : decode cX5_readSum 29 = .ok (.if_icmp .ne 36, 3) := by decide +kernel
theorem dX5_readSum_32 : decode cX5_readSum 32 = .ok (.aload_n 0, 1) := by decide +kernel
theorem dX5_readSum_33 : decode cX5_readSum 33 = .ok (.getfield 22, 3) := by decide +kernel
theorem dX5_readSum_36 : decode cX5_readSum 36 = .ok (.istore_n 3, 1) := by decide +kernel
theorem dX5_readSum_37 : decode cX5_readSum 37 = .ok (.aload_n 0, 1) := by decide +kernel
theorem dX5_readSum_38 : decode cX5_readSum 38 = .ok (.invokevirtual 114, 3) := by decide +kernel
theorem dX5_readSum_41 : decode cX5_readSum 41 = .ok (.aload_n 0, 1) := by decide +kernel
theorem dX5_readSum_42 : decode cX5_readSum 42 = .ok (.iload_n 1, 1) := by decide +kernel
theorem dX5_readSum_43 : decode cX5_readSum 43 = .ok (.invokevirtual 245, 3) := by decide +kernel
theorem dX5_readSum_46 : decode cX5_readSum 46 = .ok (.aload_n 0, 1) := by decide +kernel
theorem dX5_readSum_47 : decode cX5_readSum 47 = .ok (.getfield 44, 3) := by decide +kernel
theorem dX5_readSum_50 : decode cX5_readSum 50 = .ok (.getfield 228, 3) := by decide +kernel
theorem dX5_readSum_53 : decode cX5_readSum 53 = .ok (.iload_n 3, 1) := by decide +kernel
theorem dX5_readSum_54 : decode cX5_readSum 54 = .ok (.iconst 0, 1) := by decide +kernel
theorem dX5_readSum_55 : decode cX5_readSum 55 = .ok (.invokevirtual 248, 3) := by decide +kernel
theorem dX5_readSum_58 : decode cX5_readSum 58 = .ok (.pop, 1) := by decide +kernel
theorem dX5_readSum_59 : decode cX5_readSum 59 = .ok (.iinc 2 1, 3) := by decide +kernel
theorem dX5_readSum_62 : decode cX5_readSum 62 = .ok (.goto (-55), 3) := by decide +kernel
theorem dX5_readSum_65 : decode cX5_readSum 65 = .ok (.return_, 1) := by decide +kernel
def fX5_readSum'_32 (g : TGX5_readBoth) (r7 : Int32 → Int32 → zS → Option zS) (x1 : Int32) (x2 : Int32) (σ : zS) : Option zS := bnr (fX5_advance σ) fun σ3 => bnr (g.2.2.2.2.2.2.2.1 x1 σ3) fun σ5 => bnc (fX8_add σ5.2.2.2.2 (iG σ 54 5) 0 σ5) fun v9 σ7 => r7 x1 (x2 + 1) σ7
theorem kX5_readSum_32 {sc : Nat × (Nat → Int32)} (g : TGX5_readBoth) {n : Nat} (hg : okGX5_readBoth sc n g) (r7 : Int32 → Int32 → zS → Option zS) (hr7 : ∀ (x1 : Int32) (x2 : Int32) (σ : zS) (w : zS), r7 x1 x2 σ = some w → zR (zY0 sc) (DDGX5_readBoth + n + 1) 0 0 mX5_readSum 7 [(0, .ref 54), (1, .int x1), (2, .int x2)] [] (zE σ) (none, zE w)) (x1 : Int32) (x2 : Int32) (σ : zS) (w : zS) (h : fX5_readSum'_32 g r7 x1 x2 σ = some w) : zR (zY0 sc) (DDGX5_readBoth + n + 1) 0 0 mX5_readSum 32 [(0, .ref 54), (1, .int x1), (2, .int x2)] [] (zE σ) (none, zE w) := by
  unfold fX5_readSum'_32 at h
  refine kR.aload_n dX5_readSum_32 0 rfl ?_
  refine kR.getI dX5_readSum_33 flX5_22 zcf5 zp54 (Or.inl rfl) ?_
  refine zR.istore_n (i := 3) (ls' := [(3, .int (iG σ 54 5)), (0, .ref 54), (1, .int x1), (2, .int x2)]) dX5_readSum_36 rfl (by decide) rfl ?_
  refine kR.aload_n dX5_readSum_37 1 rfl ?_
  obtain ⟨σ3, e4, h⟩ := bnr_some h
  refine kR.cVv [] dX5_readSum_38 rfl (by unfold DDGX5_readBoth; omega) mwX5_114 zp54 (by decide) rfl rfl (Nat.le_of_ble_eq_true rfl) (lX5_advance σ _ e4) ?_
  refine kR.aload_n dX5_readSum_41 1 rfl ?_
  refine kR.iload_n dX5_readSum_42 2 rfl ?_
  obtain ⟨σ5, e6, h⟩ := bnr_some h
  refine kR.cVv [.int x1] dX5_readSum_43 rfl (Nat.le_refl _) mwX5_245 zp54 (by decide) rfl rfl (Nat.le_of_ble_eq_true rfl) (hg.2.2.2.2.2.2.2.1 x1 σ3 _ e6) ?_
  refine kR.aload_n dX5_readSum_46 1 rfl ?_
  refine kR.getR (v := (rp σ5.2.2.2.2 + 0)) dX5_readSum_47 flX5_44 zcf5 zp54 (Or.inl ⟨_, rfl⟩) rfl ?_
  refine kR.getR (v := (rp σ5.2.2.2.2 + 11)) dX5_readSum_50 flX5_228 zcf6 (zq0 σ5.2.2.2.2) (Or.inl ⟨_, rfl⟩) (zr0_15 _ σ5.2.2.2.2) ?_
  refine kR.iload_n dX5_readSum_53 0 rfl ?_
  refine zR.iconst (v := 0) dX5_readSum_54 (by decide) ?_
  obtain ⟨v9, σ7, e8, h⟩ := bnc_some h
  refine kR.cVi [.int (iG σ 54 5), .int 0] dX5_readSum_55 rfl (by unfold DDGX5_readBoth; omega) mwX5_248 (zq11 σ5.2.2.2.2) (by decide) rfl rfl (Nat.le_of_ble_eq_true rfl) (lX8_add σ5.2.2.2.2 (iG σ 54 5) 0 σ5 _ e8) ?_
  refine zR.pop dX5_readSum_58 rfl ?_
  refine zR.iinc 3 (v := x2 + 1) (ls' := [(2, .int (x2 + 1)), (3, .int (iG σ 54 5)), (0, .ref 54), (1, .int x1)]) dX5_readSum_59 rfl rfl (by decide) rfl ?_
  refine zR.goto (tgt := 7) dX5_readSum_62 (by decide) ?_
  refine zR.sub [2, 3, 0] rfl ?_
  exact hr7 _ _ _ _ h
def fX5_readSum'_7 (g : TGX5_readBoth) : Nat → Int32 → Int32 → zS → Option zS
  | 0, _, _, _ => none
  | f + 1, x1, x2, σ => if 1600 ≤ x2 then some σ else if (iG σ 54 5) = 43 then fX5_readSum'_32 g (fX5_readSum'_7 g f) x1 x2 σ else if (iG σ 54 5) = 45 then fX5_readSum'_32 g (fX5_readSum'_7 g f) x1 x2 σ else some σ
theorem kX5_readSum_7 {sc : Nat × (Nat → Int32)} (g : TGX5_readBoth) {n : Nat} (hg : okGX5_readBoth sc n g) : ∀ (fuel : Nat) (x1 : Int32) (x2 : Int32) (σ : zS) (w : zS) (h : fX5_readSum'_7 g fuel x1 x2 σ = some w), zR (zY0 sc) (DDGX5_readBoth + n + 1) 0 0 mX5_readSum 7 [(0, .ref 54), (1, .int x1), (2, .int x2)] [] (zE σ) (none, zE w) := by
  intro fuel
  induction fuel with
  | zero => intro x1 x2 σ w h; exact nomatch h
  | succ f ih =>
    intro x1 x2 σ w h
    rw [fX5_readSum'_7] at h
    refine kR.iload_n dX5_readSum_7 2 rfl ?_
    refine zR.sipush (v := 1600) dX5_readSum_8 (by decide) ?_
    refine kR.icmp_ge (tgt := 65) dX5_readSum_11 (by decide) h (fun h => ?_) (fun h => ?_)
    · exact kR.vret dX5_readSum_65 h
    · refine kR.aload_n dX5_readSum_14 0 rfl ?_
      refine kR.getI dX5_readSum_15 flX5_22 zcf5 zp54 (Or.inl rfl) ?_
      refine zR.bipush (v := 43) dX5_readSum_18 (by decide) ?_
      refine kR.icmp_eq (tgt := 32) dX5_readSum_20 (by decide) h (fun h => ?_) (fun h => ?_)
      · exact kX5_readSum_32 g hg (fX5_readSum'_7 g f) ih _ _ _ _ h
      · refine kR.aload_n dX5_readSum_23 0 rfl ?_
        refine kR.getI dX5_readSum_24 flX5_22 zcf5 zp54 (Or.inl rfl) ?_
        refine zR.bipush (v := 45) dX5_readSum_27 (by decide) ?_
        refine kR.icmp_ne (tgt := 65) dX5_readSum_29 (by decide) h (fun h => ?_) (fun h => ?_)
        · exact kR.vret dX5_readSum_65 h
        · exact kX5_readSum_32 g hg (fX5_readSum'_7 g f) ih _ _ _ _ h
def fX5_readSum' (g : TGX5_readBoth) (p1 : Int32) (σ : zS) : Option zS := bnr (g.2.2.2.2.2.2.2.1 p1 σ) fun σ1 => fX5_readSum'_7 g zF p1 0 σ1
theorem eX5_readSum {sc : Nat × (Nat → Int32)} (g : TGX5_readBoth) {n : Nat} (hg : okGX5_readBoth sc n g) (p1 : Int32) (σ : zS) (w : zS) (h : fX5_readSum' g p1 σ = some w) : zR (zY0 sc) (DDGX5_readBoth + n + 1) 0 0 mX5_readSum 0 [(0, .ref 54), (1, .int p1)] [] (zE σ) (none, zE w) := by
  unfold fX5_readSum' at h
  refine kR.aload_n dX5_readSum_0 0 rfl ?_
  refine kR.iload_n dX5_readSum_1 1 rfl ?_
  obtain ⟨σ1, e2, h⟩ := bnr_some h
  refine kR.cVv [.int p1] dX5_readSum_2 rfl (Nat.le_refl _) mwX5_245 zp54 (by decide) rfl rfl (Nat.le_of_ble_eq_true rfl) (hg.2.2.2.2.2.2.2.1 p1 σ _ e2) ?_
  refine zR.iconst (v := 0) dX5_readSum_5 (by decide) ?_
  refine zR.istore_n (i := 2) (ls' := [(2, .int 0), (0, .ref 54), (1, .int p1)]) dX5_readSum_6 rfl (by decide) rfl ?_
  refine zR.sub [1, 2, 0] rfl ?_
  exact kX5_readSum_7 g hg zF _ _ _ _ h
theorem lX5_readSum' {sc : Nat × (Nat → Int32)} (g : TGX5_readBoth) {n : Nat} (hg : okGX5_readBoth sc n g) (p1 : Int32) (σ : zS) (w : zS) (h : fX5_readSum' g p1 σ = some w) : zC (zY0 sc) (DDGX5_readBoth + n + 1) 0 0 mX5_readSum [.ref 54, .int p1] (zE σ) (none, zE w) := zC.of (by decide +kernel) (Nat.le_of_ble_eq_true rfl) rfl (eX5_readSum g hg p1 σ w h)
theorem dX5_readTest_0 : decode cX5_readTest 0 = .ok (.aload_n 0, 1) := by decide +kernel
theorem dX5_readTest_1 : decode cX5_readTest 1 = .ok (.iload_n 1, 1) := by decide +kernel
theorem dX5_readTest_2 : decode cX5_readTest 2 = .ok (.invokevirtual 275, 3) := by decide +kernel
theorem dX5_readTest_5 : decode cX5_readTest 5 = .ok (.iconst 0, 1) := by decide +kernel
theorem dX5_readTest_6 : decode cX5_readTest 6 = .ok (.istore_n 2, 1) := by decide +kernel
theorem dX5_readTest_7 : decode cX5_readTest 7 = .ok (.iload_n 2, 1) := by decide +kernel
theorem dX5_readTest_8 : decode cX5_readTest 8 = .ok (.sipush 1600, 3) := by decide +kernel
theorem dX5_readTest_11 : decode cX5_readTest 11 = .ok (.if_icmp .ge 41, 3) := by decide +kernel
theorem dX5_readTest_14 : decode cX5_readTest 14 = .ok (.aload_n 0, 1) := by decide +kernel
theorem dX5_readTest_15 : decode cX5_readTest 15 = .ok (.getfield 25, 3) := by decide +kernel
theorem dX5_readTest_18 : decode cX5_readTest 18 = .ok (.bipush 19, 2) := by decide +kernel
theorem dX5_readTest_20 : decode cX5_readTest 20 = .ok (.if_icmp .ne 32, 3) := by decide +kernel
theorem dX5_readTest_23 : decode cX5_readTest 23 = .ok (.aload_n 0, 1) := by decide +kernel
theorem dX5_readTest_24 : decode cX5_readTest 24 = .ok (.invokevirtual 114, 3) := by decide +kernel
theorem dX5_readTest_27 : decode cX5_readTest 27 = .ok (.aload_n 0, 1) := by decide +kernel
theorem dX5_readTest_28 : decode cX5_readTest 28 = .ok (.iload_n 1, 1) := by decide +kernel
theorem dX5_readTest_29 : decode cX5_readTest 29 = .ok (.invokevirtual 275, 3) := by decide +kernel
theorem dX5_readTest_32 : decode cX5_readTest 32 = .ok (.aload_n 0, 1) := by decide +kernel
theorem dX5_readTest_33 : decode cX5_readTest 33 = .ok (.getfield 44, 3) := by decide +kernel
theorem dX5_readTest_36 : decode cX5_readTest 36 = .ok (.getfield 228, 3) := by decide +kernel
theorem dX5_readTest_39 : decode cX5_readTest 39 = .ok (.bipush 7, 2) := by decide +kernel
theorem dX5_readTest_41 : decode cX5_readTest 41 = .ok (.iconst 0, 1) := by decide +kernel
theorem dX5_readTest_42 : decode cX5_readTest 42 = .ok (.invokevirtual 248, 3) := by decide +kernel
theorem dX5_readTest_45 : decode cX5_readTest 45 = .ok (.pop, 1) := by decide +kernel
theorem dX5_readTest_46 : decode cX5_readTest 46 = .ok (.iinc 2 1, 3) := by decide +kernel
theorem dX5_readTest_49 : decode cX5_readTest 49 = .ok (.goto (-42), 3) := by decide +kernel
theorem dX5_readTest_52 : decode cX5_readTest 52 = .ok (.return_, 1) := by decide +kernel
def fX5_readTest'_7 (g : TGX5_readBoth) : Nat → Int32 → Int32 → zS → Option zS
  | 0, _, _, _ => none
  | f + 1, x1, x2, σ => if 1600 ≤ x2 then some σ else if (iG σ 54 6) = 19 then bnr (fX5_advance σ) fun σ3 => bnr (g.1 x1 σ3) fun σ5 => bnc (fX8_add σ5.2.2.2.2 7 0 σ5) fun v9 σ7 => fX5_readTest'_7 g f x1 (x2 + 1) σ7 else some σ
theorem kX5_readTest_7 {sc : Nat × (Nat → Int32)} (g : TGX5_readBoth) {n : Nat} (hg : okGX5_readBoth sc n g) : ∀ (fuel : Nat) (x1 : Int32) (x2 : Int32) (σ : zS) (w : zS) (h : fX5_readTest'_7 g fuel x1 x2 σ = some w), zR (zY0 sc) (DDGX5_readBoth + n + 1) 0 0 mX5_readTest 7 [(0, .ref 54), (1, .int x1), (2, .int x2)] [] (zE σ) (none, zE w) := by
  intro fuel
  induction fuel with
  | zero => intro x1 x2 σ w h; exact nomatch h
  | succ f ih =>
    intro x1 x2 σ w h
    rw [fX5_readTest'_7] at h
    refine kR.iload_n dX5_readTest_7 2 rfl ?_
    refine zR.sipush (v := 1600) dX5_readTest_8 (by decide) ?_
    refine kR.icmp_ge (tgt := 52) dX5_readTest_11 (by decide) h (fun h => ?_) (fun h => ?_)
    · exact kR.vret dX5_readTest_52 h
    · refine kR.aload_n dX5_readTest_14 0 rfl ?_
      refine kR.getI dX5_readTest_15 flX5_25 zcf5 zp54 (Or.inl rfl) ?_
      refine zR.bipush (v := 19) dX5_readTest_18 (by decide) ?_
      refine kR.icmp_ne (tgt := 52) dX5_readTest_20 (by decide) h (fun h => ?_) (fun h => ?_)
      · exact kR.vret dX5_readTest_52 h
      · refine kR.aload_n dX5_readTest_23 0 rfl ?_
        obtain ⟨σ3, e4, h⟩ := bnr_some h
        refine kR.cVv [] dX5_readTest_24 rfl (by unfold DDGX5_readBoth; omega) mwX5_114 zp54 (by decide) rfl rfl (Nat.le_of_ble_eq_true rfl) (lX5_advance σ _ e4) ?_
        refine kR.aload_n dX5_readTest_27 0 rfl ?_
        refine kR.iload_n dX5_readTest_28 1 rfl ?_
        obtain ⟨σ5, e6, h⟩ := bnr_some h
        refine kR.cVv [.int x1] dX5_readTest_29 rfl (Nat.le_refl _) mwX5_275 zp54 (by decide) rfl rfl (Nat.le_of_ble_eq_true rfl) (hg.1 x1 σ3 _ e6) ?_
        refine kR.aload_n dX5_readTest_32 0 rfl ?_
        refine kR.getR (v := (rp σ5.2.2.2.2 + 0)) dX5_readTest_33 flX5_44 zcf5 zp54 (Or.inl ⟨_, rfl⟩) rfl ?_
        refine kR.getR (v := (rp σ5.2.2.2.2 + 11)) dX5_readTest_36 flX5_228 zcf6 (zq0 σ5.2.2.2.2) (Or.inl ⟨_, rfl⟩) (zr0_15 _ σ5.2.2.2.2) ?_
        refine zR.bipush (v := 7) dX5_readTest_39 (by decide) ?_
        refine zR.iconst (v := 0) dX5_readTest_41 (by decide) ?_
        obtain ⟨v9, σ7, e8, h⟩ := bnc_some h
        refine kR.cVi [.int 7, .int 0] dX5_readTest_42 rfl (by unfold DDGX5_readBoth; omega) mwX5_248 (zq11 σ5.2.2.2.2) (by decide) rfl rfl (Nat.le_of_ble_eq_true rfl) (lX8_add σ5.2.2.2.2 7 0 σ5 _ e8) ?_
        refine zR.pop dX5_readTest_45 rfl ?_
        refine zR.iinc 2 (v := x2 + 1) (ls' := [(2, .int (x2 + 1)), (0, .ref 54), (1, .int x1)]) dX5_readTest_46 rfl rfl (by decide) rfl ?_
        refine zR.goto (tgt := 7) dX5_readTest_49 (by decide) ?_
        refine zR.sub [1, 2, 0] rfl ?_
        exact ih _ _ _ _ h
def fX5_readTest' (g : TGX5_readBoth) (p1 : Int32) (σ : zS) : Option zS := bnr (g.1 p1 σ) fun σ1 => fX5_readTest'_7 g zF p1 0 σ1
theorem eX5_readTest {sc : Nat × (Nat → Int32)} (g : TGX5_readBoth) {n : Nat} (hg : okGX5_readBoth sc n g) (p1 : Int32) (σ : zS) (w : zS) (h : fX5_readTest' g p1 σ = some w) : zR (zY0 sc) (DDGX5_readBoth + n + 1) 0 0 mX5_readTest 0 [(0, .ref 54), (1, .int p1)] [] (zE σ) (none, zE w) := by
  unfold fX5_readTest' at h
  refine kR.aload_n dX5_readTest_0 0 rfl ?_
  refine kR.iload_n dX5_readTest_1 1 rfl ?_
  obtain ⟨σ1, e2, h⟩ := bnr_some h
  refine kR.cVv [.int p1] dX5_readTest_2 rfl (Nat.le_refl _) mwX5_275 zp54 (by decide) rfl rfl (Nat.le_of_ble_eq_true rfl) (hg.1 p1 σ _ e2) ?_
  refine zR.iconst (v := 0) dX5_readTest_5 (by decide) ?_
  refine zR.istore_n (i := 2) (ls' := [(2, .int 0), (0, .ref 54), (1, .int p1)]) dX5_readTest_6 rfl (by decide) rfl ?_
  refine zR.sub [1, 2, 0] rfl ?_
  exact kX5_readTest_7 g hg zF _ _ _ _ h
theorem lX5_readTest' {sc : Nat × (Nat → Int32)} (g : TGX5_readBoth) {n : Nat} (hg : okGX5_readBoth sc n g) (p1 : Int32) (σ : zS) (w : zS) (h : fX5_readTest' g p1 σ = some w) : zC (zY0 sc) (DDGX5_readBoth + n + 1) 0 0 mX5_readTest [.ref 54, .int p1] (zE σ) (none, zE w) := zC.of (by decide +kernel) (Nat.le_of_ble_eq_true rfl) rfl (eX5_readTest g hg p1 σ w h)
def ggGX5_readBoth : Nat → TGX5_readBoth
  | 0 => (fun _ _ => none, fun _ _ => none, fun _ _ => none, fun _ _ => none, fun _ _ => none, fun _ _ _ => none, fun _ _ => none, fun _ _ => none, fun _ _ => none, fun _ _ => none)
  | n + 1 => (fX5_readBoth' (ggGX5_readBoth n), fX5_readCompared' (ggGX5_readBoth n), fX5_readFact' (ggGX5_readBoth n), fX5_readIf' (ggGX5_readBoth n), fX5_readNot' (ggGX5_readBoth n), fX5_readPair' (ggGX5_readBoth n), fX5_readPart' (ggGX5_readBoth n), fX5_readProduct' (ggGX5_readBoth n), fX5_readSum' (ggGX5_readBoth n), fX5_readTest' (ggGX5_readBoth n))
theorem gokGX5_readBoth (sc : Nat × (Nat → Int32)) : ∀ n, okGX5_readBoth sc n (ggGX5_readBoth n)
  | 0 => ⟨fun _ _ _ h => (nomatch h), fun _ _ _ h => (nomatch h), fun _ _ _ h => (nomatch h), fun _ _ _ h => (nomatch h), fun _ _ _ h => (nomatch h), fun _ _ _ _ h => (nomatch h), fun _ _ _ h => (nomatch h), fun _ _ _ h => (nomatch h), fun _ _ _ h => (nomatch h), fun _ _ _ h => (nomatch h)⟩
  | n + 1 => ⟨fun p1 σ w h => lX5_readBoth' (ggGX5_readBoth n) (gokGX5_readBoth sc n) p1 σ w h, fun p1 σ w h => lX5_readCompared' (ggGX5_readBoth n) (gokGX5_readBoth sc n) p1 σ w h, fun p1 σ w h => lX5_readFact' (ggGX5_readBoth n) (gokGX5_readBoth sc n) p1 σ w h, fun p1 σ w h => lX5_readIf' (ggGX5_readBoth n) (gokGX5_readBoth sc n) p1 σ w h, fun p1 σ w h => lX5_readNot' (ggGX5_readBoth n) (gokGX5_readBoth sc n) p1 σ w h, fun p1 p2 σ w h => lX5_readPair' (ggGX5_readBoth n) (gokGX5_readBoth sc n) p1 p2 σ w h, fun p1 σ w h => lX5_readPart' (ggGX5_readBoth n) (gokGX5_readBoth sc n) p1 σ w h, fun p1 σ w h => lX5_readProduct' (ggGX5_readBoth n) (gokGX5_readBoth sc n) p1 σ w h, fun p1 σ w h => lX5_readSum' (ggGX5_readBoth n) (gokGX5_readBoth sc n) p1 σ w h, fun p1 σ w h => lX5_readTest' (ggGX5_readBoth n) (gokGX5_readBoth sc n) p1 σ w h⟩
def fX5_readBoth (n : Nat) (p1 : Int32) (σ : zS) : Option zS := (ggGX5_readBoth n).1 p1 σ
theorem lX5_readBoth {sc : Nat × (Nat → Int32)} (n : Nat) (p1 : Int32) (σ : zS) (w : zS) (h : fX5_readBoth n p1 σ = some w) : zC (zY0 sc) (DDGX5_readBoth + n) 0 0 mX5_readBoth [.ref 54, .int p1] (zE σ) (none, zE w) := (gokGX5_readBoth sc n).1 p1 σ w h
def fX5_readCompared (n : Nat) (p1 : Int32) (σ : zS) : Option zS := (ggGX5_readBoth n).2.1 p1 σ
theorem lX5_readCompared {sc : Nat × (Nat → Int32)} (n : Nat) (p1 : Int32) (σ : zS) (w : zS) (h : fX5_readCompared n p1 σ = some w) : zC (zY0 sc) (DDGX5_readBoth + n) 0 0 mX5_readCompared [.ref 54, .int p1] (zE σ) (none, zE w) := (gokGX5_readBoth sc n).2.1 p1 σ w h
def fX5_readFact (n : Nat) (p1 : Int32) (σ : zS) : Option zS := (ggGX5_readBoth n).2.2.1 p1 σ
theorem lX5_readFact {sc : Nat × (Nat → Int32)} (n : Nat) (p1 : Int32) (σ : zS) (w : zS) (h : fX5_readFact n p1 σ = some w) : zC (zY0 sc) (DDGX5_readBoth + n) 0 0 mX5_readFact [.ref 54, .int p1] (zE σ) (none, zE w) := (gokGX5_readBoth sc n).2.2.1 p1 σ w h
def fX5_readIf (n : Nat) (p1 : Int32) (σ : zS) : Option zS := (ggGX5_readBoth n).2.2.2.1 p1 σ
theorem lX5_readIf {sc : Nat × (Nat → Int32)} (n : Nat) (p1 : Int32) (σ : zS) (w : zS) (h : fX5_readIf n p1 σ = some w) : zC (zY0 sc) (DDGX5_readBoth + n) 0 0 mX5_readIf [.ref 54, .int p1] (zE σ) (none, zE w) := (gokGX5_readBoth sc n).2.2.2.1 p1 σ w h
def fX5_readNot (n : Nat) (p1 : Int32) (σ : zS) : Option zS := (ggGX5_readBoth n).2.2.2.2.1 p1 σ
theorem lX5_readNot {sc : Nat × (Nat → Int32)} (n : Nat) (p1 : Int32) (σ : zS) (w : zS) (h : fX5_readNot n p1 σ = some w) : zC (zY0 sc) (DDGX5_readBoth + n) 0 0 mX5_readNot [.ref 54, .int p1] (zE σ) (none, zE w) := (gokGX5_readBoth sc n).2.2.2.2.1 p1 σ w h
def fX5_readPair (n : Nat) (p1 : Int32) (p2 : Int32) (σ : zS) : Option zS := (ggGX5_readBoth n).2.2.2.2.2.1 p1 p2 σ
theorem lX5_readPair {sc : Nat × (Nat → Int32)} (n : Nat) (p1 : Int32) (p2 : Int32) (σ : zS) (w : zS) (h : fX5_readPair n p1 p2 σ = some w) : zC (zY0 sc) (DDGX5_readBoth + n) 0 0 mX5_readPair [.ref 54, .int p1, .int p2] (zE σ) (none, zE w) := (gokGX5_readBoth sc n).2.2.2.2.2.1 p1 p2 σ w h
def fX5_readPart (n : Nat) (p1 : Int32) (σ : zS) : Option zS := (ggGX5_readBoth n).2.2.2.2.2.2.1 p1 σ
theorem lX5_readPart {sc : Nat × (Nat → Int32)} (n : Nat) (p1 : Int32) (σ : zS) (w : zS) (h : fX5_readPart n p1 σ = some w) : zC (zY0 sc) (DDGX5_readBoth + n) 0 0 mX5_readPart [.ref 54, .int p1] (zE σ) (none, zE w) := (gokGX5_readBoth sc n).2.2.2.2.2.2.1 p1 σ w h
def fX5_readProduct (n : Nat) (p1 : Int32) (σ : zS) : Option zS := (ggGX5_readBoth n).2.2.2.2.2.2.2.1 p1 σ
theorem lX5_readProduct {sc : Nat × (Nat → Int32)} (n : Nat) (p1 : Int32) (σ : zS) (w : zS) (h : fX5_readProduct n p1 σ = some w) : zC (zY0 sc) (DDGX5_readBoth + n) 0 0 mX5_readProduct [.ref 54, .int p1] (zE σ) (none, zE w) := (gokGX5_readBoth sc n).2.2.2.2.2.2.2.1 p1 σ w h
def fX5_readSum (n : Nat) (p1 : Int32) (σ : zS) : Option zS := (ggGX5_readBoth n).2.2.2.2.2.2.2.2.1 p1 σ
theorem lX5_readSum {sc : Nat × (Nat → Int32)} (n : Nat) (p1 : Int32) (σ : zS) (w : zS) (h : fX5_readSum n p1 σ = some w) : zC (zY0 sc) (DDGX5_readBoth + n) 0 0 mX5_readSum [.ref 54, .int p1] (zE σ) (none, zE w) := (gokGX5_readBoth sc n).2.2.2.2.2.2.2.2.1 p1 σ w h
def fX5_readTest (n : Nat) (p1 : Int32) (σ : zS) : Option zS := (ggGX5_readBoth n).2.2.2.2.2.2.2.2.2 p1 σ
theorem lX5_readTest {sc : Nat × (Nat → Int32)} (n : Nat) (p1 : Int32) (σ : zS) (w : zS) (h : fX5_readTest n p1 σ = some w) : zC (zY0 sc) (DDGX5_readBoth + n) 0 0 mX5_readTest [.ref 54, .int p1] (zE σ) (none, zE w) := (gokGX5_readBoth sc n).2.2.2.2.2.2.2.2.2 p1 σ w h
theorem dX5_readTold_0 : decode cX5_readTold 0 = .ok (.aload_n 0, 1) := by decide +kernel
theorem dX5_readTold_1 : decode cX5_readTold 1 = .ok (.getfield 44, 3) := by decide +kernel
theorem dX5_readTold_4 : decode cX5_readTold 4 = .ok (.getfield 228, 3) := by decide +kernel
theorem dX5_readTold_7 : decode cX5_readTold 7 = .ok (.iload_n 1, 1) := by decide +kernel
theorem dX5_readTold_8 : decode cX5_readTold 8 = .ok (.invokevirtual 232, 3) := by decide +kernel
theorem dX5_readTold_11 : decode cX5_readTold 11 = .ok (.ifCond .eq 14, 3) := by decide +kernel
theorem dX5_readTold_14 : decode cX5_readTold 14 = .ok (.aload_n 0, 1) := by decide +kernel
theorem dX5_readTold_15 : decode cX5_readTold 15 = .ok (.bipush 6, 2) := by decide +kernel
theorem dX5_readTold_17 : decode cX5_readTold 17 = .ok (.aload_n 0, 1) := by decide +kernel
theorem dX5_readTold_18 : decode cX5_readTold 18 = .ok (.getfield 19, 3) := by decide +kernel
theorem dX5_readTold_21 : decode cX5_readTold 21 = .ok (.invokevirtual 73, 3) := by decide +kernel
theorem dX5_readTold_24 : decode cX5_readTold 24 = .ok (.return_, 1) := by decide +kernel
theorem dX5_readTold_25 : decode cX5_readTold 25 = .ok (.aload_n 0, 1) := by decide +kernel
theorem dX5_readTold_26 : decode cX5_readTold 26 = .ok (.invokevirtual 114, 3) := by decide +kernel
theorem dX5_readTold_29 : decode cX5_readTold 29 = .ok (.aload_n 0, 1) := by decide +kernel
theorem dX5_readTold_30 : decode cX5_readTold 30 = .ok (.getfield 44, 3) := by decide +kernel
theorem dX5_readTold_33 : decode cX5_readTold 33 = .ok (.getfield 228, 3) := by decide +kernel
theorem dX5_readTold_36 : decode cX5_readTold 36 = .ok (.getfield 235, 3) := by decide +kernel
theorem dX5_readTold_39 : decode cX5_readTold 39 = .ok (.iload_n 1, 1) := by decide +kernel
theorem dX5_readTold_40 : decode cX5_readTold 40 = .ok (.aload_n 0, 1) := by decide +kernel
theorem dX5_readTold_41 : decode cX5_readTold 41 = .ok (.getfield 44, 3) := by decide +kernel
theorem dX5_readTold_44 : decode cX5_readTold 44 = .ok (.getfield 228, 3) := by decide +kernel
theorem dX5_readTold_47 : decode cX5_readTold 47 = .ok (.getfield 238, 3) := by decide +kernel
theorem dX5_readTold_50 : decode cX5_readTold 50 = .ok (.invokestatic 169, 3) := by decide +kernel
theorem dX5_readTold_53 : decode cX5_readTold 53 = .ok (.aload_n 0, 1) := by decide +kernel
theorem dX5_readTold_54 : decode cX5_readTold 54 = .ok (.iconst 0, 1) := by decide +kernel
theorem dX5_readTold_55 : decode cX5_readTold 55 = .ok (.invokevirtual 239, 3) := by decide +kernel
theorem dX5_readTold_58 : decode cX5_readTold 58 = .ok (.aload_n 0, 1) := by decide +kernel
theorem dX5_readTold_59 : decode cX5_readTold 59 = .ok (.getfield 44, 3) := by decide +kernel
theorem dX5_readTold_62 : decode cX5_readTold 62 = .ok (.getfield 228, 3) := by decide +kernel
theorem dX5_readTold_65 : decode cX5_readTold 65 = .ok (.getfield 242, 3) := by decide +kernel
theorem dX5_readTold_68 : decode cX5_readTold 68 = .ok (.iload_n 1, 1) := by decide +kernel
theorem dX5_readTold_69 : decode cX5_readTold 69 = .ok (.aload_n 0, 1) := by decide +kernel
theorem dX5_readTold_70 : decode cX5_readTold 70 = .ok (.getfield 44, 3) := by decide +kernel
theorem dX5_readTold_73 : decode cX5_readTold 73 = .ok (.getfield 228, 3) := by decide +kernel
theorem dX5_readTold_76 : decode cX5_readTold 76 = .ok (.getfield 238, 3) := by decide +kernel
theorem dX5_readTold_79 : decode cX5_readTold 79 = .ok (.invokestatic 169, 3) := by decide +kernel
theorem dX5_readTold_82 : decode cX5_readTold 82 = .ok (.return_, 1) := by decide +kernel
def fX5_readTold (p1 : Int32) (σ : zS) : Option zS := bnr (fX8_isTold σ.2.2.2.2 σ p1) fun v1 => if v1 = 0 then bnr (fX5_advance σ) fun σ3 => wI σ3 (rp σ3.2.2.2.2 + 14) 2 p1 (iG σ3 (rp σ3.2.2.2.2 + 11) 3) fun σ5 => bnr (fX5_readSum zD 0 σ5) fun σ6 => wI σ6 (rp σ6.2.2.2.2 + 15) 2 p1 (iG σ6 (rp σ6.2.2.2.2 + 11) 3) fun σ8 => some σ8 else bnr (fX5_fail 6 (iG σ 54 4) σ) fun σ9 => some σ9
theorem eX5_readTold {sc : Nat × (Nat → Int32)} (p1 : Int32) (σ : zS) (w : zS) (h : fX5_readTold p1 σ = some w) : zR (zY0 sc) 129 0 0 mX5_readTold 0 [(0, .ref 54), (1, .int p1)] [] (zE σ) (none, zE w) := by
  unfold fX5_readTold at h
  refine kR.aload_n dX5_readTold_0 0 rfl ?_
  refine kR.getR (v := (rp σ.2.2.2.2 + 0)) dX5_readTold_1 flX5_44 zcf5 zp54 (Or.inl ⟨_, rfl⟩) rfl ?_
  refine kR.getR (v := (rp σ.2.2.2.2 + 11)) dX5_readTold_4 flX5_228 zcf6 (zq0 σ.2.2.2.2) (Or.inl ⟨_, rfl⟩) (zr0_15 _ σ.2.2.2.2) ?_
  refine kR.iload_n dX5_readTold_7 1 rfl ?_
  obtain ⟨v1, e2, h⟩ := bnr_some h
  refine kR.cVi [.int p1] dX5_readTold_8 rfl (by decide) mwX5_232 (zq11 σ.2.2.2.2) (by decide) rfl rfl (Nat.le_of_ble_eq_true rfl) (lX8_isTold σ.2.2.2.2 σ p1 _ e2) ?_
  refine kR.if_eq (tgt := 25) dX5_readTold_11 (by decide) h (fun h => ?_) (fun h => ?_)
  · refine kR.aload_n dX5_readTold_25 0 rfl ?_
    obtain ⟨σ3, e4, h⟩ := bnr_some h
    refine kR.cVv [] dX5_readTold_26 rfl (by decide) mwX5_114 zp54 (by decide) rfl rfl (Nat.le_of_ble_eq_true rfl) (lX5_advance σ _ e4) ?_
    refine kR.aload_n dX5_readTold_29 0 rfl ?_
    refine kR.getR (v := (rp σ3.2.2.2.2 + 0)) dX5_readTold_30 flX5_44 zcf5 zp54 (Or.inl ⟨_, rfl⟩) rfl ?_
    refine kR.getR (v := (rp σ3.2.2.2.2 + 11)) dX5_readTold_33 flX5_228 zcf6 (zq0 σ3.2.2.2.2) (Or.inl ⟨_, rfl⟩) (zr0_15 _ σ3.2.2.2.2) ?_
    refine kR.getR (v := (rp σ3.2.2.2.2 + 14)) dX5_readTold_36 flX5_235 zcf8 (zq11 σ3.2.2.2.2) (Or.inr ⟨_, rfl⟩) (zr11_4 _ σ3.2.2.2.2) ?_
    refine kR.iload_n dX5_readTold_39 1 rfl ?_
    refine kR.aload_n dX5_readTold_40 0 rfl ?_
    refine kR.getR (v := (rp σ3.2.2.2.2 + 0)) dX5_readTold_41 flX5_44 zcf5 zp54 (Or.inl ⟨_, rfl⟩) rfl ?_
    refine kR.getR (v := (rp σ3.2.2.2.2 + 11)) dX5_readTold_44 flX5_228 zcf6 (zq0 σ3.2.2.2.2) (Or.inl ⟨_, rfl⟩) (zr0_15 _ σ3.2.2.2.2) ?_
    refine kR.getI dX5_readTold_47 flX5_238 zcf8 (zq11 σ3.2.2.2.2) (Or.inl rfl) ?_
    obtain ⟨σ5, e0, h⟩ := wIv (Nat.le_of_ble_eq_true rfl) h
    refine kR.cSv [.ref (rp σ3.2.2.2.2 + 14), .int p1, .int (iG σ3 (rp σ3.2.2.2.2 + 11) 3)] dX5_readTold_50 rfl (by decide) (Or.inr mwX5_169) rfl (Nat.le_of_ble_eq_true rfl) (lX10_setAt (rp σ3.2.2.2.2 + 14) 2 (fun _ => (zq14 σ3.2.2.2.2)) (zl14 σ3.2.2.2.2) (Nat.le_of_ble_eq_true rfl) p1 (iG σ3 (rp σ3.2.2.2.2 + 11) 3) σ3 _ e0) ?_
    refine kR.aload_n dX5_readTold_53 0 rfl ?_
    refine zR.iconst (v := 0) dX5_readTold_54 (by decide) ?_
    obtain ⟨σ6, e7, h⟩ := bnr_some h
    refine kR.cVv [.int 0] dX5_readTold_55 rfl (by decide) mwX5_239 zp54 (by decide) rfl rfl (Nat.le_of_ble_eq_true rfl) (lX5_readSum zD 0 σ5 _ e7) ?_
    refine kR.aload_n dX5_readTold_58 0 rfl ?_
    refine kR.getR (v := (rp σ6.2.2.2.2 + 0)) dX5_readTold_59 flX5_44 zcf5 zp54 (Or.inl ⟨_, rfl⟩) rfl ?_
    refine kR.getR (v := (rp σ6.2.2.2.2 + 11)) dX5_readTold_62 flX5_228 zcf6 (zq0 σ6.2.2.2.2) (Or.inl ⟨_, rfl⟩) (zr0_15 _ σ6.2.2.2.2) ?_
    refine kR.getR (v := (rp σ6.2.2.2.2 + 15)) dX5_readTold_65 flX5_242 zcf8 (zq11 σ6.2.2.2.2) (Or.inr ⟨_, rfl⟩) (zr11_5 _ σ6.2.2.2.2) ?_
    refine kR.iload_n dX5_readTold_68 1 rfl ?_
    refine kR.aload_n dX5_readTold_69 0 rfl ?_
    refine kR.getR (v := (rp σ6.2.2.2.2 + 0)) dX5_readTold_70 flX5_44 zcf5 zp54 (Or.inl ⟨_, rfl⟩) rfl ?_
    refine kR.getR (v := (rp σ6.2.2.2.2 + 11)) dX5_readTold_73 flX5_228 zcf6 (zq0 σ6.2.2.2.2) (Or.inl ⟨_, rfl⟩) (zr0_15 _ σ6.2.2.2.2) ?_
    refine kR.getI dX5_readTold_76 flX5_238 zcf8 (zq11 σ6.2.2.2.2) (Or.inl rfl) ?_
    obtain ⟨σ8, e0, h⟩ := wIv (Nat.le_of_ble_eq_true rfl) h
    refine kR.cSv [.ref (rp σ6.2.2.2.2 + 15), .int p1, .int (iG σ6 (rp σ6.2.2.2.2 + 11) 3)] dX5_readTold_79 rfl (by decide) (Or.inr mwX5_169) rfl (Nat.le_of_ble_eq_true rfl) (lX10_setAt (rp σ6.2.2.2.2 + 15) 2 (fun _ => (zq15 σ6.2.2.2.2)) (zl15 σ6.2.2.2.2) (Nat.le_of_ble_eq_true rfl) p1 (iG σ6 (rp σ6.2.2.2.2 + 11) 3) σ6 _ e0) ?_
    exact kR.vret dX5_readTold_82 h
  · refine kR.aload_n dX5_readTold_14 0 rfl ?_
    refine zR.bipush (v := 6) dX5_readTold_15 (by decide) ?_
    refine kR.aload_n dX5_readTold_17 0 rfl ?_
    refine kR.getI dX5_readTold_18 flX5_19 zcf5 zp54 (Or.inl rfl) ?_
    obtain ⟨σ9, e10, h⟩ := bnr_some h
    refine kR.cVv [.int 6, .int (iG σ 54 4)] dX5_readTold_21 rfl (by decide) mwX5_73 zp54 (by decide) rfl rfl (Nat.le_of_ble_eq_true rfl) (lX5_fail 6 (iG σ 54 4) σ _ e10) ?_
    exact kR.vret dX5_readTold_24 h
theorem lX5_readTold {sc : Nat × (Nat → Int32)} (p1 : Int32) (σ : zS) (w : zS) (h : fX5_readTold p1 σ = some w) : zC (zY0 sc) 129 0 0 mX5_readTold [.ref 54, .int p1] (zE σ) (none, zE w) := zC.of (by decide +kernel) (Nat.le_of_ble_eq_true rfl) rfl (eX5_readTold p1 σ w h)
theorem dX5_readStatement_0 : decode cX5_readStatement 0 = .ok (.aload_n 0, 1) := by decide +kernel
theorem dX5_readStatement_1 : decode cX5_readStatement 1 = .ok (.getfield 44, 3) := by decide +kernel
theorem dX5_readStatement_4 : decode cX5_readStatement 4 = .ok (.getfield 130, 3) := by decide +kernel
theorem dX5_readStatement_7 : decode cX5_readStatement 7 = .ok (.bipush 80, 2) := by decide +kernel
theorem dX5_readStatement_9 : decode cX5_readStatement 9 = .ok (.if_icmp .lt 14, 3) := by decide +kernel
theorem dX5_readStatement_12 : decode cX5_readStatement 12 = .ok (.aload_n 0, 1) := by decide +kernel
theorem dX5_readStatement_13 : decode cX5_readStatement 13 = .ok (.bipush 6, 2) := by decide +kernel
theorem dX5_readStatement_15 : decode cX5_readStatement 15 = .ok (.aload_n 0, 1) := by decide +kernel
theorem dX5_readStatement_16 : decode cX5_readStatement 16 = .ok (.getfield 15, 3) := by decide +kernel
theorem dX5_readStatement_19 : decode cX5_readStatement 19 = .ok (.invokevirtual 73, 3) := by decide +kernel
theorem dX5_readStatement_22 : decode cX5_readStatement 22 = .ok (.return_, 1) := by decide +kernel
theorem dX5_readStatement_23 : decode cX5_readStatement 23 = .ok (.aload_n 0, 1) := by decide +kernel
theorem dX5_readStatement_24 : decode cX5_readStatement 24 = .ok (.iconst 0, 1) := by decide +kernel
theorem dX5_readStatement_25 : decode cX5_readStatement 25 = .ok (.putfield 22, 3) := by decide +kernel
theorem dX5_readStatement_28 : decode cX5_readStatement 28 = .ok (.aload_n 0, 1) := by decide +kernel
theorem dX5_readStatement_29 : decode cX5_readStatement 29 = .ok (.invokevirtual 114, 3) := by decide +kernel
theorem dX5_readStatement_32 : decode cX5_readStatement 32 = .ok (.aload_n 0, 1) := by decide +kernel
theorem dX5_readStatement_33 : decode cX5_readStatement 33 = .ok (.getfield 25, 3) := by decide +kernel
theorem dX5_readStatement_36 : decode cX5_readStatement 36 = .ok (.tableswitch 155 0 12 #[68, 155, 155, 155, 75, 155, 155, 82, 89, 96, 104, 112, 133], 68) := by decide +kernel
theorem dX5_readStatement_104 : decode cX5_readStatement 104 = .ok (.aload_n 0, 1) := by decide +kernel
theorem dX5_readStatement_105 : decode cX5_readStatement 105 = .ok (.invokevirtual 133, 3) := by decide +kernel
theorem dX5_readStatement_108 : decode cX5_readStatement 108 = .ok (.goto 92, 3) := by decide +kernel
theorem dX5_readStatement_111 : decode cX5_readStatement 111 = .ok (.aload_n 0, 1) := by decide +kernel
theorem dX5_readStatement_112 : decode cX5_readStatement 112 = .ok (.invokevirtual 136, 3) := by decide +kernel
theorem dX5_readStatement_115 : decode cX5_readStatement 115 = .ok (.goto 85, 3) := by decide +kernel
theorem dX5_readStatement_118 : decode cX5_readStatement 118 = .ok (.aload_n 0, 1) := by decide +kernel
theorem dX5_readStatement_119 : decode cX5_readStatement 119 = .ok (.invokevirtual 139, 3) := by decide +kernel
theorem dX5_readStatement_122 : decode cX5_readStatement 122 = .ok (.goto 78, 3) := by decide +kernel
theorem dX5_readStatement_125 : decode cX5_readStatement 125 = .ok (.aload_n 0, 1) := by decide +kernel
theorem dX5_readStatement_126 : decode cX5_readStatement 126 = .ok (.invokevirtual 142, 3) := by decide +kernel
theorem dX5_readStatement_129 : decode cX5_readStatement 129 = .ok (.goto 71, 3) := by decide +kernel
theorem dX5_readStatement_132 : decode cX5_readStatement 132 = .ok (.aload_n 0, 1) := by decide +kernel
theorem dX5_readStatement_133 : decode cX5_readStatement 133 = .ok (.iconst 0, 1) := by decide +kernel
theorem dX5_readStatement_134 : decode cX5_readStatement 134 = .ok (.invokevirtual 147, 3) := by decide +kernel
theorem dX5_readStatement_137 : decode cX5_readStatement 137 = .ok (.goto 63, 3) := by decide +kernel
theorem dX5_readStatement_140 : decode cX5_readStatement 140 = .ok (.aload_n 0, 1) := by decide +kernel
theorem dX5_readStatement_141 : decode cX5_readStatement 141 = .ok (.iconst 1, 1) := by decide +kernel
theorem dX5_readStatement_142 : decode cX5_readStatement 142 = .ok (.invokevirtual 147, 3) := by decide +kernel
theorem dX5_readStatement_145 : decode cX5_readStatement 145 = .ok (.goto 55, 3) := by decide +kernel
theorem dX5_readStatement_148 : decode cX5_readStatement 148 = .ok (.aload_n 0, 1) := by decide +kernel
theorem dX5_readStatement_149 : decode cX5_readStatement 149 = .ok (.invokevirtual 114, 3) := by decide +kernel
theorem dX5_readStatement_152 : decode cX5_readStatement 152 = .ok (.aload_n 0, 1) := by decide +kernel
theorem dX5_readStatement_153 : decode cX5_readStatement 153 = .ok (.getfield 44, 3) := by decide +kernel
theorem dX5_readStatement_156 : decode cX5_readStatement 156 = .ok (.aload_n 0, 1) := by decide +kernel
theorem dX5_readStatement_157 : decode cX5_readStatement 157 = .ok (.iconst 0, 1) := by decide +kernel
theorem dX5_readStatement_158 : decode cX5_readStatement 158 = .ok (.bipush 100, 2) := by decide +kernel
theorem dX5_readStatement_160 : decode cX5_readStatement 160 = .ok (.invokevirtual 150, 3) := by decide +kernel
theorem dX5_readStatement_163 : decode cX5_readStatement 163 = .ok (.putfield 154, 3) := by decide +kernel
theorem dX5_readStatement_166 : decode cX5_readStatement 166 = .ok (.goto 34, 3) := by decide +kernel
theorem dX5_readStatement_169 : decode cX5_readStatement 169 = .ok (.aload_n 0, 1) := by decide +kernel
theorem dX5_readStatement_170 : decode cX5_readStatement 170 = .ok (.invokevirtual 114, 3) := by decide +kernel
theorem dX5_readStatement_173 : decode cX5_readStatement 173 = .ok (.aload_n 0, 1) := by decide +kernel
theorem dX5_readStatement_174 : decode cX5_readStatement 174 = .ok (.getfield 44, 3) := by decide +kernel
theorem dX5_readStatement_177 : decode cX5_readStatement 177 = .ok (.aload_n 0, 1) := by decide +kernel
theorem dX5_readStatement_178 : decode cX5_readStatement 178 = .ok (.iconst 0, 1) := by decide +kernel
theorem dX5_readStatement_179 : decode cX5_readStatement 179 = .ok (.sipush 999, 3) := by decide +kernel
theorem dX5_readStatement_182 : decode cX5_readStatement 182 = .ok (.invokevirtual 150, 3) := by decide +kernel
theorem dX5_readStatement_185 : decode cX5_readStatement 185 = .ok (.putfield 157, 3) := by decide +kernel
theorem dX5_readStatement_188 : decode cX5_readStatement 188 = .ok (.goto 12, 3) := by decide +kernel
theorem dX5_readStatement_191 : decode cX5_readStatement 191 = .ok (.aload_n 0, 1) := by decide +kernel
theorem dX5_readStatement_192 : decode cX5_readStatement 192 = .ok (.iconst 1, 1) := by decide +kernel
theorem dX5_readStatement_193 : decode cX5_readStatement 193 = .ok (.aload_n 0, 1) := by decide +kernel
theorem dX5_readStatement_194 : decode cX5_readStatement 194 = .ok (.getfield 19, 3) := by decide +kernel
theorem dX5_readStatement_197 : decode cX5_readStatement 197 = .ok (.invokevirtual 73, 3) := by decide +kernel
theorem dX5_readStatement_200 : decode cX5_readStatement 200 = .ok (.aload_n 0, 1) := by decide +kernel
theorem dX5_readStatement_201 : decode cX5_readStatement 201 = .ok (.getfield 22, 3) := by decide +kernel
theorem dX5_readStatement_204 : decode cX5_readStatement 204 = .ok (.bipush 59, 2) := by decide +kernel
theorem dX5_readStatement_206 : decode cX5_readStatement 206 = .ok (.if_icmp .eq 12, 3) := by decide +kernel
theorem dX5_readStatement_209 : decode cX5_readStatement 209 = .ok (.aload_n 0, 1) := by decide +kernel
theorem dX5_readStatement_210 : decode cX5_readStatement 210 = .ok (.iconst 1, 1) := by decide +kernel
theorem dX5_readStatement_211 : decode cX5_readStatement 211 = .ok (.aload_n 0, 1) := by decide +kernel
theorem dX5_readStatement_212 : decode cX5_readStatement 212 = .ok (.getfield 19, 3) := by decide +kernel
theorem dX5_readStatement_215 : decode cX5_readStatement 215 = .ok (.invokevirtual 73, 3) := by decide +kernel
theorem dX5_readStatement_218 : decode cX5_readStatement 218 = .ok (.aload_n 0, 1) := by decide +kernel
theorem dX5_readStatement_219 : decode cX5_readStatement 219 = .ok (.getfield 44, 3) := by decide +kernel
theorem dX5_readStatement_222 : decode cX5_readStatement 222 = .ok (.dup, 1) := by decide +kernel
theorem dX5_readStatement_223 : decode cX5_readStatement 223 = .ok (.getfield 130, 3) := by decide +kernel
theorem dX5_readStatement_226 : decode cX5_readStatement 226 = .ok (.iconst 1, 1) := by decide +kernel
theorem dX5_readStatement_227 : decode cX5_readStatement 227 = .ok (.iadd, 1) := by decide +kernel
theorem dX5_readStatement_228 : decode cX5_readStatement 228 = .ok (.putfield 130, 3) := by decide +kernel
theorem dX5_readStatement_231 : decode cX5_readStatement 231 = .ok (.return_, 1) := by decide +kernel
def fX5_readStatement_218 (σ : zS) : Option zS := bnd (iS σ (rp σ.2.2.2.2 + 0) 0 ((iG σ (rp σ.2.2.2.2 + 0) 0) + 1)) fun σ6 => some σ6
theorem kX5_readStatement_218 {sc : Nat × (Nat → Int32)} (σ : zS) (w : zS) (h : fX5_readStatement_218 σ = some w) : zR (zY0 sc) 130 0 0 mX5_readStatement 218 [(0, .ref 54)] [] (zE σ) (none, zE w) := by
  unfold fX5_readStatement_218 at h
  refine kR.aload_n dX5_readStatement_218 0 rfl ?_
  refine kR.getR (v := (rp σ.2.2.2.2 + 0)) dX5_readStatement_219 flX5_44 zcf5 zp54 (Or.inl ⟨_, rfl⟩) rfl ?_
  refine zR.dup dX5_readStatement_222 rfl ?_
  refine kR.getI dX5_readStatement_223 flX5_130 zcf6 (zq0 σ.2.2.2.2) (Or.inl rfl) ?_
  refine zR.iconst (v := 1) dX5_readStatement_226 (by decide) ?_
  refine zR.iadd dX5_readStatement_227 ?_
  refine kR.putI dX5_readStatement_228 fpX5_130 zcf6 (zq0 σ.2.2.2.2) rfl h (fun σ6 h => ?_)
  exact kR.vret dX5_readStatement_231 h
def fX5_readStatement_200 (σ : zS) : Option zS := if (iG σ 54 5) = 59 then fX5_readStatement_218 σ else bnr (fX5_fail 1 (iG σ 54 4) σ) fun σ7 => fX5_readStatement_218 σ7
theorem kX5_readStatement_200 {sc : Nat × (Nat → Int32)} (σ : zS) (w : zS) (h : fX5_readStatement_200 σ = some w) : zR (zY0 sc) 130 0 0 mX5_readStatement 200 [(0, .ref 54)] [] (zE σ) (none, zE w) := by
  unfold fX5_readStatement_200 at h
  refine kR.aload_n dX5_readStatement_200 0 rfl ?_
  refine kR.getI dX5_readStatement_201 flX5_22 zcf5 zp54 (Or.inl rfl) ?_
  refine zR.bipush (v := 59) dX5_readStatement_204 (by decide) ?_
  refine kR.icmp_eq (tgt := 218) dX5_readStatement_206 (by decide) h (fun h => ?_) (fun h => ?_)
  · exact kX5_readStatement_218 _ _ h
  · refine kR.aload_n dX5_readStatement_209 0 rfl ?_
    refine zR.iconst (v := 1) dX5_readStatement_210 (by decide) ?_
    refine kR.aload_n dX5_readStatement_211 0 rfl ?_
    refine kR.getI dX5_readStatement_212 flX5_19 zcf5 zp54 (Or.inl rfl) ?_
    obtain ⟨σ7, e8, h⟩ := bnr_some h
    refine kR.cVv [.int 1, .int (iG σ 54 4)] dX5_readStatement_215 rfl (by decide) mwX5_73 zp54 (by decide) rfl rfl (Nat.le_of_ble_eq_true rfl) (lX5_fail 1 (iG σ 54 4) σ _ e8) ?_
    exact kX5_readStatement_218 _ _ h
def fX5_readStatement (σ : zS) : Option zS := if (iG σ (rp σ.2.2.2.2 + 0) 0) < 80 then bnd (iS σ 54 5 0) fun σ1 => bnr (fX5_advance σ1) fun σ2 => if (iG σ2 54 6) = 0 then bnr (fX5_readTunnel σ2) fun σ4 => fX5_readStatement_200 σ4 else if (iG σ2 54 6) = 4 then bnr (fX5_readHolder σ2) fun σ9 => fX5_readStatement_200 σ9 else if (iG σ2 54 6) = 7 then bnr (fX5_readThinks σ2) fun σ11 => fX5_readStatement_200 σ11 else if (iG σ2 54 6) = 8 then bnr (fX5_readGives σ2) fun σ13 => fX5_readStatement_200 σ13 else if (iG σ2 54 6) = 9 then bnr (fX5_readTold 0 σ2) fun σ15 => fX5_readStatement_200 σ15 else if (iG σ2 54 6) = 10 then bnr (fX5_readTold 1 σ2) fun σ17 => fX5_readStatement_200 σ17 else if (iG σ2 54 6) = 11 then bnr (fX5_advance σ2) fun σ19 => bnc (fX5_takeNumber 0 100 σ19) fun v23 σ21 => bnd (iS σ21 (rp σ19.2.2.2.2 + 0) 3 v23) fun σ24 => fX5_readStatement_200 σ24 else if (iG σ2 54 6) = 12 then bnr (fX5_advance σ2) fun σ25 => bnc (fX5_takeNumber 0 999 σ25) fun v29 σ27 => bnd (iS σ27 (rp σ25.2.2.2.2 + 0) 4 v29) fun σ30 => fX5_readStatement_200 σ30 else bnr (fX5_fail 1 (iG σ2 54 4) σ2) fun σ31 => fX5_readStatement_200 σ31 else bnr (fX5_fail 6 (iG σ 54 3) σ) fun σ33 => some σ33
theorem eX5_readStatement {sc : Nat × (Nat → Int32)} (σ : zS) (w : zS) (h : fX5_readStatement σ = some w) : zR (zY0 sc) 130 0 0 mX5_readStatement 0 [(0, .ref 54)] [] (zE σ) (none, zE w) := by
  unfold fX5_readStatement at h
  refine kR.aload_n dX5_readStatement_0 0 rfl ?_
  refine kR.getR (v := (rp σ.2.2.2.2 + 0)) dX5_readStatement_1 flX5_44 zcf5 zp54 (Or.inl ⟨_, rfl⟩) rfl ?_
  refine kR.getI dX5_readStatement_4 flX5_130 zcf6 (zq0 σ.2.2.2.2) (Or.inl rfl) ?_
  refine zR.bipush (v := 80) dX5_readStatement_7 (by decide) ?_
  refine kR.icmp_lt (tgt := 23) dX5_readStatement_9 (by decide) h (fun h => ?_) (fun h => ?_)
  · refine kR.aload_n dX5_readStatement_23 0 rfl ?_
    refine zR.iconst (v := 0) dX5_readStatement_24 (by decide) ?_
    refine kR.putI dX5_readStatement_25 fpX5_22 zcf5 zp54 rfl h (fun σ1 h => ?_)
    refine kR.aload_n dX5_readStatement_28 0 rfl ?_
    obtain ⟨σ2, e3, h⟩ := bnr_some h
    refine kR.cVv [] dX5_readStatement_29 rfl (by decide) mwX5_114 zp54 (by decide) rfl rfl (Nat.le_of_ble_eq_true rfl) (lX5_advance σ1 _ e3) ?_
    refine kR.aload_n dX5_readStatement_32 0 rfl ?_
    refine kR.getI dX5_readStatement_33 flX5_25 zcf5 zp54 (Or.inl rfl) ?_
    by_cases e0 : (iG σ2 54 6) = 0
    · rw [if_pos e0] at h
      refine zR.tableIn (off := 68) (tgt := 104) dX5_readStatement_36 (by rw [e0]; decide) (by rw [e0]; decide) (by rw [e0]; rfl) (by decide) ?_
      refine kR.aload_n dX5_readStatement_104 0 rfl ?_
      obtain ⟨σ4, e5, h⟩ := bnr_some h
      refine kR.cVv [] dX5_readStatement_105 rfl (by decide) mwX5_133 zp54 (by decide) rfl rfl (Nat.le_of_ble_eq_true rfl) (lX5_readTunnel σ2 _ e5) ?_
      refine zR.goto (tgt := 200) dX5_readStatement_108 (by decide) ?_
      exact kX5_readStatement_200 _ _ h
    rw [if_neg e0] at h
    by_cases e4 : (iG σ2 54 6) = 4
    · rw [if_pos e4] at h
      refine zR.tableIn (off := 75) (tgt := 111) dX5_readStatement_36 (by rw [e4]; decide) (by rw [e4]; decide) (by rw [e4]; rfl) (by decide) ?_
      refine kR.aload_n dX5_readStatement_111 0 rfl ?_
      obtain ⟨σ9, e10, h⟩ := bnr_some h
      refine kR.cVv [] dX5_readStatement_112 rfl (by decide) mwX5_136 zp54 (by decide) rfl rfl (Nat.le_of_ble_eq_true rfl) (lX5_readHolder σ2 _ e10) ?_
      refine zR.goto (tgt := 200) dX5_readStatement_115 (by decide) ?_
      exact kX5_readStatement_200 _ _ h
    rw [if_neg e4] at h
    by_cases e7 : (iG σ2 54 6) = 7
    · rw [if_pos e7] at h
      refine zR.tableIn (off := 82) (tgt := 118) dX5_readStatement_36 (by rw [e7]; decide) (by rw [e7]; decide) (by rw [e7]; rfl) (by decide) ?_
      refine kR.aload_n dX5_readStatement_118 0 rfl ?_
      obtain ⟨σ11, e12, h⟩ := bnr_some h
      refine kR.cVv [] dX5_readStatement_119 rfl (by decide) mwX5_139 zp54 (by decide) rfl rfl (Nat.le_of_ble_eq_true rfl) (lX5_readThinks σ2 _ e12) ?_
      refine zR.goto (tgt := 200) dX5_readStatement_122 (by decide) ?_
      exact kX5_readStatement_200 _ _ h
    rw [if_neg e7] at h
    by_cases e8 : (iG σ2 54 6) = 8
    · rw [if_pos e8] at h
      refine zR.tableIn (off := 89) (tgt := 125) dX5_readStatement_36 (by rw [e8]; decide) (by rw [e8]; decide) (by rw [e8]; rfl) (by decide) ?_
      refine kR.aload_n dX5_readStatement_125 0 rfl ?_
      obtain ⟨σ13, e14, h⟩ := bnr_some h
      refine kR.cVv [] dX5_readStatement_126 rfl (by decide) mwX5_142 zp54 (by decide) rfl rfl (Nat.le_of_ble_eq_true rfl) (lX5_readGives σ2 _ e14) ?_
      refine zR.goto (tgt := 200) dX5_readStatement_129 (by decide) ?_
      exact kX5_readStatement_200 _ _ h
    rw [if_neg e8] at h
    by_cases e9 : (iG σ2 54 6) = 9
    · rw [if_pos e9] at h
      refine zR.tableIn (off := 96) (tgt := 132) dX5_readStatement_36 (by rw [e9]; decide) (by rw [e9]; decide) (by rw [e9]; rfl) (by decide) ?_
      refine kR.aload_n dX5_readStatement_132 0 rfl ?_
      refine zR.iconst (v := 0) dX5_readStatement_133 (by decide) ?_
      obtain ⟨σ15, e16, h⟩ := bnr_some h
      refine kR.cVv [.int 0] dX5_readStatement_134 rfl (by decide) mwX5_147 zp54 (by decide) rfl rfl (Nat.le_of_ble_eq_true rfl) (lX5_readTold 0 σ2 _ e16) ?_
      refine zR.goto (tgt := 200) dX5_readStatement_137 (by decide) ?_
      exact kX5_readStatement_200 _ _ h
    rw [if_neg e9] at h
    by_cases e10 : (iG σ2 54 6) = 10
    · rw [if_pos e10] at h
      refine zR.tableIn (off := 104) (tgt := 140) dX5_readStatement_36 (by rw [e10]; decide) (by rw [e10]; decide) (by rw [e10]; rfl) (by decide) ?_
      refine kR.aload_n dX5_readStatement_140 0 rfl ?_
      refine zR.iconst (v := 1) dX5_readStatement_141 (by decide) ?_
      obtain ⟨σ17, e18, h⟩ := bnr_some h
      refine kR.cVv [.int 1] dX5_readStatement_142 rfl (by decide) mwX5_147 zp54 (by decide) rfl rfl (Nat.le_of_ble_eq_true rfl) (lX5_readTold 1 σ2 _ e18) ?_
      refine zR.goto (tgt := 200) dX5_readStatement_145 (by decide) ?_
      exact kX5_readStatement_200 _ _ h
    rw [if_neg e10] at h
    by_cases e11 : (iG σ2 54 6) = 11
    · rw [if_pos e11] at h
      refine zR.tableIn (off := 112) (tgt := 148) dX5_readStatement_36 (by rw [e11]; decide) (by rw [e11]; decide) (by rw [e11]; rfl) (by decide) ?_
      refine kR.aload_n dX5_readStatement_148 0 rfl ?_
      obtain ⟨σ19, e20, h⟩ := bnr_some h
      refine kR.cVv [] dX5_readStatement_149 rfl (by decide) mwX5_114 zp54 (by decide) rfl rfl (Nat.le_of_ble_eq_true rfl) (lX5_advance σ2 _ e20) ?_
      refine kR.aload_n dX5_readStatement_152 0 rfl ?_
      refine kR.getR (v := (rp σ19.2.2.2.2 + 0)) dX5_readStatement_153 flX5_44 zcf5 zp54 (Or.inl ⟨_, rfl⟩) rfl ?_
      refine kR.aload_n dX5_readStatement_156 0 rfl ?_
      refine zR.iconst (v := 0) dX5_readStatement_157 (by decide) ?_
      refine zR.bipush (v := 100) dX5_readStatement_158 (by decide) ?_
      obtain ⟨v23, σ21, e22, h⟩ := bnc_some h
      refine kR.cVi [.int 0, .int 100] dX5_readStatement_160 rfl (by decide) mwX5_150 zp54 (by decide) rfl rfl (Nat.le_of_ble_eq_true rfl) (lX5_takeNumber 0 100 σ19 _ e22) ?_
      refine kR.putI dX5_readStatement_163 fpX5_154 zcf6 (zq0 σ19.2.2.2.2) rfl h (fun σ24 h => ?_)
      refine zR.goto (tgt := 200) dX5_readStatement_166 (by decide) ?_
      exact kX5_readStatement_200 _ _ h
    rw [if_neg e11] at h
    by_cases e12 : (iG σ2 54 6) = 12
    · rw [if_pos e12] at h
      refine zR.tableIn (off := 133) (tgt := 169) dX5_readStatement_36 (by rw [e12]; decide) (by rw [e12]; decide) (by rw [e12]; rfl) (by decide) ?_
      refine kR.aload_n dX5_readStatement_169 0 rfl ?_
      obtain ⟨σ25, e26, h⟩ := bnr_some h
      refine kR.cVv [] dX5_readStatement_170 rfl (by decide) mwX5_114 zp54 (by decide) rfl rfl (Nat.le_of_ble_eq_true rfl) (lX5_advance σ2 _ e26) ?_
      refine kR.aload_n dX5_readStatement_173 0 rfl ?_
      refine kR.getR (v := (rp σ25.2.2.2.2 + 0)) dX5_readStatement_174 flX5_44 zcf5 zp54 (Or.inl ⟨_, rfl⟩) rfl ?_
      refine kR.aload_n dX5_readStatement_177 0 rfl ?_
      refine zR.iconst (v := 0) dX5_readStatement_178 (by decide) ?_
      refine zR.sipush (v := 999) dX5_readStatement_179 (by decide) ?_
      obtain ⟨v29, σ27, e28, h⟩ := bnc_some h
      refine kR.cVi [.int 0, .int 999] dX5_readStatement_182 rfl (by decide) mwX5_150 zp54 (by decide) rfl rfl (Nat.le_of_ble_eq_true rfl) (lX5_takeNumber 0 999 σ25 _ e28) ?_
      refine kR.putI dX5_readStatement_185 fpX5_157 zcf6 (zq0 σ25.2.2.2.2) rfl h (fun σ30 h => ?_)
      refine zR.goto (tgt := 200) dX5_readStatement_188 (by decide) ?_
      exact kX5_readStatement_200 _ _ h
    rw [if_neg e12] at h
    refine zR.tableD (tgt := 191) dX5_readStatement_36 (ts_out 13 (by decide) (fun j hj e => match j, hj, e with | 0, _, e => absurd e (tne e0 rfl) | 1, _, e => rfl | 2, _, e => rfl | 3, _, e => rfl | 4, _, e => absurd e (tne e4 rfl) | 5, _, e => rfl | 6, _, e => rfl | 7, _, e => absurd e (tne e7 rfl) | 8, _, e => absurd e (tne e8 rfl) | 9, _, e => absurd e (tne e9 rfl) | 10, _, e => absurd e (tne e10 rfl) | 11, _, e => absurd e (tne e11 rfl) | 12, _, e => absurd e (tne e12 rfl) | j + 13, hj, _ => absurd hj (by omega))) (by decide) ?_
    refine kR.aload_n dX5_readStatement_191 0 rfl ?_
    refine zR.iconst (v := 1) dX5_readStatement_192 (by decide) ?_
    refine kR.aload_n dX5_readStatement_193 0 rfl ?_
    refine kR.getI dX5_readStatement_194 flX5_19 zcf5 zp54 (Or.inl rfl) ?_
    obtain ⟨σ31, e32, h⟩ := bnr_some h
    refine kR.cVv [.int 1, .int (iG σ2 54 4)] dX5_readStatement_197 rfl (by decide) mwX5_73 zp54 (by decide) rfl rfl (Nat.le_of_ble_eq_true rfl) (lX5_fail 1 (iG σ2 54 4) σ2 _ e32) ?_
    exact kX5_readStatement_200 _ _ h
  · refine kR.aload_n dX5_readStatement_12 0 rfl ?_
    refine zR.bipush (v := 6) dX5_readStatement_13 (by decide) ?_
    refine kR.aload_n dX5_readStatement_15 0 rfl ?_
    refine kR.getI dX5_readStatement_16 flX5_15 zcf5 zp54 (Or.inl rfl) ?_
    obtain ⟨σ33, e34, h⟩ := bnr_some h
    refine kR.cVv [.int 6, .int (iG σ 54 3)] dX5_readStatement_19 rfl (by decide) mwX5_73 zp54 (by decide) rfl rfl (Nat.le_of_ble_eq_true rfl) (lX5_fail 6 (iG σ 54 3) σ _ e34) ?_
    exact kR.vret dX5_readStatement_22 h
theorem lX5_readStatement {sc : Nat × (Nat → Int32)} (σ : zS) (w : zS) (h : fX5_readStatement σ = some w) : zC (zY0 sc) 130 0 0 mX5_readStatement [.ref 54] (zE σ) (none, zE w) := zC.of (by decide +kernel) (Nat.le_of_ble_eq_true rfl) rfl (eX5_readStatement σ w h)

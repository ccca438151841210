/-! MY OWN (by program): X4_tellAmong, X8_pop, J9_floorMod_7cf53, J9_floorDiv_7cf53, X8_joined, J9_min_f86c9, J9_max_f86c9, X8_bounded, X8_push, X8_valueOf, X10_within, X4_worthAmong, X10_worth, X4_tiredAlone, X10_tired, J7_fill_d0a16, X0_tunnelAt, X4_worthAlone, X0_addToSeconds, J7_rangeCheck_23922, J7_fill_bad5a, X0_bestSecond, GX0_addPlanned -/
theorem dX4_tellAmong_0 : decode cX4_tellAmong 0 = .ok (.aload_n 0, 1) := by decide +kernel
theorem dX4_tellAmong_1 : decode cX4_tellAmong 1 = .ok (.iload_n 2, 1) := by decide +kernel
theorem dX4_tellAmong_2 : decode cX4_tellAmong 2 = .ok (.iload_n 3, 1) := by decide +kernel
theorem dX4_tellAmong_3 : decode cX4_tellAmong 3 = .ok (.aload_n 0, 1) := by decide +kernel
theorem dX4_tellAmong_4 : decode cX4_tellAmong 4 = .ok (.getfield 9, 3) := by decide +kernel
theorem dX4_tellAmong_7 : decode cX4_tellAmong 7 = .ok (.iload_n 1, 1) := by decide +kernel
theorem dX4_tellAmong_8 : decode cX4_tellAmong 8 = .ok (.iaload, 1) := by decide +kernel
theorem dX4_tellAmong_9 : decode cX4_tellAmong 9 = .ok (.aload_n 0, 1) := by decide +kernel
theorem dX4_tellAmong_10 : decode cX4_tellAmong 10 = .ok (.getfield 18, 3) := by decide +kernel
theorem dX4_tellAmong_13 : decode cX4_tellAmong 13 = .ok (.iload_n 1, 1) := by decide +kernel
theorem dX4_tellAmong_14 : decode cX4_tellAmong 14 = .ok (.invokevirtual 26, 3) := by decide +kernel
theorem dX4_tellAmong_17 : decode cX4_tellAmong 17 = .ok (.invokevirtual 54, 3) := by decide +kernel
theorem dX4_tellAmong_20 : decode cX4_tellAmong 20 = .ok (.iconst 0, 1) := by decide +kernel
theorem dX4_tellAmong_21 : decode cX4_tellAmong 21 = .ok (.istore 4, 2) := by decide +kernel
theorem dX4_tellAmong_23 : decode cX4_tellAmong 23 = .ok (.iload 4, 2) := by decide +kernel
theorem dX4_tellAmong_25 : decode cX4_tellAmong 25 = .ok (.aload_n 0, 1) := by decide +kernel
theorem dX4_tellAmong_26 : decode cX4_tellAmong 26 = .ok (.getfield 22, 3) := by decide +kernel
theorem dX4_tellAmong_29 : decode cX4_tellAmong 29 = .ok (.getfield 44, 3) := by decide +kernel
theorem dX4_tellAmong_32 : decode cX4_tellAmong 32 = .ok (.if_icmp .ge 58, 3) := by decide +kernel
theorem dX4_tellAmong_35 : decode cX4_tellAmong 35 = .ok (.aload_n 0, 1) := by decide +kernel
theorem dX4_tellAmong_36 : decode cX4_tellAmong 36 = .ok (.getfield 9, 3) := by decide +kernel
theorem dX4_tellAmong_39 : decode cX4_tellAmong 39 = .ok (.iload 4, 2) := by decide +kernel
theorem dX4_tellAmong_41 : decode cX4_tellAmong 41 = .ok (.iaload, 1) := by decide +kernel
theorem dX4_tellAmong_42 : decode cX4_tellAmong 42 = .ok (.aload_n 0, 1) := by decide +kernel
theorem dX4_tellAmong_43 : decode cX4_tellAmong 43 = .ok (.getfield 9, 3) := by decide +kernel
theorem dX4_tellAmong_46 : decode cX4_tellAmong 46 = .ok (.iload_n 1, 1) := by decide +kernel
theorem dX4_tellAmong_47 : decode cX4_tellAmong 47 = .ok (.iaload, 1) := by decide +kernel
theorem dX4_tellAmong_48 : decode cX4_tellAmong 48 = .ok (.if_icmp .le 10, 3) := by decide +kernel
theorem dX4_tellAmong_51 : decode cX4_tellAmong 51 = .ok (.aload_n 0, 1) := by decide +kernel
theorem dX4_tellAmong_52 : decode cX4_tellAmong 52 = .ok (.getfield 15, 3) := by decide +kernel
theorem dX4_tellAmong_55 : decode cX4_tellAmong 55 = .ok (.iconst 3, 1) := by decide +kernel
theorem dX4_tellAmong_56 : decode cX4_tellAmong 56 = .ok (.iconst 0, 1) := by decide +kernel
theorem dX4_tellAmong_57 : decode cX4_tellAmong 57 = .ok (.iastore, 1) := by decide +kernel
theorem dX4_tellAmong_58 : decode cX4_tellAmong 58 = .ok (.aload_n 0, 1) := by decide +kernel
theorem dX4_tellAmong_59 : decode cX4_tellAmong 59 = .ok (.getfield 9, 3) := by decide +kernel
theorem dX4_tellAmong_62 : decode cX4_tellAmong 62 = .ok (.iload 4, 2) := by decide +kernel
theorem dX4_tellAmong_64 : decode cX4_tellAmong 64 = .ok (.iaload, 1) := by decide +kernel
theorem dX4_tellAmong_65 : decode cX4_tellAmong 65 = .ok (.aload_n 0, 1) := by decide +kernel
theorem dX4_tellAmong_66 : decode cX4_tellAmong 66 = .ok (.getfield 9, 3) := by decide +kernel
theorem dX4_tellAmong_69 : decode cX4_tellAmong 69 = .ok (.iload_n 1, 1) := by decide +kernel
theorem dX4_tellAmong_70 : decode cX4_tellAmong 70 = .ok (.iaload, 1) := by decide +kernel
theorem dX4_tellAmong_71 : decode cX4_tellAmong 71 = .ok (.if_icmp .ge 13, 3) := by decide +kernel
theorem dX4_tellAmong_74 : decode cX4_tellAmong 74 = .ok (.aload_n 0, 1) := by decide +kernel
theorem dX4_tellAmong_75 : decode cX4_tellAmong 75 = .ok (.getfield 15, 3) := by decide +kernel
theorem dX4_tellAmong_78 : decode cX4_tellAmong 78 = .ok (.iconst 4, 1) := by decide +kernel
theorem dX4_tellAmong_79 : decode cX4_tellAmong 79 = .ok (.dup2, 1) := by decide +kernel
theorem dX4_tellAmong_80 : decode cX4_tellAmong 80 = .ok (.iaload, 1) := by decide +kernel
theorem dX4_tellAmong_81 : decode cX4_tellAmong 81 = .ok (.iconst 1, 1) := by decide +kernel
theorem dX4_tellAmong_82 : decode cX4_tellAmong 82 = .ok (.iadd, 1) := by decide +kernel
theorem dX4_tellAmong_83 : decode cX4_tellAmong 83 = .ok (.iastore, 1) := by decide +kernel
theorem dX4_tellAmong_84 : decode cX4_tellAmong 84 = .ok (.iinc 4 1, 3) := by decide +kernel
theorem dX4_tellAmong_87 : decode cX4_tellAmong 87 = .ok (.goto (-64), 3) := by decide +kernel
theorem dX4_tellAmong_90 : decode cX4_tellAmong 90 = .ok (.return_, 1) := by decide +kernel
def fX4_tellAmong_84 (r23 : Int32 → Int32 → zS → Option zS) (x1 : Int32) (x4 : Int32) (σ : zS) : Option zS := r23 x1 (x4 + 1) σ
theorem kX4_tellAmong_84 {sc : Nat × (Nat → Int32)} (r23 : Int32 → Int32 → zS → Option zS) (hr23 : ∀ (x1 : Int32) (x4 : Int32) (σ : zS) (w : zS), r23 x1 x4 σ = some w → zR (zY0 sc) 2 0 0 mX4_tellAmong 23 [(0, .ref 8), (1, .int x1), (4, .int x4)] [] (zE σ) (none, zE w)) (x1 : Int32) (x4 : Int32) (σ : zS) (w : zS) (h : fX4_tellAmong_84 r23 x1 x4 σ = some w) : zR (zY0 sc) 2 0 0 mX4_tellAmong 84 [(0, .ref 8), (1, .int x1), (4, .int x4)] [] (zE σ) (none, zE w) := by
  unfold fX4_tellAmong_84 at h
  refine zR.iinc 2 (v := x4 + 1) (ls' := [(4, .int (x4 + 1)), (0, .ref 8), (1, .int x1)]) dX4_tellAmong_84 rfl rfl (by decide) rfl ?_
  refine zR.goto (tgt := 23) dX4_tellAmong_87 (by decide) ?_
  refine zR.sub [1, 2, 0] rfl ?_
  exact hr23 _ _ _ _ h
def fX4_tellAmong_58 (r23 : Int32 → Int32 → zS → Option zS) (x1 : Int32) (x4 : Int32) (σ : zS) : Option zS := aI σ 25 6 x4 fun v8 => aI σ 25 6 x1 fun v9 => if v9 ≤ v8 then fX4_tellAmong_84 r23 x1 x4 σ else aI σ 26 7 4 fun v10 => wI σ 26 7 4 (v10 + 1) fun σ11 => fX4_tellAmong_84 r23 x1 x4 σ11
theorem kX4_tellAmong_58 {sc : Nat × (Nat → Int32)} (r23 : Int32 → Int32 → zS → Option zS) (hr23 : ∀ (x1 : Int32) (x4 : Int32) (σ : zS) (w : zS), r23 x1 x4 σ = some w → zR (zY0 sc) 2 0 0 mX4_tellAmong 23 [(0, .ref 8), (1, .int x1), (4, .int x4)] [] (zE σ) (none, zE w)) (x1 : Int32) (x4 : Int32) (σ : zS) (w : zS) (h : fX4_tellAmong_58 r23 x1 x4 σ = some w) : zR (zY0 sc) 2 0 0 mX4_tellAmong 58 [(0, .ref 8), (1, .int x1), (4, .int x4)] [] (zE σ) (none, zE w) := by
  unfold fX4_tellAmong_58 at h
  refine kR.aload_n dX4_tellAmong_58 0 rfl ?_
  refine kR.getR (v := 25) dX4_tellAmong_59 flX4_9 zcf4 zp8 (Or.inr ⟨_, rfl⟩) rfl ?_
  refine kR.iload dX4_tellAmong_62 2 rfl ?_
  refine kR.iald dX4_tellAmong_64 zp25 rfl h (fun v8 h => ?_)
  refine kR.aload_n dX4_tellAmong_65 0 rfl ?_
  refine kR.getR (v := 25) dX4_tellAmong_66 flX4_9 zcf4 zp8 (Or.inr ⟨_, rfl⟩) rfl ?_
  refine kR.iload_n dX4_tellAmong_69 1 rfl ?_
  refine kR.iald dX4_tellAmong_70 zp25 rfl h (fun v9 h => ?_)
  refine kR.icmp_ge (tgt := 84) dX4_tellAmong_71 (by decide) h (fun h => ?_) (fun h => ?_)
  · exact kX4_tellAmong_84 r23 hr23 _ _ _ _ h
  · refine kR.aload_n dX4_tellAmong_74 0 rfl ?_
    refine kR.getR (v := 26) dX4_tellAmong_75 flX4_15 zcf4 zp8 (Or.inr ⟨_, rfl⟩) rfl ?_
    refine zR.iconst (v := 4) dX4_tellAmong_78 (by decide) ?_
    refine zR.dup2 dX4_tellAmong_79 rfl rfl ?_
    refine kR.iald dX4_tellAmong_80 zp26 rfl h (fun v10 h => ?_)
    refine zR.iconst (v := 1) dX4_tellAmong_81 (by decide) ?_
    refine zR.iadd dX4_tellAmong_82 ?_
    refine kR.iast dX4_tellAmong_83 zp26 rfl h (fun σ11 h => ?_)
    exact kX4_tellAmong_84 r23 hr23 _ _ _ _ h
def fX4_tellAmong_23 : Nat → Int32 → Int32 → zS → Option zS
  | 0, _, _, _ => none
  | f + 1, x1, x4, σ => if (iG σ (rp σ.2.2.2.1 + 0) 2) ≤ x4 then some σ else aI σ 25 6 x4 fun v6 => aI σ 25 6 x1 fun v7 => if v6 ≤ v7 then fX4_tellAmong_58 (fX4_tellAmong_23 f) x1 x4 σ else wI σ 26 7 3 0 fun σ12 => fX4_tellAmong_58 (fX4_tellAmong_23 f) x1 x4 σ12
theorem kX4_tellAmong_23 {sc : Nat × (Nat → Int32)} : ∀ (fuel : Nat) (x1 : Int32) (x4 : Int32) (σ : zS) (w : zS) (h : fX4_tellAmong_23 fuel x1 x4 σ = some w), zR (zY0 sc) 2 0 0 mX4_tellAmong 23 [(0, .ref 8), (1, .int x1), (4, .int x4)] [] (zE σ) (none, zE w) := by
  intro fuel
  induction fuel with
  | zero => intro x1 x4 σ w h; exact nomatch h
  | succ f ih =>
    intro x1 x4 σ w h
    rw [fX4_tellAmong_23] at h
    refine kR.iload dX4_tellAmong_23 2 rfl ?_
    refine kR.aload_n dX4_tellAmong_25 0 rfl ?_
    refine kR.getR (v := (rp σ.2.2.2.1 + 0)) dX4_tellAmong_26 flX4_22 zcf4 zp8 (Or.inl ⟨_, rfl⟩) rfl ?_
    refine kR.getI dX4_tellAmong_29 flX4_44 zcf6 (zq0 σ.2.2.2.1) (Or.inl rfl) ?_
    refine kR.icmp_ge (tgt := 90) dX4_tellAmong_32 (by decide) h (fun h => ?_) (fun h => ?_)
    · exact kR.vret dX4_tellAmong_90 h
    · refine kR.aload_n dX4_tellAmong_35 0 rfl ?_
      refine kR.getR (v := 25) dX4_tellAmong_36 flX4_9 zcf4 zp8 (Or.inr ⟨_, rfl⟩) rfl ?_
      refine kR.iload dX4_tellAmong_39 2 rfl ?_
      refine kR.iald dX4_tellAmong_41 zp25 rfl h (fun v6 h => ?_)
      refine kR.aload_n dX4_tellAmong_42 0 rfl ?_
      refine kR.getR (v := 25) dX4_tellAmong_43 flX4_9 zcf4 zp8 (Or.inr ⟨_, rfl⟩) rfl ?_
      refine kR.iload_n dX4_tellAmong_46 1 rfl ?_
      refine kR.iald dX4_tellAmong_47 zp25 rfl h (fun v7 h => ?_)
      refine kR.icmp_le (tgt := 58) dX4_tellAmong_48 (by decide) h (fun h => ?_) (fun h => ?_)
      · exact kX4_tellAmong_58 (fX4_tellAmong_23 f) ih _ _ _ _ h
      · refine kR.aload_n dX4_tellAmong_51 0 rfl ?_
        refine kR.getR (v := 26) dX4_tellAmong_52 flX4_15 zcf4 zp8 (Or.inr ⟨_, rfl⟩) rfl ?_
        refine zR.iconst (v := 3) dX4_tellAmong_55 (by decide) ?_
        refine zR.iconst (v := 0) dX4_tellAmong_56 (by decide) ?_
        refine kR.iast dX4_tellAmong_57 zp26 rfl h (fun σ12 h => ?_)
        exact kX4_tellAmong_58 (fX4_tellAmong_23 f) ih _ _ _ _ h
def fX4_tellAmong (p1 : Int32) (p2 : Int32) (p3 : Int32) (σ : zS) : Option zS := aI σ 25 6 p1 fun v1 => bnr (fX7_breathOf σ p1) fun v2 => bnr (fX4_tellAlone p2 p3 v1 v2 σ) fun σ4 => fX4_tellAmong_23 zF p1 0 σ4
theorem eX4_tellAmong {sc : Nat × (Nat → Int32)} (p1 : Int32) (p2 : Int32) (p3 : Int32) (σ : zS) (w : zS) (h : fX4_tellAmong p1 p2 p3 σ = some w) : zR (zY0 sc) 2 0 0 mX4_tellAmong 0 [(0, .ref 8), (1, .int p1), (2, .int p2), (3, .int p3)] [] (zE σ) (none, zE w) := by
  unfold fX4_tellAmong at h
  refine kR.aload_n dX4_tellAmong_0 0 rfl ?_
  refine kR.iload_n dX4_tellAmong_1 2 rfl ?_
  refine kR.iload_n dX4_tellAmong_2 3 rfl ?_
  refine kR.aload_n dX4_tellAmong_3 0 rfl ?_
  refine kR.getR (v := 25) dX4_tellAmong_4 flX4_9 zcf4 zp8 (Or.inr ⟨_, rfl⟩) rfl ?_
  refine kR.iload_n dX4_tellAmong_7 1 rfl ?_
  refine kR.iald dX4_tellAmong_8 zp25 rfl h (fun v1 h => ?_)
  refine kR.aload_n dX4_tellAmong_9 0 rfl ?_
  refine kR.getR (v := 4) dX4_tellAmong_10 flX4_18 zcf4 zp8 (Or.inl ⟨_, rfl⟩) rfl ?_
  refine kR.iload_n dX4_tellAmong_13 1 rfl ?_
  obtain ⟨v2, e3, h⟩ := bnr_some h
  refine kR.cVi [.int p1] dX4_tellAmong_14 rfl (by decide) mwX4_26 zp4 (by decide) rfl rfl (Nat.le_of_ble_eq_true rfl) (lX7_breathOf σ p1 _ e3) ?_
  obtain ⟨σ4, e5, h⟩ := bnr_some h
  refine kR.cVv [.int p2, .int p3, .int v1, .int v2] dX4_tellAmong_17 rfl (by decide) mwX4_54 zp8 (by decide) rfl rfl (Nat.le_of_ble_eq_true rfl) (lX4_tellAlone p2 p3 v1 v2 σ _ e5) ?_
  refine zR.iconst (v := 0) dX4_tellAmong_20 (by decide) ?_
  refine zR.istore (i := 4) (ls' := [(4, .int 0), (0, .ref 8), (1, .int p1), (2, .int p2), (3, .int p3)]) dX4_tellAmong_21 (by decide) rfl ?_
  refine zR.sub [1, 2, 0] rfl ?_
  exact kX4_tellAmong_23 zF _ _ _ _ h
theorem lX4_tellAmong {sc : Nat × (Nat → Int32)} (p1 : Int32) (p2 : Int32) (p3 : Int32) (σ : zS) (w : zS) (h : fX4_tellAmong p1 p2 p3 σ = some w) : zC (zY0 sc) 2 0 0 mX4_tellAmong [.ref 8, .int p1, .int p2, .int p3] (zE σ) (none, zE w) := zC.of (by decide +kernel) (Nat.le_of_ble_eq_true rfl) rfl (eX4_tellAmong p1 p2 p3 σ w h)
theorem dX8_pop_0 : decode cX8_pop 0 = .ok (.aload_n 0, 1) := by decide +kernel
theorem dX8_pop_1 : decode cX8_pop 1 = .ok (.getfield 18, 3) := by decide +kernel
theorem dX8_pop_4 : decode cX8_pop 4 = .ok (.ifCond .gt 5, 3) := by decide +kernel
theorem dX8_pop_7 : decode cX8_pop 7 = .ok (.iconst 0, 1) := by decide +kernel
theorem dX8_pop_8 : decode cX8_pop 8 = .ok (.ireturn, 1) := by decide +kernel
theorem dX8_pop_9 : decode cX8_pop 9 = .ok (.aload_n 0, 1) := by decide +kernel
theorem dX8_pop_10 : decode cX8_pop 10 = .ok (.dup, 1) := by decide +kernel
theorem dX8_pop_11 : decode cX8_pop 11 = .ok (.getfield 18, 3) := by decide +kernel
theorem dX8_pop_14 : decode cX8_pop 14 = .ok (.iconst 1, 1) := by decide +kernel
theorem dX8_pop_15 : decode cX8_pop 15 = .ok (.isub, 1) := by decide +kernel
theorem dX8_pop_16 : decode cX8_pop 16 = .ok (.putfield 18, 3) := by decide +kernel
theorem dX8_pop_19 : decode cX8_pop 19 = .ok (.aload_n 0, 1) := by decide +kernel
theorem dX8_pop_20 : decode cX8_pop 20 = .ok (.getfield 15, 3) := by decide +kernel
theorem dX8_pop_23 : decode cX8_pop 23 = .ok (.aload_n 0, 1) := by decide +kernel
theorem dX8_pop_24 : decode cX8_pop 24 = .ok (.getfield 18, 3) := by decide +kernel
theorem dX8_pop_27 : decode cX8_pop 27 = .ok (.iaload, 1) := by decide +kernel
theorem dX8_pop_28 : decode cX8_pop 28 = .ok (.ireturn, 1) := by decide +kernel
def fX8_pop (b0 : Bool) (σ : zS) : Option (Int32 × zS) := if 0 < (iG σ (rp b0 + 11) 2) then bnd (iS σ (rp b0 + 11) 2 ((iG σ (rp b0 + 11) 2) - 1)) fun σ1 => aI σ1 (rp b0 + 13) 64 (iG σ1 (rp b0 + 11) 2) fun v2 => some (v2, σ1) else some (0, σ)
theorem eX8_pop {sc : Nat × (Nat → Int32)} (b0 : Bool) (σ : zS) (w : Int32 × zS) (h : fX8_pop b0 σ = some w) : zR (zY0 sc) 1 0 0 mX8_pop 0 [(0, .ref (rp b0 + 11))] [] (zE σ) (some (.int w.1), zE w.2) := by
  unfold fX8_pop at h
  refine kR.aload_n dX8_pop_0 0 rfl ?_
  refine kR.getI dX8_pop_1 flX8_18 zcf8 (zq11 b0) (Or.inl rfl) ?_
  refine kR.if_gt (tgt := 9) dX8_pop_4 (by decide) h (fun h => ?_) (fun h => ?_)
  · refine kR.aload_n dX8_pop_9 0 rfl ?_
    refine zR.dup dX8_pop_10 rfl ?_
    refine kR.getI dX8_pop_11 flX8_18 zcf8 (zq11 b0) (Or.inl rfl) ?_
    refine zR.iconst (v := 1) dX8_pop_14 (by decide) ?_
    refine zR.isub dX8_pop_15 ?_
    refine kR.putI dX8_pop_16 fpX8_18 zcf8 (zq11 b0) rfl h (fun σ1 h => ?_)
    refine kR.aload_n dX8_pop_19 0 rfl ?_
    refine kR.getR (v := (rp b0 + 13)) dX8_pop_20 flX8_15 zcf8 (zq11 b0) (Or.inr ⟨_, rfl⟩) (zr11_1 _ b0) ?_
    refine kR.aload_n dX8_pop_23 0 rfl ?_
    refine kR.getI dX8_pop_24 flX8_18 zcf8 (zq11 b0) (Or.inl rfl) ?_
    refine kR.iald dX8_pop_27 (zq13 b0) (zl13 b0) h (fun v2 h => ?_)
    exact kR.iretW dX8_pop_28 (nzI rfl _) h
  · refine zR.iconst (v := 0) dX8_pop_7 (by decide) ?_
    exact kR.iretW dX8_pop_8 (nzI rfl _) h
theorem lX8_pop {sc : Nat × (Nat → Int32)} (b0 : Bool) (σ : zS) (w : Int32 × zS) (h : fX8_pop b0 σ = some w) : zC (zY0 sc) 1 0 0 mX8_pop [.ref (rp b0 + 11)] (zE σ) (some (.int w.1), zE w.2) := zC.of (by decide +kernel) (Nat.le_of_ble_eq_true rfl) ⟨_, rfl⟩ (eX8_pop b0 σ w h)
theorem dJ9_floorMod_7cf53_0 : decode cJ9_floorMod_7cf53 0 = .ok (.iload_n 0, 1) := by decide +kernel
theorem dJ9_floorMod_7cf53_1 : decode cJ9_floorMod_7cf53 1 = .ok (.iload_n 1, 1) := by decide +kernel
theorem dJ9_floorMod_7cf53_2 : decode cJ9_floorMod_7cf53 2 = .ok (.irem, 1) := by decide +kernel
theorem dJ9_floorMod_7cf53_3 : decode cJ9_floorMod_7cf53 3 = .ok (.istore_n 2, 1) := by decide +kernel
theorem dJ9_floorMod_7cf53_4 : decode cJ9_floorMod_7cf53 4 = .ok (.iload_n 0, 1) := by decide +kernel
theorem dJ9_floorMod_7cf53_5 : decode cJ9_floorMod_7cf53 5 = .ok (.iload_n 1, 1) := by decide +kernel
theorem dJ9_floorMod_7cf53_6 : decode cJ9_floorMod_7cf53 6 = .ok (.ixor, 1) := by decide +kernel
theorem dJ9_floorMod_7cf53_7 : decode cJ9_floorMod_7cf53 7 = .ok (.ifCond .ge 11, 3) := by decide +kernel
theorem dJ9_floorMod_7cf53_10 : decode cJ9_floorMod_7cf53 10 = .ok (.iload_n 2, 1) := by decide +kernel
theorem dJ9_floorMod_7cf53_11 : decode cJ9_floorMod_7cf53 11 = .ok (.ifCond .eq 7, 3) := by decide +kernel
theorem dJ9_floorMod_7cf53_14 : decode cJ9_floorMod_7cf53 14 = .ok (.iload_n 2, 1) := by decide +kernel
theorem dJ9_floorMod_7cf53_15 : decode cJ9_floorMod_7cf53 15 = .ok (.iload_n 1, 1) := by decide +kernel
theorem dJ9_floorMod_7cf53_16 : decode cJ9_floorMod_7cf53 16 = .ok (.iadd, 1) := by decide +kernel
theorem dJ9_floorMod_7cf53_17 : decode cJ9_floorMod_7cf53 17 = .ok (.ireturn, 1) := by decide +kernel
theorem dJ9_floorMod_7cf53_18 : decode cJ9_floorMod_7cf53 18 = .ok (.iload_n 2, 1) := by decide +kernel
theorem dJ9_floorMod_7cf53_19 : decode cJ9_floorMod_7cf53 19 = .ok (.ireturn, 1) := by decide +kernel
def fJ9_floorMod_7cf53 (p0 : Int32) (p1 : Int32) : Option Int32 := gd (¬ p1 = 0) (if 0 ≤ (p0 ^^^ p1) then some (p0 - p0 / p1 * p1) else if (p0 - p0 / p1 * p1) = 0 then some (p0 - p0 / p1 * p1) else some ((p0 - p0 / p1 * p1) + p1))
theorem eJ9_floorMod_7cf53 {sc : Nat × (Nat → Int32)} {μ : zM} (p0 : Int32) (p1 : Int32) (w : Int32) (h : fJ9_floorMod_7cf53 p0 p1 = some w) : zR (zY0 sc) 1 0 0 mJ9_floorMod_7cf53 0 [(0, .int p0), (1, .int p1)] [] μ (some (.int w), μ) := by
  unfold fJ9_floorMod_7cf53 at h
  refine kR.iload_n dJ9_floorMod_7cf53_0 0 rfl ?_
  refine kR.iload_n dJ9_floorMod_7cf53_1 1 rfl ?_
  refine kR.irem dJ9_floorMod_7cf53_2 h (fun h => ?_)
  refine zR.istore_n (i := 2) (ls' := [(2, .int (p0 - p0 / p1 * p1)), (0, .int p0), (1, .int p1)]) dJ9_floorMod_7cf53_3 rfl (by decide) rfl ?_
  refine kR.iload_n dJ9_floorMod_7cf53_4 1 rfl ?_
  refine kR.iload_n dJ9_floorMod_7cf53_5 2 rfl ?_
  refine zR.ixor dJ9_floorMod_7cf53_6 ?_
  refine kR.if_ge (tgt := 18) dJ9_floorMod_7cf53_7 (by decide) h (fun h => ?_) (fun h => ?_)
  · refine kR.iload_n dJ9_floorMod_7cf53_18 0 rfl ?_
    exact kR.iretO dJ9_floorMod_7cf53_19 (nzI rfl _) h
  · refine kR.iload_n dJ9_floorMod_7cf53_10 0 rfl ?_
    refine kR.if_eq (tgt := 18) dJ9_floorMod_7cf53_11 (by decide) h (fun h => ?_) (fun h => ?_)
    · refine kR.iload_n dJ9_floorMod_7cf53_18 0 rfl ?_
      exact kR.iretO dJ9_floorMod_7cf53_19 (nzI rfl _) h
    · refine kR.iload_n dJ9_floorMod_7cf53_14 0 rfl ?_
      refine kR.iload_n dJ9_floorMod_7cf53_15 2 rfl ?_
      refine zR.iadd dJ9_floorMod_7cf53_16 ?_
      exact kR.iretO dJ9_floorMod_7cf53_17 (nzI rfl _) h
theorem lJ9_floorMod_7cf53 {sc : Nat × (Nat → Int32)} {μ : zM} (p0 : Int32) (p1 : Int32) (w : Int32) (h : fJ9_floorMod_7cf53 p0 p1 = some w) : zC (zY0 sc) 1 0 0 mJ9_floorMod_7cf53 [.int p0, .int p1] μ (some (.int w), μ) := zC.of (by decide +kernel) (Nat.le_of_ble_eq_true rfl) ⟨_, rfl⟩ (eJ9_floorMod_7cf53 p0 p1 w h)
theorem dJ9_floorDiv_7cf53_0 : decode cJ9_floorDiv_7cf53 0 = .ok (.iload_n 0, 1) := by decide +kernel
theorem dJ9_floorDiv_7cf53_1 : decode cJ9_floorDiv_7cf53 1 = .ok (.iload_n 1, 1) := by decide +kernel
theorem dJ9_floorDiv_7cf53_2 : decode cJ9_floorDiv_7cf53 2 = .ok (.idiv, 1) := by decide +kernel
theorem dJ9_floorDiv_7cf53_3 : decode cJ9_floorDiv_7cf53 3 = .ok (.istore_n 2, 1) := by decide +kernel
theorem dJ9_floorDiv_7cf53_4 : decode cJ9_floorDiv_7cf53 4 = .ok (.iload_n 0, 1) := by decide +kernel
theorem dJ9_floorDiv_7cf53_5 : decode cJ9_floorDiv_7cf53 5 = .ok (.iload_n 1, 1) := by decide +kernel
theorem dJ9_floorDiv_7cf53_6 : decode cJ9_floorDiv_7cf53 6 = .ok (.ixor, 1) := by decide +kernel
theorem dJ9_floorDiv_7cf53_7 : decode cJ9_floorDiv_7cf53 7 = .ok (.ifCond .ge 14, 3) := by decide +kernel
theorem dJ9_floorDiv_7cf53_10 : decode cJ9_floorDiv_7cf53 10 = .ok (.iload_n 2, 1) := by decide +kernel
theorem dJ9_floorDiv_7cf53_11 : decode cJ9_floorDiv_7cf53 11 = .ok (.iload_n 1, 1) := by decide +kernel
theorem dJ9_floorDiv_7cf53_12 : decode cJ9_floorDiv_7cf53 12 = .ok (.imul, 1) := by decide +kernel
theorem dJ9_floorDiv_7cf53_13 : decode cJ9_floorDiv_7cf53 13 = .ok (.iload_n 0, 1) := by decide +kernel
theorem dJ9_floorDiv_7cf53_14 : decode cJ9_floorDiv_7cf53 14 = .ok (.if_icmp .eq 7, 3) := by decide +kernel
theorem dJ9_floorDiv_7cf53_17 : decode cJ9_floorDiv_7cf53 17 = .ok (.iload_n 2, 1) := by decide +kernel
theorem dJ9_floorDiv_7cf53_18 : decode cJ9_floorDiv_7cf53 18 = .ok (.iconst 1, 1) := by decide +kernel
theorem dJ9_floorDiv_7cf53_19 : decode cJ9_floorDiv_7cf53 19 = .ok (.isub, 1) := by decide +kernel
theorem dJ9_floorDiv_7cf53_20 : decode cJ9_floorDiv_7cf53 20 = .ok (.ireturn, 1) := by decide +kernel
theorem dJ9_floorDiv_7cf53_21 : decode cJ9_floorDiv_7cf53 21 = .ok (.iload_n 2, 1) := by decide +kernel
theorem dJ9_floorDiv_7cf53_22 : decode cJ9_floorDiv_7cf53 22 = .ok (.ireturn, 1) := by decide +kernel
def fJ9_floorDiv_7cf53 (p0 : Int32) (p1 : Int32) : Option Int32 := gd (¬ p1 = 0) (if 0 ≤ (p0 ^^^ p1) then some (p0 / p1) else if ((p0 / p1) * p1) = p0 then some (p0 / p1) else some ((p0 / p1) - 1))
theorem eJ9_floorDiv_7cf53 {sc : Nat × (Nat → Int32)} {μ : zM} (p0 : Int32) (p1 : Int32) (w : Int32) (h : fJ9_floorDiv_7cf53 p0 p1 = some w) : zR (zY0 sc) 1 0 0 mJ9_floorDiv_7cf53 0 [(0, .int p0), (1, .int p1)] [] μ (some (.int w), μ) := by
  unfold fJ9_floorDiv_7cf53 at h
  refine kR.iload_n dJ9_floorDiv_7cf53_0 0 rfl ?_
  refine kR.iload_n dJ9_floorDiv_7cf53_1 1 rfl ?_
  refine kR.idiv dJ9_floorDiv_7cf53_2 h (fun h => ?_)
  refine zR.istore_n (i := 2) (ls' := [(2, .int (p0 / p1)), (0, .int p0), (1, .int p1)]) dJ9_floorDiv_7cf53_3 rfl (by decide) rfl ?_
  refine kR.iload_n dJ9_floorDiv_7cf53_4 1 rfl ?_
  refine kR.iload_n dJ9_floorDiv_7cf53_5 2 rfl ?_
  refine zR.ixor dJ9_floorDiv_7cf53_6 ?_
  refine kR.if_ge (tgt := 21) dJ9_floorDiv_7cf53_7 (by decide) h (fun h => ?_) (fun h => ?_)
  · refine kR.iload_n dJ9_floorDiv_7cf53_21 0 rfl ?_
    exact kR.iretO dJ9_floorDiv_7cf53_22 (nzI rfl _) h
  · refine kR.iload_n dJ9_floorDiv_7cf53_10 0 rfl ?_
    refine kR.iload_n dJ9_floorDiv_7cf53_11 2 rfl ?_
    refine zR.imul dJ9_floorDiv_7cf53_12 ?_
    refine kR.iload_n dJ9_floorDiv_7cf53_13 1 rfl ?_
    refine kR.icmp_eq (tgt := 21) dJ9_floorDiv_7cf53_14 (by decide) h (fun h => ?_) (fun h => ?_)
    · refine kR.iload_n dJ9_floorDiv_7cf53_21 0 rfl ?_
      exact kR.iretO dJ9_floorDiv_7cf53_22 (nzI rfl _) h
    · refine kR.iload_n dJ9_floorDiv_7cf53_17 0 rfl ?_
      refine zR.iconst (v := 1) dJ9_floorDiv_7cf53_18 (by decide) ?_
      refine zR.isub dJ9_floorDiv_7cf53_19 ?_
      exact kR.iretO dJ9_floorDiv_7cf53_20 (nzI rfl _) h
theorem lJ9_floorDiv_7cf53 {sc : Nat × (Nat → Int32)} {μ : zM} (p0 : Int32) (p1 : Int32) (w : Int32) (h : fJ9_floorDiv_7cf53 p0 p1 = some w) : zC (zY0 sc) 1 0 0 mJ9_floorDiv_7cf53 [.int p0, .int p1] μ (some (.int w), μ) := zC.of (by decide +kernel) (Nat.le_of_ble_eq_true rfl) ⟨_, rfl⟩ (eJ9_floorDiv_7cf53 p0 p1 w h)
theorem dX8_joined_0 : decode cX8_joined 0 = .ok (.iload_n 0, 1) := by decide +kernel
theorem dX8_joined_1 : decode cX8_joined 1 = .ok (.lookupswitch 212 #[(6, 188), (7, 193), (8, 198), (9, 205), (37, 140), (42, 119), (43, 107), (45, 113), (47, 125), (60, 155), (61, 177), (62, 166)], 107) := by decide +kernel
theorem dX8_joined_108 : decode cX8_joined 108 = .ok (.iload_n 1, 1) := by decide +kernel
theorem dX8_joined_109 : decode cX8_joined 109 = .ok (.i2l, 1) := by decide +kernel
theorem dX8_joined_110 : decode cX8_joined 110 = .ok (.iload_n 2, 1) := by decide +kernel
theorem dX8_joined_111 : decode cX8_joined 111 = .ok (.i2l, 1) := by decide +kernel
theorem dX8_joined_112 : decode cX8_joined 112 = .ok (.ladd, 1) := by decide +kernel
theorem dX8_joined_113 : decode cX8_joined 113 = .ok (.lreturn, 1) := by decide +kernel
theorem dX8_joined_114 : decode cX8_joined 114 = .ok (.iload_n 1, 1) := by decide +kernel
theorem dX8_joined_115 : decode cX8_joined 115 = .ok (.i2l, 1) := by decide +kernel
theorem dX8_joined_116 : decode cX8_joined 116 = .ok (.iload_n 2, 1) := by decide +kernel
theorem dX8_joined_117 : decode cX8_joined 117 = .ok (.i2l, 1) := by decide +kernel
theorem dX8_joined_118 : decode cX8_joined 118 = .ok (.lsub, 1) := by decide +kernel
theorem dX8_joined_119 : decode cX8_joined 119 = .ok (.lreturn, 1) := by decide +kernel
theorem dX8_joined_120 : decode cX8_joined 120 = .ok (.iload_n 1, 1) := by decide +kernel
theorem dX8_joined_121 : decode cX8_joined 121 = .ok (.i2l, 1) := by decide +kernel
theorem dX8_joined_122 : decode cX8_joined 122 = .ok (.iload_n 2, 1) := by decide +kernel
theorem dX8_joined_123 : decode cX8_joined 123 = .ok (.i2l, 1) := by decide +kernel
theorem dX8_joined_124 : decode cX8_joined 124 = .ok (.lmul, 1) := by decide +kernel
theorem dX8_joined_125 : decode cX8_joined 125 = .ok (.lreturn, 1) := by decide +kernel
theorem dX8_joined_126 : decode cX8_joined 126 = .ok (.iload_n 2, 1) := by decide +kernel
theorem dX8_joined_127 : decode cX8_joined 127 = .ok (.ifCond .ne 7, 3) := by decide +kernel
theorem dX8_joined_130 : decode cX8_joined 130 = .ok (.lconst 0, 1) := by decide +kernel
theorem dX8_joined_131 : decode cX8_joined 131 = .ok (.goto 9, 3) := by decide +kernel
theorem dX8_joined_134 : decode cX8_joined 134 = .ok (.iload_n 1, 1) := by decide +kernel
theorem dX8_joined_135 : decode cX8_joined 135 = .ok (.iload_n 2, 1) := by decide +kernel
theorem dX8_joined_136 : decode cX8_joined 136 = .ok (.invokestatic 59, 3) := by decide +kernel
theorem dX8_joined_139 : decode cX8_joined 139 = .ok (.i2l, 1) := by decide +kernel
theorem dX8_joined_140 : decode cX8_joined 140 = .ok (.lreturn, 1) := by decide +kernel
theorem dX8_joined_141 : decode cX8_joined 141 = .ok (.iload_n 2, 1) := by decide +kernel
theorem dX8_joined_142 : decode cX8_joined 142 = .ok (.ifCond .ne 7, 3) := by decide +kernel
theorem dX8_joined_145 : decode cX8_joined 145 = .ok (.lconst 0, 1) := by decide +kernel
theorem dX8_joined_146 : decode cX8_joined 146 = .ok (.goto 9, 3) := by decide +kernel
theorem dX8_joined_149 : decode cX8_joined 149 = .ok (.iload_n 1, 1) := by decide +kernel
theorem dX8_joined_150 : decode cX8_joined 150 = .ok (.iload_n 2, 1) := by decide +kernel
theorem dX8_joined_151 : decode cX8_joined 151 = .ok (.invokestatic 62, 3) := by decide +kernel
theorem dX8_joined_154 : decode cX8_joined 154 = .ok (.i2l, 1) := by decide +kernel
theorem dX8_joined_155 : decode cX8_joined 155 = .ok (.lreturn, 1) := by decide +kernel
theorem dX8_joined_156 : decode cX8_joined 156 = .ok (.iload_n 1, 1) := by decide +kernel
theorem dX8_joined_157 : decode cX8_joined 157 = .ok (.iload_n 2, 1) := by decide +kernel
theorem dX8_joined_158 : decode cX8_joined 158 = .ok (.if_icmp .ge 7, 3) := by decide +kernel
theorem dX8_joined_161 : decode cX8_joined 161 = .ok (.lconst 1, 1) := by decide +kernel
theorem dX8_joined_162 : decode cX8_joined 162 = .ok (.goto 4, 3) := by decide +kernel
theorem dX8_joined_165 : decode cX8_joined 165 = .ok (.lconst 0, 1) := by decide +kernel
theorem dX8_joined_166 : decode cX8_joined 166 = .ok (.lreturn, 1) := by decide +kernel
theorem dX8_joined_167 : decode cX8_joined 167 = .ok (.iload_n 1, 1) := by decide +kernel
theorem dX8_joined_168 : decode cX8_joined 168 = .ok (.iload_n 2, 1) := by decide +kernel
theorem dX8_joined_169 : decode cX8_joined 169 = .ok (.if_icmp .le 7, 3) := by decide +kernel
theorem dX8_joined_172 : decode cX8_joined 172 = .ok (.lconst 1, 1) := by decide +kernel
theorem dX8_joined_173 : decode cX8_joined 173 = .ok (.goto 4, 3) := by decide +kernel
theorem dX8_joined_176 : decode cX8_joined 176 = .ok (.lconst 0, 1) := by decide +kernel
theorem dX8_joined_177 : decode cX8_joined 177 = .ok (.lreturn, 1) := by decide +kernel
theorem dX8_joined_178 : decode cX8_joined 178 = .ok (.iload_n 1, 1) := by decide +kernel
theorem dX8_joined_179 : decode cX8_joined 179 = .ok (.iload_n 2, 1) := by decide +kernel
theorem dX8_joined_180 : decode cX8_joined 180 = .ok (.if_icmp .ne 7, 3) := by decide +kernel
theorem dX8_joined_183 : decode cX8_joined 183 = .ok (.lconst 1, 1) := by decide +kernel
theorem dX8_joined_184 : decode cX8_joined 184 = .ok (.goto 4, 3) := by decide +kernel
theorem dX8_joined_187 : decode cX8_joined 187 = .ok (.lconst 0, 1) := by decide +kernel
theorem dX8_joined_188 : decode cX8_joined 188 = .ok (.lreturn, 1) := by decide +kernel
theorem dX8_joined_189 : decode cX8_joined 189 = .ok (.iload_n 1, 1) := by decide +kernel
theorem dX8_joined_190 : decode cX8_joined 190 = .ok (.iload_n 2, 1) := by decide +kernel
theorem dX8_joined_191 : decode cX8_joined 191 = .ok (.iand, 1) := by decide +kernel
theorem dX8_joined_192 : decode cX8_joined 192 = .ok (.i2l, 1) := by decide +kernel
theorem dX8_joined_193 : decode cX8_joined 193 = .ok (.lreturn, 1) := by decide +kernel
theorem dX8_joined_194 : decode cX8_joined 194 = .ok (.iload_n 1, 1) := by decide +kernel
theorem dX8_joined_195 : decode cX8_joined 195 = .ok (.iload_n 2, 1) := by decide +kernel
theorem dX8_joined_196 : decode cX8_joined 196 = .ok (.ior, 1) := by decide +kernel
theorem dX8_joined_197 : decode cX8_joined 197 = .ok (.i2l, 1) := by decide +kernel
theorem dX8_joined_198 : decode cX8_joined 198 = .ok (.lreturn, 1) := by decide +kernel
theorem dX8_joined_199 : decode cX8_joined 199 = .ok (.iload_n 1, 1) := by decide +kernel
theorem dX8_joined_200 : decode cX8_joined 200 = .ok (.iload_n 2, 1) := by decide +kernel
theorem dX8_joined_201 : decode cX8_joined 201 = .ok (.invokestatic 65, 3) := by decide +kernel
theorem dX8_joined_204 : decode cX8_joined 204 = .ok (.i2l, 1) := by decide +kernel
theorem dX8_joined_205 : decode cX8_joined 205 = .ok (.lreturn, 1) := by decide +kernel
theorem dX8_joined_206 : decode cX8_joined 206 = .ok (.iload_n 1, 1) := by decide +kernel
theorem dX8_joined_207 : decode cX8_joined 207 = .ok (.iload_n 2, 1) := by decide +kernel
theorem dX8_joined_208 : decode cX8_joined 208 = .ok (.invokestatic 45, 3) := by decide +kernel
theorem dX8_joined_211 : decode cX8_joined 211 = .ok (.i2l, 1) := by decide +kernel
theorem dX8_joined_212 : decode cX8_joined 212 = .ok (.lreturn, 1) := by decide +kernel
theorem dX8_joined_213 : decode cX8_joined 213 = .ok (.lconst 0, 1) := by decide +kernel
theorem dX8_joined_214 : decode cX8_joined 214 = .ok (.lreturn, 1) := by decide +kernel
def fX8_joined (p0 : Int32) (p1 : Int32) (p2 : Int32) : Option Int64 := if p0 = 6 then some (((p1 &&& p2) : Int32).toInt64) else if p0 = 7 then some (((p1 ||| p2) : Int32).toInt64) else if p0 = 8 then some (((fJ9_min_7cf53 p1 p2) : Int32).toInt64) else if p0 = 9 then some (((fJ9_max_7cf53 p1 p2) : Int32).toInt64) else if p0 = 37 then if p2 = 0 then some 0 else bnr (fJ9_floorMod_7cf53 p1 p2) fun v1 => some v1.toInt64 else if p0 = 42 then some (p1.toInt64 * p2.toInt64) else if p0 = 43 then some (p1.toInt64 + p2.toInt64) else if p0 = 45 then some (p1.toInt64 - p2.toInt64) else if p0 = 47 then if p2 = 0 then some 0 else bnr (fJ9_floorDiv_7cf53 p1 p2) fun v3 => some v3.toInt64 else if p0 = 60 then if p2 ≤ p1 then some 0 else some 1 else if p0 = 61 then if p1 = p2 then some 1 else some 0 else if p0 = 62 then if p1 ≤ p2 then some 0 else some 1 else some 0
theorem eX8_joined {sc : Nat × (Nat → Int32)} {μ : zM} (p0 : Int32) (p1 : Int32) (p2 : Int32) (w : Int64) (h : fX8_joined p0 p1 p2 = some w) : zR (zY0 sc) 2 0 0 mX8_joined 0 [(0, .int p0), (1, .int p1), (2, .int p2)] [] μ (some (.long w), μ) := by
  unfold fX8_joined at h
  refine kR.iload_n dX8_joined_0 0 rfl ?_
  by_cases e6 : p0 = 6
  · rw [if_pos e6] at h
    refine zR.lookup (off := 188) (tgt := 189) dX8_joined_1 (by decide) (by rw [e6]; decide) (by decide) ?_
    refine kR.iload_n dX8_joined_189 1 rfl ?_
    refine kR.iload_n dX8_joined_190 2 rfl ?_
    refine zR.iand dX8_joined_191 ?_
    refine zR.i2l dX8_joined_192 ?_
    exact kR.lretO dX8_joined_193 h
  rw [if_neg e6] at h
  by_cases e7 : p0 = 7
  · rw [if_pos e7] at h
    refine zR.lookup (off := 193) (tgt := 194) dX8_joined_1 (by decide) (by rw [e7]; decide) (by decide) ?_
    refine kR.iload_n dX8_joined_194 1 rfl ?_
    refine kR.iload_n dX8_joined_195 2 rfl ?_
    refine zR.ior dX8_joined_196 ?_
    refine zR.i2l dX8_joined_197 ?_
    exact kR.lretO dX8_joined_198 h
  rw [if_neg e7] at h
  by_cases e8 : p0 = 8
  · rw [if_pos e8] at h
    refine zR.lookup (off := 198) (tgt := 199) dX8_joined_1 (by decide) (by rw [e8]; decide) (by decide) ?_
    refine kR.iload_n dX8_joined_199 1 rfl ?_
    refine kR.iload_n dX8_joined_200 2 rfl ?_
    refine kR.cSi [.int p1, .int p2] dX8_joined_201 rfl (by decide) (Or.inl mwX8_65) rfl (Nat.le_of_ble_eq_true rfl) (lJ9_min_7cf53 p1 p2) ?_
    refine zR.i2l dX8_joined_204 ?_
    exact kR.lretO dX8_joined_205 h
  rw [if_neg e8] at h
  by_cases e9 : p0 = 9
  · rw [if_pos e9] at h
    refine zR.lookup (off := 205) (tgt := 206) dX8_joined_1 (by decide) (by rw [e9]; decide) (by decide) ?_
    refine kR.iload_n dX8_joined_206 1 rfl ?_
    refine kR.iload_n dX8_joined_207 2 rfl ?_
    refine kR.cSi [.int p1, .int p2] dX8_joined_208 rfl (by decide) (Or.inl mwX8_45) rfl (Nat.le_of_ble_eq_true rfl) (lJ9_max_7cf53 p1 p2) ?_
    refine zR.i2l dX8_joined_211 ?_
    exact kR.lretO dX8_joined_212 h
  rw [if_neg e9] at h
  by_cases e37 : p0 = 37
  · rw [if_pos e37] at h
    refine zR.lookup (off := 140) (tgt := 141) dX8_joined_1 (by decide) (by rw [e37]; decide) (by decide) ?_
    refine kR.iload_n dX8_joined_141 2 rfl ?_
    refine kR.if_ne (tgt := 149) dX8_joined_142 (by decide) h (fun h => ?_) (fun h => ?_)
    · refine kR.iload_n dX8_joined_149 1 rfl ?_
      refine kR.iload_n dX8_joined_150 2 rfl ?_
      obtain ⟨v1, e2, h⟩ := bnr_some h
      refine kR.cSi [.int p1, .int p2] dX8_joined_151 rfl (by decide) (Or.inl mwX8_62) rfl (Nat.le_of_ble_eq_true rfl) (lJ9_floorMod_7cf53 p1 p2 _ e2) ?_
      refine zR.i2l dX8_joined_154 ?_
      exact kR.lretO dX8_joined_155 h
    · refine zR.lconst (v := 0) dX8_joined_145 (by decide) ?_
      refine zR.goto (tgt := 155) dX8_joined_146 (by decide) ?_
      exact kR.lretO dX8_joined_155 h
  rw [if_neg e37] at h
  by_cases e42 : p0 = 42
  · rw [if_pos e42] at h
    refine zR.lookup (off := 119) (tgt := 120) dX8_joined_1 (by decide) (by rw [e42]; decide) (by decide) ?_
    refine kR.iload_n dX8_joined_120 1 rfl ?_
    refine zR.i2l dX8_joined_121 ?_
    refine kR.iload_n dX8_joined_122 2 rfl ?_
    refine zR.i2l dX8_joined_123 ?_
    refine zR.lmul dX8_joined_124 ?_
    exact kR.lretO dX8_joined_125 h
  rw [if_neg e42] at h
  by_cases e43 : p0 = 43
  · rw [if_pos e43] at h
    refine zR.lookup (off := 107) (tgt := 108) dX8_joined_1 (by decide) (by rw [e43]; decide) (by decide) ?_
    refine kR.iload_n dX8_joined_108 1 rfl ?_
    refine zR.i2l dX8_joined_109 ?_
    refine kR.iload_n dX8_joined_110 2 rfl ?_
    refine zR.i2l dX8_joined_111 ?_
    refine zR.ladd dX8_joined_112 ?_
    exact kR.lretO dX8_joined_113 h
  rw [if_neg e43] at h
  by_cases e45 : p0 = 45
  · rw [if_pos e45] at h
    refine zR.lookup (off := 113) (tgt := 114) dX8_joined_1 (by decide) (by rw [e45]; decide) (by decide) ?_
    refine kR.iload_n dX8_joined_114 1 rfl ?_
    refine zR.i2l dX8_joined_115 ?_
    refine kR.iload_n dX8_joined_116 2 rfl ?_
    refine zR.i2l dX8_joined_117 ?_
    refine zR.lsub dX8_joined_118 ?_
    exact kR.lretO dX8_joined_119 h
  rw [if_neg e45] at h
  by_cases e47 : p0 = 47
  · rw [if_pos e47] at h
    refine zR.lookup (off := 125) (tgt := 126) dX8_joined_1 (by decide) (by rw [e47]; decide) (by decide) ?_
    refine kR.iload_n dX8_joined_126 2 rfl ?_
    refine kR.if_ne (tgt := 134) dX8_joined_127 (by decide) h (fun h => ?_) (fun h => ?_)
    · refine kR.iload_n dX8_joined_134 1 rfl ?_
      refine kR.iload_n dX8_joined_135 2 rfl ?_
      obtain ⟨v3, e4, h⟩ := bnr_some h
      refine kR.cSi [.int p1, .int p2] dX8_joined_136 rfl (by decide) (Or.inl mwX8_59) rfl (Nat.le_of_ble_eq_true rfl) (lJ9_floorDiv_7cf53 p1 p2 _ e4) ?_
      refine zR.i2l dX8_joined_139 ?_
      exact kR.lretO dX8_joined_140 h
    · refine zR.lconst (v := 0) dX8_joined_130 (by decide) ?_
      refine zR.goto (tgt := 140) dX8_joined_131 (by decide) ?_
      exact kR.lretO dX8_joined_140 h
  rw [if_neg e47] at h
  by_cases e60 : p0 = 60
  · rw [if_pos e60] at h
    refine zR.lookup (off := 155) (tgt := 156) dX8_joined_1 (by decide) (by rw [e60]; decide) (by decide) ?_
    refine kR.iload_n dX8_joined_156 1 rfl ?_
    refine kR.iload_n dX8_joined_157 2 rfl ?_
    refine kR.icmp_ge (tgt := 165) dX8_joined_158 (by decide) h (fun h => ?_) (fun h => ?_)
    · refine zR.lconst (v := 0) dX8_joined_165 (by decide) ?_
      exact kR.lretO dX8_joined_166 h
    · refine zR.lconst (v := 1) dX8_joined_161 (by decide) ?_
      refine zR.goto (tgt := 166) dX8_joined_162 (by decide) ?_
      exact kR.lretO dX8_joined_166 h
  rw [if_neg e60] at h
  by_cases e61 : p0 = 61
  · rw [if_pos e61] at h
    refine zR.lookup (off := 177) (tgt := 178) dX8_joined_1 (by decide) (by rw [e61]; decide) (by decide) ?_
    refine kR.iload_n dX8_joined_178 1 rfl ?_
    refine kR.iload_n dX8_joined_179 2 rfl ?_
    refine kR.icmp_ne (tgt := 187) dX8_joined_180 (by decide) h (fun h => ?_) (fun h => ?_)
    · refine zR.lconst (v := 0) dX8_joined_187 (by decide) ?_
      exact kR.lretO dX8_joined_188 h
    · refine zR.lconst (v := 1) dX8_joined_183 (by decide) ?_
      refine zR.goto (tgt := 188) dX8_joined_184 (by decide) ?_
      exact kR.lretO dX8_joined_188 h
  rw [if_neg e61] at h
  by_cases e62 : p0 = 62
  · rw [if_pos e62] at h
    refine zR.lookup (off := 166) (tgt := 167) dX8_joined_1 (by decide) (by rw [e62]; decide) (by decide) ?_
    refine kR.iload_n dX8_joined_167 1 rfl ?_
    refine kR.iload_n dX8_joined_168 2 rfl ?_
    refine kR.icmp_le (tgt := 176) dX8_joined_169 (by decide) h (fun h => ?_) (fun h => ?_)
    · refine zR.lconst (v := 0) dX8_joined_176 (by decide) ?_
      exact kR.lretO dX8_joined_177 h
    · refine zR.lconst (v := 1) dX8_joined_172 (by decide) ?_
      refine zR.goto (tgt := 177) dX8_joined_173 (by decide) ?_
      exact kR.lretO dX8_joined_177 h
  rw [if_neg e62] at h
  refine zR.lookup (off := 212) (tgt := 213) dX8_joined_1 (by decide) (by show Op.lookupswitch.offset [(6, 188), (7, 193), (8, 198), (9, 205), (37, 140), (42, 119), (43, 107), (45, 113), (47, 125), (60, 155), (61, 177), (62, 166)] _ _ = _; rw [Op.lookupswitch.offset_cons, if_neg (tne (k := 6) e6 (by decide)), Op.lookupswitch.offset_cons, if_neg (tne (k := 7) e7 (by decide)), Op.lookupswitch.offset_cons, if_neg (tne (k := 8) e8 (by decide)), Op.lookupswitch.offset_cons, if_neg (tne (k := 9) e9 (by decide)), Op.lookupswitch.offset_cons, if_neg (tne (k := 37) e37 (by decide)), Op.lookupswitch.offset_cons, if_neg (tne (k := 42) e42 (by decide)), Op.lookupswitch.offset_cons, if_neg (tne (k := 43) e43 (by decide)), Op.lookupswitch.offset_cons, if_neg (tne (k := 45) e45 (by decide)), Op.lookupswitch.offset_cons, if_neg (tne (k := 47) e47 (by decide)), Op.lookupswitch.offset_cons, if_neg (tne (k := 60) e60 (by decide)), Op.lookupswitch.offset_cons, if_neg (tne (k := 61) e61 (by decide)), Op.lookupswitch.offset_cons, if_neg (tne (k := 62) e62 (by decide)), Op.lookupswitch.offset_nil]) (by decide) ?_
  refine zR.lconst (v := 0) dX8_joined_213 (by decide) ?_
  exact kR.lretO dX8_joined_214 h
theorem lX8_joined {sc : Nat × (Nat → Int32)} {μ : zM} (p0 : Int32) (p1 : Int32) (p2 : Int32) (w : Int64) (h : fX8_joined p0 p1 p2 = some w) : zC (zY0 sc) 2 0 0 mX8_joined [.int p0, .int p1, .int p2] μ (some (.long w), μ) := zC.of (by decide +kernel) (Nat.le_of_ble_eq_true rfl) rfl (eX8_joined p0 p1 p2 w h)
theorem dJ9_min_f86c9_0 : decode cJ9_min_f86c9 0 = .ok (.lload_n 0, 1) := by decide +kernel
theorem dJ9_min_f86c9_1 : decode cJ9_min_f86c9 1 = .ok (.lload_n 2, 1) := by decide +kernel
theorem dJ9_min_f86c9_2 : decode cJ9_min_f86c9 2 = .ok (.lcmp, 1) := by decide +kernel
theorem dJ9_min_f86c9_3 : decode cJ9_min_f86c9 3 = .ok (.ifCond .gt 7, 3) := by decide +kernel
theorem dJ9_min_f86c9_6 : decode cJ9_min_f86c9 6 = .ok (.lload_n 0, 1) := by decide +kernel
theorem dJ9_min_f86c9_7 : decode cJ9_min_f86c9 7 = .ok (.goto 4, 3) := by decide +kernel
theorem dJ9_min_f86c9_10 : decode cJ9_min_f86c9 10 = .ok (.lload_n 2, 1) := by decide +kernel
theorem dJ9_min_f86c9_11 : decode cJ9_min_f86c9 11 = .ok (.lreturn, 1) := by decide +kernel
def fJ9_min_f86c9 (p0 : Int64) (p2 : Int64) : Int64 := if p2 < p0 then p2 else p0
theorem eJ9_min_f86c9 {sc : Nat × (Nat → Int32)} {μ : zM} (p0 : Int64) (p2 : Int64) (w : Int64) (h : fJ9_min_f86c9 p0 p2 = w) : zR (zY0 sc) 1 0 0 mJ9_min_f86c9 0 [(0, .long p0), (2, .long p2)] [] μ (some (.long w), μ) := by
  unfold fJ9_min_f86c9 at h
  refine kR.lload_n dJ9_min_f86c9_0 0 rfl ?_
  refine kR.lload_n dJ9_min_f86c9_1 1 rfl ?_
  refine kR.lcmp_gt (tgt := 10) dJ9_min_f86c9_2 dJ9_min_f86c9_3 (by decide) h (fun h => ?_) (fun h => ?_)
  · refine kR.lload_n dJ9_min_f86c9_10 1 rfl ?_
    exact kR.lret dJ9_min_f86c9_11 h
  · refine kR.lload_n dJ9_min_f86c9_6 0 rfl ?_
    refine zR.goto (tgt := 11) dJ9_min_f86c9_7 (by decide) ?_
    exact kR.lret dJ9_min_f86c9_11 h
theorem lJ9_min_f86c9 {sc : Nat × (Nat → Int32)} {μ : zM} (p0 : Int64) (p2 : Int64) : zC (zY0 sc) 1 0 0 mJ9_min_f86c9 [.long p0, .long p2] μ (some (.long (fJ9_min_f86c9 p0 p2)), μ) := zC.of (by decide +kernel) (Nat.le_of_ble_eq_true rfl) rfl (eJ9_min_f86c9 p0 p2 _ rfl)
theorem dJ9_max_f86c9_0 : decode cJ9_max_f86c9 0 = .ok (.lload_n 0, 1) := by decide +kernel
theorem dJ9_max_f86c9_1 : decode cJ9_max_f86c9 1 = .ok (.lload_n 2, 1) := by decide +kernel
theorem dJ9_max_f86c9_2 : decode cJ9_max_f86c9 2 = .ok (.lcmp, 1) := by decide +kernel
theorem dJ9_max_f86c9_3 : decode cJ9_max_f86c9 3 = .ok (.ifCond .lt 7, 3) := by decide +kernel
theorem dJ9_max_f86c9_6 : decode cJ9_max_f86c9 6 = .ok (.lload_n 0, 1) := by decide +kernel
theorem dJ9_max_f86c9_7 : decode cJ9_max_f86c9 7 = .ok (.goto 4, 3) := by decide +kernel
theorem dJ9_max_f86c9_10 : decode cJ9_max_f86c9 10 = .ok (.lload_n 2, 1) := by decide +kernel
theorem dJ9_max_f86c9_11 : decode cJ9_max_f86c9 11 = .ok (.lreturn, 1) := by decide +kernel
def fJ9_max_f86c9 (p0 : Int64) (p2 : Int64) : Int64 := if p0 < p2 then p2 else p0
theorem eJ9_max_f86c9 {sc : Nat × (Nat → Int32)} {μ : zM} (p0 : Int64) (p2 : Int64) (w : Int64) (h : fJ9_max_f86c9 p0 p2 = w) : zR (zY0 sc) 1 0 0 mJ9_max_f86c9 0 [(0, .long p0), (2, .long p2)] [] μ (some (.long w), μ) := by
  unfold fJ9_max_f86c9 at h
  refine kR.lload_n dJ9_max_f86c9_0 0 rfl ?_
  refine kR.lload_n dJ9_max_f86c9_1 1 rfl ?_
  refine kR.lcmp_lt (tgt := 10) dJ9_max_f86c9_2 dJ9_max_f86c9_3 (by decide) h (fun h => ?_) (fun h => ?_)
  · refine kR.lload_n dJ9_max_f86c9_10 1 rfl ?_
    exact kR.lret dJ9_max_f86c9_11 h
  · refine kR.lload_n dJ9_max_f86c9_6 0 rfl ?_
    refine zR.goto (tgt := 11) dJ9_max_f86c9_7 (by decide) ?_
    exact kR.lret dJ9_max_f86c9_11 h
theorem lJ9_max_f86c9 {sc : Nat × (Nat → Int32)} {μ : zM} (p0 : Int64) (p2 : Int64) : zC (zY0 sc) 1 0 0 mJ9_max_f86c9 [.long p0, .long p2] μ (some (.long (fJ9_max_f86c9 p0 p2)), μ) := zC.of (by decide +kernel) (Nat.le_of_ble_eq_true rfl) rfl (eJ9_max_f86c9 p0 p2 _ rfl)
theorem dX8_bounded_0 : decode cX8_bounded 0 = .ok (.ldc2_w 68, 3) := by decide +kernel
theorem dX8_bounded_3 : decode cX8_bounded 3 = .ok (.ldc2_w 70, 3) := by decide +kernel
theorem dX8_bounded_6 : decode cX8_bounded 6 = .ok (.lload_n 0, 1) := by decide +kernel
theorem dX8_bounded_7 : decode cX8_bounded 7 = .ok (.invokestatic 72, 3) := by decide +kernel
theorem dX8_bounded_10 : decode cX8_bounded 10 = .ok (.invokestatic 75, 3) := by decide +kernel
theorem dX8_bounded_13 : decode cX8_bounded 13 = .ok (.l2i, 1) := by decide +kernel
theorem dX8_bounded_14 : decode cX8_bounded 14 = .ok (.ireturn, 1) := by decide +kernel
def fX8_bounded (p0 : Int64) : Int32 := ((fJ9_max_f86c9 ((-1000000)) (fJ9_min_f86c9 1000000 p0)) : Int64).toInt32
theorem eX8_bounded {sc : Nat × (Nat → Int32)} {μ : zM} (p0 : Int64) (w : Int32) (h : fX8_bounded p0 = w) : zR (zY0 sc) 2 0 0 mX8_bounded 0 [(0, .long p0)] [] μ (some (.int w), μ) := by
  unfold fX8_bounded at h
  refine zR.ldc2 (v := (-1000000)) dX8_bounded_0 clX8_68 ?_
  refine zR.ldc2 (v := 1000000) dX8_bounded_3 clX8_70 ?_
  refine kR.lload_n dX8_bounded_6 0 rfl ?_
  refine kR.cSl [.long 1000000, .long p0] dX8_bounded_7 rfl (by decide) (Or.inl mwX8_72) rfl (Nat.le_of_ble_eq_true rfl) (lJ9_min_f86c9 1000000 p0) ?_
  refine kR.cSl [.long ((-1000000)), .long (fJ9_min_f86c9 1000000 p0)] dX8_bounded_10 rfl (by decide) (Or.inl mwX8_75) rfl (Nat.le_of_ble_eq_true rfl) (lJ9_max_f86c9 ((-1000000)) (fJ9_min_f86c9 1000000 p0)) ?_
  refine zR.l2i dX8_bounded_13 ?_
  exact kR.iret dX8_bounded_14 (nzI rfl _) h
theorem lX8_bounded {sc : Nat × (Nat → Int32)} {μ : zM} (p0 : Int64) : zC (zY0 sc) 2 0 0 mX8_bounded [.long p0] μ (some (.int (fX8_bounded p0)), μ) := zC.of (by decide +kernel) (Nat.le_of_ble_eq_true rfl) ⟨_, rfl⟩ (eX8_bounded p0 _ rfl)
theorem dX8_push_0 : decode cX8_push 0 = .ok (.aload_n 0, 1) := by decide +kernel
theorem dX8_push_1 : decode cX8_push 1 = .ok (.getfield 18, 3) := by decide +kernel
theorem dX8_push_4 : decode cX8_push 4 = .ok (.aload_n 0, 1) := by decide +kernel
theorem dX8_push_5 : decode cX8_push 5 = .ok (.getfield 15, 3) := by decide +kernel
theorem dX8_push_8 : decode cX8_push 8 = .ok (.arraylength, 1) := by decide +kernel
theorem dX8_push_9 : decode cX8_push 9 = .ok (.if_icmp .ge 23, 3) := by decide +kernel
theorem dX8_push_12 : decode cX8_push 12 = .ok (.aload_n 0, 1) := by decide +kernel
theorem dX8_push_13 : decode cX8_push 13 = .ok (.getfield 15, 3) := by decide +kernel
theorem dX8_push_16 : decode cX8_push 16 = .ok (.aload_n 0, 1) := by decide +kernel
theorem dX8_push_17 : decode cX8_push 17 = .ok (.getfield 18, 3) := by decide +kernel
theorem dX8_push_20 : decode cX8_push 20 = .ok (.iload_n 1, 1) := by decide +kernel
theorem dX8_push_21 : decode cX8_push 21 = .ok (.iastore, 1) := by decide +kernel
theorem dX8_push_22 : decode cX8_push 22 = .ok (.aload_n 0, 1) := by decide +kernel
theorem dX8_push_23 : decode cX8_push 23 = .ok (.dup, 1) := by decide +kernel
theorem dX8_push_24 : decode cX8_push 24 = .ok (.getfield 18, 3) := by decide +kernel
theorem dX8_push_27 : decode cX8_push 27 = .ok (.iconst 1, 1) := by decide +kernel
theorem dX8_push_28 : decode cX8_push 28 = .ok (.iadd, 1) := by decide +kernel
theorem dX8_push_29 : decode cX8_push 29 = .ok (.putfield 18, 3) := by decide +kernel
theorem dX8_push_32 : decode cX8_push 32 = .ok (.return_, 1) := by decide +kernel
def fX8_push (b0 : Bool) (p1 : Int32) (σ : zS) : Option zS := if 64 ≤ (iG σ (rp b0 + 11) 2) then some σ else wI σ (rp b0 + 13) 64 (iG σ (rp b0 + 11) 2) p1 fun σ1 => bnd (iS σ1 (rp b0 + 11) 2 ((iG σ1 (rp b0 + 11) 2) + 1)) fun σ2 => some σ2
theorem eX8_push {sc : Nat × (Nat → Int32)} (b0 : Bool) (p1 : Int32) (σ : zS) (w : zS) (h : fX8_push b0 p1 σ = some w) : zR (zY0 sc) 1 0 0 mX8_push 0 [(0, .ref (rp b0 + 11)), (1, .int p1)] [] (zE σ) (none, zE w) := by
  unfold fX8_push at h
  refine kR.aload_n dX8_push_0 0 rfl ?_
  refine kR.getI dX8_push_1 flX8_18 zcf8 (zq11 b0) (Or.inl rfl) ?_
  refine kR.aload_n dX8_push_4 0 rfl ?_
  refine kR.getR (v := (rp b0 + 13)) dX8_push_5 flX8_15 zcf8 (zq11 b0) (Or.inr ⟨_, rfl⟩) (zr11_1 _ b0) ?_
  refine zR.alen (v := 64) dX8_push_8 (Or.inl (zq13 b0)) (by rw [(zl13 b0)]; rfl) ?_
  refine kR.icmp_ge (tgt := 32) dX8_push_9 (by decide) h (fun h => ?_) (fun h => ?_)
  · exact kR.vret dX8_push_32 h
  · refine kR.aload_n dX8_push_12 0 rfl ?_
    refine kR.getR (v := (rp b0 + 13)) dX8_push_13 flX8_15 zcf8 (zq11 b0) (Or.inr ⟨_, rfl⟩) (zr11_1 _ b0) ?_
    refine kR.aload_n dX8_push_16 0 rfl ?_
    refine kR.getI dX8_push_17 flX8_18 zcf8 (zq11 b0) (Or.inl rfl) ?_
    refine kR.iload_n dX8_push_20 1 rfl ?_
    refine kR.iast dX8_push_21 (zq13 b0) (zl13 b0) h (fun σ1 h => ?_)
    refine kR.aload_n dX8_push_22 0 rfl ?_
    refine zR.dup dX8_push_23 rfl ?_
    refine kR.getI dX8_push_24 flX8_18 zcf8 (zq11 b0) (Or.inl rfl) ?_
    refine zR.iconst (v := 1) dX8_push_27 (by decide) ?_
    refine zR.iadd dX8_push_28 ?_
    refine kR.putI dX8_push_29 fpX8_18 zcf8 (zq11 b0) rfl h (fun σ2 h => ?_)
    exact kR.vret dX8_push_32 h
theorem lX8_push {sc : Nat × (Nat → Int32)} (b0 : Bool) (p1 : Int32) (σ : zS) (w : zS) (h : fX8_push b0 p1 σ = some w) : zC (zY0 sc) 1 0 0 mX8_push [.ref (rp b0 + 11), .int p1] (zE σ) (none, zE w) := zC.of (by decide +kernel) (Nat.le_of_ble_eq_true rfl) rfl (eX8_push b0 p1 σ w h)
theorem dX8_valueOf_0 : decode cX8_valueOf 0 = .ok (.aload_n 0, 1) := by decide +kernel
theorem dX8_valueOf_1 : decode cX8_valueOf 1 = .ok (.getfield 28, 3) := by decide +kernel
theorem dX8_valueOf_4 : decode cX8_valueOf 4 = .ok (.iload_n 1, 1) := by decide +kernel
theorem dX8_valueOf_5 : decode cX8_valueOf 5 = .ok (.iaload, 1) := by decide +kernel
theorem dX8_valueOf_6 : decode cX8_valueOf 6 = .ok (.istore_n 3, 1) := by decide +kernel
theorem dX8_valueOf_7 : decode cX8_valueOf 7 = .ok (.aload_n 0, 1) := by decide +kernel
theorem dX8_valueOf_8 : decode cX8_valueOf 8 = .ok (.iconst 0, 1) := by decide +kernel
theorem dX8_valueOf_9 : decode cX8_valueOf 9 = .ok (.putfield 18, 3) := by decide +kernel
theorem dX8_valueOf_12 : decode cX8_valueOf 12 = .ok (.aload_n 0, 1) := by decide +kernel
theorem dX8_valueOf_13 : decode cX8_valueOf 13 = .ok (.getfield 25, 3) := by decide +kernel
theorem dX8_valueOf_16 : decode cX8_valueOf 16 = .ok (.iload_n 1, 1) := by decide +kernel
theorem dX8_valueOf_17 : decode cX8_valueOf 17 = .ok (.iaload, 1) := by decide +kernel
theorem dX8_valueOf_18 : decode cX8_valueOf 18 = .ok (.istore 4, 2) := by decide +kernel
theorem dX8_valueOf_20 : decode cX8_valueOf 20 = .ok (.iload 4, 2) := by decide +kernel
theorem dX8_valueOf_22 : decode cX8_valueOf 22 = .ok (.iload_n 3, 1) := by decide +kernel
theorem dX8_valueOf_23 : decode cX8_valueOf 23 = .ok (.if_icmp .ge 147, 3) := by decide +kernel
theorem dX8_valueOf_26 : decode cX8_valueOf 26 = .ok (.aload_n 0, 1) := by decide +kernel
theorem dX8_valueOf_27 : decode cX8_valueOf 27 = .ok (.getfield 9, 3) := by decide +kernel
theorem dX8_valueOf_30 : decode cX8_valueOf 30 = .ok (.iload 4, 2) := by decide +kernel
theorem dX8_valueOf_32 : decode cX8_valueOf 32 = .ok (.iaload, 1) := by decide +kernel
theorem dX8_valueOf_33 : decode cX8_valueOf 33 = .ok (.bipush 64, 2) := by decide +kernel
theorem dX8_valueOf_35 : decode cX8_valueOf 35 = .ok (.irem, 1) := by decide +kernel
theorem dX8_valueOf_36 : decode cX8_valueOf 36 = .ok (.istore 5, 2) := by decide +kernel
theorem dX8_valueOf_38 : decode cX8_valueOf 38 = .ok (.aload_n 0, 1) := by decide +kernel
theorem dX8_valueOf_39 : decode cX8_valueOf 39 = .ok (.getfield 9, 3) := by decide +kernel
theorem dX8_valueOf_42 : decode cX8_valueOf 42 = .ok (.iload 4, 2) := by decide +kernel
theorem dX8_valueOf_44 : decode cX8_valueOf 44 = .ok (.iaload, 1) := by decide +kernel
theorem dX8_valueOf_45 : decode cX8_valueOf 45 = .ok (.bipush 64, 2) := by decide +kernel
theorem dX8_valueOf_47 : decode cX8_valueOf 47 = .ok (.idiv, 1) := by decide +kernel
theorem dX8_valueOf_48 : decode cX8_valueOf 48 = .ok (.istore 6, 2) := by decide +kernel
theorem dX8_valueOf_50 : decode cX8_valueOf 50 = .ok (.iload 5, 2) := by decide +kernel
theorem dX8_valueOf_52 : decode cX8_valueOf 52 = .ok (.iconst 1, 1) := by decide +kernel
theorem dX8_valueOf_53 : decode cX8_valueOf 53 = .ok (.if_icmp .ne 12, 3) := by decide +kernel
theorem dX8_valueOf_56 : decode cX8_valueOf 56 = .ok (.aload_n 0, 1) := by decide +kernel
theorem dX8_valueOf_57 : decode cX8_valueOf 57 = .ok (.iload 6, 2) := by decide +kernel
theorem dX8_valueOf_59 : decode cX8_valueOf 59 = .ok (.invokevirtual 37, 3) := by decide +kernel
theorem dX8_valueOf_62 : decode cX8_valueOf 62 = .ok (.goto 102, 3) := by decide +kernel
theorem dX8_valueOf_65 : decode cX8_valueOf 65 = .ok (.iload 5, 2) := by decide +kernel
theorem dX8_valueOf_67 : decode cX8_valueOf 67 = .ok (.iconst 2, 1) := by decide +kernel
theorem dX8_valueOf_68 : decode cX8_valueOf 68 = .ok (.if_icmp .ne 14, 3) := by decide +kernel
theorem dX8_valueOf_71 : decode cX8_valueOf 71 = .ok (.aload_n 0, 1) := by decide +kernel
theorem dX8_valueOf_72 : decode cX8_valueOf 72 = .ok (.aload_n 2, 1) := by decide +kernel
theorem dX8_valueOf_73 : decode cX8_valueOf 73 = .ok (.iload 6, 2) := by decide +kernel
theorem dX8_valueOf_75 : decode cX8_valueOf 75 = .ok (.iaload, 1) := by decide +kernel
theorem dX8_valueOf_76 : decode cX8_valueOf 76 = .ok (.invokevirtual 37, 3) := by decide +kernel
theorem dX8_valueOf_79 : decode cX8_valueOf 79 = .ok (.goto 85, 3) := by decide +kernel
theorem dX8_valueOf_82 : decode cX8_valueOf 82 = .ok (.iload 5, 2) := by decide +kernel
theorem dX8_valueOf_84 : decode cX8_valueOf 84 = .ok (.iconst 4, 1) := by decide +kernel
theorem dX8_valueOf_85 : decode cX8_valueOf 85 = .ok (.if_icmp .eq 16, 3) := by decide +kernel
theorem dX8_valueOf_88 : decode cX8_valueOf 88 = .ok (.iload 5, 2) := by decide +kernel
theorem dX8_valueOf_90 : decode cX8_valueOf 90 = .ok (.iconst 3, 1) := by decide +kernel
theorem dX8_valueOf_91 : decode cX8_valueOf 91 = .ok (.if_icmp .ne 24, 3) := by decide +kernel
theorem dX8_valueOf_94 : decode cX8_valueOf 94 = .ok (.aload_n 0, 1) := by decide +kernel
theorem dX8_valueOf_95 : decode cX8_valueOf 95 = .ok (.invokevirtual 41, 3) := by decide +kernel
theorem dX8_valueOf_98 : decode cX8_valueOf 98 = .ok (.ifCond .ne 17, 3) := by decide +kernel
theorem dX8_valueOf_101 : decode cX8_valueOf 101 = .ok (.iload 4, 2) := by decide +kernel
theorem dX8_valueOf_103 : decode cX8_valueOf 103 = .ok (.iload 6, 2) := by decide +kernel
theorem dX8_valueOf_105 : decode cX8_valueOf 105 = .ok (.iconst 1, 1) := by decide +kernel
theorem dX8_valueOf_106 : decode cX8_valueOf 106 = .ok (.isub, 1) := by decide +kernel
theorem dX8_valueOf_107 : decode cX8_valueOf 107 = .ok (.invokestatic 45, 3) := by decide +kernel
theorem dX8_valueOf_110 : decode cX8_valueOf 110 = .ok (.istore 4, 2) := by decide +kernel
theorem dX8_valueOf_112 : decode cX8_valueOf 112 = .ok (.goto 52, 3) := by decide +kernel
theorem dX8_valueOf_115 : decode cX8_valueOf 115 = .ok (.iload 5, 2) := by decide +kernel
theorem dX8_valueOf_117 : decode cX8_valueOf 117 = .ok (.iconst 5, 1) := by decide +kernel
theorem dX8_valueOf_118 : decode cX8_valueOf 118 = .ok (.if_icmp .ne 16, 3) := by decide +kernel
theorem dX8_valueOf_121 : decode cX8_valueOf 121 = .ok (.aload_n 0, 1) := by decide +kernel
theorem dX8_valueOf_122 : decode cX8_valueOf 122 = .ok (.iconst 1, 1) := by decide +kernel
theorem dX8_valueOf_123 : decode cX8_valueOf 123 = .ok (.aload_n 0, 1) := by decide +kernel
theorem dX8_valueOf_124 : decode cX8_valueOf 124 = .ok (.invokevirtual 41, 3) := by decide +kernel
theorem dX8_valueOf_127 : decode cX8_valueOf 127 = .ok (.isub, 1) := by decide +kernel
theorem dX8_valueOf_128 : decode cX8_valueOf 128 = .ok (.invokevirtual 37, 3) := by decide +kernel
theorem dX8_valueOf_131 : decode cX8_valueOf 131 = .ok (.goto 33, 3) := by decide +kernel
theorem dX8_valueOf_134 : decode cX8_valueOf 134 = .ok (.iload 5, 2) := by decide +kernel
theorem dX8_valueOf_136 : decode cX8_valueOf 136 = .ok (.iconst 3, 1) := by decide +kernel
theorem dX8_valueOf_137 : decode cX8_valueOf 137 = .ok (.if_icmp .eq 27, 3) := by decide +kernel
theorem dX8_valueOf_140 : decode cX8_valueOf 140 = .ok (.aload_n 0, 1) := by decide +kernel
theorem dX8_valueOf_141 : decode cX8_valueOf 141 = .ok (.invokevirtual 41, 3) := by decide +kernel
theorem dX8_valueOf_144 : decode cX8_valueOf 144 = .ok (.istore 7, 2) := by decide +kernel
theorem dX8_valueOf_146 : decode cX8_valueOf 146 = .ok (.aload_n 0, 1) := by decide +kernel
theorem dX8_valueOf_147 : decode cX8_valueOf 147 = .ok (.iload 5, 2) := by decide +kernel
theorem dX8_valueOf_149 : decode cX8_valueOf 149 = .ok (.aload_n 0, 1) := by decide +kernel
theorem dX8_valueOf_150 : decode cX8_valueOf 150 = .ok (.invokevirtual 41, 3) := by decide +kernel
theorem dX8_valueOf_153 : decode cX8_valueOf 153 = .ok (.iload 7, 2) := by decide +kernel
theorem dX8_valueOf_155 : decode cX8_valueOf 155 = .ok (.invokestatic 51, 3) := by decide +kernel
theorem dX8_valueOf_158 : decode cX8_valueOf 158 = .ok (.invokestatic 55, 3) := by decide +kernel
theorem dX8_valueOf_161 : decode cX8_valueOf 161 = .ok (.invokevirtual 37, 3) := by decide +kernel
theorem dX8_valueOf_164 : decode cX8_valueOf 164 = .ok (.iinc 4 1, 3) := by decide +kernel
theorem dX8_valueOf_167 : decode cX8_valueOf 167 = .ok (.goto (-147), 3) := by decide +kernel
theorem dX8_valueOf_170 : decode cX8_valueOf 170 = .ok (.aload_n 0, 1) := by decide +kernel
theorem dX8_valueOf_171 : decode cX8_valueOf 171 = .ok (.invokevirtual 41, 3) := by decide +kernel
theorem dX8_valueOf_174 : decode cX8_valueOf 174 = .ok (.ireturn, 1) := by decide +kernel
def fX8_valueOf_164 (b0 : Bool) (a2 : Nat) (n2 : Nat) (r20 : Int32 → Int32 → zS → Option (Int32 × zS)) (x3 : Int32) (x4 : Int32) (σ : zS) : Option (Int32 × zS) := r20 x3 (x4 + 1) σ
theorem kX8_valueOf_164 {sc : Nat × (Nat → Int32)} (b0 : Bool) (a2 : Nat) (n2 : Nat) (ha2 : ∀ σ, zAt (zY0 sc) (zE σ) a2 20) (hna2 : (zY0 sc).2.1 a2 = n2) (r20 : Int32 → Int32 → zS → Option (Int32 × zS)) (hr20 : ∀ (x3 : Int32) (x4 : Int32) (σ : zS) (w : Int32 × zS), r20 x3 x4 σ = some w → zR (zY0 sc) 3 0 0 mX8_valueOf 20 [(0, .ref (rp b0 + 11)), (2, .ref a2), (3, .int x3), (4, .int x4)] [] (zE σ) (some (.int w.1), zE w.2)) (x3 : Int32) (x4 : Int32) (σ : zS) (w : Int32 × zS) (h : fX8_valueOf_164 b0 a2 n2 r20 x3 x4 σ = some w) : zR (zY0 sc) 3 0 0 mX8_valueOf 164 [(0, .ref (rp b0 + 11)), (2, .ref a2), (3, .int x3), (4, .int x4)] [] (zE σ) (some (.int w.1), zE w.2) := by
  unfold fX8_valueOf_164 at h
  refine zR.iinc 3 (v := x4 + 1) (ls' := [(4, .int (x4 + 1)), (0, .ref (rp b0 + 11)), (2, .ref a2), (3, .int x3)]) dX8_valueOf_164 rfl rfl (by decide) rfl ?_
  refine zR.goto (tgt := 20) dX8_valueOf_167 (by decide) ?_
  refine zR.sub [1, 2, 3, 0] rfl ?_
  exact hr20 _ _ _ _ h
def fX8_valueOf_101 (b0 : Bool) (a2 : Nat) (n2 : Nat) (r20 : Int32 → Int32 → zS → Option (Int32 × zS)) (x3 : Int32) (x4 : Int32) (x6 : Int32) (σ : zS) : Option (Int32 × zS) := fX8_valueOf_164 b0 a2 n2 r20 x3 (fJ9_max_7cf53 x4 (x6 - 1)) σ
theorem kX8_valueOf_101 {sc : Nat × (Nat → Int32)} (b0 : Bool) (a2 : Nat) (n2 : Nat) (ha2 : ∀ σ, zAt (zY0 sc) (zE σ) a2 20) (hna2 : (zY0 sc).2.1 a2 = n2) (r20 : Int32 → Int32 → zS → Option (Int32 × zS)) (hr20 : ∀ (x3 : Int32) (x4 : Int32) (σ : zS) (w : Int32 × zS), r20 x3 x4 σ = some w → zR (zY0 sc) 3 0 0 mX8_valueOf 20 [(0, .ref (rp b0 + 11)), (2, .ref a2), (3, .int x3), (4, .int x4)] [] (zE σ) (some (.int w.1), zE w.2)) (x3 : Int32) (x4 : Int32) (x6 : Int32) (σ : zS) (w : Int32 × zS) (h : fX8_valueOf_101 b0 a2 n2 r20 x3 x4 x6 σ = some w) : zR (zY0 sc) 3 0 0 mX8_valueOf 101 [(0, .ref (rp b0 + 11)), (2, .ref a2), (3, .int x3), (4, .int x4), (6, .int x6)] [] (zE σ) (some (.int w.1), zE w.2) := by
  unfold fX8_valueOf_101 at h
  refine kR.iload dX8_valueOf_101 3 rfl ?_
  refine kR.iload dX8_valueOf_103 4 rfl ?_
  refine zR.iconst (v := 1) dX8_valueOf_105 (by decide) ?_
  refine zR.isub dX8_valueOf_106 ?_
  refine kR.cSi [.int x4, .int (x6 - 1)] dX8_valueOf_107 rfl (by decide) (Or.inl mwX8_45) rfl (Nat.le_of_ble_eq_true rfl) (lJ9_max_7cf53 x4 (x6 - 1)) ?_
  refine zR.istore (i := 4) (ls' := [(4, .int (fJ9_max_7cf53 x4 (x6 - 1))), (0, .ref (rp b0 + 11)), (2, .ref a2), (3, .int x3), (6, .int x6)]) dX8_valueOf_110 (by decide) rfl ?_
  refine zR.goto (tgt := 164) dX8_valueOf_112 (by decide) ?_
  refine zR.sub [1, 2, 3, 0] rfl ?_
  exact kX8_valueOf_164 b0 a2 n2 ha2 hna2 r20 hr20 _ _ _ _ h
def fX8_valueOf_115 (b0 : Bool) (a2 : Nat) (n2 : Nat) (r20 : Int32 → Int32 → zS → Option (Int32 × zS)) (x3 : Int32) (x4 : Int32) (x5 : Int32) (σ : zS) : Option (Int32 × zS) := if x5 = 5 then bnc (fX8_pop b0 σ) fun v21 σ19 => bnr (fX8_push b0 (1 - v21) σ19) fun σ22 => fX8_valueOf_164 b0 a2 n2 r20 x3 x4 σ22 else if x5 = 3 then fX8_valueOf_164 b0 a2 n2 r20 x3 x4 σ else bnc (fX8_pop b0 σ) fun v11 σ9 => bnc (fX8_pop b0 σ9) fun v14 σ12 => bnr (fX8_joined x5 v14 v11) fun v15 => bnr (fX8_push b0 (fX8_bounded v15) σ12) fun σ17 => fX8_valueOf_164 b0 a2 n2 r20 x3 x4 σ17
theorem kX8_valueOf_115 {sc : Nat × (Nat → Int32)} (b0 : Bool) (a2 : Nat) (n2 : Nat) (ha2 : ∀ σ, zAt (zY0 sc) (zE σ) a2 20) (hna2 : (zY0 sc).2.1 a2 = n2) (r20 : Int32 → Int32 → zS → Option (Int32 × zS)) (hr20 : ∀ (x3 : Int32) (x4 : Int32) (σ : zS) (w : Int32 × zS), r20 x3 x4 σ = some w → zR (zY0 sc) 3 0 0 mX8_valueOf 20 [(0, .ref (rp b0 + 11)), (2, .ref a2), (3, .int x3), (4, .int x4)] [] (zE σ) (some (.int w.1), zE w.2)) (x3 : Int32) (x4 : Int32) (x5 : Int32) (σ : zS) (w : Int32 × zS) (h : fX8_valueOf_115 b0 a2 n2 r20 x3 x4 x5 σ = some w) : zR (zY0 sc) 3 0 0 mX8_valueOf 115 [(0, .ref (rp b0 + 11)), (2, .ref a2), (3, .int x3), (4, .int x4), (5, .int x5)] [] (zE σ) (some (.int w.1), zE w.2) := by
  unfold fX8_valueOf_115 at h
  refine kR.iload dX8_valueOf_115 4 rfl ?_
  refine zR.iconst (v := 5) dX8_valueOf_117 (by decide) ?_
  refine kR.icmp_ne (tgt := 134) dX8_valueOf_118 (by decide) h (fun h => ?_) (fun h => ?_)
  · refine kR.iload dX8_valueOf_134 4 rfl ?_
    refine zR.iconst (v := 3) dX8_valueOf_136 (by decide) ?_
    refine kR.icmp_eq (tgt := 164) dX8_valueOf_137 (by decide) h (fun h => ?_) (fun h => ?_)
    · refine zR.sub [0, 1, 2, 3] rfl ?_
      exact kX8_valueOf_164 b0 a2 n2 ha2 hna2 r20 hr20 _ _ _ _ h
    · refine kR.aload_n dX8_valueOf_140 0 rfl ?_
      obtain ⟨v11, σ9, e10, h⟩ := bnc_some h
      refine kR.cVi [] dX8_valueOf_141 rfl (by decide) mwX8_41 (zq11 b0) (by decide) rfl rfl (Nat.le_of_ble_eq_true rfl) (lX8_pop b0 σ _ e10) ?_
      refine zR.istore (i := 7) (ls' := [(7, .int v11), (0, .ref (rp b0 + 11)), (2, .ref a2), (3, .int x3), (4, .int x4), (5, .int x5)]) dX8_valueOf_144 (by decide) rfl ?_
      refine kR.aload_n dX8_valueOf_146 1 rfl ?_
      refine kR.iload dX8_valueOf_147 5 rfl ?_
      refine kR.aload_n dX8_valueOf_149 1 rfl ?_
      obtain ⟨v14, σ12, e13, h⟩ := bnc_some h
      refine kR.cVi [] dX8_valueOf_150 rfl (by decide) mwX8_41 (zq11 b0) (by decide) rfl rfl (Nat.le_of_ble_eq_true rfl) (lX8_pop b0 σ9 _ e13) ?_
      refine kR.iload dX8_valueOf_153 0 rfl ?_
      obtain ⟨v15, e16, h⟩ := bnr_some h
      refine kR.cSl [.int x5, .int v14, .int v11] dX8_valueOf_155 rfl (by decide) (Or.inl mwX8_51) rfl (Nat.le_of_ble_eq_true rfl) (lX8_joined x5 v14 v11 _ e16) ?_
      refine kR.cSi [.long v15] dX8_valueOf_158 rfl (by decide) (Or.inl mwX8_55) rfl (Nat.le_of_ble_eq_true rfl) (lX8_bounded v15) ?_
      obtain ⟨σ17, e18, h⟩ := bnr_some h
      refine kR.cVv [.int (fX8_bounded v15)] dX8_valueOf_161 rfl (by decide) mwX8_37 (zq11 b0) (by decide) rfl rfl (Nat.le_of_ble_eq_true rfl) (lX8_push b0 (fX8_bounded v15) σ12 _ e18) ?_
      refine zR.sub [1, 2, 3, 4] rfl ?_
      exact kX8_valueOf_164 b0 a2 n2 ha2 hna2 r20 hr20 _ _ _ _ h
  · refine kR.aload_n dX8_valueOf_121 0 rfl ?_
    refine zR.iconst (v := 1) dX8_valueOf_122 (by decide) ?_
    refine kR.aload_n dX8_valueOf_123 0 rfl ?_
    obtain ⟨v21, σ19, e20, h⟩ := bnc_some h
    refine kR.cVi [] dX8_valueOf_124 rfl (by decide) mwX8_41 (zq11 b0) (by decide) rfl rfl (Nat.le_of_ble_eq_true rfl) (lX8_pop b0 σ _ e20) ?_
    refine zR.isub dX8_valueOf_127 ?_
    obtain ⟨σ22, e23, h⟩ := bnr_some h
    refine kR.cVv [.int (1 - v21)] dX8_valueOf_128 rfl (by decide) mwX8_37 (zq11 b0) (by decide) rfl rfl (Nat.le_of_ble_eq_true rfl) (lX8_push b0 (1 - v21) σ19 _ e23) ?_
    refine zR.goto (tgt := 164) dX8_valueOf_131 (by decide) ?_
    refine zR.sub [0, 1, 2, 3] rfl ?_
    exact kX8_valueOf_164 b0 a2 n2 ha2 hna2 r20 hr20 _ _ _ _ h
def fX8_valueOf_20 (b0 : Bool) (a2 : Nat) (n2 : Nat) : Nat → Int32 → Int32 → zS → Option (Int32 × zS)
  | 0, _, _, _ => none
  | f + 1, x3, x4, σ => if x3 ≤ x4 then bnc (fX8_pop b0 σ) fun v6 σ4 => some (v6, σ4) else aI σ (rp b0 + 12) 1600 x4 fun v7 => aI σ (rp b0 + 12) 1600 x4 fun v8 => if (v7 - v7 / 64 * 64) = 1 then bnr (fX8_push b0 (v8 / 64) σ) fun σ30 => fX8_valueOf_164 b0 a2 n2 (fX8_valueOf_20 b0 a2 n2 f) x3 x4 σ30 else if (v7 - v7 / 64 * 64) = 2 then aI σ a2 n2 (v8 / 64) fun v27 => bnr (fX8_push b0 v27 σ) fun σ28 => fX8_valueOf_164 b0 a2 n2 (fX8_valueOf_20 b0 a2 n2 f) x3 x4 σ28 else if (v7 - v7 / 64 * 64) = 4 then fX8_valueOf_101 b0 a2 n2 (fX8_valueOf_20 b0 a2 n2 f) x3 x4 (v8 / 64) σ else if (v7 - v7 / 64 * 64) = 3 then bnc (fX8_pop b0 σ) fun v26 σ24 => if v26 = 0 then fX8_valueOf_101 b0 a2 n2 (fX8_valueOf_20 b0 a2 n2 f) x3 x4 (v8 / 64) σ24 else fX8_valueOf_115 b0 a2 n2 (fX8_valueOf_20 b0 a2 n2 f) x3 x4 (v7 - v7 / 64 * 64) σ24 else fX8_valueOf_115 b0 a2 n2 (fX8_valueOf_20 b0 a2 n2 f) x3 x4 (v7 - v7 / 64 * 64) σ
theorem kX8_valueOf_20 {sc : Nat × (Nat → Int32)} (b0 : Bool) (a2 : Nat) (n2 : Nat) (ha2 : ∀ σ, zAt (zY0 sc) (zE σ) a2 20) (hna2 : (zY0 sc).2.1 a2 = n2) : ∀ (fuel : Nat) (x3 : Int32) (x4 : Int32) (σ : zS) (w : Int32 × zS) (h : fX8_valueOf_20 b0 a2 n2 fuel x3 x4 σ = some w), zR (zY0 sc) 3 0 0 mX8_valueOf 20 [(0, .ref (rp b0 + 11)), (2, .ref a2), (3, .int x3), (4, .int x4)] [] (zE σ) (some (.int w.1), zE w.2) := by
  intro fuel
  induction fuel with
  | zero => intro x3 x4 σ w h; exact nomatch h
  | succ f ih =>
    intro x3 x4 σ w h
    rw [fX8_valueOf_20] at h
    refine kR.iload dX8_valueOf_20 3 rfl ?_
    refine kR.iload_n dX8_valueOf_22 2 rfl ?_
    refine kR.icmp_ge (tgt := 170) dX8_valueOf_23 (by decide) h (fun h => ?_) (fun h => ?_)
    · refine kR.aload_n dX8_valueOf_170 0 rfl ?_
      obtain ⟨v6, σ4, e5, h⟩ := bnc_some h
      refine kR.cVi [] dX8_valueOf_171 rfl (by decide) mwX8_41 (zq11 b0) (by decide) rfl rfl (Nat.le_of_ble_eq_true rfl) (lX8_pop b0 σ _ e5) ?_
      exact kR.iretW dX8_valueOf_174 (nzI rfl _) h
    · refine kR.aload_n dX8_valueOf_26 0 rfl ?_
      refine kR.getR (v := (rp b0 + 12)) dX8_valueOf_27 flX8_9 zcf8 (zq11 b0) (Or.inr ⟨_, rfl⟩) (zr11_0 _ b0) ?_
      refine kR.iload dX8_valueOf_30 3 rfl ?_
      refine kR.iald dX8_valueOf_32 (zq12 b0) (zl12 b0) h (fun v7 h => ?_)
      refine zR.bipush (v := 64) dX8_valueOf_33 (by decide) ?_
      refine zR.irem dX8_valueOf_35 (by decide) ?_
      refine zR.istore (i := 5) (ls' := [(5, .int (v7 - v7 / 64 * 64)), (0, .ref (rp b0 + 11)), (2, .ref a2), (3, .int x3), (4, .int x4)]) dX8_valueOf_36 (by decide) rfl ?_
      refine kR.aload_n dX8_valueOf_38 1 rfl ?_
      refine kR.getR (v := (rp b0 + 12)) dX8_valueOf_39 flX8_9 zcf8 (zq11 b0) (Or.inr ⟨_, rfl⟩) (zr11_0 _ b0) ?_
      refine kR.iload dX8_valueOf_42 4 rfl ?_
      refine kR.iald dX8_valueOf_44 (zq12 b0) (zl12 b0) h (fun v8 h => ?_)
      refine zR.bipush (v := 64) dX8_valueOf_45 (by decide) ?_
      refine zR.idiv dX8_valueOf_47 (by decide) ?_
      refine zR.istore (i := 6) (ls' := [(6, .int (v8 / 64)), (5, .int (v7 - v7 / 64 * 64)), (0, .ref (rp b0 + 11)), (2, .ref a2), (3, .int x3), (4, .int x4)]) dX8_valueOf_48 (by decide) rfl ?_
      refine kR.iload dX8_valueOf_50 1 rfl ?_
      refine zR.iconst (v := 1) dX8_valueOf_52 (by decide) ?_
      refine kR.icmp_ne (tgt := 65) dX8_valueOf_53 (by decide) h (fun h => ?_) (fun h => ?_)
      · refine kR.iload dX8_valueOf_65 1 rfl ?_
        refine zR.iconst (v := 2) dX8_valueOf_67 (by decide) ?_
        refine kR.icmp_ne (tgt := 82) dX8_valueOf_68 (by decide) h (fun h => ?_) (fun h => ?_)
        · refine kR.iload dX8_valueOf_82 1 rfl ?_
          refine zR.iconst (v := 4) dX8_valueOf_84 (by decide) ?_
          refine kR.icmp_eq (tgt := 101) dX8_valueOf_85 (by decide) h (fun h => ?_) (fun h => ?_)
          · refine zR.sub [2, 3, 4, 5, 0] rfl ?_
            exact kX8_valueOf_101 b0 a2 n2 ha2 hna2 (fX8_valueOf_20 b0 a2 n2 f) ih _ _ _ _ _ h
          · refine kR.iload dX8_valueOf_88 1 rfl ?_
            refine zR.iconst (v := 3) dX8_valueOf_90 (by decide) ?_
            refine kR.icmp_ne (tgt := 115) dX8_valueOf_91 (by decide) h (fun h => ?_) (fun h => ?_)
            · refine zR.sub [2, 3, 4, 5, 1] rfl ?_
              exact kX8_valueOf_115 b0 a2 n2 ha2 hna2 (fX8_valueOf_20 b0 a2 n2 f) ih _ _ _ _ _ h
            · refine kR.aload_n dX8_valueOf_94 2 rfl ?_
              obtain ⟨v26, σ24, e25, h⟩ := bnc_some h
              refine kR.cVi [] dX8_valueOf_95 rfl (by decide) mwX8_41 (zq11 b0) (by decide) rfl rfl (Nat.le_of_ble_eq_true rfl) (lX8_pop b0 σ _ e25) ?_
              refine kR.if_ne (tgt := 115) dX8_valueOf_98 (by decide) h (fun h => ?_) (fun h => ?_)
              · refine zR.sub [2, 3, 4, 5, 1] rfl ?_
                exact kX8_valueOf_115 b0 a2 n2 ha2 hna2 (fX8_valueOf_20 b0 a2 n2 f) ih _ _ _ _ _ h
              · refine zR.sub [2, 3, 4, 5, 0] rfl ?_
                exact kX8_valueOf_101 b0 a2 n2 ha2 hna2 (fX8_valueOf_20 b0 a2 n2 f) ih _ _ _ _ _ h
        · refine kR.aload_n dX8_valueOf_71 2 rfl ?_
          refine kR.aload_n dX8_valueOf_72 3 rfl ?_
          refine kR.iload dX8_valueOf_73 0 rfl ?_
          refine kR.iald dX8_valueOf_75 (ha2 _) hna2 h (fun v27 h => ?_)
          obtain ⟨σ28, e29, h⟩ := bnr_some h
          refine kR.cVv [.int v27] dX8_valueOf_76 rfl (by decide) mwX8_37 (zq11 b0) (by decide) rfl rfl (Nat.le_of_ble_eq_true rfl) (lX8_push b0 v27 σ _ e29) ?_
          refine zR.goto (tgt := 164) dX8_valueOf_79 (by decide) ?_
          refine zR.sub [2, 3, 4, 5] rfl ?_
          exact kX8_valueOf_164 b0 a2 n2 ha2 hna2 (fX8_valueOf_20 b0 a2 n2 f) ih _ _ _ _ h
      · refine kR.aload_n dX8_valueOf_56 2 rfl ?_
        refine kR.iload dX8_valueOf_57 0 rfl ?_
        obtain ⟨σ30, e31, h⟩ := bnr_some h
        refine kR.cVv [.int (v8 / 64)] dX8_valueOf_59 rfl (by decide) mwX8_37 (zq11 b0) (by decide) rfl rfl (Nat.le_of_ble_eq_true rfl) (lX8_push b0 (v8 / 64) σ _ e31) ?_
        refine zR.goto (tgt := 164) dX8_valueOf_62 (by decide) ?_
        refine zR.sub [2, 3, 4, 5] rfl ?_
        exact kX8_valueOf_164 b0 a2 n2 ha2 hna2 (fX8_valueOf_20 b0 a2 n2 f) ih _ _ _ _ h
def fX8_valueOf (b0 : Bool) (a2 : Nat) (n2 : Nat) (p1 : Int32) (σ : zS) : Option (Int32 × zS) := aI σ (rp b0 + 15) 2 p1 fun v1 => bnd (iS σ (rp b0 + 11) 2 0) fun σ2 => aI σ2 (rp b0 + 14) 2 p1 fun v3 => fX8_valueOf_20 b0 a2 n2 zF v1 v3 σ2
theorem eX8_valueOf {sc : Nat × (Nat → Int32)} (b0 : Bool) (a2 : Nat) (n2 : Nat) (ha2 : ∀ σ, zAt (zY0 sc) (zE σ) a2 20) (hna2 : (zY0 sc).2.1 a2 = n2) (p1 : Int32) (σ : zS) (w : Int32 × zS) (h : fX8_valueOf b0 a2 n2 p1 σ = some w) : zR (zY0 sc) 3 0 0 mX8_valueOf 0 [(0, .ref (rp b0 + 11)), (1, .int p1), (2, .ref a2)] [] (zE σ) (some (.int w.1), zE w.2) := by
  unfold fX8_valueOf at h
  refine kR.aload_n dX8_valueOf_0 0 rfl ?_
  refine kR.getR (v := (rp b0 + 15)) dX8_valueOf_1 flX8_28 zcf8 (zq11 b0) (Or.inr ⟨_, rfl⟩) (zr11_5 _ b0) ?_
  refine kR.iload_n dX8_valueOf_4 1 rfl ?_
  refine kR.iald dX8_valueOf_5 (zq15 b0) (zl15 b0) h (fun v1 h => ?_)
  refine zR.istore_n (i := 3) (ls' := [(3, .int v1), (0, .ref (rp b0 + 11)), (1, .int p1), (2, .ref a2)]) dX8_valueOf_6 rfl (by decide) rfl ?_
  refine kR.aload_n dX8_valueOf_7 1 rfl ?_
  refine zR.iconst (v := 0) dX8_valueOf_8 (by decide) ?_
  refine kR.putI dX8_valueOf_9 fpX8_18 zcf8 (zq11 b0) rfl h (fun σ2 h => ?_)
  refine kR.aload_n dX8_valueOf_12 1 rfl ?_
  refine kR.getR (v := (rp b0 + 14)) dX8_valueOf_13 flX8_25 zcf8 (zq11 b0) (Or.inr ⟨_, rfl⟩) (zr11_4 _ b0) ?_
  refine kR.iload_n dX8_valueOf_16 2 rfl ?_
  refine kR.iald dX8_valueOf_17 (zq14 b0) (zl14 b0) h (fun v3 h => ?_)
  refine zR.istore (i := 4) (ls' := [(4, .int v3), (3, .int v1), (0, .ref (rp b0 + 11)), (1, .int p1), (2, .ref a2)]) dX8_valueOf_18 (by decide) rfl ?_
  refine zR.sub [2, 4, 1, 0] rfl ?_
  exact kX8_valueOf_20 b0 a2 n2 ha2 hna2 zF _ _ _ _ h
theorem lX8_valueOf {sc : Nat × (Nat → Int32)} (b0 : Bool) (a2 : Nat) (n2 : Nat) (ha2 : ∀ σ, zAt (zY0 sc) (zE σ) a2 20) (hna2 : (zY0 sc).2.1 a2 = n2) (p1 : Int32) (σ : zS) (w : Int32 × zS) (h : fX8_valueOf b0 a2 n2 p1 σ = some w) : zC (zY0 sc) 3 0 0 mX8_valueOf [.ref (rp b0 + 11), .int p1, .ref a2] (zE σ) (some (.int w.1), zE w.2) := zC.of (by decide +kernel) (Nat.le_of_ble_eq_true rfl) ⟨_, rfl⟩ (eX8_valueOf b0 a2 n2 ha2 hna2 p1 σ w h)
theorem dX10_within_0 : decode cX10_within 0 = .ok (.iload_n 1, 1) := by decide +kernel
theorem dX10_within_1 : decode cX10_within 1 = .ok (.iload_n 2, 1) := by decide +kernel
theorem dX10_within_2 : decode cX10_within 2 = .ok (.iload_n 0, 1) := by decide +kernel
theorem dX10_within_3 : decode cX10_within 3 = .ok (.invokestatic 364, 3) := by decide +kernel
theorem dX10_within_6 : decode cX10_within 6 = .ok (.invokestatic 367, 3) := by decide +kernel
theorem dX10_within_9 : decode cX10_within 9 = .ok (.ireturn, 1) := by decide +kernel
def fX10_within (p0 : Int32) (p1 : Int32) (p2 : Int32) : Int32 := fJ9_max_7cf53 p1 (fJ9_min_7cf53 p2 p0)
theorem eX10_within {sc : Nat × (Nat → Int32)} {μ : zM} (p0 : Int32) (p1 : Int32) (p2 : Int32) (w : Int32) (h : fX10_within p0 p1 p2 = w) : zR (zY0 sc) 2 0 0 mX10_within 0 [(0, .int p0), (1, .int p1), (2, .int p2)] [] μ (some (.int w), μ) := by
  unfold fX10_within at h
  refine kR.iload_n dX10_within_0 1 rfl ?_
  refine kR.iload_n dX10_within_1 2 rfl ?_
  refine kR.iload_n dX10_within_2 0 rfl ?_
  refine kR.cSi [.int p2, .int p0] dX10_within_3 rfl (by decide) (Or.inl mwX10_364) rfl (Nat.le_of_ble_eq_true rfl) (lJ9_min_7cf53 p2 p0) ?_
  refine kR.cSi [.int p1, .int (fJ9_min_7cf53 p2 p0)] dX10_within_6 rfl (by decide) (Or.inl mwX10_367) rfl (Nat.le_of_ble_eq_true rfl) (lJ9_max_7cf53 p1 (fJ9_min_7cf53 p2 p0)) ?_
  exact kR.iret dX10_within_9 (nzI rfl _) h
theorem lX10_within {sc : Nat × (Nat → Int32)} {μ : zM} (p0 : Int32) (p1 : Int32) (p2 : Int32) : zC (zY0 sc) 2 0 0 mX10_within [.int p0, .int p1, .int p2] μ (some (.int (fX10_within p0 p1 p2)), μ) := zC.of (by decide +kernel) (Nat.le_of_ble_eq_true rfl) ⟨_, rfl⟩ (eX10_within p0 p1 p2 _ rfl)
theorem dX4_worthAmong_0 : decode cX4_worthAmong 0 = .ok (.aload_n 0, 1) := by decide +kernel
theorem dX4_worthAmong_1 : decode cX4_worthAmong 1 = .ok (.iload_n 1, 1) := by decide +kernel
theorem dX4_worthAmong_2 : decode cX4_worthAmong 2 = .ok (.iload_n 2, 1) := by decide +kernel
theorem dX4_worthAmong_3 : decode cX4_worthAmong 3 = .ok (.iload_n 3, 1) := by decide +kernel
theorem dX4_worthAmong_4 : decode cX4_worthAmong 4 = .ok (.invokevirtual 71, 3) := by decide +kernel
theorem dX4_worthAmong_7 : decode cX4_worthAmong 7 = .ok (.aload_n 0, 1) := by decide +kernel
theorem dX4_worthAmong_8 : decode cX4_worthAmong 8 = .ok (.getfield 22, 3) := by decide +kernel
theorem dX4_worthAmong_11 : decode cX4_worthAmong 11 = .ok (.getfield 58, 3) := by decide +kernel
theorem dX4_worthAmong_14 : decode cX4_worthAmong 14 = .ok (.iconst 0, 1) := by decide +kernel
theorem dX4_worthAmong_15 : decode cX4_worthAmong 15 = .ok (.aload_n 0, 1) := by decide +kernel
theorem dX4_worthAmong_16 : decode cX4_worthAmong 16 = .ok (.getfield 15, 3) := by decide +kernel
theorem dX4_worthAmong_19 : decode cX4_worthAmong 19 = .ok (.invokevirtual 64, 3) := by decide +kernel
theorem dX4_worthAmong_22 : decode cX4_worthAmong 22 = .ok (.sipush (-999), 3) := by decide +kernel
theorem dX4_worthAmong_25 : decode cX4_worthAmong 25 = .ok (.sipush 999, 3) := by decide +kernel
theorem dX4_worthAmong_28 : decode cX4_worthAmong 28 = .ok (.invokestatic 68, 3) := by decide +kernel
theorem dX4_worthAmong_31 : decode cX4_worthAmong 31 = .ok (.ireturn, 1) := by decide +kernel
def fX4_worthAmong (p1 : Int32) (p2 : Int32) (p3 : Int32) (σ : zS) : Option (Int32 × zS) := bnr (fX4_tellAmong p1 p2 p3 σ) fun σ1 => bnc (fX8_valueOf σ1.2.2.2.1 26 7 0 σ1) fun v5 σ3 => some (fX10_within v5 ((-999)) 999, σ3)
theorem eX4_worthAmong {sc : Nat × (Nat → Int32)} (p1 : Int32) (p2 : Int32) (p3 : Int32) (σ : zS) (w : Int32 × zS) (h : fX4_worthAmong p1 p2 p3 σ = some w) : zR (zY0 sc) 4 0 0 mX4_worthAmong 0 [(0, .ref 8), (1, .int p1), (2, .int p2), (3, .int p3)] [] (zE σ) (some (.int w.1), zE w.2) := by
  unfold fX4_worthAmong at h
  refine kR.aload_n dX4_worthAmong_0 0 rfl ?_
  refine kR.iload_n dX4_worthAmong_1 1 rfl ?_
  refine kR.iload_n dX4_worthAmong_2 2 rfl ?_
  refine kR.iload_n dX4_worthAmong_3 3 rfl ?_
  obtain ⟨σ1, e2, h⟩ := bnr_some h
  refine kR.cVv [.int p1, .int p2, .int p3] dX4_worthAmong_4 rfl (by decide) mwX4_71 zp8 (by decide) rfl rfl (Nat.le_of_ble_eq_true rfl) (lX4_tellAmong p1 p2 p3 σ _ e2) ?_
  refine kR.aload_n dX4_worthAmong_7 0 rfl ?_
  refine kR.getR (v := (rp σ1.2.2.2.1 + 0)) dX4_worthAmong_8 flX4_22 zcf4 zp8 (Or.inl ⟨_, rfl⟩) rfl ?_
  refine kR.getR (v := (rp σ1.2.2.2.1 + 11)) dX4_worthAmong_11 flX4_58 zcf6 (zq0 σ1.2.2.2.1) (Or.inl ⟨_, rfl⟩) (zr0_15 _ σ1.2.2.2.1) ?_
  refine zR.iconst (v := 0) dX4_worthAmong_14 (by decide) ?_
  refine kR.aload_n dX4_worthAmong_15 0 rfl ?_
  refine kR.getR (v := 26) dX4_worthAmong_16 flX4_15 zcf4 zp8 (Or.inr ⟨_, rfl⟩) rfl ?_
  obtain ⟨v5, σ3, e4, h⟩ := bnc_some h
  refine kR.cVi [.int 0, .ref 26] dX4_worthAmong_19 rfl (by decide) mwX4_64 (zq11 σ1.2.2.2.1) (by decide) rfl rfl (Nat.le_of_ble_eq_true rfl) (lX8_valueOf σ1.2.2.2.1 26 7 (fun _ => zp26) rfl 0 σ1 _ e4) ?_
  refine zR.sipush (v := (-999)) dX4_worthAmong_22 (by decide) ?_
  refine zR.sipush (v := 999) dX4_worthAmong_25 (by decide) ?_
  refine kR.cSi [.int v5, .int ((-999)), .int 999] dX4_worthAmong_28 rfl (by decide) (Or.inr mwX4_68) rfl (Nat.le_of_ble_eq_true rfl) (lX10_within v5 ((-999)) 999) ?_
  exact kR.iretW dX4_worthAmong_31 (nzI rfl _) h
theorem lX4_worthAmong {sc : Nat × (Nat → Int32)} (p1 : Int32) (p2 : Int32) (p3 : Int32) (σ : zS) (w : Int32 × zS) (h : fX4_worthAmong p1 p2 p3 σ = some w) : zC (zY0 sc) 4 0 0 mX4_worthAmong [.ref 8, .int p1, .int p2, .int p3] (zE σ) (some (.int w.1), zE w.2) := zC.of (by decide +kernel) (Nat.le_of_ble_eq_true rfl) ⟨_, rfl⟩ (eX4_worthAmong p1 p2 p3 σ w h)
theorem dX10_worth_0 : decode cX10_worth 0 = .ok (.aload_n 0, 1) := by decide +kernel
theorem dX10_worth_1 : decode cX10_worth 1 = .ok (.getfield 38, 3) := by decide +kernel
theorem dX10_worth_4 : decode cX10_worth 4 = .ok (.getfield 111, 3) := by decide +kernel
theorem dX10_worth_7 : decode cX10_worth 7 = .ok (.iload_n 1, 1) := by decide +kernel
theorem dX10_worth_8 : decode cX10_worth 8 = .ok (.iload_n 2, 1) := by decide +kernel
theorem dX10_worth_9 : decode cX10_worth 9 = .ok (.invokevirtual 202, 3) := by decide +kernel
theorem dX10_worth_12 : decode cX10_worth 12 = .ok (.ifCond .eq 10, 3) := by decide +kernel
theorem dX10_worth_15 : decode cX10_worth 15 = .ok (.iload_n 3, 1) := by decide +kernel
theorem dX10_worth_16 : decode cX10_worth 16 = .ok (.invokestatic 206, 3) := by decide +kernel
theorem dX10_worth_19 : decode cX10_worth 19 = .ok (.ifCond .ne 6, 3) := by decide +kernel
theorem dX10_worth_22 : decode cX10_worth 22 = .ok (.ldc 197, 2) := by decide +kernel
theorem dX10_worth_24 : decode cX10_worth 24 = .ok (.ireturn, 1) := by decide +kernel
theorem dX10_worth_25 : decode cX10_worth 25 = .ok (.aload_n 0, 1) := by decide +kernel
theorem dX10_worth_26 : decode cX10_worth 26 = .ok (.getfield 38, 3) := by decide +kernel
theorem dX10_worth_29 : decode cX10_worth 29 = .ok (.iload_n 2, 1) := by decide +kernel
theorem dX10_worth_30 : decode cX10_worth 30 = .ok (.iload_n 3, 1) := by decide +kernel
theorem dX10_worth_31 : decode cX10_worth 31 = .ok (.invokevirtual 213, 3) := by decide +kernel
theorem dX10_worth_34 : decode cX10_worth 34 = .ok (.aload_n 0, 1) := by decide +kernel
theorem dX10_worth_35 : decode cX10_worth 35 = .ok (.getfield 38, 3) := by decide +kernel
theorem dX10_worth_38 : decode cX10_worth 38 = .ok (.iload_n 1, 1) := by decide +kernel
theorem dX10_worth_39 : decode cX10_worth 39 = .ok (.iload_n 2, 1) := by decide +kernel
theorem dX10_worth_40 : decode cX10_worth 40 = .ok (.iload_n 3, 1) := by decide +kernel
theorem dX10_worth_41 : decode cX10_worth 41 = .ok (.invokevirtual 217, 3) := by decide +kernel
theorem dX10_worth_44 : decode cX10_worth 44 = .ok (.ireturn, 1) := by decide +kernel
def fX10_worth (p1 : Int32) (p2 : Int32) (p3 : Int32) (σ : zS) : Option (Int32 × zS) := if (fX6_hasBoth σ.2.2.2.1 σ p1 p2) = 0 then some ((-1000000000), σ) else if (fX10_isLength p3) = 0 then some ((-1000000000), σ) else bnr (fX4_allHold p2 p3 σ) fun σ1 => bnc (fX4_worthAmong p1 p2 p3 σ1) fun v5 σ3 => some (v5, σ3)
theorem eX10_worth {sc : Nat × (Nat → Int32)} (p1 : Int32) (p2 : Int32) (p3 : Int32) (σ : zS) (w : Int32 × zS) (h : fX10_worth p1 p2 p3 σ = some w) : zR (zY0 sc) 5 0 0 mX10_worth 0 [(0, .ref 1), (1, .int p1), (2, .int p2), (3, .int p3)] [] (zE σ) (some (.int w.1), zE w.2) := by
  unfold fX10_worth at h
  refine kR.aload_n dX10_worth_0 0 rfl ?_
  refine kR.getR (v := 8) dX10_worth_1 flX10_38 zcf10 zp1 (Or.inl ⟨_, rfl⟩) rfl ?_
  refine kR.getR (v := (rp σ.2.2.2.1 + 0)) dX10_worth_4 flX10_111 zcf4 zp8 (Or.inl ⟨_, rfl⟩) rfl ?_
  refine kR.iload_n dX10_worth_7 1 rfl ?_
  refine kR.iload_n dX10_worth_8 2 rfl ?_
  refine kR.cVi [.int p1, .int p2] dX10_worth_9 rfl (by decide) mwX10_202 (zq0 σ.2.2.2.1) (by decide) rfl rfl (Nat.le_of_ble_eq_true rfl) (lX6_hasBoth σ.2.2.2.1 σ p1 p2) ?_
  refine kR.if_eq (tgt := 22) dX10_worth_12 (by decide) h (fun h => ?_) (fun h => ?_)
  · refine zR.ldc (v := (-1000000000)) dX10_worth_22 ciX10_197 ?_
    exact kR.iretW dX10_worth_24 (nzI rfl _) h
  · refine kR.iload_n dX10_worth_15 3 rfl ?_
    refine kR.cSi [.int p3] dX10_worth_16 rfl (by decide) (Or.inl mwX10_206) rfl (Nat.le_of_ble_eq_true rfl) (lX10_isLength p3) ?_
    refine kR.if_ne (tgt := 25) dX10_worth_19 (by decide) h (fun h => ?_) (fun h => ?_)
    · refine kR.aload_n dX10_worth_25 0 rfl ?_
      refine kR.getR (v := 8) dX10_worth_26 flX10_38 zcf10 zp1 (Or.inl ⟨_, rfl⟩) rfl ?_
      refine kR.iload_n dX10_worth_29 2 rfl ?_
      refine kR.iload_n dX10_worth_30 3 rfl ?_
      obtain ⟨σ1, e2, h⟩ := bnr_some h
      refine kR.cVv [.int p2, .int p3] dX10_worth_31 rfl (by decide) mwX10_213 zp8 (by decide) rfl rfl (Nat.le_of_ble_eq_true rfl) (lX4_allHold p2 p3 σ _ e2) ?_
      refine kR.aload_n dX10_worth_34 0 rfl ?_
      refine kR.getR (v := 8) dX10_worth_35 flX10_38 zcf10 zp1 (Or.inl ⟨_, rfl⟩) rfl ?_
      refine kR.iload_n dX10_worth_38 1 rfl ?_
      refine kR.iload_n dX10_worth_39 2 rfl ?_
      refine kR.iload_n dX10_worth_40 3 rfl ?_
      obtain ⟨v5, σ3, e4, h⟩ := bnc_some h
      refine kR.cVi [.int p1, .int p2, .int p3] dX10_worth_41 rfl (by decide) mwX10_217 zp8 (by decide) rfl rfl (Nat.le_of_ble_eq_true rfl) (lX4_worthAmong p1 p2 p3 σ1 _ e4) ?_
      exact kR.iretW dX10_worth_44 (nzI rfl _) h
    · refine zR.ldc (v := (-1000000000)) dX10_worth_22 ciX10_197 ?_
      exact kR.iretW dX10_worth_24 (nzI rfl _) h
theorem lX10_worth {sc : Nat × (Nat → Int32)} (p1 : Int32) (p2 : Int32) (p3 : Int32) (σ : zS) (w : Int32 × zS) (h : fX10_worth p1 p2 p3 σ = some w) : zC (zY0 sc) 5 0 0 mX10_worth [.ref 1, .int p1, .int p2, .int p3] (zE σ) (some (.int w.1), zE w.2) := zC.of (by decide +kernel) (Nat.le_of_ble_eq_true rfl) ⟨_, rfl⟩ (eX10_worth p1 p2 p3 σ w h)
theorem dX4_tiredAlone_0 : decode cX4_tiredAlone 0 = .ok (.aload_n 0, 1) := by decide +kernel
theorem dX4_tiredAlone_1 : decode cX4_tiredAlone 1 = .ok (.getfield 22, 3) := by decide +kernel
theorem dX4_tiredAlone_4 : decode cX4_tiredAlone 4 = .ok (.getfield 58, 3) := by decide +kernel
theorem dX4_tiredAlone_7 : decode cX4_tiredAlone 7 = .ok (.iconst 1, 1) := by decide +kernel
theorem dX4_tiredAlone_8 : decode cX4_tiredAlone 8 = .ok (.invokevirtual 75, 3) := by decide +kernel
theorem dX4_tiredAlone_11 : decode cX4_tiredAlone 11 = .ok (.ifCond .ne 6, 3) := by decide +kernel
theorem dX4_tiredAlone_14 : decode cX4_tiredAlone 14 = .ok (.iload 4, 2) := by decide +kernel
theorem dX4_tiredAlone_16 : decode cX4_tiredAlone 16 = .ok (.ireturn, 1) := by decide +kernel
theorem dX4_tiredAlone_17 : decode cX4_tiredAlone 17 = .ok (.aload_n 0, 1) := by decide +kernel
theorem dX4_tiredAlone_18 : decode cX4_tiredAlone 18 = .ok (.iload_n 1, 1) := by decide +kernel
theorem dX4_tiredAlone_19 : decode cX4_tiredAlone 19 = .ok (.iload_n 2, 1) := by decide +kernel
theorem dX4_tiredAlone_20 : decode cX4_tiredAlone 20 = .ok (.iload_n 3, 1) := by decide +kernel
theorem dX4_tiredAlone_21 : decode cX4_tiredAlone 21 = .ok (.iload 4, 2) := by decide +kernel
theorem dX4_tiredAlone_23 : decode cX4_tiredAlone 23 = .ok (.invokevirtual 54, 3) := by decide +kernel
theorem dX4_tiredAlone_26 : decode cX4_tiredAlone 26 = .ok (.aload_n 0, 1) := by decide +kernel
theorem dX4_tiredAlone_27 : decode cX4_tiredAlone 27 = .ok (.getfield 22, 3) := by decide +kernel
theorem dX4_tiredAlone_30 : decode cX4_tiredAlone 30 = .ok (.getfield 58, 3) := by decide +kernel
theorem dX4_tiredAlone_33 : decode cX4_tiredAlone 33 = .ok (.iconst 1, 1) := by decide +kernel
theorem dX4_tiredAlone_34 : decode cX4_tiredAlone 34 = .ok (.aload_n 0, 1) := by decide +kernel
theorem dX4_tiredAlone_35 : decode cX4_tiredAlone 35 = .ok (.getfield 15, 3) := by decide +kernel
theorem dX4_tiredAlone_38 : decode cX4_tiredAlone 38 = .ok (.invokevirtual 64, 3) := by decide +kernel
theorem dX4_tiredAlone_41 : decode cX4_tiredAlone 41 = .ok (.iconst 0, 1) := by decide +kernel
theorem dX4_tiredAlone_42 : decode cX4_tiredAlone 42 = .ok (.bipush 60, 2) := by decide +kernel
theorem dX4_tiredAlone_44 : decode cX4_tiredAlone 44 = .ok (.invokestatic 68, 3) := by decide +kernel
theorem dX4_tiredAlone_47 : decode cX4_tiredAlone 47 = .ok (.ireturn, 1) := by decide +kernel
def fX4_tiredAlone (p1 : Int32) (p2 : Int32) (p3 : Int32) (p4 : Int32) (σ : zS) : Option (Int32 × zS) := bnr (fX8_isTold σ.2.2.2.1 σ 1) fun v1 => if v1 = 0 then some (p4, σ) else bnr (fX4_tellAlone p1 p2 p3 p4 σ) fun σ3 => bnc (fX8_valueOf σ3.2.2.2.1 26 7 1 σ3) fun v7 σ5 => some (fX10_within v7 0 60, σ5)
theorem eX4_tiredAlone {sc : Nat × (Nat → Int32)} (p1 : Int32) (p2 : Int32) (p3 : Int32) (p4 : Int32) (σ : zS) (w : Int32 × zS) (h : fX4_tiredAlone p1 p2 p3 p4 σ = some w) : zR (zY0 sc) 4 0 0 mX4_tiredAlone 0 [(0, .ref 8), (1, .int p1), (2, .int p2), (3, .int p3), (4, .int p4)] [] (zE σ) (some (.int w.1), zE w.2) := by
  unfold fX4_tiredAlone at h
  refine kR.aload_n dX4_tiredAlone_0 0 rfl ?_
  refine kR.getR (v := (rp σ.2.2.2.1 + 0)) dX4_tiredAlone_1 flX4_22 zcf4 zp8 (Or.inl ⟨_, rfl⟩) rfl ?_
  refine kR.getR (v := (rp σ.2.2.2.1 + 11)) dX4_tiredAlone_4 flX4_58 zcf6 (zq0 σ.2.2.2.1) (Or.inl ⟨_, rfl⟩) (zr0_15 _ σ.2.2.2.1) ?_
  refine zR.iconst (v := 1) dX4_tiredAlone_7 (by decide) ?_
  obtain ⟨v1, e2, h⟩ := bnr_some h
  refine kR.cVi [.int 1] dX4_tiredAlone_8 rfl (by decide) mwX4_75 (zq11 σ.2.2.2.1) (by decide) rfl rfl (Nat.le_of_ble_eq_true rfl) (lX8_isTold σ.2.2.2.1 σ 1 _ e2) ?_
  refine kR.if_ne (tgt := 17) dX4_tiredAlone_11 (by decide) h (fun h => ?_) (fun h => ?_)
  · refine kR.aload_n dX4_tiredAlone_17 0 rfl ?_
    refine kR.iload_n dX4_tiredAlone_18 1 rfl ?_
    refine kR.iload_n dX4_tiredAlone_19 2 rfl ?_
    refine kR.iload_n dX4_tiredAlone_20 3 rfl ?_
    refine kR.iload dX4_tiredAlone_21 4 rfl ?_
    obtain ⟨σ3, e4, h⟩ := bnr_some h
    refine kR.cVv [.int p1, .int p2, .int p3, .int p4] dX4_tiredAlone_23 rfl (by decide) mwX4_54 zp8 (by decide) rfl rfl (Nat.le_of_ble_eq_true rfl) (lX4_tellAlone p1 p2 p3 p4 σ _ e4) ?_
    refine kR.aload_n dX4_tiredAlone_26 0 rfl ?_
    refine kR.getR (v := (rp σ3.2.2.2.1 + 0)) dX4_tiredAlone_27 flX4_22 zcf4 zp8 (Or.inl ⟨_, rfl⟩) rfl ?_
    refine kR.getR (v := (rp σ3.2.2.2.1 + 11)) dX4_tiredAlone_30 flX4_58 zcf6 (zq0 σ3.2.2.2.1) (Or.inl ⟨_, rfl⟩) (zr0_15 _ σ3.2.2.2.1) ?_
    refine zR.iconst (v := 1) dX4_tiredAlone_33 (by decide) ?_
    refine kR.aload_n dX4_tiredAlone_34 0 rfl ?_
    refine kR.getR (v := 26) dX4_tiredAlone_35 flX4_15 zcf4 zp8 (Or.inr ⟨_, rfl⟩) rfl ?_
    obtain ⟨v7, σ5, e6, h⟩ := bnc_some h
    refine kR.cVi [.int 1, .ref 26] dX4_tiredAlone_38 rfl (by decide) mwX4_64 (zq11 σ3.2.2.2.1) (by decide) rfl rfl (Nat.le_of_ble_eq_true rfl) (lX8_valueOf σ3.2.2.2.1 26 7 (fun _ => zp26) rfl 1 σ3 _ e6) ?_
    refine zR.iconst (v := 0) dX4_tiredAlone_41 (by decide) ?_
    refine zR.bipush (v := 60) dX4_tiredAlone_42 (by decide) ?_
    refine kR.cSi [.int v7, .int 0, .int 60] dX4_tiredAlone_44 rfl (by decide) (Or.inr mwX4_68) rfl (Nat.le_of_ble_eq_true rfl) (lX10_within v7 0 60) ?_
    exact kR.iretW dX4_tiredAlone_47 (nzI rfl _) h
  · refine kR.iload dX4_tiredAlone_14 4 rfl ?_
    exact kR.iretW dX4_tiredAlone_16 (nzI rfl _) h
theorem lX4_tiredAlone {sc : Nat × (Nat → Int32)} (p1 : Int32) (p2 : Int32) (p3 : Int32) (p4 : Int32) (σ : zS) (w : Int32 × zS) (h : fX4_tiredAlone p1 p2 p3 p4 σ = some w) : zC (zY0 sc) 4 0 0 mX4_tiredAlone [.ref 8, .int p1, .int p2, .int p3, .int p4] (zE σ) (some (.int w.1), zE w.2) := zC.of (by decide +kernel) (Nat.le_of_ble_eq_true rfl) ⟨_, rfl⟩ (eX4_tiredAlone p1 p2 p3 p4 σ w h)
theorem dX10_tired_0 : decode cX10_tired 0 = .ok (.aload_n 0, 1) := by decide +kernel
theorem dX10_tired_1 : decode cX10_tired 1 = .ok (.getfield 38, 3) := by decide +kernel
theorem dX10_tired_4 : decode cX10_tired 4 = .ok (.getfield 111, 3) := by decide +kernel
theorem dX10_tired_7 : decode cX10_tired 7 = .ok (.iload_n 1, 1) := by decide +kernel
theorem dX10_tired_8 : decode cX10_tired 8 = .ok (.iload_n 2, 1) := by decide +kernel
theorem dX10_tired_9 : decode cX10_tired 9 = .ok (.invokevirtual 202, 3) := by decide +kernel
theorem dX10_tired_12 : decode cX10_tired 12 = .ok (.ifCond .eq 10, 3) := by decide +kernel
theorem dX10_tired_15 : decode cX10_tired 15 = .ok (.iload_n 3, 1) := by decide +kernel
theorem dX10_tired_16 : decode cX10_tired 16 = .ok (.invokestatic 206, 3) := by decide +kernel
theorem dX10_tired_19 : decode cX10_tired 19 = .ok (.ifCond .ne 5, 3) := by decide +kernel
theorem dX10_tired_22 : decode cX10_tired 22 = .ok (.iconst (-1), 1) := by decide +kernel
theorem dX10_tired_23 : decode cX10_tired 23 = .ok (.ireturn, 1) := by decide +kernel
theorem dX10_tired_24 : decode cX10_tired 24 = .ok (.iload 4, 2) := by decide +kernel
theorem dX10_tired_26 : decode cX10_tired 26 = .ok (.ifCond .lt 9, 3) := by decide +kernel
theorem dX10_tired_29 : decode cX10_tired 29 = .ok (.iload 4, 2) := by decide +kernel
theorem dX10_tired_31 : decode cX10_tired 31 = .ok (.iload_n 3, 1) := by decide +kernel
theorem dX10_tired_32 : decode cX10_tired 32 = .ok (.if_icmp .le 5, 3) := by decide +kernel
theorem dX10_tired_35 : decode cX10_tired 35 = .ok (.iconst (-1), 1) := by decide +kernel
theorem dX10_tired_36 : decode cX10_tired 36 = .ok (.ireturn, 1) := by decide +kernel
theorem dX10_tired_37 : decode cX10_tired 37 = .ok (.aload_n 0, 1) := by decide +kernel
theorem dX10_tired_38 : decode cX10_tired 38 = .ok (.getfield 38, 3) := by decide +kernel
theorem dX10_tired_41 : decode cX10_tired 41 = .ok (.iload_n 2, 1) := by decide +kernel
theorem dX10_tired_42 : decode cX10_tired 42 = .ok (.iload_n 3, 1) := by decide +kernel
theorem dX10_tired_43 : decode cX10_tired 43 = .ok (.iload 4, 2) := by decide +kernel
theorem dX10_tired_45 : decode cX10_tired 45 = .ok (.aload_n 0, 1) := by decide +kernel
theorem dX10_tired_46 : decode cX10_tired 46 = .ok (.getfield 19, 3) := by decide +kernel
theorem dX10_tired_49 : decode cX10_tired 49 = .ok (.iload_n 1, 1) := by decide +kernel
theorem dX10_tired_50 : decode cX10_tired 50 = .ok (.invokevirtual 182, 3) := by decide +kernel
theorem dX10_tired_53 : decode cX10_tired 53 = .ok (.invokevirtual 220, 3) := by decide +kernel
theorem dX10_tired_56 : decode cX10_tired 56 = .ok (.ireturn, 1) := by decide +kernel
def fX10_tired (p1 : Int32) (p2 : Int32) (p3 : Int32) (p4 : Int32) (σ : zS) : Option (Int32 × zS) := if (fX6_hasBoth σ.2.2.2.1 σ p1 p2) = 0 then some ((-1), σ) else if (fX10_isLength p3) = 0 then some ((-1), σ) else if p4 < 0 then some ((-1), σ) else if p4 ≤ p3 then bnr (fX7_breathOf σ p1) fun v1 => bnc (fX4_tiredAlone p2 p3 p4 v1 σ) fun v5 σ3 => some (v5, σ3) else some ((-1), σ)
theorem eX10_tired {sc : Nat × (Nat → Int32)} (p1 : Int32) (p2 : Int32) (p3 : Int32) (p4 : Int32) (σ : zS) (w : Int32 × zS) (h : fX10_tired p1 p2 p3 p4 σ = some w) : zR (zY0 sc) 5 0 0 mX10_tired 0 [(0, .ref 1), (1, .int p1), (2, .int p2), (3, .int p3), (4, .int p4)] [] (zE σ) (some (.int w.1), zE w.2) := by
  unfold fX10_tired at h
  refine kR.aload_n dX10_tired_0 0 rfl ?_
  refine kR.getR (v := 8) dX10_tired_1 flX10_38 zcf10 zp1 (Or.inl ⟨_, rfl⟩) rfl ?_
  refine kR.getR (v := (rp σ.2.2.2.1 + 0)) dX10_tired_4 flX10_111 zcf4 zp8 (Or.inl ⟨_, rfl⟩) rfl ?_
  refine kR.iload_n dX10_tired_7 1 rfl ?_
  refine kR.iload_n dX10_tired_8 2 rfl ?_
  refine kR.cVi [.int p1, .int p2] dX10_tired_9 rfl (by decide) mwX10_202 (zq0 σ.2.2.2.1) (by decide) rfl rfl (Nat.le_of_ble_eq_true rfl) (lX6_hasBoth σ.2.2.2.1 σ p1 p2) ?_
  refine kR.if_eq (tgt := 22) dX10_tired_12 (by decide) h (fun h => ?_) (fun h => ?_)
  · refine zR.iconst (v := (-1)) dX10_tired_22 (by decide) ?_
    exact kR.iretW dX10_tired_23 (nzI rfl _) h
  · refine kR.iload_n dX10_tired_15 3 rfl ?_
    refine kR.cSi [.int p3] dX10_tired_16 rfl (by decide) (Or.inl mwX10_206) rfl (Nat.le_of_ble_eq_true rfl) (lX10_isLength p3) ?_
    refine kR.if_ne (tgt := 24) dX10_tired_19 (by decide) h (fun h => ?_) (fun h => ?_)
    · refine kR.iload dX10_tired_24 4 rfl ?_
      refine kR.if_lt (tgt := 35) dX10_tired_26 (by decide) h (fun h => ?_) (fun h => ?_)
      · refine zR.iconst (v := (-1)) dX10_tired_35 (by decide) ?_
        exact kR.iretW dX10_tired_36 (nzI rfl _) h
      · refine kR.iload dX10_tired_29 4 rfl ?_
        refine kR.iload_n dX10_tired_31 3 rfl ?_
        refine kR.icmp_le (tgt := 37) dX10_tired_32 (by decide) h (fun h => ?_) (fun h => ?_)
        · refine kR.aload_n dX10_tired_37 0 rfl ?_
          refine kR.getR (v := 8) dX10_tired_38 flX10_38 zcf10 zp1 (Or.inl ⟨_, rfl⟩) rfl ?_
          refine kR.iload_n dX10_tired_41 2 rfl ?_
          refine kR.iload_n dX10_tired_42 3 rfl ?_
          refine kR.iload dX10_tired_43 4 rfl ?_
          refine kR.aload_n dX10_tired_45 0 rfl ?_
          refine kR.getR (v := 4) dX10_tired_46 flX10_19 zcf10 zp1 (Or.inl ⟨_, rfl⟩) rfl ?_
          refine kR.iload_n dX10_tired_49 1 rfl ?_
          obtain ⟨v1, e2, h⟩ := bnr_some h
          refine kR.cVi [.int p1] dX10_tired_50 rfl (by decide) mwX10_182 zp4 (by decide) rfl rfl (Nat.le_of_ble_eq_true rfl) (lX7_breathOf σ p1 _ e2) ?_
          obtain ⟨v5, σ3, e4, h⟩ := bnc_some h
          refine kR.cVi [.int p2, .int p3, .int p4, .int v1] dX10_tired_53 rfl (by decide) mwX10_220 zp8 (by decide) rfl rfl (Nat.le_of_ble_eq_true rfl) (lX4_tiredAlone p2 p3 p4 v1 σ _ e4) ?_
          exact kR.iretW dX10_tired_56 (nzI rfl _) h
        · refine zR.iconst (v := (-1)) dX10_tired_35 (by decide) ?_
          exact kR.iretW dX10_tired_36 (nzI rfl _) h
    · refine zR.iconst (v := (-1)) dX10_tired_22 (by decide) ?_
      exact kR.iretW dX10_tired_23 (nzI rfl _) h
theorem lX10_tired {sc : Nat × (Nat → Int32)} (p1 : Int32) (p2 : Int32) (p3 : Int32) (p4 : Int32) (σ : zS) (w : Int32 × zS) (h : fX10_tired p1 p2 p3 p4 σ = some w) : zC (zY0 sc) 5 0 0 mX10_tired [.ref 1, .int p1, .int p2, .int p3, .int p4] (zE σ) (some (.int w.1), zE w.2) := zC.of (by decide +kernel) (Nat.le_of_ble_eq_true rfl) ⟨_, rfl⟩ (eX10_tired p1 p2 p3 p4 σ w h)
theorem dJ7_fill_d0a16_0 : decode cJ7_fill_d0a16 0 = .ok (.iconst 0, 1) := by decide +kernel
theorem dJ7_fill_d0a16_1 : decode cJ7_fill_d0a16 1 = .ok (.istore_n 3, 1) := by decide +kernel
theorem dJ7_fill_d0a16_2 : decode cJ7_fill_d0a16 2 = .ok (.aload_n 0, 1) := by decide +kernel
theorem dJ7_fill_d0a16_3 : decode cJ7_fill_d0a16 3 = .ok (.arraylength, 1) := by decide +kernel
theorem dJ7_fill_d0a16_4 : decode cJ7_fill_d0a16 4 = .ok (.istore 4, 2) := by decide +kernel
theorem dJ7_fill_d0a16_6 : decode cJ7_fill_d0a16 6 = .ok (.iload_n 3, 1) := by decide +kernel
theorem dJ7_fill_d0a16_7 : decode cJ7_fill_d0a16 7 = .ok (.iload 4, 2) := by decide +kernel
theorem dJ7_fill_d0a16_9 : decode cJ7_fill_d0a16 9 = .ok (.if_icmp .ge 13, 3) := by decide +kernel
theorem dJ7_fill_d0a16_12 : decode cJ7_fill_d0a16 12 = .ok (.aload_n 0, 1) := by decide +kernel
theorem dJ7_fill_d0a16_13 : decode cJ7_fill_d0a16 13 = .ok (.iload_n 3, 1) := by decide +kernel
theorem dJ7_fill_d0a16_14 : decode cJ7_fill_d0a16 14 = .ok (.lload_n 1, 1) := by decide +kernel
theorem dJ7_fill_d0a16_15 : decode cJ7_fill_d0a16 15 = .ok (.lastore, 1) := by decide +kernel
theorem dJ7_fill_d0a16_16 : decode cJ7_fill_d0a16 16 = .ok (.iinc 3 1, 3) := by decide +kernel
theorem dJ7_fill_d0a16_19 : decode cJ7_fill_d0a16 19 = .ok (.goto (-13), 3) := by decide +kernel
theorem dJ7_fill_d0a16_22 : decode cJ7_fill_d0a16 22 = .ok (.return_, 1) := by decide +kernel
def fJ7_fill_d0a16_6 (a0 : Nat) (n0 : Nat) : Nat → Int64 → Int32 → Int32 → zS → Option zS
  | 0, _, _, _, _ => none
  | f + 1, x1, x3, x4, σ => if x4 ≤ x3 then some σ else wL σ a0 n0 x3 x1 fun σ1 => fJ7_fill_d0a16_6 a0 n0 f x1 (x3 + 1) x4 σ1
theorem kJ7_fill_d0a16_6 {sc : Nat × (Nat → Int32)} (a0 : Nat) (n0 : Nat) (ha0 : ∀ σ, zAt (zY0 sc) (zE σ) a0 21) (hna0 : (zY0 sc).2.1 a0 = n0) : ∀ (fuel : Nat) (x1 : Int64) (x3 : Int32) (x4 : Int32) (σ : zS) (w : zS) (h : fJ7_fill_d0a16_6 a0 n0 fuel x1 x3 x4 σ = some w), zR (zY0 sc) 1 0 0 mJ7_fill_d0a16 6 [(0, .ref a0), (1, .long x1), (3, .int x3), (4, .int x4)] [] (zE σ) (none, zE w) := by
  intro fuel
  induction fuel with
  | zero => intro x1 x3 x4 σ w h; exact nomatch h
  | succ f ih =>
    intro x1 x3 x4 σ w h
    rw [fJ7_fill_d0a16_6] at h
    refine kR.iload_n dJ7_fill_d0a16_6 2 rfl ?_
    refine kR.iload dJ7_fill_d0a16_7 3 rfl ?_
    refine kR.icmp_ge (tgt := 22) dJ7_fill_d0a16_9 (by decide) h (fun h => ?_) (fun h => ?_)
    · exact kR.vret dJ7_fill_d0a16_22 h
    · refine kR.aload_n dJ7_fill_d0a16_12 0 rfl ?_
      refine kR.iload_n dJ7_fill_d0a16_13 2 rfl ?_
      refine kR.lload_n dJ7_fill_d0a16_14 1 rfl ?_
      refine kR.last dJ7_fill_d0a16_15 (ha0 _) hna0 h (fun σ1 h => ?_)
      refine zR.iinc 2 (v := x3 + 1) (ls' := [(3, .int (x3 + 1)), (0, .ref a0), (1, .long x1), (4, .int x4)]) dJ7_fill_d0a16_16 rfl rfl (by decide) rfl ?_
      refine zR.goto (tgt := 6) dJ7_fill_d0a16_19 (by decide) ?_
      refine zR.sub [1, 2, 0, 3] rfl ?_
      exact ih _ _ _ _ _ h
def fJ7_fill_d0a16 (a0 : Nat) (n0 : Nat) (p1 : Int64) (σ : zS) : Option zS := fJ7_fill_d0a16_6 a0 n0 zF p1 0 (Int32.ofNat n0) σ
theorem eJ7_fill_d0a16 {sc : Nat × (Nat → Int32)} (a0 : Nat) (n0 : Nat) (ha0 : ∀ σ, zAt (zY0 sc) (zE σ) a0 21) (hna0 : (zY0 sc).2.1 a0 = n0) (p1 : Int64) (σ : zS) (w : zS) (h : fJ7_fill_d0a16 a0 n0 p1 σ = some w) : zR (zY0 sc) 1 0 0 mJ7_fill_d0a16 0 [(0, .ref a0), (1, .long p1)] [] (zE σ) (none, zE w) := by
  unfold fJ7_fill_d0a16 at h
  refine zR.iconst (v := 0) dJ7_fill_d0a16_0 (by decide) ?_
  refine zR.istore_n (i := 3) (ls' := [(3, .int 0), (0, .ref a0), (1, .long p1)]) dJ7_fill_d0a16_1 rfl (by decide) rfl ?_
  refine kR.aload_n dJ7_fill_d0a16_2 1 rfl ?_
  refine zR.alen (v := Int32.ofNat n0) dJ7_fill_d0a16_3 (Or.inr (Or.inl (ha0 _))) (by rw [hna0]) ?_
  refine zR.istore (i := 4) (ls' := [(4, .int (Int32.ofNat n0)), (3, .int 0), (0, .ref a0), (1, .long p1)]) dJ7_fill_d0a16_4 (by decide) rfl ?_
  refine zR.sub [2, 3, 1, 0] rfl ?_
  exact kJ7_fill_d0a16_6 a0 n0 ha0 hna0 zF _ _ _ _ _ h
theorem lJ7_fill_d0a16 {sc : Nat × (Nat → Int32)} (a0 : Nat) (n0 : Nat) (ha0 : ∀ σ, zAt (zY0 sc) (zE σ) a0 21) (hna0 : (zY0 sc).2.1 a0 = n0) (p1 : Int64) (σ : zS) (w : zS) (h : fJ7_fill_d0a16 a0 n0 p1 σ = some w) : zC (zY0 sc) 1 0 0 mJ7_fill_d0a16 [.ref a0, .long p1] (zE σ) (none, zE w) := zC.of (by decide +kernel) (Nat.le_of_ble_eq_true rfl) rfl (eJ7_fill_d0a16 a0 n0 ha0 hna0 p1 σ w h)
theorem dX0_tunnelAt_0 : decode cX0_tunnelAt 0 = .ok (.aload_n 0, 1) := by decide +kernel
theorem dX0_tunnelAt_1 : decode cX0_tunnelAt 1 = .ok (.getfield 51, 3) := by decide +kernel
theorem dX0_tunnelAt_4 : decode cX0_tunnelAt 4 = .ok (.getfield 55, 3) := by decide +kernel
theorem dX0_tunnelAt_7 : decode cX0_tunnelAt 7 = .ok (.getfield 86, 3) := by decide +kernel
theorem dX0_tunnelAt_10 : decode cX0_tunnelAt 10 = .ok (.istore_n 2, 1) := by decide +kernel
theorem dX0_tunnelAt_11 : decode cX0_tunnelAt 11 = .ok (.iload_n 2, 1) := by decide +kernel
theorem dX0_tunnelAt_12 : decode cX0_tunnelAt 12 = .ok (.ifCond .le 14, 3) := by decide +kernel
theorem dX0_tunnelAt_15 : decode cX0_tunnelAt 15 = .ok (.aload_n 0, 1) := by decide +kernel
theorem dX0_tunnelAt_16 : decode cX0_tunnelAt 16 = .ok (.getfield 21, 3) := by decide +kernel
theorem dX0_tunnelAt_19 : decode cX0_tunnelAt 19 = .ok (.iload_n 1, 1) := by decide +kernel
theorem dX0_tunnelAt_20 : decode cX0_tunnelAt 20 = .ok (.iadd, 1) := by decide +kernel
theorem dX0_tunnelAt_21 : decode cX0_tunnelAt 21 = .ok (.iload_n 2, 1) := by decide +kernel
theorem dX0_tunnelAt_22 : decode cX0_tunnelAt 22 = .ok (.irem, 1) := by decide +kernel
theorem dX0_tunnelAt_23 : decode cX0_tunnelAt 23 = .ok (.goto 4, 3) := by decide +kernel
theorem dX0_tunnelAt_26 : decode cX0_tunnelAt 26 = .ok (.iconst 0, 1) := by decide +kernel
theorem dX0_tunnelAt_27 : decode cX0_tunnelAt 27 = .ok (.ireturn, 1) := by decide +kernel
def fX0_tunnelAt (σ : zS) (p1 : Int32) : Option Int32 := if (iG σ (rp σ.2.2.2.1 + 0) 1) ≤ 0 then some 0 else gd (¬ (iG σ (rp σ.2.2.2.1 + 0) 1) = 0) (bnd (((iG σ 27 4) + p1) - ((iG σ 27 4) + p1) / (iG σ (rp σ.2.2.2.1 + 0) 1) * (iG σ (rp σ.2.2.2.1 + 0) 1)) fun v1 => some v1)
theorem eX0_tunnelAt {sc : Nat × (Nat → Int32)} (σ : zS) (p1 : Int32) (w : Int32) (h : fX0_tunnelAt σ p1 = some w) : zR (zY0 sc) 1 0 0 mX0_tunnelAt 0 [(0, .ref 27), (1, .int p1)] [] (zE σ) (some (.int w), zE σ) := by
  unfold fX0_tunnelAt at h
  refine kR.aload_n dX0_tunnelAt_0 0 rfl ?_
  refine kR.getR (v := 8) dX0_tunnelAt_1 flX0_51 zcf0 zp27 (Or.inl ⟨_, rfl⟩) rfl ?_
  refine kR.getR (v := (rp σ.2.2.2.1 + 0)) dX0_tunnelAt_4 flX0_55 zcf4 zp8 (Or.inl ⟨_, rfl⟩) rfl ?_
  refine kR.getI dX0_tunnelAt_7 flX0_86 zcf6 (zq0 σ.2.2.2.1) (Or.inl rfl) ?_
  refine zR.istore_n (i := 2) (ls' := [(2, .int (iG σ (rp σ.2.2.2.1 + 0) 1)), (0, .ref 27), (1, .int p1)]) dX0_tunnelAt_10 rfl (by decide) rfl ?_
  refine kR.iload_n dX0_tunnelAt_11 0 rfl ?_
  refine kR.if_le (tgt := 26) dX0_tunnelAt_12 (by decide) h (fun h => ?_) (fun h => ?_)
  · refine zR.iconst (v := 0) dX0_tunnelAt_26 (by decide) ?_
    exact kR.iretO dX0_tunnelAt_27 (nzI rfl _) h
  · refine kR.aload_n dX0_tunnelAt_15 1 rfl ?_
    refine kR.getI dX0_tunnelAt_16 flX0_21 zcf0 zp27 (Or.inl rfl) ?_
    refine kR.iload_n dX0_tunnelAt_19 2 rfl ?_
    refine zR.iadd dX0_tunnelAt_20 ?_
    refine kR.iload_n dX0_tunnelAt_21 0 rfl ?_
    refine kR.irem dX0_tunnelAt_22 h (fun h => ?_)
    refine kR.nmI h (fun v1 h => ?_)
    refine zR.goto (tgt := 27) dX0_tunnelAt_23 (by decide) ?_
    exact kR.iretO dX0_tunnelAt_27 (nzI rfl _) h
theorem lX0_tunnelAt {sc : Nat × (Nat → Int32)} (σ : zS) (p1 : Int32) (w : Int32) (h : fX0_tunnelAt σ p1 = some w) : zC (zY0 sc) 1 0 0 mX0_tunnelAt [.ref 27, .int p1] (zE σ) (some (.int w), zE σ) := zC.of (by decide +kernel) (Nat.le_of_ble_eq_true rfl) ⟨_, rfl⟩ (eX0_tunnelAt σ p1 w h)
theorem dX4_worthAlone_0 : decode cX4_worthAlone 0 = .ok (.aload_n 0, 1) := by decide +kernel
theorem dX4_worthAlone_1 : decode cX4_worthAlone 1 = .ok (.iload_n 1, 1) := by decide +kernel
theorem dX4_worthAlone_2 : decode cX4_worthAlone 2 = .ok (.iload_n 2, 1) := by decide +kernel
theorem dX4_worthAlone_3 : decode cX4_worthAlone 3 = .ok (.iload_n 3, 1) := by decide +kernel
theorem dX4_worthAlone_4 : decode cX4_worthAlone 4 = .ok (.iload 4, 2) := by decide +kernel
theorem dX4_worthAlone_6 : decode cX4_worthAlone 6 = .ok (.invokevirtual 54, 3) := by decide +kernel
theorem dX4_worthAlone_9 : decode cX4_worthAlone 9 = .ok (.aload_n 0, 1) := by decide +kernel
theorem dX4_worthAlone_10 : decode cX4_worthAlone 10 = .ok (.getfield 22, 3) := by decide +kernel
theorem dX4_worthAlone_13 : decode cX4_worthAlone 13 = .ok (.getfield 58, 3) := by decide +kernel
theorem dX4_worthAlone_16 : decode cX4_worthAlone 16 = .ok (.iconst 0, 1) := by decide +kernel
theorem dX4_worthAlone_17 : decode cX4_worthAlone 17 = .ok (.aload_n 0, 1) := by decide +kernel
theorem dX4_worthAlone_18 : decode cX4_worthAlone 18 = .ok (.getfield 15, 3) := by decide +kernel
theorem dX4_worthAlone_21 : decode cX4_worthAlone 21 = .ok (.invokevirtual 64, 3) := by decide +kernel
theorem dX4_worthAlone_24 : decode cX4_worthAlone 24 = .ok (.sipush (-999), 3) := by decide +kernel
theorem dX4_worthAlone_27 : decode cX4_worthAlone 27 = .ok (.sipush 999, 3) := by decide +kernel
theorem dX4_worthAlone_30 : decode cX4_worthAlone 30 = .ok (.invokestatic 68, 3) := by decide +kernel
theorem dX4_worthAlone_33 : decode cX4_worthAlone 33 = .ok (.ireturn, 1) := by decide +kernel
def fX4_worthAlone (p1 : Int32) (p2 : Int32) (p3 : Int32) (p4 : Int32) (σ : zS) : Option (Int32 × zS) := bnr (fX4_tellAlone p1 p2 p3 p4 σ) fun σ1 => bnc (fX8_valueOf σ1.2.2.2.1 26 7 0 σ1) fun v5 σ3 => some (fX10_within v5 ((-999)) 999, σ3)
theorem eX4_worthAlone {sc : Nat × (Nat → Int32)} (p1 : Int32) (p2 : Int32) (p3 : Int32) (p4 : Int32) (σ : zS) (w : Int32 × zS) (h : fX4_worthAlone p1 p2 p3 p4 σ = some w) : zR (zY0 sc) 4 0 0 mX4_worthAlone 0 [(0, .ref 8), (1, .int p1), (2, .int p2), (3, .int p3), (4, .int p4)] [] (zE σ) (some (.int w.1), zE w.2) := by
  unfold fX4_worthAlone at h
  refine kR.aload_n dX4_worthAlone_0 0 rfl ?_
  refine kR.iload_n dX4_worthAlone_1 1 rfl ?_
  refine kR.iload_n dX4_worthAlone_2 2 rfl ?_
  refine kR.iload_n dX4_worthAlone_3 3 rfl ?_
  refine kR.iload dX4_worthAlone_4 4 rfl ?_
  obtain ⟨σ1, e2, h⟩ := bnr_some h
  refine kR.cVv [.int p1, .int p2, .int p3, .int p4] dX4_worthAlone_6 rfl (by decide) mwX4_54 zp8 (by decide) rfl rfl (Nat.le_of_ble_eq_true rfl) (lX4_tellAlone p1 p2 p3 p4 σ _ e2) ?_
  refine kR.aload_n dX4_worthAlone_9 0 rfl ?_
  refine kR.getR (v := (rp σ1.2.2.2.1 + 0)) dX4_worthAlone_10 flX4_22 zcf4 zp8 (Or.inl ⟨_, rfl⟩) rfl ?_
  refine kR.getR (v := (rp σ1.2.2.2.1 + 11)) dX4_worthAlone_13 flX4_58 zcf6 (zq0 σ1.2.2.2.1) (Or.inl ⟨_, rfl⟩) (zr0_15 _ σ1.2.2.2.1) ?_
  refine zR.iconst (v := 0) dX4_worthAlone_16 (by decide) ?_
  refine kR.aload_n dX4_worthAlone_17 0 rfl ?_
  refine kR.getR (v := 26) dX4_worthAlone_18 flX4_15 zcf4 zp8 (Or.inr ⟨_, rfl⟩) rfl ?_
  obtain ⟨v5, σ3, e4, h⟩ := bnc_some h
  refine kR.cVi [.int 0, .ref 26] dX4_worthAlone_21 rfl (by decide) mwX4_64 (zq11 σ1.2.2.2.1) (by decide) rfl rfl (Nat.le_of_ble_eq_true rfl) (lX8_valueOf σ1.2.2.2.1 26 7 (fun _ => zp26) rfl 0 σ1 _ e4) ?_
  refine zR.sipush (v := (-999)) dX4_worthAlone_24 (by decide) ?_
  refine zR.sipush (v := 999) dX4_worthAlone_27 (by decide) ?_
  refine kR.cSi [.int v5, .int ((-999)), .int 999] dX4_worthAlone_30 rfl (by decide) (Or.inr mwX4_68) rfl (Nat.le_of_ble_eq_true rfl) (lX10_within v5 ((-999)) 999) ?_
  exact kR.iretW dX4_worthAlone_33 (nzI rfl _) h
theorem lX4_worthAlone {sc : Nat × (Nat → Int32)} (p1 : Int32) (p2 : Int32) (p3 : Int32) (p4 : Int32) (σ : zS) (w : Int32 × zS) (h : fX4_worthAlone p1 p2 p3 p4 σ = some w) : zC (zY0 sc) 4 0 0 mX4_worthAlone [.ref 8, .int p1, .int p2, .int p3, .int p4] (zE σ) (some (.int w.1), zE w.2) := zC.of (by decide +kernel) (Nat.le_of_ble_eq_true rfl) ⟨_, rfl⟩ (eX4_worthAlone p1 p2 p3 p4 σ w h)
theorem dX0_addToSeconds_0 : decode cX0_addToSeconds 0 = .ok (.iload_n 2, 1) := by decide +kernel
theorem dX0_addToSeconds_1 : decode cX0_addToSeconds 1 = .ok (.istore 6, 2) := by decide +kernel
theorem dX0_addToSeconds_3 : decode cX0_addToSeconds 3 = .ok (.iload 6, 2) := by decide +kernel
theorem dX0_addToSeconds_5 : decode cX0_addToSeconds 5 = .ok (.iload_n 3, 1) := by decide +kernel
theorem dX0_addToSeconds_6 : decode cX0_addToSeconds 6 = .ok (.if_icmp .gt 23, 3) := by decide +kernel
theorem dX0_addToSeconds_9 : decode cX0_addToSeconds 9 = .ok (.aload_n 0, 1) := by decide +kernel
theorem dX0_addToSeconds_10 : decode cX0_addToSeconds 10 = .ok (.getfield 9, 3) := by decide +kernel
theorem dX0_addToSeconds_13 : decode cX0_addToSeconds 13 = .ok (.iload_n 1, 1) := by decide +kernel
theorem dX0_addToSeconds_14 : decode cX0_addToSeconds 14 = .ok (.iload 6, 2) := by decide +kernel
theorem dX0_addToSeconds_16 : decode cX0_addToSeconds 16 = .ok (.iadd, 1) := by decide +kernel
theorem dX0_addToSeconds_17 : decode cX0_addToSeconds 17 = .ok (.dup2, 1) := by decide +kernel
theorem dX0_addToSeconds_18 : decode cX0_addToSeconds 18 = .ok (.laload, 1) := by decide +kernel
theorem dX0_addToSeconds_19 : decode cX0_addToSeconds 19 = .ok (.lload 4, 2) := by decide +kernel
theorem dX0_addToSeconds_21 : decode cX0_addToSeconds 21 = .ok (.ladd, 1) := by decide +kernel
theorem dX0_addToSeconds_22 : decode cX0_addToSeconds 22 = .ok (.lastore, 1) := by decide +kernel
theorem dX0_addToSeconds_23 : decode cX0_addToSeconds 23 = .ok (.iinc 6 1, 3) := by decide +kernel
theorem dX0_addToSeconds_26 : decode cX0_addToSeconds 26 = .ok (.goto (-23), 3) := by decide +kernel
theorem dX0_addToSeconds_29 : decode cX0_addToSeconds 29 = .ok (.return_, 1) := by decide +kernel
def fX0_addToSeconds_3 : Nat → Int32 → Int32 → Int64 → Int32 → zS → Option zS
  | 0, _, _, _, _, _ => none
  | f + 1, x1, x3, x4, x6, σ => if x3 < x6 then some σ else aL σ 28 244 (x1 + x6) fun v1 => wL σ 28 244 (x1 + x6) (v1 + x4) fun σ2 => fX0_addToSeconds_3 f x1 x3 x4 (x6 + 1) σ2
theorem kX0_addToSeconds_3 {sc : Nat × (Nat → Int32)} : ∀ (fuel : Nat) (x1 : Int32) (x3 : Int32) (x4 : Int64) (x6 : Int32) (σ : zS) (w : zS) (h : fX0_addToSeconds_3 fuel x1 x3 x4 x6 σ = some w), zR (zY0 sc) 1 0 0 mX0_addToSeconds 3 [(0, .ref 27), (1, .int x1), (3, .int x3), (4, .long x4), (6, .int x6)] [] (zE σ) (none, zE w) := by
  intro fuel
  induction fuel with
  | zero => intro x1 x3 x4 x6 σ w h; exact nomatch h
  | succ f ih =>
    intro x1 x3 x4 x6 σ w h
    rw [fX0_addToSeconds_3] at h
    refine kR.iload dX0_addToSeconds_3 4 rfl ?_
    refine kR.iload_n dX0_addToSeconds_5 2 rfl ?_
    refine kR.icmp_gt (tgt := 29) dX0_addToSeconds_6 (by decide) h (fun h => ?_) (fun h => ?_)
    · exact kR.vret dX0_addToSeconds_29 h
    · refine kR.aload_n dX0_addToSeconds_9 0 rfl ?_
      refine kR.getR (v := 28) dX0_addToSeconds_10 flX0_9 zcf0 zp27 (Or.inr ⟨_, rfl⟩) rfl ?_
      refine kR.iload_n dX0_addToSeconds_13 1 rfl ?_
      refine kR.iload dX0_addToSeconds_14 4 rfl ?_
      refine zR.iadd dX0_addToSeconds_16 ?_
      refine zR.dup2 dX0_addToSeconds_17 rfl rfl ?_
      refine kR.lald dX0_addToSeconds_18 zp28 rfl h (fun v1 h => ?_)
      refine kR.lload dX0_addToSeconds_19 3 rfl ?_
      refine zR.ladd dX0_addToSeconds_21 ?_
      refine kR.last dX0_addToSeconds_22 zp28 rfl h (fun σ2 h => ?_)
      refine zR.iinc 4 (v := x6 + 1) (ls' := [(6, .int (x6 + 1)), (0, .ref 27), (1, .int x1), (3, .int x3), (4, .long x4)]) dX0_addToSeconds_23 rfl rfl (by decide) rfl ?_
      refine zR.goto (tgt := 3) dX0_addToSeconds_26 (by decide) ?_
      refine zR.sub [1, 2, 3, 4, 0] rfl ?_
      exact ih _ _ _ _ _ _ h
def fX0_addToSeconds (p1 : Int32) (p2 : Int32) (p3 : Int32) (p4 : Int64) (σ : zS) : Option zS := fX0_addToSeconds_3 zF p1 p3 p4 p2 σ
theorem eX0_addToSeconds {sc : Nat × (Nat → Int32)} (p1 : Int32) (p2 : Int32) (p3 : Int32) (p4 : Int64) (σ : zS) (w : zS) (h : fX0_addToSeconds p1 p2 p3 p4 σ = some w) : zR (zY0 sc) 1 0 0 mX0_addToSeconds 0 [(0, .ref 27), (1, .int p1), (2, .int p2), (3, .int p3), (4, .long p4)] [] (zE σ) (none, zE w) := by
  unfold fX0_addToSeconds at h
  refine kR.iload_n dX0_addToSeconds_0 2 rfl ?_
  refine zR.istore (i := 6) (ls' := [(6, .int p2), (0, .ref 27), (1, .int p1), (2, .int p2), (3, .int p3), (4, .long p4)]) dX0_addToSeconds_1 (by decide) rfl ?_
  refine zR.sub [1, 2, 4, 5, 0] rfl ?_
  exact kX0_addToSeconds_3 zF _ _ _ _ _ _ h
theorem lX0_addToSeconds {sc : Nat × (Nat → Int32)} (p1 : Int32) (p2 : Int32) (p3 : Int32) (p4 : Int64) (σ : zS) (w : zS) (h : fX0_addToSeconds p1 p2 p3 p4 σ = some w) : zC (zY0 sc) 1 0 0 mX0_addToSeconds [.ref 27, .int p1, .int p2, .int p3, .long p4] (zE σ) (none, zE w) := zC.of (by decide +kernel) (Nat.le_of_ble_eq_true rfl) rfl (eX0_addToSeconds p1 p2 p3 p4 σ w h)
theorem dJ7_rangeCheck_23922_0 : decode cJ7_rangeCheck_23922 0 = .ok (.iload_n 1, 1) := by decide +kernel
theorem dJ7_rangeCheck_23922_1 : decode cJ7_rangeCheck_23922 1 = .ok (.iload_n 2, 1) := by decide +kernel
theorem dJ7_rangeCheck_23922_2 : decode cJ7_rangeCheck_23922 2 = .ok (.if_icmp .le 44, 3) := by decide +kernel
theorem dJ7_rangeCheck_23922_5 : decode cJ7_rangeCheck_23922 5 = .ok (.new 43, 3) := by decide +kernel
theorem dJ7_rangeCheck_23922_8 : decode cJ7_rangeCheck_23922 8 = .ok (.dup, 1) := by decide +kernel
theorem dJ7_rangeCheck_23922_9 : decode cJ7_rangeCheck_23922 9 = .ok (.new 45, 3) := by decide +kernel
theorem dJ7_rangeCheck_23922_12 : decode cJ7_rangeCheck_23922 12 = .ok (.dup, 1) := by decide +kernel
theorem dJ7_rangeCheck_23922_13 : decode cJ7_rangeCheck_23922 13 = .ok (.invokespecial 47, 3) := by decide +kernel
theorem dJ7_rangeCheck_23922_16 : decode cJ7_rangeCheck_23922 16 = .ok (.ldc 48, 2) := by decide +kernel
theorem dJ7_rangeCheck_23922_18 : decode cJ7_rangeCheck_23922 18 = .ok (.invokevirtual 50, 3) := by decide +kernel
theorem dJ7_rangeCheck_23922_21 : decode cJ7_rangeCheck_23922 21 = .ok (.iload_n 1, 1) := by decide +kernel
theorem dJ7_rangeCheck_23922_22 : decode cJ7_rangeCheck_23922 22 = .ok (.invokevirtual 54, 3) := by decide +kernel
theorem dJ7_rangeCheck_23922_25 : decode cJ7_rangeCheck_23922 25 = .ok (.ldc 57, 2) := by decide +kernel
theorem dJ7_rangeCheck_23922_27 : decode cJ7_rangeCheck_23922 27 = .ok (.invokevirtual 50, 3) := by decide +kernel
theorem dJ7_rangeCheck_23922_30 : decode cJ7_rangeCheck_23922 30 = .ok (.iload_n 2, 1) := by decide +kernel
theorem dJ7_rangeCheck_23922_31 : decode cJ7_rangeCheck_23922 31 = .ok (.invokevirtual 54, 3) := by decide +kernel
theorem dJ7_rangeCheck_23922_34 : decode cJ7_rangeCheck_23922 34 = .ok (.ldc 59, 2) := by decide +kernel
theorem dJ7_rangeCheck_23922_36 : decode cJ7_rangeCheck_23922 36 = .ok (.invokevirtual 50, 3) := by decide +kernel
theorem dJ7_rangeCheck_23922_39 : decode cJ7_rangeCheck_23922 39 = .ok (.invokevirtual 61, 3) := by decide +kernel
theorem dJ7_rangeCheck_23922_42 : decode cJ7_rangeCheck_23922 42 = .ok (.invokespecial 65, 3) := by decide +kernel
theorem dJ7_rangeCheck_23922_45 : decode cJ7_rangeCheck_23922 45 = .ok (.athrow, 1) := by decide +kernel
theorem dJ7_rangeCheck_23922_46 : decode cJ7_rangeCheck_23922 46 = .ok (.iload_n 1, 1) := by decide +kernel
theorem dJ7_rangeCheck_23922_47 : decode cJ7_rangeCheck_23922 47 = .ok (.ifCond .ge 12, 3) := by decide +kernel
theorem dJ7_rangeCheck_23922_50 : decode cJ7_rangeCheck_23922 50 = .ok (.new 68, 3) := by decide +kernel
theorem dJ7_rangeCheck_23922_53 : decode cJ7_rangeCheck_23922 53 = .ok (.dup, 1) := by decide +kernel
theorem dJ7_rangeCheck_23922_54 : decode cJ7_rangeCheck_23922 54 = .ok (.iload_n 1, 1) := by decide +kernel
theorem dJ7_rangeCheck_23922_55 : decode cJ7_rangeCheck_23922 55 = .ok (.invokespecial 70, 3) := by decide +kernel
theorem dJ7_rangeCheck_23922_58 : decode cJ7_rangeCheck_23922 58 = .ok (.athrow, 1) := by decide +kernel
theorem dJ7_rangeCheck_23922_59 : decode cJ7_rangeCheck_23922 59 = .ok (.iload_n 2, 1) := by decide +kernel
theorem dJ7_rangeCheck_23922_60 : decode cJ7_rangeCheck_23922 60 = .ok (.iload_n 0, 1) := by decide +kernel
theorem dJ7_rangeCheck_23922_61 : decode cJ7_rangeCheck_23922 61 = .ok (.if_icmp .le 12, 3) := by decide +kernel
theorem dJ7_rangeCheck_23922_64 : decode cJ7_rangeCheck_23922 64 = .ok (.new 68, 3) := by decide +kernel
theorem dJ7_rangeCheck_23922_67 : decode cJ7_rangeCheck_23922 67 = .ok (.dup, 1) := by decide +kernel
theorem dJ7_rangeCheck_23922_68 : decode cJ7_rangeCheck_23922 68 = .ok (.iload_n 2, 1) := by decide +kernel
theorem dJ7_rangeCheck_23922_69 : decode cJ7_rangeCheck_23922 69 = .ok (.invokespecial 70, 3) := by decide +kernel
theorem dJ7_rangeCheck_23922_72 : decode cJ7_rangeCheck_23922 72 = .ok (.athrow, 1) := by decide +kernel
theorem dJ7_rangeCheck_23922_73 : decode cJ7_rangeCheck_23922 73 = .ok (.return_, 1) := by decide +kernel
def fJ7_rangeCheck_23922 (p0 : Int32) (p1 : Int32) (p2 : Int32) : Option Unit := if p1 ≤ p2 then if 0 ≤ p1 then if p2 ≤ p0 then some () else none else none else none
theorem eJ7_rangeCheck_23922 {sc : Nat × (Nat → Int32)} {μ : zM} (p0 : Int32) (p1 : Int32) (p2 : Int32) (w : Unit) (h : fJ7_rangeCheck_23922 p0 p1 p2 = some w) : zR (zY0 sc) 1 0 0 mJ7_rangeCheck_23922 0 [(0, .int p0), (1, .int p1), (2, .int p2)] [] μ (none, μ) := by
  unfold fJ7_rangeCheck_23922 at h
  refine kR.iload_n dJ7_rangeCheck_23922_0 1 rfl ?_
  refine kR.iload_n dJ7_rangeCheck_23922_1 2 rfl ?_
  refine kR.icmp_le (tgt := 46) dJ7_rangeCheck_23922_2 (by decide) h (fun h => ?_) (fun h => ?_)
  · refine kR.iload_n dJ7_rangeCheck_23922_46 1 rfl ?_
    refine kR.if_ge (tgt := 59) dJ7_rangeCheck_23922_47 (by decide) h (fun h => ?_) (fun h => ?_)
    · refine kR.iload_n dJ7_rangeCheck_23922_59 2 rfl ?_
      refine kR.iload_n dJ7_rangeCheck_23922_60 0 rfl ?_
      refine kR.icmp_le (tgt := 73) dJ7_rangeCheck_23922_61 (by decide) h (fun h => ?_) (fun h => ?_)
      · exact kR.vretR dJ7_rangeCheck_23922_73
      · exact nomatch h
    · exact nomatch h
  · exact nomatch h
theorem lJ7_rangeCheck_23922 {sc : Nat × (Nat → Int32)} {μ : zM} (p0 : Int32) (p1 : Int32) (p2 : Int32) (w : Unit) (h : fJ7_rangeCheck_23922 p0 p1 p2 = some w) : zC (zY0 sc) 1 0 0 mJ7_rangeCheck_23922 [.int p0, .int p1, .int p2] μ (none, μ) := zC.of (by decide +kernel) (Nat.le_of_ble_eq_true rfl) rfl (eJ7_rangeCheck_23922 p0 p1 p2 w h)
theorem dJ7_fill_bad5a_0 : decode cJ7_fill_bad5a 0 = .ok (.aload_n 0, 1) := by decide +kernel
theorem dJ7_fill_bad5a_1 : decode cJ7_fill_bad5a 1 = .ok (.arraylength, 1) := by decide +kernel
theorem dJ7_fill_bad5a_2 : decode cJ7_fill_bad5a 2 = .ok (.iload_n 1, 1) := by decide +kernel
theorem dJ7_fill_bad5a_3 : decode cJ7_fill_bad5a 3 = .ok (.iload_n 2, 1) := by decide +kernel
theorem dJ7_fill_bad5a_4 : decode cJ7_fill_bad5a 4 = .ok (.invokestatic 13, 3) := by decide +kernel
theorem dJ7_fill_bad5a_7 : decode cJ7_fill_bad5a 7 = .ok (.iload_n 1, 1) := by decide +kernel
theorem dJ7_fill_bad5a_8 : decode cJ7_fill_bad5a 8 = .ok (.istore 5, 2) := by decide +kernel
theorem dJ7_fill_bad5a_10 : decode cJ7_fill_bad5a 10 = .ok (.iload 5, 2) := by decide +kernel
theorem dJ7_fill_bad5a_12 : decode cJ7_fill_bad5a 12 = .ok (.iload_n 2, 1) := by decide +kernel
theorem dJ7_fill_bad5a_13 : decode cJ7_fill_bad5a 13 = .ok (.if_icmp .ge 14, 3) := by decide +kernel
theorem dJ7_fill_bad5a_16 : decode cJ7_fill_bad5a 16 = .ok (.aload_n 0, 1) := by decide +kernel
theorem dJ7_fill_bad5a_17 : decode cJ7_fill_bad5a 17 = .ok (.iload 5, 2) := by decide +kernel
theorem dJ7_fill_bad5a_19 : decode cJ7_fill_bad5a 19 = .ok (.lload_n 3, 1) := by decide +kernel
theorem dJ7_fill_bad5a_20 : decode cJ7_fill_bad5a 20 = .ok (.lastore, 1) := by decide +kernel
theorem dJ7_fill_bad5a_21 : decode cJ7_fill_bad5a 21 = .ok (.iinc 5 1, 3) := by decide +kernel
theorem dJ7_fill_bad5a_24 : decode cJ7_fill_bad5a 24 = .ok (.goto (-14), 3) := by decide +kernel
theorem dJ7_fill_bad5a_27 : decode cJ7_fill_bad5a 27 = .ok (.return_, 1) := by decide +kernel
def fJ7_fill_bad5a_10 (a0 : Nat) (n0 : Nat) : Nat → Int32 → Int64 → Int32 → zS → Option zS
  | 0, _, _, _, _ => none
  | f + 1, x2, x3, x5, σ => if x2 ≤ x5 then some σ else wL σ a0 n0 x5 x3 fun σ3 => fJ7_fill_bad5a_10 a0 n0 f x2 x3 (x5 + 1) σ3
theorem kJ7_fill_bad5a_10 {sc : Nat × (Nat → Int32)} (a0 : Nat) (n0 : Nat) (ha0 : ∀ σ, zAt (zY0 sc) (zE σ) a0 21) (hna0 : (zY0 sc).2.1 a0 = n0) : ∀ (fuel : Nat) (x2 : Int32) (x3 : Int64) (x5 : Int32) (σ : zS) (w : zS) (h : fJ7_fill_bad5a_10 a0 n0 fuel x2 x3 x5 σ = some w), zR (zY0 sc) 2 0 0 mJ7_fill_bad5a 10 [(0, .ref a0), (2, .int x2), (3, .long x3), (5, .int x5)] [] (zE σ) (none, zE w) := by
  intro fuel
  induction fuel with
  | zero => intro x2 x3 x5 σ w h; exact nomatch h
  | succ f ih =>
    intro x2 x3 x5 σ w h
    rw [fJ7_fill_bad5a_10] at h
    refine kR.iload dJ7_fill_bad5a_10 3 rfl ?_
    refine kR.iload_n dJ7_fill_bad5a_12 1 rfl ?_
    refine kR.icmp_ge (tgt := 27) dJ7_fill_bad5a_13 (by decide) h (fun h => ?_) (fun h => ?_)
    · exact kR.vret dJ7_fill_bad5a_27 h
    · refine kR.aload_n dJ7_fill_bad5a_16 0 rfl ?_
      refine kR.iload dJ7_fill_bad5a_17 3 rfl ?_
      refine kR.lload_n dJ7_fill_bad5a_19 2 rfl ?_
      refine kR.last dJ7_fill_bad5a_20 (ha0 _) hna0 h (fun σ3 h => ?_)
      refine zR.iinc 3 (v := x5 + 1) (ls' := [(5, .int (x5 + 1)), (0, .ref a0), (2, .int x2), (3, .long x3)]) dJ7_fill_bad5a_21 rfl rfl (by decide) rfl ?_
      refine zR.goto (tgt := 10) dJ7_fill_bad5a_24 (by decide) ?_
      refine zR.sub [1, 2, 3, 0] rfl ?_
      exact ih _ _ _ _ _ h
def fJ7_fill_bad5a (a0 : Nat) (n0 : Nat) (p1 : Int32) (p2 : Int32) (p3 : Int64) (σ : zS) : Option zS := bnr (fJ7_rangeCheck_23922 (Int32.ofNat n0) p1 p2) fun v1 => fJ7_fill_bad5a_10 a0 n0 zF p2 p3 p1 σ
theorem eJ7_fill_bad5a {sc : Nat × (Nat → Int32)} (a0 : Nat) (n0 : Nat) (ha0 : ∀ σ, zAt (zY0 sc) (zE σ) a0 21) (hna0 : (zY0 sc).2.1 a0 = n0) (p1 : Int32) (p2 : Int32) (p3 : Int64) (σ : zS) (w : zS) (h : fJ7_fill_bad5a a0 n0 p1 p2 p3 σ = some w) : zR (zY0 sc) 2 0 0 mJ7_fill_bad5a 0 [(0, .ref a0), (1, .int p1), (2, .int p2), (3, .long p3)] [] (zE σ) (none, zE w) := by
  unfold fJ7_fill_bad5a at h
  refine kR.aload_n dJ7_fill_bad5a_0 0 rfl ?_
  refine zR.alen (v := Int32.ofNat n0) dJ7_fill_bad5a_1 (Or.inr (Or.inl (ha0 _))) (by rw [hna0]) ?_
  refine kR.iload_n dJ7_fill_bad5a_2 1 rfl ?_
  refine kR.iload_n dJ7_fill_bad5a_3 2 rfl ?_
  obtain ⟨v1, e2, h⟩ := bnr_some h
  refine kR.cSv [.int (Int32.ofNat n0), .int p1, .int p2] dJ7_fill_bad5a_4 rfl (by decide) (Or.inl mwJ7_13) rfl (Nat.le_of_ble_eq_true rfl) (lJ7_rangeCheck_23922 (Int32.ofNat n0) p1 p2 _ e2) ?_
  refine kR.iload_n dJ7_fill_bad5a_7 1 rfl ?_
  refine zR.istore (i := 5) (ls' := [(5, .int p1), (0, .ref a0), (1, .int p1), (2, .int p2), (3, .long p3)]) dJ7_fill_bad5a_8 (by decide) rfl ?_
  refine zR.sub [1, 3, 4, 0] rfl ?_
  exact kJ7_fill_bad5a_10 a0 n0 ha0 hna0 zF _ _ _ _ _ h
theorem lJ7_fill_bad5a {sc : Nat × (Nat → Int32)} (a0 : Nat) (n0 : Nat) (ha0 : ∀ σ, zAt (zY0 sc) (zE σ) a0 21) (hna0 : (zY0 sc).2.1 a0 = n0) (p1 : Int32) (p2 : Int32) (p3 : Int64) (σ : zS) (w : zS) (h : fJ7_fill_bad5a a0 n0 p1 p2 p3 σ = some w) : zC (zY0 sc) 2 0 0 mJ7_fill_bad5a [.ref a0, .int p1, .int p2, .long p3] (zE σ) (none, zE w) := zC.of (by decide +kernel) (Nat.le_of_ble_eq_true rfl) rfl (eJ7_fill_bad5a a0 n0 ha0 hna0 p1 p2 p3 σ w h)
theorem dX0_bestSecond_0 : decode cX0_bestSecond 0 = .ok (.iconst 0, 1) := by decide +kernel
theorem dX0_bestSecond_1 : decode cX0_bestSecond 1 = .ok (.istore_n 3, 1) := by decide +kernel
theorem dX0_bestSecond_2 : decode cX0_bestSecond 2 = .ok (.iconst 1, 1) := by decide +kernel
theorem dX0_bestSecond_3 : decode cX0_bestSecond 3 = .ok (.istore 4, 2) := by decide +kernel
theorem dX0_bestSecond_5 : decode cX0_bestSecond 5 = .ok (.iload 4, 2) := by decide +kernel
theorem dX0_bestSecond_7 : decode cX0_bestSecond 7 = .ok (.iload_n 2, 1) := by decide +kernel
theorem dX0_bestSecond_8 : decode cX0_bestSecond 8 = .ok (.if_icmp .gt 33, 3) := by decide +kernel
theorem dX0_bestSecond_11 : decode cX0_bestSecond 11 = .ok (.aload_n 0, 1) := by decide +kernel
theorem dX0_bestSecond_12 : decode cX0_bestSecond 12 = .ok (.getfield 9, 3) := by decide +kernel
theorem dX0_bestSecond_15 : decode cX0_bestSecond 15 = .ok (.iload_n 1, 1) := by decide +kernel
theorem dX0_bestSecond_16 : decode cX0_bestSecond 16 = .ok (.iload 4, 2) := by decide +kernel
theorem dX0_bestSecond_18 : decode cX0_bestSecond 18 = .ok (.iadd, 1) := by decide +kernel
theorem dX0_bestSecond_19 : decode cX0_bestSecond 19 = .ok (.laload, 1) := by decide +kernel
theorem dX0_bestSecond_20 : decode cX0_bestSecond 20 = .ok (.aload_n 0, 1) := by decide +kernel
theorem dX0_bestSecond_21 : decode cX0_bestSecond 21 = .ok (.getfield 9, 3) := by decide +kernel
theorem dX0_bestSecond_24 : decode cX0_bestSecond 24 = .ok (.iload_n 1, 1) := by decide +kernel
theorem dX0_bestSecond_25 : decode cX0_bestSecond 25 = .ok (.iload_n 3, 1) := by decide +kernel
theorem dX0_bestSecond_26 : decode cX0_bestSecond 26 = .ok (.iadd, 1) := by decide +kernel
theorem dX0_bestSecond_27 : decode cX0_bestSecond 27 = .ok (.laload, 1) := by decide +kernel
theorem dX0_bestSecond_28 : decode cX0_bestSecond 28 = .ok (.lcmp, 1) := by decide +kernel
theorem dX0_bestSecond_29 : decode cX0_bestSecond 29 = .ok (.ifCond .le 6, 3) := by decide +kernel
theorem dX0_bestSecond_32 : decode cX0_bestSecond 32 = .ok (.iload 4, 2) := by decide +kernel
theorem dX0_bestSecond_34 : decode cX0_bestSecond 34 = .ok (.istore_n 3, 1) := by decide +kernel
theorem dX0_bestSecond_35 : decode cX0_bestSecond 35 = .ok (.iinc 4 1, 3) := by decide +kernel
theorem dX0_bestSecond_38 : decode cX0_bestSecond 38 = .ok (.goto (-33), 3) := by decide +kernel
theorem dX0_bestSecond_41 : decode cX0_bestSecond 41 = .ok (.iload_n 3, 1) := by decide +kernel
theorem dX0_bestSecond_42 : decode cX0_bestSecond 42 = .ok (.ireturn, 1) := by decide +kernel
def fX0_bestSecond_35 (σ : zS) (r5 : Int32 → Int32 → Int32 → Int32 → Option Int32) (x1 : Int32) (x2 : Int32) (x3 : Int32) (x4 : Int32) : Option Int32 := r5 x1 x2 x3 (x4 + 1)
theorem kX0_bestSecond_35 {sc : Nat × (Nat → Int32)} (σ : zS) (r5 : Int32 → Int32 → Int32 → Int32 → Option Int32) (hr5 : ∀ (x1 : Int32) (x2 : Int32) (x3 : Int32) (x4 : Int32) (w : Int32), r5 x1 x2 x3 x4 = some w → zR (zY0 sc) 1 0 0 mX0_bestSecond 5 [(0, .ref 27), (1, .int x1), (2, .int x2), (3, .int x3), (4, .int x4)] [] (zE σ) (some (.int w), zE σ)) (x1 : Int32) (x2 : Int32) (x3 : Int32) (x4 : Int32) (w : Int32) (h : fX0_bestSecond_35 σ r5 x1 x2 x3 x4 = some w) : zR (zY0 sc) 1 0 0 mX0_bestSecond 35 [(0, .ref 27), (1, .int x1), (2, .int x2), (3, .int x3), (4, .int x4)] [] (zE σ) (some (.int w), zE σ) := by
  unfold fX0_bestSecond_35 at h
  refine zR.iinc 4 (v := x4 + 1) (ls' := [(4, .int (x4 + 1)), (0, .ref 27), (1, .int x1), (2, .int x2), (3, .int x3)]) dX0_bestSecond_35 rfl rfl (by decide) rfl ?_
  refine zR.goto (tgt := 5) dX0_bestSecond_38 (by decide) ?_
  refine zR.sub [1, 2, 3, 4, 0] rfl ?_
  exact hr5 _ _ _ _ _ h
def fX0_bestSecond_5 (σ : zS) : Nat → Int32 → Int32 → Int32 → Int32 → Option Int32
  | 0, _, _, _, _ => none
  | f + 1, x1, x2, x3, x4 => if x2 < x4 then some x3 else aL σ 28 244 (x1 + x4) fun v1 => aL σ 28 244 (x1 + x3) fun v2 => if v1 ≤ v2 then fX0_bestSecond_35 σ (fX0_bestSecond_5 σ f) x1 x2 x3 x4 else fX0_bestSecond_35 σ (fX0_bestSecond_5 σ f) x1 x2 x4 x4
theorem kX0_bestSecond_5 {sc : Nat × (Nat → Int32)} (σ : zS) : ∀ (fuel : Nat) (x1 : Int32) (x2 : Int32) (x3 : Int32) (x4 : Int32) (w : Int32) (h : fX0_bestSecond_5 σ fuel x1 x2 x3 x4 = some w), zR (zY0 sc) 1 0 0 mX0_bestSecond 5 [(0, .ref 27), (1, .int x1), (2, .int x2), (3, .int x3), (4, .int x4)] [] (zE σ) (some (.int w), zE σ) := by
  intro fuel
  induction fuel with
  | zero => intro x1 x2 x3 x4 w h; exact nomatch h
  | succ f ih =>
    intro x1 x2 x3 x4 w h
    rw [fX0_bestSecond_5] at h
    refine kR.iload dX0_bestSecond_5 4 rfl ?_
    refine kR.iload_n dX0_bestSecond_7 2 rfl ?_
    refine kR.icmp_gt (tgt := 41) dX0_bestSecond_8 (by decide) h (fun h => ?_) (fun h => ?_)
    · refine kR.iload_n dX0_bestSecond_41 3 rfl ?_
      exact kR.iretO dX0_bestSecond_42 (nzI rfl _) h
    · refine kR.aload_n dX0_bestSecond_11 0 rfl ?_
      refine kR.getR (v := 28) dX0_bestSecond_12 flX0_9 zcf0 zp27 (Or.inr ⟨_, rfl⟩) rfl ?_
      refine kR.iload_n dX0_bestSecond_15 1 rfl ?_
      refine kR.iload dX0_bestSecond_16 4 rfl ?_
      refine zR.iadd dX0_bestSecond_18 ?_
      refine kR.lald dX0_bestSecond_19 zp28 rfl h (fun v1 h => ?_)
      refine kR.aload_n dX0_bestSecond_20 0 rfl ?_
      refine kR.getR (v := 28) dX0_bestSecond_21 flX0_9 zcf0 zp27 (Or.inr ⟨_, rfl⟩) rfl ?_
      refine kR.iload_n dX0_bestSecond_24 1 rfl ?_
      refine kR.iload_n dX0_bestSecond_25 3 rfl ?_
      refine zR.iadd dX0_bestSecond_26 ?_
      refine kR.lald dX0_bestSecond_27 zp28 rfl h (fun v2 h => ?_)
      refine kR.lcmp_le (tgt := 35) dX0_bestSecond_28 dX0_bestSecond_29 (by decide) h (fun h => ?_) (fun h => ?_)
      · exact kX0_bestSecond_35 σ (fX0_bestSecond_5 σ f) ih _ _ _ _ _ h
      · refine kR.iload dX0_bestSecond_32 4 rfl ?_
        refine zR.istore_n (i := 3) (ls' := [(3, .int x4), (0, .ref 27), (1, .int x1), (2, .int x2), (4, .int x4)]) dX0_bestSecond_34 rfl (by decide) rfl ?_
        refine zR.sub [1, 2, 3, 0, 4] rfl ?_
        exact kX0_bestSecond_35 σ (fX0_bestSecond_5 σ f) ih _ _ _ _ _ h
def fX0_bestSecond (σ : zS) (p1 : Int32) (p2 : Int32) : Option Int32 := fX0_bestSecond_5 σ zF p1 p2 0 1
theorem eX0_bestSecond {sc : Nat × (Nat → Int32)} (σ : zS) (p1 : Int32) (p2 : Int32) (w : Int32) (h : fX0_bestSecond σ p1 p2 = some w) : zR (zY0 sc) 1 0 0 mX0_bestSecond 0 [(0, .ref 27), (1, .int p1), (2, .int p2)] [] (zE σ) (some (.int w), zE σ) := by
  unfold fX0_bestSecond at h
  refine zR.iconst (v := 0) dX0_bestSecond_0 (by decide) ?_
  refine zR.istore_n (i := 3) (ls' := [(3, .int 0), (0, .ref 27), (1, .int p1), (2, .int p2)]) dX0_bestSecond_1 rfl (by decide) rfl ?_
  refine zR.iconst (v := 1) dX0_bestSecond_2 (by decide) ?_
  refine zR.istore (i := 4) (ls' := [(4, .int 1), (3, .int 0), (0, .ref 27), (1, .int p1), (2, .int p2)]) dX0_bestSecond_3 (by decide) rfl ?_
  refine zR.sub [2, 3, 4, 1, 0] rfl ?_
  exact kX0_bestSecond_5 σ zF _ _ _ _ _ h
theorem lX0_bestSecond {sc : Nat × (Nat → Int32)} (σ : zS) (p1 : Int32) (p2 : Int32) (w : Int32) (h : fX0_bestSecond σ p1 p2 = some w) : zC (zY0 sc) 1 0 0 mX0_bestSecond [.ref 27, .int p1, .int p2] (zE σ) (some (.int w), zE σ) := zC.of (by decide +kernel) (Nat.le_of_ble_eq_true rfl) ⟨_, rfl⟩ (eX0_bestSecond σ p1 p2 w h)
abbrev TGX0_addPlanned : Type := (Int32 → Int32 → Int32 → zS → Option zS) × (Int32 → Int32 → zS → Option (Int64 × zS))
def DDGX0_addPlanned : Nat := 5
def okGX0_addPlanned (sc : Nat × (Nat → Int32)) (n : Nat) (g : TGX0_addPlanned) : Prop := (∀ (p1 : Int32) (p2 : Int32) (p3 : Int32) (σ : zS) (w : zS), g.1 p1 p2 p3 σ = some w → zC (zY0 sc) (DDGX0_addPlanned + n) 0 0 mX0_addPlanned [.ref 27, .int p1, .int p2, .int p3] (zE σ) (none, zE w)) ∧ (∀ (p1 : Int32) (p2 : Int32) (σ : zS) (w : Int64 × zS), g.2 p1 p2 σ = some w → zC (zY0 sc) (DDGX0_addPlanned + n) 0 0 mX0_bestFrom [.ref 27, .int p1, .int p2] (zE σ) (some (.long w.1), zE w.2))
theorem dX0_addPlanned_0 : decode cX0_addPlanned 0 = .ok (.aload_n 0, 1) := by decide +kernel
theorem dX0_addPlanned_1 : decode cX0_addPlanned 1 = .ok (.iload_n 1, 1) := by decide +kernel
theorem dX0_addPlanned_2 : decode cX0_addPlanned 2 = .ok (.invokevirtual 61, 3) := by decide +kernel
theorem dX0_addPlanned_5 : decode cX0_addPlanned 5 = .ok (.istore 4, 2) := by decide +kernel
theorem dX0_addPlanned_7 : decode cX0_addPlanned 7 = .ok (.aload_n 0, 1) := by decide +kernel
theorem dX0_addPlanned_8 : decode cX0_addPlanned 8 = .ok (.getfield 51, 3) := by decide +kernel
theorem dX0_addPlanned_11 : decode cX0_addPlanned 11 = .ok (.getfield 55, 3) := by decide +kernel
theorem dX0_addPlanned_14 : decode cX0_addPlanned 14 = .ok (.iload 4, 2) := by decide +kernel
theorem dX0_addPlanned_16 : decode cX0_addPlanned 16 = .ok (.iload_n 2, 1) := by decide +kernel
theorem dX0_addPlanned_17 : decode cX0_addPlanned 17 = .ok (.invokevirtual 99, 3) := by decide +kernel
theorem dX0_addPlanned_20 : decode cX0_addPlanned 20 = .ok (.istore 5, 2) := by decide +kernel
theorem dX0_addPlanned_22 : decode cX0_addPlanned 22 = .ok (.aload_n 0, 1) := by decide +kernel
theorem dX0_addPlanned_23 : decode cX0_addPlanned 23 = .ok (.getfield 51, 3) := by decide +kernel
theorem dX0_addPlanned_26 : decode cX0_addPlanned 26 = .ok (.getfield 55, 3) := by decide +kernel
theorem dX0_addPlanned_29 : decode cX0_addPlanned 29 = .ok (.iload 4, 2) := by decide +kernel
theorem dX0_addPlanned_31 : decode cX0_addPlanned 31 = .ok (.iload_n 2, 1) := by decide +kernel
theorem dX0_addPlanned_32 : decode cX0_addPlanned 32 = .ok (.invokevirtual 102, 3) := by decide +kernel
theorem dX0_addPlanned_35 : decode cX0_addPlanned 35 = .ok (.istore 6, 2) := by decide +kernel
theorem dX0_addPlanned_37 : decode cX0_addPlanned 37 = .ok (.iload_n 1, 1) := by decide +kernel
theorem dX0_addPlanned_38 : decode cX0_addPlanned 38 = .ok (.iconst 1, 1) := by decide +kernel
theorem dX0_addPlanned_39 : decode cX0_addPlanned 39 = .ok (.iadd, 1) := by decide +kernel
theorem dX0_addPlanned_40 : decode cX0_addPlanned 40 = .ok (.aload_n 0, 1) := by decide +kernel
theorem dX0_addPlanned_41 : decode cX0_addPlanned 41 = .ok (.getfield 25, 3) := by decide +kernel
theorem dX0_addPlanned_44 : decode cX0_addPlanned 44 = .ok (.if_icmp .ge 7, 3) := by decide +kernel
theorem dX0_addPlanned_47 : decode cX0_addPlanned 47 = .ok (.iconst 1, 1) := by decide +kernel
theorem dX0_addPlanned_48 : decode cX0_addPlanned 48 = .ok (.goto 4, 3) := by decide +kernel
theorem dX0_addPlanned_51 : decode cX0_addPlanned 51 = .ok (.iconst 0, 1) := by decide +kernel
theorem dX0_addPlanned_52 : decode cX0_addPlanned 52 = .ok (.istore 7, 2) := by decide +kernel
theorem dX0_addPlanned_54 : decode cX0_addPlanned 54 = .ok (.iconst 0, 1) := by decide +kernel
theorem dX0_addPlanned_55 : decode cX0_addPlanned 55 = .ok (.istore 8, 2) := by decide +kernel
theorem dX0_addPlanned_57 : decode cX0_addPlanned 57 = .ok (.iload 8, 2) := by decide +kernel
theorem dX0_addPlanned_59 : decode cX0_addPlanned 59 = .ok (.iload 5, 2) := by decide +kernel
theorem dX0_addPlanned_61 : decode cX0_addPlanned 61 = .ok (.iload_n 3, 1) := by decide +kernel
theorem dX0_addPlanned_62 : decode cX0_addPlanned 62 = .ok (.invokestatic 105, 3) := by decide +kernel
theorem dX0_addPlanned_65 : decode cX0_addPlanned 65 = .ok (.if_icmp .gt 95, 3) := by decide +kernel
theorem dX0_addPlanned_68 : decode cX0_addPlanned 68 = .ok (.aload_n 0, 1) := by decide +kernel
theorem dX0_addPlanned_69 : decode cX0_addPlanned 69 = .ok (.getfield 51, 3) := by decide +kernel
theorem dX0_addPlanned_72 : decode cX0_addPlanned 72 = .ok (.iload 4, 2) := by decide +kernel
theorem dX0_addPlanned_74 : decode cX0_addPlanned 74 = .ok (.iload 5, 2) := by decide +kernel
theorem dX0_addPlanned_76 : decode cX0_addPlanned 76 = .ok (.iload 8, 2) := by decide +kernel
theorem dX0_addPlanned_78 : decode cX0_addPlanned 78 = .ok (.iload_n 3, 1) := by decide +kernel
theorem dX0_addPlanned_79 : decode cX0_addPlanned 79 = .ok (.invokevirtual 110, 3) := by decide +kernel
theorem dX0_addPlanned_82 : decode cX0_addPlanned 82 = .ok (.i2l, 1) := by decide +kernel
theorem dX0_addPlanned_83 : decode cX0_addPlanned 83 = .ok (.aload_n 0, 1) := by decide +kernel
theorem dX0_addPlanned_84 : decode cX0_addPlanned 84 = .ok (.getfield 18, 3) := by decide +kernel
theorem dX0_addPlanned_87 : decode cX0_addPlanned 87 = .ok (.iload_n 1, 1) := by decide +kernel
theorem dX0_addPlanned_88 : decode cX0_addPlanned 88 = .ok (.iconst 1, 1) := by decide +kernel
theorem dX0_addPlanned_89 : decode cX0_addPlanned 89 = .ok (.iadd, 1) := by decide +kernel
theorem dX0_addPlanned_90 : decode cX0_addPlanned 90 = .ok (.laload, 1) := by decide +kernel
theorem dX0_addPlanned_91 : decode cX0_addPlanned 91 = .ok (.lmul, 1) := by decide +kernel
theorem dX0_addPlanned_92 : decode cX0_addPlanned 92 = .ok (.lstore 9, 2) := by decide +kernel
theorem dX0_addPlanned_94 : decode cX0_addPlanned 94 = .ok (.iload 7, 2) := by decide +kernel
theorem dX0_addPlanned_96 : decode cX0_addPlanned 96 = .ok (.ifCond .eq 29, 3) := by decide +kernel
theorem dX0_addPlanned_99 : decode cX0_addPlanned 99 = .ok (.lload 9, 2) := by decide +kernel
theorem dX0_addPlanned_101 : decode cX0_addPlanned 101 = .ok (.aload_n 0, 1) := by decide +kernel
theorem dX0_addPlanned_102 : decode cX0_addPlanned 102 = .ok (.iload_n 1, 1) := by decide +kernel
theorem dX0_addPlanned_103 : decode cX0_addPlanned 103 = .ok (.iconst 1, 1) := by decide +kernel
theorem dX0_addPlanned_104 : decode cX0_addPlanned 104 = .ok (.iadd, 1) := by decide +kernel
theorem dX0_addPlanned_105 : decode cX0_addPlanned 105 = .ok (.aload_n 0, 1) := by decide +kernel
theorem dX0_addPlanned_106 : decode cX0_addPlanned 106 = .ok (.getfield 51, 3) := by decide +kernel
theorem dX0_addPlanned_109 : decode cX0_addPlanned 109 = .ok (.iload 4, 2) := by decide +kernel
theorem dX0_addPlanned_111 : decode cX0_addPlanned 111 = .ok (.iload 5, 2) := by decide +kernel
theorem dX0_addPlanned_113 : decode cX0_addPlanned 113 = .ok (.iload 8, 2) := by decide +kernel
theorem dX0_addPlanned_115 : decode cX0_addPlanned 115 = .ok (.iload_n 3, 1) := by decide +kernel
theorem dX0_addPlanned_116 : decode cX0_addPlanned 116 = .ok (.invokevirtual 114, 3) := by decide +kernel
theorem dX0_addPlanned_119 : decode cX0_addPlanned 119 = .ok (.invokevirtual 78, 3) := by decide +kernel
theorem dX0_addPlanned_122 : decode cX0_addPlanned 122 = .ok (.ladd, 1) := by decide +kernel
theorem dX0_addPlanned_123 : decode cX0_addPlanned 123 = .ok (.lstore 9, 2) := by decide +kernel
theorem dX0_addPlanned_125 : decode cX0_addPlanned 125 = .ok (.aload_n 0, 1) := by decide +kernel
theorem dX0_addPlanned_126 : decode cX0_addPlanned 126 = .ok (.iload_n 1, 1) := by decide +kernel
theorem dX0_addPlanned_127 : decode cX0_addPlanned 127 = .ok (.bipush 61, 2) := by decide +kernel
theorem dX0_addPlanned_129 : decode cX0_addPlanned 129 = .ok (.imul, 1) := by decide +kernel
theorem dX0_addPlanned_130 : decode cX0_addPlanned 130 = .ok (.iload 8, 2) := by decide +kernel
theorem dX0_addPlanned_132 : decode cX0_addPlanned 132 = .ok (.iload 8, 2) := by decide +kernel
theorem dX0_addPlanned_134 : decode cX0_addPlanned 134 = .ok (.iload 5, 2) := by decide +kernel
theorem dX0_addPlanned_136 : decode cX0_addPlanned 136 = .ok (.if_icmp .ne 7, 3) := by decide +kernel
theorem dX0_addPlanned_139 : decode cX0_addPlanned 139 = .ok (.iload_n 3, 1) := by decide +kernel
theorem dX0_addPlanned_140 : decode cX0_addPlanned 140 = .ok (.goto 5, 3) := by decide +kernel
theorem dX0_addPlanned_143 : decode cX0_addPlanned 143 = .ok (.iload 8, 2) := by decide +kernel
theorem dX0_addPlanned_145 : decode cX0_addPlanned 145 = .ok (.iload 6, 2) := by decide +kernel
theorem dX0_addPlanned_147 : decode cX0_addPlanned 147 = .ok (.i2l, 1) := by decide +kernel
theorem dX0_addPlanned_148 : decode cX0_addPlanned 148 = .ok (.lload 9, 2) := by decide +kernel
theorem dX0_addPlanned_150 : decode cX0_addPlanned 150 = .ok (.lmul, 1) := by decide +kernel
theorem dX0_addPlanned_151 : decode cX0_addPlanned 151 = .ok (.invokevirtual 117, 3) := by decide +kernel
theorem dX0_addPlanned_154 : decode cX0_addPlanned 154 = .ok (.iinc 8 1, 3) := by decide +kernel
theorem dX0_addPlanned_157 : decode cX0_addPlanned 157 = .ok (.goto (-100), 3) := by decide +kernel
theorem dX0_addPlanned_160 : decode cX0_addPlanned 160 = .ok (.return_, 1) := by decide +kernel
def fX0_addPlanned'_145 (g : TGX0_addPlanned) (r57 : Int32 → Int32 → Int32 → Int32 → Int32 → Int32 → Int32 → zS → Option zS) (x1 : Int32) (x3 : Int32) (x4 : Int32) (x5 : Int32) (x6 : Int32) (x7 : Int32) (x8 : Int32) (x9 : Int64) (s0 : Int32) (s1 : Int32) (s2 : Int32) (σ : zS) : Option zS := bnr (fX0_addToSeconds s2 s1 s0 (x6.toInt64 * x9) σ) fun σ11 => r57 x1 x3 x4 x5 x6 x7 (x8 + 1) σ11
theorem kX0_addPlanned_145 {sc : Nat × (Nat → Int32)} (g : TGX0_addPlanned) {n : Nat} (hg : okGX0_addPlanned sc n g) (r57 : Int32 → Int32 → Int32 → Int32 → Int32 → Int32 → Int32 → zS → Option zS) (hr57 : ∀ (x1 : Int32) (x3 : Int32) (x4 : Int32) (x5 : Int32) (x6 : Int32) (x7 : Int32) (x8 : Int32) (σ : zS) (w : zS), r57 x1 x3 x4 x5 x6 x7 x8 σ = some w → zR (zY0 sc) (DDGX0_addPlanned + n + 1) 0 0 mX0_addPlanned 57 [(0, .ref 27), (1, .int x1), (3, .int x3), (4, .int x4), (5, .int x5), (6, .int x6), (7, .int x7), (8, .int x8)] [] (zE σ) (none, zE w)) (x1 : Int32) (x3 : Int32) (x4 : Int32) (x5 : Int32) (x6 : Int32) (x7 : Int32) (x8 : Int32) (x9 : Int64) (s0 : Int32) (s1 : Int32) (s2 : Int32) (σ : zS) (w : zS) (h : fX0_addPlanned'_145 g r57 x1 x3 x4 x5 x6 x7 x8 x9 s0 s1 s2 σ = some w) : zR (zY0 sc) (DDGX0_addPlanned + n + 1) 0 0 mX0_addPlanned 145 [(0, .ref 27), (1, .int x1), (3, .int x3), (4, .int x4), (5, .int x5), (6, .int x6), (7, .int x7), (8, .int x8), (9, .long x9)] [.int s0, .int s1, .int s2, .ref 27] (zE σ) (none, zE w) := by
  unfold fX0_addPlanned'_145 at h
  refine kR.iload dX0_addPlanned_145 5 rfl ?_
  refine zR.i2l dX0_addPlanned_147 ?_
  refine kR.lload dX0_addPlanned_148 8 rfl ?_
  refine zR.lmul dX0_addPlanned_150 ?_
  obtain ⟨σ11, e12, h⟩ := bnr_some h
  refine kR.cVv [.int s2, .int s1, .int s0, .long (x6.toInt64 * x9)] dX0_addPlanned_151 rfl (by unfold DDGX0_addPlanned; omega) mwX0_117 zp27 (by decide) rfl rfl (Nat.le_of_ble_eq_true rfl) (lX0_addToSeconds s2 s1 s0 (x6.toInt64 * x9) σ _ e12) ?_
  refine zR.iinc 7 (v := x8 + 1) (ls' := [(8, .int (x8 + 1)), (0, .ref 27), (1, .int x1), (3, .int x3), (4, .int x4), (5, .int x5), (6, .int x6), (7, .int x7), (9, .long x9)]) dX0_addPlanned_154 rfl rfl (by decide) rfl ?_
  refine zR.goto (tgt := 57) dX0_addPlanned_157 (by decide) ?_
  refine zR.sub [1, 2, 3, 4, 5, 6, 7, 0] rfl ?_
  exact hr57 _ _ _ _ _ _ _ _ _ h
def fX0_addPlanned'_125 (g : TGX0_addPlanned) (r57 : Int32 → Int32 → Int32 → Int32 → Int32 → Int32 → Int32 → zS → Option zS) (x1 : Int32) (x3 : Int32) (x4 : Int32) (x5 : Int32) (x6 : Int32) (x7 : Int32) (x8 : Int32) (x9 : Int64) (σ : zS) : Option zS := if x8 = x5 then fX0_addPlanned'_145 g r57 x1 x3 x4 x5 x6 x7 x8 x9 x3 x8 (x1 * 61) σ else fX0_addPlanned'_145 g r57 x1 x3 x4 x5 x6 x7 x8 x9 x8 x8 (x1 * 61) σ
theorem kX0_addPlanned_125 {sc : Nat × (Nat → Int32)} (g : TGX0_addPlanned) {n : Nat} (hg : okGX0_addPlanned sc n g) (r57 : Int32 → Int32 → Int32 → Int32 → Int32 → Int32 → Int32 → zS → Option zS) (hr57 : ∀ (x1 : Int32) (x3 : Int32) (x4 : Int32) (x5 : Int32) (x6 : Int32) (x7 : Int32) (x8 : Int32) (σ : zS) (w : zS), r57 x1 x3 x4 x5 x6 x7 x8 σ = some w → zR (zY0 sc) (DDGX0_addPlanned + n + 1) 0 0 mX0_addPlanned 57 [(0, .ref 27), (1, .int x1), (3, .int x3), (4, .int x4), (5, .int x5), (6, .int x6), (7, .int x7), (8, .int x8)] [] (zE σ) (none, zE w)) (x1 : Int32) (x3 : Int32) (x4 : Int32) (x5 : Int32) (x6 : Int32) (x7 : Int32) (x8 : Int32) (x9 : Int64) (σ : zS) (w : zS) (h : fX0_addPlanned'_125 g r57 x1 x3 x4 x5 x6 x7 x8 x9 σ = some w) : zR (zY0 sc) (DDGX0_addPlanned + n + 1) 0 0 mX0_addPlanned 125 [(0, .ref 27), (1, .int x1), (3, .int x3), (4, .int x4), (5, .int x5), (6, .int x6), (7, .int x7), (8, .int x8), (9, .long x9)] [] (zE σ) (none, zE w) := by
  unfold fX0_addPlanned'_125 at h
  refine kR.aload_n dX0_addPlanned_125 0 rfl ?_
  refine kR.iload_n dX0_addPlanned_126 1 rfl ?_
  refine zR.bipush (v := 61) dX0_addPlanned_127 (by decide) ?_
  refine zR.imul dX0_addPlanned_129 ?_
  refine kR.iload dX0_addPlanned_130 7 rfl ?_
  refine kR.iload dX0_addPlanned_132 7 rfl ?_
  refine kR.iload dX0_addPlanned_134 4 rfl ?_
  refine kR.icmp_ne (tgt := 143) dX0_addPlanned_136 (by decide) h (fun h => ?_) (fun h => ?_)
  · refine kR.iload dX0_addPlanned_143 7 rfl ?_
    exact kX0_addPlanned_145 g hg r57 hr57 _ _ _ _ _ _ _ _ _ _ _ _ _ h
  · refine kR.iload_n dX0_addPlanned_139 2 rfl ?_
    refine zR.goto (tgt := 145) dX0_addPlanned_140 (by decide) ?_
    exact kX0_addPlanned_145 g hg r57 hr57 _ _ _ _ _ _ _ _ _ _ _ _ _ h
def fX0_addPlanned'_57 (g : TGX0_addPlanned) : Nat → Int32 → Int32 → Int32 → Int32 → Int32 → Int32 → Int32 → zS → Option zS
  | 0, _, _, _, _, _, _, _, _ => none
  | f + 1, x1, x3, x4, x5, x6, x7, x8, σ => if (fJ9_min_7cf53 x5 x3) < x8 then some σ else bnc (fX4_worthAlone x4 x5 x8 x3 σ) fun v9 σ7 => aL σ7 30 5 (x1 + 1) fun v10 => if x7 = 0 then fX0_addPlanned'_125 g (fX0_addPlanned'_57 g f) x1 x3 x4 x5 x6 x7 x8 (v9.toInt64 * v10) σ7 else bnc (fX4_tiredAlone x4 x5 x8 x3 σ7) fun v15 σ13 => bnc (g.2 (x1 + 1) v15 σ13) fun v18 σ16 => fX0_addPlanned'_125 g (fX0_addPlanned'_57 g f) x1 x3 x4 x5 x6 x7 x8 ((v9.toInt64 * v10) + v18) σ16
theorem kX0_addPlanned_57 {sc : Nat × (Nat → Int32)} (g : TGX0_addPlanned) {n : Nat} (hg : okGX0_addPlanned sc n g) : ∀ (fuel : Nat) (x1 : Int32) (x3 : Int32) (x4 : Int32) (x5 : Int32) (x6 : Int32) (x7 : Int32) (x8 : Int32) (σ : zS) (w : zS) (h : fX0_addPlanned'_57 g fuel x1 x3 x4 x5 x6 x7 x8 σ = some w), zR (zY0 sc) (DDGX0_addPlanned + n + 1) 0 0 mX0_addPlanned 57 [(0, .ref 27), (1, .int x1), (3, .int x3), (4, .int x4), (5, .int x5), (6, .int x6), (7, .int x7), (8, .int x8)] [] (zE σ) (none, zE w) := by
  intro fuel
  induction fuel with
  | zero => intro x1 x3 x4 x5 x6 x7 x8 σ w h; exact nomatch h
  | succ f ih =>
    intro x1 x3 x4 x5 x6 x7 x8 σ w h
    rw [fX0_addPlanned'_57] at h
    refine kR.iload dX0_addPlanned_57 7 rfl ?_
    refine kR.iload dX0_addPlanned_59 4 rfl ?_
    refine kR.iload_n dX0_addPlanned_61 2 rfl ?_
    refine kR.cSi [.int x5, .int x3] dX0_addPlanned_62 rfl (by unfold DDGX0_addPlanned; omega) (Or.inl mwX0_105) rfl (Nat.le_of_ble_eq_true rfl) (lJ9_min_7cf53 x5 x3) ?_
    refine kR.icmp_gt (tgt := 160) dX0_addPlanned_65 (by decide) h (fun h => ?_) (fun h => ?_)
    · exact kR.vret dX0_addPlanned_160 h
    · refine kR.aload_n dX0_addPlanned_68 0 rfl ?_
      refine kR.getR (v := 8) dX0_addPlanned_69 flX0_51 zcf0 zp27 (Or.inl ⟨_, rfl⟩) rfl ?_
      refine kR.iload dX0_addPlanned_72 3 rfl ?_
      refine kR.iload dX0_addPlanned_74 4 rfl ?_
      refine kR.iload dX0_addPlanned_76 7 rfl ?_
      refine kR.iload_n dX0_addPlanned_78 2 rfl ?_
      obtain ⟨v9, σ7, e8, h⟩ := bnc_some h
      refine kR.cVi [.int x4, .int x5, .int x8, .int x3] dX0_addPlanned_79 rfl (by unfold DDGX0_addPlanned; omega) mwX0_110 zp8 (by decide) rfl rfl (Nat.le_of_ble_eq_true rfl) (lX4_worthAlone x4 x5 x8 x3 σ _ e8) ?_
      refine zR.i2l dX0_addPlanned_82 ?_
      refine kR.aload_n dX0_addPlanned_83 0 rfl ?_
      refine kR.getR (v := 30) dX0_addPlanned_84 flX0_18 zcf0 zp27 (Or.inr ⟨_, rfl⟩) rfl ?_
      refine kR.iload_n dX0_addPlanned_87 1 rfl ?_
      refine zR.iconst (v := 1) dX0_addPlanned_88 (by decide) ?_
      refine zR.iadd dX0_addPlanned_89 ?_
      refine kR.lald dX0_addPlanned_90 zp30 rfl h (fun v10 h => ?_)
      refine zR.lmul dX0_addPlanned_91 ?_
      refine zR.lstore (i := 9) (ls' := [(9, .long (v9.toInt64 * v10)), (0, .ref 27), (1, .int x1), (3, .int x3), (4, .int x4), (5, .int x5), (6, .int x6), (7, .int x7), (8, .int x8)]) dX0_addPlanned_92 (by decide) rfl ?_
      refine kR.iload dX0_addPlanned_94 7 rfl ?_
      refine kR.if_eq (tgt := 125) dX0_addPlanned_96 (by decide) h (fun h => ?_) (fun h => ?_)
      · refine zR.sub [1, 2, 3, 4, 5, 6, 7, 8, 0] rfl ?_
        exact kX0_addPlanned_125 g hg (fX0_addPlanned'_57 g f) ih _ _ _ _ _ _ _ _ _ _ h
      · refine kR.lload dX0_addPlanned_99 0 rfl ?_
        refine kR.aload_n dX0_addPlanned_101 1 rfl ?_
        refine kR.iload_n dX0_addPlanned_102 2 rfl ?_
        refine zR.iconst (v := 1) dX0_addPlanned_103 (by decide) ?_
        refine zR.iadd dX0_addPlanned_104 ?_
        refine kR.aload_n dX0_addPlanned_105 1 rfl ?_
        refine kR.getR (v := 8) dX0_addPlanned_106 flX0_51 zcf0 zp27 (Or.inl ⟨_, rfl⟩) rfl ?_
        refine kR.iload dX0_addPlanned_109 4 rfl ?_
        refine kR.iload dX0_addPlanned_111 5 rfl ?_
        refine kR.iload dX0_addPlanned_113 8 rfl ?_
        refine kR.iload_n dX0_addPlanned_115 3 rfl ?_
        obtain ⟨v15, σ13, e14, h⟩ := bnc_some h
        refine kR.cVi [.int x4, .int x5, .int x8, .int x3] dX0_addPlanned_116 rfl (by unfold DDGX0_addPlanned; omega) mwX0_114 zp8 (by decide) rfl rfl (Nat.le_of_ble_eq_true rfl) (lX4_tiredAlone x4 x5 x8 x3 σ7 _ e14) ?_
        obtain ⟨v18, σ16, e17, h⟩ := bnc_some h
        refine kR.cVl [.int (x1 + 1), .int v15] dX0_addPlanned_119 rfl (Nat.le_refl _) mwX0_78 zp27 (by decide) rfl rfl (Nat.le_of_ble_eq_true rfl) (hg.2 (x1 + 1) v15 σ13 _ e17) ?_
        refine zR.ladd dX0_addPlanned_122 ?_
        refine zR.lstore (i := 9) (ls' := [(9, .long ((v9.toInt64 * v10) + v18)), (0, .ref 27), (1, .int x1), (3, .int x3), (4, .int x4), (5, .int x5), (6, .int x6), (7, .int x7), (8, .int x8)]) dX0_addPlanned_123 (by decide) rfl ?_
        refine zR.sub [1, 2, 3, 4, 5, 6, 7, 8, 0] rfl ?_
        exact kX0_addPlanned_125 g hg (fX0_addPlanned'_57 g f) ih _ _ _ _ _ _ _ _ _ _ h
def fX0_addPlanned'_52 (g : TGX0_addPlanned) (x1 : Int32) (x3 : Int32) (x4 : Int32) (x5 : Int32) (x6 : Int32) (s0 : Int32) (σ : zS) : Option zS := fX0_addPlanned'_57 g zF x1 x3 x4 x5 x6 s0 0 σ
theorem kX0_addPlanned_52 {sc : Nat × (Nat → Int32)} (g : TGX0_addPlanned) {n : Nat} (hg : okGX0_addPlanned sc n g) (x1 : Int32) (x3 : Int32) (x4 : Int32) (x5 : Int32) (x6 : Int32) (s0 : Int32) (σ : zS) (w : zS) (h : fX0_addPlanned'_52 g x1 x3 x4 x5 x6 s0 σ = some w) : zR (zY0 sc) (DDGX0_addPlanned + n + 1) 0 0 mX0_addPlanned 52 [(0, .ref 27), (1, .int x1), (3, .int x3), (4, .int x4), (5, .int x5), (6, .int x6)] [.int s0] (zE σ) (none, zE w) := by
  unfold fX0_addPlanned'_52 at h
  refine zR.istore (i := 7) (ls' := [(7, .int s0), (0, .ref 27), (1, .int x1), (3, .int x3), (4, .int x4), (5, .int x5), (6, .int x6)]) dX0_addPlanned_52 (by decide) rfl ?_
  refine zR.iconst (v := 0) dX0_addPlanned_54 (by decide) ?_
  refine zR.istore (i := 8) (ls' := [(8, .int 0), (7, .int s0), (0, .ref 27), (1, .int x1), (3, .int x3), (4, .int x4), (5, .int x5), (6, .int x6)]) dX0_addPlanned_55 (by decide) rfl ?_
  refine zR.sub [2, 3, 4, 5, 6, 7, 1, 0] rfl ?_
  exact kX0_addPlanned_57 g hg zF _ _ _ _ _ _ _ _ _ h
def fX0_addPlanned' (g : TGX0_addPlanned) (p1 : Int32) (p2 : Int32) (p3 : Int32) (σ : zS) : Option zS := bnr (fX0_tunnelAt σ p1) fun v1 => bnr (fX6_lengthAt σ.2.2.2.1 σ v1 p2) fun v3 => bnr (fX6_weightAt σ.2.2.2.1 σ v1 p2) fun v5 => if (iG σ 27 5) ≤ (p1 + 1) then fX0_addPlanned'_52 g p1 p3 v1 v3 v5 0 σ else fX0_addPlanned'_52 g p1 p3 v1 v3 v5 1 σ
theorem eX0_addPlanned {sc : Nat × (Nat → Int32)} (g : TGX0_addPlanned) {n : Nat} (hg : okGX0_addPlanned sc n g) (p1 : Int32) (p2 : Int32) (p3 : Int32) (σ : zS) (w : zS) (h : fX0_addPlanned' g p1 p2 p3 σ = some w) : zR (zY0 sc) (DDGX0_addPlanned + n + 1) 0 0 mX0_addPlanned 0 [(0, .ref 27), (1, .int p1), (2, .int p2), (3, .int p3)] [] (zE σ) (none, zE w) := by
  unfold fX0_addPlanned' at h
  refine kR.aload_n dX0_addPlanned_0 0 rfl ?_
  refine kR.iload_n dX0_addPlanned_1 1 rfl ?_
  obtain ⟨v1, e2, h⟩ := bnr_some h
  refine kR.cVi [.int p1] dX0_addPlanned_2 rfl (by unfold DDGX0_addPlanned; omega) mwX0_61 zp27 (by decide) rfl rfl (Nat.le_of_ble_eq_true rfl) (lX0_tunnelAt σ p1 _ e2) ?_
  refine zR.istore (i := 4) (ls' := [(4, .int v1), (0, .ref 27), (1, .int p1), (2, .int p2), (3, .int p3)]) dX0_addPlanned_5 (by decide) rfl ?_
  refine kR.aload_n dX0_addPlanned_7 1 rfl ?_
  refine kR.getR (v := 8) dX0_addPlanned_8 flX0_51 zcf0 zp27 (Or.inl ⟨_, rfl⟩) rfl ?_
  refine kR.getR (v := (rp σ.2.2.2.1 + 0)) dX0_addPlanned_11 flX0_55 zcf4 zp8 (Or.inl ⟨_, rfl⟩) rfl ?_
  refine kR.iload dX0_addPlanned_14 0 rfl ?_
  refine kR.iload_n dX0_addPlanned_16 3 rfl ?_
  obtain ⟨v3, e4, h⟩ := bnr_some h
  refine kR.cVi [.int v1, .int p2] dX0_addPlanned_17 rfl (by unfold DDGX0_addPlanned; omega) mwX0_99 (zq0 σ.2.2.2.1) (by decide) rfl rfl (Nat.le_of_ble_eq_true rfl) (lX6_lengthAt σ.2.2.2.1 σ v1 p2 _ e4) ?_
  refine zR.istore (i := 5) (ls' := [(5, .int v3), (4, .int v1), (0, .ref 27), (1, .int p1), (2, .int p2), (3, .int p3)]) dX0_addPlanned_20 (by decide) rfl ?_
  refine kR.aload_n dX0_addPlanned_22 2 rfl ?_
  refine kR.getR (v := 8) dX0_addPlanned_23 flX0_51 zcf0 zp27 (Or.inl ⟨_, rfl⟩) rfl ?_
  refine kR.getR (v := (rp σ.2.2.2.1 + 0)) dX0_addPlanned_26 flX0_55 zcf4 zp8 (Or.inl ⟨_, rfl⟩) rfl ?_
  refine kR.iload dX0_addPlanned_29 1 rfl ?_
  refine kR.iload_n dX0_addPlanned_31 4 rfl ?_
  obtain ⟨v5, e6, h⟩ := bnr_some h
  refine kR.cVi [.int v1, .int p2] dX0_addPlanned_32 rfl (by unfold DDGX0_addPlanned; omega) mwX0_102 (zq0 σ.2.2.2.1) (by decide) rfl rfl (Nat.le_of_ble_eq_true rfl) (lX6_weightAt σ.2.2.2.1 σ v1 p2 _ e6) ?_
  refine zR.istore (i := 6) (ls' := [(6, .int v5), (5, .int v3), (4, .int v1), (0, .ref 27), (1, .int p1), (2, .int p2), (3, .int p3)]) dX0_addPlanned_35 (by decide) rfl ?_
  refine kR.iload_n dX0_addPlanned_37 4 rfl ?_
  refine zR.iconst (v := 1) dX0_addPlanned_38 (by decide) ?_
  refine zR.iadd dX0_addPlanned_39 ?_
  refine kR.aload_n dX0_addPlanned_40 3 rfl ?_
  refine kR.getI dX0_addPlanned_41 flX0_25 zcf0 zp27 (Or.inl rfl) ?_
  refine kR.icmp_ge (tgt := 51) dX0_addPlanned_44 (by decide) h (fun h => ?_) (fun h => ?_)
  · refine zR.iconst (v := 0) dX0_addPlanned_51 (by decide) ?_
    refine zR.sub [3, 4, 6, 2, 1, 0] rfl ?_
    exact kX0_addPlanned_52 g hg _ _ _ _ _ _ _ _ h
  · refine zR.iconst (v := 1) dX0_addPlanned_47 (by decide) ?_
    refine zR.goto (tgt := 52) dX0_addPlanned_48 (by decide) ?_
    refine zR.sub [3, 4, 6, 2, 1, 0] rfl ?_
    exact kX0_addPlanned_52 g hg _ _ _ _ _ _ _ _ h
theorem lX0_addPlanned' {sc : Nat × (Nat → Int32)} (g : TGX0_addPlanned) {n : Nat} (hg : okGX0_addPlanned sc n g) (p1 : Int32) (p2 : Int32) (p3 : Int32) (σ : zS) (w : zS) (h : fX0_addPlanned' g p1 p2 p3 σ = some w) : zC (zY0 sc) (DDGX0_addPlanned + n + 1) 0 0 mX0_addPlanned [.ref 27, .int p1, .int p2, .int p3] (zE σ) (none, zE w) := zC.of (by decide +kernel) (Nat.le_of_ble_eq_true rfl) rfl (eX0_addPlanned g hg p1 p2 p3 σ w h)
theorem dX0_bestFrom_0 : decode cX0_bestFrom 0 = .ok (.iload_n 1, 1) := by decide +kernel
theorem dX0_bestFrom_1 : decode cX0_bestFrom 1 = .ok (.aload_n 0, 1) := by decide +kernel
theorem dX0_bestFrom_2 : decode cX0_bestFrom 2 = .ok (.getfield 25, 3) := by decide +kernel
theorem dX0_bestFrom_5 : decode cX0_bestFrom 5 = .ok (.if_icmp .lt 5, 3) := by decide +kernel
theorem dX0_bestFrom_8 : decode cX0_bestFrom 8 = .ok (.lconst 0, 1) := by decide +kernel
theorem dX0_bestFrom_9 : decode cX0_bestFrom 9 = .ok (.lreturn, 1) := by decide +kernel
theorem dX0_bestFrom_10 : decode cX0_bestFrom 10 = .ok (.iload_n 1, 1) := by decide +kernel
theorem dX0_bestFrom_11 : decode cX0_bestFrom 11 = .ok (.bipush 61, 2) := by decide +kernel
theorem dX0_bestFrom_13 : decode cX0_bestFrom 13 = .ok (.imul, 1) := by decide +kernel
theorem dX0_bestFrom_14 : decode cX0_bestFrom 14 = .ok (.istore_n 3, 1) := by decide +kernel
theorem dX0_bestFrom_15 : decode cX0_bestFrom 15 = .ok (.aload_n 0, 1) := by decide +kernel
theorem dX0_bestFrom_16 : decode cX0_bestFrom 16 = .ok (.getfield 15, 3) := by decide +kernel
theorem dX0_bestFrom_19 : decode cX0_bestFrom 19 = .ok (.iload_n 3, 1) := by decide +kernel
theorem dX0_bestFrom_20 : decode cX0_bestFrom 20 = .ok (.iload_n 2, 1) := by decide +kernel
theorem dX0_bestFrom_21 : decode cX0_bestFrom 21 = .ok (.iadd, 1) := by decide +kernel
theorem dX0_bestFrom_22 : decode cX0_bestFrom 22 = .ok (.laload, 1) := by decide +kernel
theorem dX0_bestFrom_23 : decode cX0_bestFrom 23 = .ok (.ldc2_w 70, 3) := by decide +kernel
theorem dX0_bestFrom_26 : decode cX0_bestFrom 26 = .ok (.lcmp, 1) := by decide +kernel
theorem dX0_bestFrom_27 : decode cX0_bestFrom 27 = .ok (.ifCond .ne 79, 3) := by decide +kernel
theorem dX0_bestFrom_30 : decode cX0_bestFrom 30 = .ok (.aload_n 0, 1) := by decide +kernel
theorem dX0_bestFrom_31 : decode cX0_bestFrom 31 = .ok (.getfield 9, 3) := by decide +kernel
theorem dX0_bestFrom_34 : decode cX0_bestFrom 34 = .ok (.iload_n 3, 1) := by decide +kernel
theorem dX0_bestFrom_35 : decode cX0_bestFrom 35 = .ok (.iload_n 3, 1) := by decide +kernel
theorem dX0_bestFrom_36 : decode cX0_bestFrom 36 = .ok (.bipush 61, 2) := by decide +kernel
theorem dX0_bestFrom_38 : decode cX0_bestFrom 38 = .ok (.iadd, 1) := by decide +kernel
theorem dX0_bestFrom_39 : decode cX0_bestFrom 39 = .ok (.lconst 0, 1) := by decide +kernel
theorem dX0_bestFrom_40 : decode cX0_bestFrom 40 = .ok (.invokestatic 89, 3) := by decide +kernel
theorem dX0_bestFrom_43 : decode cX0_bestFrom 43 = .ok (.aload_n 0, 1) := by decide +kernel
theorem dX0_bestFrom_44 : decode cX0_bestFrom 44 = .ok (.getfield 51, 3) := by decide +kernel
theorem dX0_bestFrom_47 : decode cX0_bestFrom 47 = .ok (.getfield 55, 3) := by decide +kernel
theorem dX0_bestFrom_50 : decode cX0_bestFrom 50 = .ok (.getfield 92, 3) := by decide +kernel
theorem dX0_bestFrom_53 : decode cX0_bestFrom 53 = .ok (.aload_n 0, 1) := by decide +kernel
theorem dX0_bestFrom_54 : decode cX0_bestFrom 54 = .ok (.iload_n 1, 1) := by decide +kernel
theorem dX0_bestFrom_55 : decode cX0_bestFrom 55 = .ok (.invokevirtual 61, 3) := by decide +kernel
theorem dX0_bestFrom_58 : decode cX0_bestFrom 58 = .ok (.iaload, 1) := by decide +kernel
theorem dX0_bestFrom_59 : decode cX0_bestFrom 59 = .ok (.istore 4, 2) := by decide +kernel
theorem dX0_bestFrom_61 : decode cX0_bestFrom 61 = .ok (.iconst 0, 1) := by decide +kernel
theorem dX0_bestFrom_62 : decode cX0_bestFrom 62 = .ok (.istore 5, 2) := by decide +kernel
theorem dX0_bestFrom_64 : decode cX0_bestFrom 64 = .ok (.iload 5, 2) := by decide +kernel
theorem dX0_bestFrom_66 : decode cX0_bestFrom 66 = .ok (.iload 4, 2) := by decide +kernel
theorem dX0_bestFrom_68 : decode cX0_bestFrom 68 = .ok (.if_icmp .ge 17, 3) := by decide +kernel
theorem dX0_bestFrom_71 : decode cX0_bestFrom 71 = .ok (.aload_n 0, 1) := by decide +kernel
theorem dX0_bestFrom_72 : decode cX0_bestFrom 72 = .ok (.iload_n 1, 1) := by decide +kernel
theorem dX0_bestFrom_73 : decode cX0_bestFrom 73 = .ok (.iload 5, 2) := by decide +kernel
theorem dX0_bestFrom_75 : decode cX0_bestFrom 75 = .ok (.iload_n 2, 1) := by decide +kernel
theorem dX0_bestFrom_76 : decode cX0_bestFrom 76 = .ok (.invokevirtual 95, 3) := by decide +kernel
theorem dX0_bestFrom_79 : decode cX0_bestFrom 79 = .ok (.iinc 5 1, 3) := by decide +kernel
theorem dX0_bestFrom_82 : decode cX0_bestFrom 82 = .ok (.goto (-18), 3) := by decide +kernel
theorem dX0_bestFrom_85 : decode cX0_bestFrom 85 = .ok (.aload_n 0, 1) := by decide +kernel
theorem dX0_bestFrom_86 : decode cX0_bestFrom 86 = .ok (.getfield 15, 3) := by decide +kernel
theorem dX0_bestFrom_89 : decode cX0_bestFrom 89 = .ok (.iload_n 3, 1) := by decide +kernel
theorem dX0_bestFrom_90 : decode cX0_bestFrom 90 = .ok (.iload_n 2, 1) := by decide +kernel
theorem dX0_bestFrom_91 : decode cX0_bestFrom 91 = .ok (.iadd, 1) := by decide +kernel
theorem dX0_bestFrom_92 : decode cX0_bestFrom 92 = .ok (.aload_n 0, 1) := by decide +kernel
theorem dX0_bestFrom_93 : decode cX0_bestFrom 93 = .ok (.getfield 9, 3) := by decide +kernel
theorem dX0_bestFrom_96 : decode cX0_bestFrom 96 = .ok (.iload_n 3, 1) := by decide +kernel
theorem dX0_bestFrom_97 : decode cX0_bestFrom 97 = .ok (.aload_n 0, 1) := by decide +kernel
theorem dX0_bestFrom_98 : decode cX0_bestFrom 98 = .ok (.iload_n 3, 1) := by decide +kernel
theorem dX0_bestFrom_99 : decode cX0_bestFrom 99 = .ok (.iload_n 2, 1) := by decide +kernel
theorem dX0_bestFrom_100 : decode cX0_bestFrom 100 = .ok (.invokevirtual 82, 3) := by decide +kernel
theorem dX0_bestFrom_103 : decode cX0_bestFrom 103 = .ok (.iadd, 1) := by decide +kernel
theorem dX0_bestFrom_104 : decode cX0_bestFrom 104 = .ok (.laload, 1) := by decide +kernel
theorem dX0_bestFrom_105 : decode cX0_bestFrom 105 = .ok (.lastore, 1) := by decide +kernel
theorem dX0_bestFrom_106 : decode cX0_bestFrom 106 = .ok (.aload_n 0, 1) := by decide +kernel
theorem dX0_bestFrom_107 : decode cX0_bestFrom 107 = .ok (.getfield 15, 3) := by decide +kernel
theorem dX0_bestFrom_110 : decode cX0_bestFrom 110 = .ok (.iload_n 3, 1) := by decide +kernel
theorem dX0_bestFrom_111 : decode cX0_bestFrom 111 = .ok (.iload_n 2, 1) := by decide +kernel
theorem dX0_bestFrom_112 : decode cX0_bestFrom 112 = .ok (.iadd, 1) := by decide +kernel
theorem dX0_bestFrom_113 : decode cX0_bestFrom 113 = .ok (.laload, 1) := by decide +kernel
theorem dX0_bestFrom_114 : decode cX0_bestFrom 114 = .ok (.lreturn, 1) := by decide +kernel
def fX0_bestFrom'_106 (g : TGX0_addPlanned) (x2 : Int32) (x3 : Int32) (σ : zS) : Option (Int64 × zS) := aL σ 29 244 (x3 + x2) fun v2 => some (v2, σ)
theorem kX0_bestFrom_106 {sc : Nat × (Nat → Int32)} (g : TGX0_addPlanned) {n : Nat} (hg : okGX0_addPlanned sc n g) (x2 : Int32) (x3 : Int32) (σ : zS) (w : Int64 × zS) (h : fX0_bestFrom'_106 g x2 x3 σ = some w) : zR (zY0 sc) (DDGX0_addPlanned + n + 1) 0 0 mX0_bestFrom 106 [(0, .ref 27), (2, .int x2), (3, .int x3)] [] (zE σ) (some (.long w.1), zE w.2) := by
  unfold fX0_bestFrom'_106 at h
  refine kR.aload_n dX0_bestFrom_106 0 rfl ?_
  refine kR.getR (v := 29) dX0_bestFrom_107 flX0_15 zcf0 zp27 (Or.inr ⟨_, rfl⟩) rfl ?_
  refine kR.iload_n dX0_bestFrom_110 2 rfl ?_
  refine kR.iload_n dX0_bestFrom_111 1 rfl ?_
  refine zR.iadd dX0_bestFrom_112 ?_
  refine kR.lald dX0_bestFrom_113 zp29 rfl h (fun v2 h => ?_)
  exact kR.lretW dX0_bestFrom_114 h
def fX0_bestFrom'_64 (g : TGX0_addPlanned) : Nat → Int32 → Int32 → Int32 → Int32 → Int32 → zS → Option (Int64 × zS)
  | 0, _, _, _, _, _, _ => none
  | f + 1, x1, x2, x3, x4, x5, σ => if x4 ≤ x5 then bnr (fX0_bestSecond σ x3 x2) fun v8 => aL σ 28 244 (x3 + v8) fun v10 => wL σ 29 244 (x3 + x2) v10 fun σ11 => fX0_bestFrom'_106 g x2 x3 σ11 else bnr (g.1 x1 x5 x2 σ) fun σ12 => fX0_bestFrom'_64 g f x1 x2 x3 x4 (x5 + 1) σ12
theorem kX0_bestFrom_64 {sc : Nat × (Nat → Int32)} (g : TGX0_addPlanned) {n : Nat} (hg : okGX0_addPlanned sc n g) : ∀ (fuel : Nat) (x1 : Int32) (x2 : Int32) (x3 : Int32) (x4 : Int32) (x5 : Int32) (σ : zS) (w : Int64 × zS) (h : fX0_bestFrom'_64 g fuel x1 x2 x3 x4 x5 σ = some w), zR (zY0 sc) (DDGX0_addPlanned + n + 1) 0 0 mX0_bestFrom 64 [(0, .ref 27), (1, .int x1), (2, .int x2), (3, .int x3), (4, .int x4), (5, .int x5)] [] (zE σ) (some (.long w.1), zE w.2) := by
  intro fuel
  induction fuel with
  | zero => intro x1 x2 x3 x4 x5 σ w h; exact nomatch h
  | succ f ih =>
    intro x1 x2 x3 x4 x5 σ w h
    rw [fX0_bestFrom'_64] at h
    refine kR.iload dX0_bestFrom_64 5 rfl ?_
    refine kR.iload dX0_bestFrom_66 4 rfl ?_
    refine kR.icmp_ge (tgt := 85) dX0_bestFrom_68 (by decide) h (fun h => ?_) (fun h => ?_)
    · refine kR.aload_n dX0_bestFrom_85 0 rfl ?_
      refine kR.getR (v := 29) dX0_bestFrom_86 flX0_15 zcf0 zp27 (Or.inr ⟨_, rfl⟩) rfl ?_
      refine kR.iload_n dX0_bestFrom_89 3 rfl ?_
      refine kR.iload_n dX0_bestFrom_90 2 rfl ?_
      refine zR.iadd dX0_bestFrom_91 ?_
      refine kR.aload_n dX0_bestFrom_92 0 rfl ?_
      refine kR.getR (v := 28) dX0_bestFrom_93 flX0_9 zcf0 zp27 (Or.inr ⟨_, rfl⟩) rfl ?_
      refine kR.iload_n dX0_bestFrom_96 3 rfl ?_
      refine kR.aload_n dX0_bestFrom_97 0 rfl ?_
      refine kR.iload_n dX0_bestFrom_98 3 rfl ?_
      refine kR.iload_n dX0_bestFrom_99 2 rfl ?_
      obtain ⟨v8, e9, h⟩ := bnr_some h
      refine kR.cVi [.int x3, .int x2] dX0_bestFrom_100 rfl (by unfold DDGX0_addPlanned; omega) mwX0_82 zp27 (by decide) rfl rfl (Nat.le_of_ble_eq_true rfl) (lX0_bestSecond σ x3 x2 _ e9) ?_
      refine zR.iadd dX0_bestFrom_103 ?_
      refine kR.lald dX0_bestFrom_104 zp28 rfl h (fun v10 h => ?_)
      refine kR.last dX0_bestFrom_105 zp29 rfl h (fun σ11 h => ?_)
      refine zR.sub [0, 2, 3] rfl ?_
      exact kX0_bestFrom_106 g hg _ _ _ _ h
    · refine kR.aload_n dX0_bestFrom_71 0 rfl ?_
      refine kR.iload_n dX0_bestFrom_72 1 rfl ?_
      refine kR.iload dX0_bestFrom_73 5 rfl ?_
      refine kR.iload_n dX0_bestFrom_75 2 rfl ?_
      obtain ⟨σ12, e13, h⟩ := bnr_some h
      refine kR.cVv [.int x1, .int x5, .int x2] dX0_bestFrom_76 rfl (Nat.le_refl _) mwX0_95 zp27 (by decide) rfl rfl (Nat.le_of_ble_eq_true rfl) (hg.1 x1 x5 x2 σ _ e13) ?_
      refine zR.iinc 5 (v := x5 + 1) (ls' := [(5, .int (x5 + 1)), (0, .ref 27), (1, .int x1), (2, .int x2), (3, .int x3), (4, .int x4)]) dX0_bestFrom_79 rfl rfl (by decide) rfl ?_
      refine zR.goto (tgt := 64) dX0_bestFrom_82 (by decide) ?_
      refine zR.sub [1, 2, 3, 4, 5, 0] rfl ?_
      exact ih _ _ _ _ _ _ _ h
def fX0_bestFrom' (g : TGX0_addPlanned) (p1 : Int32) (p2 : Int32) (σ : zS) : Option (Int64 × zS) := if p1 < (iG σ 27 5) then aL σ 29 244 ((p1 * 61) + p2) fun v1 => if v1 = ((-1000000000000000)) then bnr (fJ7_fill_bad5a 28 244 (p1 * 61) ((p1 * 61) + 61) 0 σ) fun σ3 => bnr (fX0_tunnelAt σ3 p1) fun v5 => aI σ3 (rp σ3.2.2.2.1 + 3) 6 v5 fun v7 => fX0_bestFrom'_64 g zF p1 p2 (p1 * 61) v7 0 σ3 else fX0_bestFrom'_106 g p2 (p1 * 61) σ else some (0, σ)
theorem eX0_bestFrom {sc : Nat × (Nat → Int32)} (g : TGX0_addPlanned) {n : Nat} (hg : okGX0_addPlanned sc n g) (p1 : Int32) (p2 : Int32) (σ : zS) (w : Int64 × zS) (h : fX0_bestFrom' g p1 p2 σ = some w) : zR (zY0 sc) (DDGX0_addPlanned + n + 1) 0 0 mX0_bestFrom 0 [(0, .ref 27), (1, .int p1), (2, .int p2)] [] (zE σ) (some (.long w.1), zE w.2) := by
  unfold fX0_bestFrom' at h
  refine kR.iload_n dX0_bestFrom_0 1 rfl ?_
  refine kR.aload_n dX0_bestFrom_1 0 rfl ?_
  refine kR.getI dX0_bestFrom_2 flX0_25 zcf0 zp27 (Or.inl rfl) ?_
  refine kR.icmp_lt (tgt := 10) dX0_bestFrom_5 (by decide) h (fun h => ?_) (fun h => ?_)
  · refine kR.iload_n dX0_bestFrom_10 1 rfl ?_
    refine zR.bipush (v := 61) dX0_bestFrom_11 (by decide) ?_
    refine zR.imul dX0_bestFrom_13 ?_
    refine zR.istore_n (i := 3) (ls' := [(3, .int (p1 * 61)), (0, .ref 27), (1, .int p1), (2, .int p2)]) dX0_bestFrom_14 rfl (by decide) rfl ?_
    refine kR.aload_n dX0_bestFrom_15 1 rfl ?_
    refine kR.getR (v := 29) dX0_bestFrom_16 flX0_15 zcf0 zp27 (Or.inr ⟨_, rfl⟩) rfl ?_
    refine kR.iload_n dX0_bestFrom_19 0 rfl ?_
    refine kR.iload_n dX0_bestFrom_20 3 rfl ?_
    refine zR.iadd dX0_bestFrom_21 ?_
    refine kR.lald dX0_bestFrom_22 zp29 rfl h (fun v1 h => ?_)
    refine zR.ldc2 (v := (-1000000000000000)) dX0_bestFrom_23 clX0_70 ?_
    refine kR.lcmp_ne (tgt := 106) dX0_bestFrom_26 dX0_bestFrom_27 (by decide) h (fun h => ?_) (fun h => ?_)
    · refine zR.sub [1, 3, 0] rfl ?_
      exact kX0_bestFrom_106 g hg _ _ _ _ h
    · refine kR.aload_n dX0_bestFrom_30 1 rfl ?_
      refine kR.getR (v := 28) dX0_bestFrom_31 flX0_9 zcf0 zp27 (Or.inr ⟨_, rfl⟩) rfl ?_
      refine kR.iload_n dX0_bestFrom_34 0 rfl ?_
      refine kR.iload_n dX0_bestFrom_35 0 rfl ?_
      refine zR.bipush (v := 61) dX0_bestFrom_36 (by decide) ?_
      refine zR.iadd dX0_bestFrom_38 ?_
      refine zR.lconst (v := 0) dX0_bestFrom_39 (by decide) ?_
      obtain ⟨σ3, e4, h⟩ := bnr_some h
      refine kR.cSv [.ref 28, .int (p1 * 61), .int ((p1 * 61) + 61), .long 0] dX0_bestFrom_40 rfl (by unfold DDGX0_addPlanned; omega) (Or.inl mwX0_89) rfl (Nat.le_of_ble_eq_true rfl) (lJ7_fill_bad5a 28 244 (fun _ => zp28) rfl (p1 * 61) ((p1 * 61) + 61) 0 σ _ e4) ?_
      refine kR.aload_n dX0_bestFrom_43 1 rfl ?_
      refine kR.getR (v := 8) dX0_bestFrom_44 flX0_51 zcf0 zp27 (Or.inl ⟨_, rfl⟩) rfl ?_
      refine kR.getR (v := (rp σ3.2.2.2.1 + 0)) dX0_bestFrom_47 flX0_55 zcf4 zp8 (Or.inl ⟨_, rfl⟩) rfl ?_
      refine kR.getR (v := (rp σ3.2.2.2.1 + 3)) dX0_bestFrom_50 flX0_92 zcf6 (zq0 σ3.2.2.2.1) (Or.inr ⟨_, rfl⟩) (zr0_7 _ σ3.2.2.2.1) ?_
      refine kR.aload_n dX0_bestFrom_53 1 rfl ?_
      refine kR.iload_n dX0_bestFrom_54 2 rfl ?_
      obtain ⟨v5, e6, h⟩ := bnr_some h
      refine kR.cVi [.int p1] dX0_bestFrom_55 rfl (by unfold DDGX0_addPlanned; omega) mwX0_61 zp27 (by decide) rfl rfl (Nat.le_of_ble_eq_true rfl) (lX0_tunnelAt σ3 p1 _ e6) ?_
      refine kR.iald dX0_bestFrom_58 (zq3 σ3.2.2.2.1) (zl3 σ3.2.2.2.1) h (fun v7 h => ?_)
      refine zR.istore (i := 4) (ls' := [(4, .int v7), (3, .int (p1 * 61)), (0, .ref 27), (1, .int p1), (2, .int p2)]) dX0_bestFrom_59 (by decide) rfl ?_
      refine zR.iconst (v := 0) dX0_bestFrom_61 (by decide) ?_
      refine zR.istore (i := 5) (ls' := [(5, .int 0), (4, .int v7), (3, .int (p1 * 61)), (0, .ref 27), (1, .int p1), (2, .int p2)]) dX0_bestFrom_62 (by decide) rfl ?_
      refine zR.sub [3, 4, 5, 2, 1, 0] rfl ?_
      exact kX0_bestFrom_64 g hg zF _ _ _ _ _ _ _ h
  · refine zR.lconst (v := 0) dX0_bestFrom_8 (by decide) ?_
    exact kR.lretW dX0_bestFrom_9 h
theorem lX0_bestFrom' {sc : Nat × (Nat → Int32)} (g : TGX0_addPlanned) {n : Nat} (hg : okGX0_addPlanned sc n g) (p1 : Int32) (p2 : Int32) (σ : zS) (w : Int64 × zS) (h : fX0_bestFrom' g p1 p2 σ = some w) : zC (zY0 sc) (DDGX0_addPlanned + n + 1) 0 0 mX0_bestFrom [.ref 27, .int p1, .int p2] (zE σ) (some (.long w.1), zE w.2) := zC.of (by decide +kernel) (Nat.le_of_ble_eq_true rfl) rfl (eX0_bestFrom g hg p1 p2 σ w h)
def ggGX0_addPlanned : Nat → TGX0_addPlanned
  | 0 => (fun _ _ _ _ => none, fun _ _ _ => none)
  | n + 1 => (fX0_addPlanned' (ggGX0_addPlanned n), fX0_bestFrom' (ggGX0_addPlanned n))
theorem gokGX0_addPlanned (sc : Nat × (Nat → Int32)) : ∀ n, okGX0_addPlanned sc n (ggGX0_addPlanned n)
  | 0 => ⟨fun _ _ _ _ _ h => (nomatch h), fun _ _ _ _ h => (nomatch h)⟩
  | n + 1 => ⟨fun p1 p2 p3 σ w h => lX0_addPlanned' (ggGX0_addPlanned n) (gokGX0_addPlanned sc n) p1 p2 p3 σ w h, fun p1 p2 σ w h => lX0_bestFrom' (ggGX0_addPlanned n) (gokGX0_addPlanned sc n) p1 p2 σ w h⟩
def fX0_addPlanned (n : Nat) (p1 : Int32) (p2 : Int32) (p3 : Int32) (σ : zS) : Option zS := (ggGX0_addPlanned n).1 p1 p2 p3 σ
theorem lX0_addPlanned {sc : Nat × (Nat → Int32)} (n : Nat) (p1 : Int32) (p2 : Int32) (p3 : Int32) (σ : zS) (w : zS) (h : fX0_addPlanned n p1 p2 p3 σ = some w) : zC (zY0 sc) (DDGX0_addPlanned + n) 0 0 mX0_addPlanned [.ref 27, .int p1, .int p2, .int p3] (zE σ) (none, zE w) := (gokGX0_addPlanned sc n).1 p1 p2 p3 σ w h
def fX0_bestFrom (n : Nat) (p1 : Int32) (p2 : Int32) (σ : zS) : Option (Int64 × zS) := (ggGX0_addPlanned n).2 p1 p2 σ
theorem lX0_bestFrom {sc : Nat × (Nat → Int32)} (n : Nat) (p1 : Int32) (p2 : Int32) (σ : zS) (w : Int64 × zS) (h : fX0_bestFrom n p1 p2 σ = some w) : zC (zY0 sc) (DDGX0_addPlanned + n) 0 0 mX0_bestFrom [.ref 27, .int p1, .int p2] (zE σ) (some (.long w.1), zE w.2) := (gokGX0_addPlanned sc n).2 p1 p2 σ w h
